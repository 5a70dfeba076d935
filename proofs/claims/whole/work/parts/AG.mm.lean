/-! the class: method -/
noncomputable def lx_nmh (h : mm_H) (q : Nat) (c n b : Int32) : mm_H := mm_si (mm_si (mm_si (mm_sr (mm_new (mm_sr (mm_new (mm_sr (mm_new (mm_sr (mm_new (mm_sr (mm_new (mm_si (mm_sr (lx_np (mm_sr (mm_new h 22 3) 515 q (q + 1)) (-2) 0 0) 517 q (q + 2)) 518 q (-1)) 20 20) 519 q (q + 3)) 20 20) 520 q (q + 4)) 20 2) 522 q (q + 5)) 20 2) 523 q (q + 6)) 20 2) 524 q (q + 7)) 512 q c) 513 q n) 514 q b
theorem mm_my0 : mm_my (-2) 0 = 0 := mm_b_f (fun z => z.1 rfl)
theorem lx_nmh_t {h : mm_H} {q : Nat} {c n b : Int32} (e : mm_t h = q) : mm_t (lx_nmh h q c n b) = q + 7 ∧ mm_s (lx_nmh h q c n b) = mm_s h + 52 := by
  constructor
  · show mm_t h + 1 + 1 + 1 + 1 + 1 + 1 + 1 = q + 7
    omega
  · show mm_s h + 3 + 3 + 20 + 20 + 2 + 2 + 2 = mm_s h + 52
    omega
theorem lx_nmh_k {h : mm_H} {q : Nat} {c n b : Int32} (e : mm_t h = q) (x : Nat) : mm_k (lx_nmh h q c n b) x = (if x = q + 1 then 22 else if x = q + 2 then 8 else if x = q + 3 then 20 else if x = q + 4 then 20 else if x = q + 5 then 20 else if x = q + 6 then 20 else if x = q + 7 then 20 else mm_k h x) := by
  subst e
  show (if x = mm_t h + 1 + 1 + 1 + 1 + 1 + 1 + 1 then 20 else if x = mm_t h + 1 + 1 + 1 + 1 + 1 + 1 then 20 else if x = mm_t h + 1 + 1 + 1 + 1 + 1 then 20 else if x = mm_t h + 1 + 1 + 1 + 1 then 20 else if x = mm_t h + 1 + 1 + 1 then 20 else if x = mm_t h + 1 + 1 then 8 else if x = mm_t h + 1 then 22 else mm_k h x) = _
  by_cases h1 : x = mm_t h + 1
  · rw [if_neg (by omega), if_neg (by omega), if_neg (by omega), if_neg (by omega), if_neg (by omega), if_neg (by omega), if_pos (show x = mm_t h + 1 by omega), if_pos h1]
  by_cases h2 : x = mm_t h + 2
  · rw [if_neg (by omega), if_neg (by omega), if_neg (by omega), if_neg (by omega), if_neg (by omega), if_pos (show x = mm_t h + 1 + 1 by omega), if_neg (by omega), if_pos h2]
  by_cases h3 : x = mm_t h + 3
  · rw [if_neg (by omega), if_neg (by omega), if_neg (by omega), if_neg (by omega), if_pos (show x = mm_t h + 1 + 1 + 1 by omega), if_neg (by omega), if_neg (by omega), if_pos h3]
  by_cases h4 : x = mm_t h + 4
  · rw [if_neg (by omega), if_neg (by omega), if_neg (by omega), if_pos (show x = mm_t h + 1 + 1 + 1 + 1 by omega), if_neg (by omega), if_neg (by omega), if_neg (by omega), if_pos h4]
  by_cases h5 : x = mm_t h + 5
  · rw [if_neg (by omega), if_neg (by omega), if_pos (show x = mm_t h + 1 + 1 + 1 + 1 + 1 by omega), if_neg (by omega), if_neg (by omega), if_neg (by omega), if_neg (by omega), if_pos h5]
  by_cases h6 : x = mm_t h + 6
  · rw [if_neg (by omega), if_pos (show x = mm_t h + 1 + 1 + 1 + 1 + 1 + 1 by omega), if_neg (by omega), if_neg (by omega), if_neg (by omega), if_neg (by omega), if_neg (by omega), if_pos h6]
  by_cases h7 : x = mm_t h + 7
  · rw [if_pos (show x = mm_t h + 1 + 1 + 1 + 1 + 1 + 1 + 1 by omega), if_neg (by omega), if_neg (by omega), if_neg (by omega), if_neg (by omega), if_neg (by omega), if_neg (by omega), if_pos h7]
  rw [if_neg (by omega), if_neg (by omega), if_neg (by omega), if_neg (by omega), if_neg (by omega), if_neg (by omega), if_neg (by omega), if_neg (by omega), if_neg (by omega), if_neg (by omega), if_neg (by omega), if_neg (by omega), if_neg (by omega), if_neg (by omega)]
theorem lx_nmh_n {h : mm_H} {q : Nat} {c n b : Int32} (e : mm_t h = q) (x : Nat) : mm_n (lx_nmh h q c n b) x = (if x = q + 1 then 3 else if x = q + 2 then 3 else if x = q + 3 then 20 else if x = q + 4 then 20 else if x = q + 5 then 2 else if x = q + 6 then 2 else if x = q + 7 then 2 else mm_n h x) := by
  subst e
  show (if x = mm_t h + 1 + 1 + 1 + 1 + 1 + 1 + 1 then 2 else if x = mm_t h + 1 + 1 + 1 + 1 + 1 + 1 then 2 else if x = mm_t h + 1 + 1 + 1 + 1 + 1 then 2 else if x = mm_t h + 1 + 1 + 1 + 1 then 20 else if x = mm_t h + 1 + 1 + 1 then 20 else if x = mm_t h + 1 + 1 then 3 else if x = mm_t h + 1 then 3 else mm_n h x) = _
  by_cases h1 : x = mm_t h + 1
  · rw [if_neg (by omega), if_neg (by omega), if_neg (by omega), if_neg (by omega), if_neg (by omega), if_neg (by omega), if_pos (show x = mm_t h + 1 by omega), if_pos h1]
  by_cases h2 : x = mm_t h + 2
  · rw [if_neg (by omega), if_neg (by omega), if_neg (by omega), if_neg (by omega), if_neg (by omega), if_pos (show x = mm_t h + 1 + 1 by omega), if_neg (by omega), if_pos h2]
  by_cases h3 : x = mm_t h + 3
  · rw [if_neg (by omega), if_neg (by omega), if_neg (by omega), if_neg (by omega), if_pos (show x = mm_t h + 1 + 1 + 1 by omega), if_neg (by omega), if_neg (by omega), if_pos h3]
  by_cases h4 : x = mm_t h + 4
  · rw [if_neg (by omega), if_neg (by omega), if_neg (by omega), if_pos (show x = mm_t h + 1 + 1 + 1 + 1 by omega), if_neg (by omega), if_neg (by omega), if_neg (by omega), if_pos h4]
  by_cases h5 : x = mm_t h + 5
  · rw [if_neg (by omega), if_neg (by omega), if_pos (show x = mm_t h + 1 + 1 + 1 + 1 + 1 by omega), if_neg (by omega), if_neg (by omega), if_neg (by omega), if_neg (by omega), if_pos h5]
  by_cases h6 : x = mm_t h + 6
  · rw [if_neg (by omega), if_pos (show x = mm_t h + 1 + 1 + 1 + 1 + 1 + 1 by omega), if_neg (by omega), if_neg (by omega), if_neg (by omega), if_neg (by omega), if_neg (by omega), if_pos h6]
  by_cases h7 : x = mm_t h + 7
  · rw [if_pos (show x = mm_t h + 1 + 1 + 1 + 1 + 1 + 1 + 1 by omega), if_neg (by omega), if_neg (by omega), if_neg (by omega), if_neg (by omega), if_neg (by omega), if_neg (by omega), if_pos h7]
  rw [if_neg (by omega), if_neg (by omega), if_neg (by omega), if_neg (by omega), if_neg (by omega), if_neg (by omega), if_neg (by omega), if_neg (by omega), if_neg (by omega), if_neg (by omega), if_neg (by omega), if_neg (by omega), if_neg (by omega), if_neg (by omega)]
theorem lx_nmh_a {h : mm_H} {q : Nat} {c n b : Int32} (e : mm_t h = q) (x : Nat) : mm_a (lx_nmh h q c n b) x = (if q < x ∧ x ≤ q + 7 then (fun _ => 0) else mm_a h x) := by
  subst e
  show (if x = mm_t h + 1 + 1 + 1 + 1 + 1 + 1 + 1 then (fun _ => 0) else if x = mm_t h + 1 + 1 + 1 + 1 + 1 + 1 then (fun _ => 0) else if x = mm_t h + 1 + 1 + 1 + 1 + 1 then (fun _ => 0) else if x = mm_t h + 1 + 1 + 1 + 1 then (fun _ => 0) else if x = mm_t h + 1 + 1 + 1 then (fun _ => 0) else if x = mm_t h + 1 + 1 then (fun _ => 0) else if x = mm_t h + 1 then (fun _ => 0) else mm_a h x) = _
  by_cases z : mm_t h < x ∧ x ≤ mm_t h + 7
  · rw [if_pos z]
    repeat' split
    all_goals first | rfl | omega
  · rw [if_neg z, if_neg (by omega), if_neg (by omega), if_neg (by omega), if_neg (by omega), if_neg (by omega), if_neg (by omega), if_neg (by omega)]
theorem lx_nmh_q {h : mm_H} {q : Nat} {c n b : Int32} (e : mm_t h = q) (x : Nat) (hx : x ≤ q) : mm_q (lx_nmh h q c n b) x = mm_q h x := by
  subst e
  show (if x = mm_t h + 1 + 1 + 1 + 1 + 1 + 1 + 1 then (fun _ => 0) else if x = mm_t h + 1 + 1 + 1 + 1 + 1 + 1 then (fun _ => 0) else if x = mm_t h + 1 + 1 + 1 + 1 + 1 then (fun _ => 0) else if x = mm_t h + 1 + 1 + 1 + 1 then (fun _ => 0) else if x = mm_t h + 1 + 1 + 1 then (fun _ => 0) else if x = mm_t h + 1 + 1 then (fun _ => 0) else if x = mm_t h + 1 then (fun _ => 0) else mm_q h x) = _
  rw [if_neg (by omega), if_neg (by omega), if_neg (by omega), if_neg (by omega), if_neg (by omega), if_neg (by omega), if_neg (by omega)]
theorem lx_nmh_i0 {h : mm_H} {c n b : Int32} (f x : Nat) : mm_i (lx_nmh h (mm_t h) c n b) f x = (if f = 514 ∧ x = mm_t h then b else if f = 513 ∧ x = mm_t h then n else if f = 512 ∧ x = mm_t h then c else if x = mm_t h + 1 + 1 + 1 + 1 + 1 + 1 + 1 then 0 else if x = mm_t h + 1 + 1 + 1 + 1 + 1 + 1 then 0 else if x = mm_t h + 1 + 1 + 1 + 1 + 1 then 0 else if x = mm_t h + 1 + 1 + 1 + 1 then 0 else if x = mm_t h + 1 + 1 + 1 then 0 else if f = 518 ∧ x = mm_t h then -1 else if f = 450 ∧ x = mm_t h + 1 + 1 then 0 else if f = 449 ∧ x = mm_t h + 1 + 1 then mm_my (-2) 0 else if f = 448 ∧ x = mm_t h + 1 + 1 then -2 else if x = mm_t h + 1 + 1 then 0 else if x = mm_t h + 1 then 0 else mm_i h f x) := rfl
theorem lx_nmh_i {h : mm_H} {q : Nat} {c n b : Int32} (e : mm_t h = q) (f x : Nat) (hx : x < q) : mm_i (lx_nmh h q c n b) f x = mm_i h f x := by
  subst e
  rw [lx_nmh_i0, if_neg (by omega), if_neg (by omega), if_neg (by omega), if_neg (by omega), if_neg (by omega), if_neg (by omega), if_neg (by omega), if_neg (by omega), if_neg (by omega), if_neg (by omega), if_neg (by omega), if_neg (by omega), if_neg (by omega), if_neg (by omega)]
theorem lx_nmh_iq {h : mm_H} {q : Nat} {c n b : Int32} (e : mm_t h = q) : mm_i (lx_nmh h q c n b) 512 q = c ∧ mm_i (lx_nmh h q c n b) 513 q = n ∧ mm_i (lx_nmh h q c n b) 514 q = b ∧ mm_i (lx_nmh h q c n b) 518 q = -1 ∧ mm_i (lx_nmh h q c n b) 516 q = mm_i h 516 q ∧ mm_i (lx_nmh h q c n b) 521 q = mm_i h 521 q ∧ mm_i (lx_nmh h q c n b) 525 q = mm_i h 525 q := by
  subst e
  refine ⟨?_, ?_, ?_, ?_, ?_, ?_, ?_⟩
  · rw [lx_nmh_i0, if_neg (by omega), if_neg (by omega), if_pos ⟨rfl, rfl⟩]
  · rw [lx_nmh_i0, if_neg (by omega), if_pos ⟨rfl, rfl⟩]
  · rw [lx_nmh_i0, if_pos ⟨rfl, rfl⟩]
  · rw [lx_nmh_i0, if_neg (by omega), if_neg (by omega), if_neg (by omega), if_neg (by omega), if_neg (by omega), if_neg (by omega), if_neg (by omega), if_neg (by omega), if_pos ⟨rfl, rfl⟩]
  · rw [lx_nmh_i0, if_neg (by omega), if_neg (by omega), if_neg (by omega), if_neg (by omega), if_neg (by omega), if_neg (by omega), if_neg (by omega), if_neg (by omega), if_neg (by omega), if_neg (by omega), if_neg (by omega), if_neg (by omega), if_neg (by omega), if_neg (by omega)]
  · rw [lx_nmh_i0, if_neg (by omega), if_neg (by omega), if_neg (by omega), if_neg (by omega), if_neg (by omega), if_neg (by omega), if_neg (by omega), if_neg (by omega), if_neg (by omega), if_neg (by omega), if_neg (by omega), if_neg (by omega), if_neg (by omega), if_neg (by omega)]
  · rw [lx_nmh_i0, if_neg (by omega), if_neg (by omega), if_neg (by omega), if_neg (by omega), if_neg (by omega), if_neg (by omega), if_neg (by omega), if_neg (by omega), if_neg (by omega), if_neg (by omega), if_neg (by omega), if_neg (by omega), if_neg (by omega), if_neg (by omega)]
theorem lx_nmh_i2 {h : mm_H} {q : Nat} {c n b : Int32} (e : mm_t h = q) : mm_i (lx_nmh h q c n b) 448 (q + 2) = -2 ∧ mm_i (lx_nmh h q c n b) 449 (q + 2) = 0 ∧ mm_i (lx_nmh h q c n b) 450 (q + 2) = 0 := by
  subst e
  refine ⟨?_, ?_, ?_⟩
  · rw [lx_nmh_i0, if_neg (by omega), if_neg (by omega), if_neg (by omega), if_neg (by omega), if_neg (by omega), if_neg (by omega), if_neg (by omega), if_neg (by omega), if_neg (by omega), if_neg (by omega), if_neg (by omega), if_pos ⟨rfl, rfl⟩]
  · rw [lx_nmh_i0, if_neg (by omega), if_neg (by omega), if_neg (by omega), if_neg (by omega), if_neg (by omega), if_neg (by omega), if_neg (by omega), if_neg (by omega), if_neg (by omega), if_neg (by omega), if_pos ⟨rfl, rfl⟩, mm_my0]
  · rw [lx_nmh_i0, if_neg (by omega), if_neg (by omega), if_neg (by omega), if_neg (by omega), if_neg (by omega), if_neg (by omega), if_neg (by omega), if_neg (by omega), if_neg (by omega), if_pos ⟨rfl, rfl⟩]
theorem lx_nmh_r0 {h : mm_H} {c n b : Int32} (f x : Nat) : mm_r (lx_nmh h (mm_t h) c n b) f x = (if f = 524 ∧ x = mm_t h then mm_t h + 7 else if x = mm_t h + 1 + 1 + 1 + 1 + 1 + 1 + 1 then 0 else if f = 523 ∧ x = mm_t h then mm_t h + 6 else if x = mm_t h + 1 + 1 + 1 + 1 + 1 + 1 then 0 else if f = 522 ∧ x = mm_t h then mm_t h + 5 else if x = mm_t h + 1 + 1 + 1 + 1 + 1 then 0 else if f = 520 ∧ x = mm_t h then mm_t h + 4 else if x = mm_t h + 1 + 1 + 1 + 1 then 0 else if f = 519 ∧ x = mm_t h then mm_t h + 3 else if x = mm_t h + 1 + 1 + 1 then 0 else if f = 517 ∧ x = mm_t h then mm_t h + 2 else if x = mm_t h + 1 + 1 then 0 else if f = 515 ∧ x = mm_t h then mm_t h + 1 else if x = mm_t h + 1 then 0 else mm_r h f x) := rfl
theorem lx_nmh_r {h : mm_H} {q : Nat} {c n b : Int32} (e : mm_t h = q) (f x : Nat) (hx : x < q) : mm_r (lx_nmh h q c n b) f x = mm_r h f x := by
  subst e
  rw [lx_nmh_r0, if_neg (by omega), if_neg (by omega), if_neg (by omega), if_neg (by omega), if_neg (by omega), if_neg (by omega), if_neg (by omega), if_neg (by omega), if_neg (by omega), if_neg (by omega), if_neg (by omega), if_neg (by omega), if_neg (by omega), if_neg (by omega)]
theorem lx_nmh_rq {h : mm_H} {q : Nat} {c n b : Int32} (e : mm_t h = q) : mm_r (lx_nmh h q c n b) 515 q = q + 1 ∧ mm_r (lx_nmh h q c n b) 517 q = q + 2 ∧ mm_r (lx_nmh h q c n b) 519 q = q + 3 ∧ mm_r (lx_nmh h q c n b) 520 q = q + 4 ∧ mm_r (lx_nmh h q c n b) 522 q = q + 5 ∧ mm_r (lx_nmh h q c n b) 523 q = q + 6 ∧ mm_r (lx_nmh h q c n b) 524 q = q + 7 := by
  subst e
  refine ⟨?_, ?_, ?_, ?_, ?_, ?_, ?_⟩
  · rw [lx_nmh_r0, if_neg (by omega), if_neg (by omega), if_neg (by omega), if_neg (by omega), if_neg (by omega), if_neg (by omega), if_neg (by omega), if_neg (by omega), if_neg (by omega), if_neg (by omega), if_neg (by omega), if_neg (by omega), if_pos ⟨rfl, rfl⟩]
  · rw [lx_nmh_r0, if_neg (by omega), if_neg (by omega), if_neg (by omega), if_neg (by omega), if_neg (by omega), if_neg (by omega), if_neg (by omega), if_neg (by omega), if_neg (by omega), if_neg (by omega), if_pos ⟨rfl, rfl⟩]
  · rw [lx_nmh_r0, if_neg (by omega), if_neg (by omega), if_neg (by omega), if_neg (by omega), if_neg (by omega), if_neg (by omega), if_neg (by omega), if_neg (by omega), if_pos ⟨rfl, rfl⟩]
  · rw [lx_nmh_r0, if_neg (by omega), if_neg (by omega), if_neg (by omega), if_neg (by omega), if_neg (by omega), if_neg (by omega), if_pos ⟨rfl, rfl⟩]
  · rw [lx_nmh_r0, if_neg (by omega), if_neg (by omega), if_neg (by omega), if_neg (by omega), if_pos ⟨rfl, rfl⟩]
  · rw [lx_nmh_r0, if_neg (by omega), if_neg (by omega), if_pos ⟨rfl, rfl⟩]
  · rw [lx_nmh_r0, if_pos ⟨rfl, rfl⟩]
theorem lx_nmh_ME {h : mm_H} {q : Nat} {c n b : Int32} (e : mm_t h = q) (kq : mm_k h q = 9) : mm_ME (lx_nmh h q c n b) q := by
  obtain ⟨r1, r2, r3, r4, r5, r6, r7⟩ := lx_nmh_rq (c := c) (n := n) (b := b) e
  have k := fun x => lx_nmh_k (c := c) (n := n) (b := b) e x
  have m := fun x => lx_nmh_n (c := c) (n := n) (b := b) e x
  have kk : mm_k (lx_nmh h q c n b) q = 9 := by rw [k, if_neg (by omega), if_neg (by omega), if_neg (by omega), if_neg (by omega), if_neg (by omega), if_neg (by omega), if_neg (by omega), kq]
  refine ⟨⟨kk, r1, ?_, ?_⟩, ⟨r2, ?_⟩, ⟨r3, ?_, ?_⟩, ⟨r4, ?_, ?_⟩, ⟨r5, ?_, ?_⟩, ⟨r6, ?_, ?_⟩, r7, ?_, ?_⟩
  · rw [k, if_pos rfl]
  · rw [m, if_pos rfl]
  · rw [k, if_neg (by omega), if_pos rfl]
  · rw [k, if_neg (by omega), if_neg (by omega), if_pos rfl]
  · rw [m, if_neg (by omega), if_neg (by omega), if_pos rfl]
  · rw [k, if_neg (by omega), if_neg (by omega), if_neg (by omega), if_pos rfl]
  · rw [m, if_neg (by omega), if_neg (by omega), if_neg (by omega), if_pos rfl]
  · rw [k, if_neg (by omega), if_neg (by omega), if_neg (by omega), if_neg (by omega), if_pos rfl]
  · rw [m, if_neg (by omega), if_neg (by omega), if_neg (by omega), if_neg (by omega), if_pos rfl]
  · rw [k, if_neg (by omega), if_neg (by omega), if_neg (by omega), if_neg (by omega), if_neg (by omega), if_pos rfl]
  · rw [m, if_neg (by omega), if_neg (by omega), if_neg (by omega), if_neg (by omega), if_neg (by omega), if_pos rfl]
  · rw [k, if_neg (by omega), if_neg (by omega), if_neg (by omega), if_neg (by omega), if_neg (by omega), if_neg (by omega), if_pos rfl]
  · rw [m, if_neg (by omega), if_neg (by omega), if_neg (by omega), if_neg (by omega), if_neg (by omega), if_neg (by omega), if_pos rfl]
theorem mm_kn {h : mm_H} {k n x : Nat} (hx : x ≤ mm_t h) : mm_k (mm_new h k n) x = mm_k h x := if_neg (by omega)
theorem mm_tn {g : mm_H} {k n f a x : Nat} : mm_t (mm_sr (mm_new g k n) f a x) = mm_t g + 1 := rfl
theorem mm_ks {g : mm_H} {k n f a x q : Nat} (lt : q ≤ mm_t g) (e : mm_k g q = 9) : mm_k (mm_sr (mm_new g k n) f a x) q = 9 := (show mm_k (mm_new g k n) q = 9 from (mm_kn lt).trans e)
theorem mm_ks2 {g : mm_H} {q z : Nat} (lt : q ≤ mm_t g) (e : mm_k g q = 9) : mm_k (mm_si (mm_sr (lx_np g (-2) 0 0) 517 q z) 518 q (-1)) q = 9 := (show mm_k (mm_new g 8 3) q = 9 from (mm_kn lt).trans e)
theorem mm_e3 : (Int32.ofInt 3).toNatClampNeg = 3 := by decide
theorem mm_e2 : (Int32.ofInt 2).toNatClampNeg = 2 := by decide
theorem mm_e20 : ((Int8.ofInt 20).toInt32).toNatClampNeg = 20 := by decide
theorem l_Me_A {ro : mm_Ro} {d q : Nat} {c n b : Int32} {g : mm_H} {Q : Value → mm_H → Prop} (kq : mm_k g q = 9) (lt : q ≤ mm_t g) (hQ : mm_go ro d mm_m_Me_init 12 [.ref q, .int c, .int n, .int b] [] (mm_sr (mm_new g 22 3) 515 q (mm_t g + 1)) Q) : mm_go ro d mm_m_Me_init 0 [.ref q, .int c, .int n, .int b] [] g Q := by
  have k1 : mm_k (mm_new g 22 3) q = 9 := (mm_kn lt).trans kq
  refine mm_go_at 12 (mm_hM n_Me_init rfl) (And.intro ⟨rfl, by rw [kq]; decide, by rw [kq]; decide, by decide⟩ (And.intro (by decide) ?_))
  rw [mm_e3]
  exact And.intro k1 hQ
theorem l_Me_B {ro : mm_Ro} {d q : Nat} {c n b : Int32} {g : mm_H} {Q : Value → mm_H → Prop} (kq : mm_k g q = 9) (lt : q ≤ mm_t g) (hQ : mm_go ro (d + 2) mm_m_Me_init 32 [.ref q, .int c, .int n, .int b] [] (mm_si (mm_sr (lx_np g (-2) 0 0) 517 q (mm_t g + 1)) 518 q (-1)) Q) : mm_go ro (d + 2) mm_m_Me_init 12 [.ref q, .int c, .int n, .int b] [] g Q := by
  have k1 : mm_k (mm_new g 8 3) q = 9 := (mm_kn lt).trans kq
  have kp : mm_k (mm_new g 8 3) (mm_t g + 1) = 8 := if_pos rfl
  have e7 : (mm_fks.getD 7 []).length = 3 := by decide
  refine mm_go_at 32 (mm_hM n_Me_init rfl) (And.intro (by decide) ?_)
  rw [e7]
  refine And.intro ⟨rfl, kp⟩ (c_Pl_init (h := mm_new g 8 3) kp ?_)
  have k2 : mm_k (lx_np g (-2) 0 0) q = 9 := k1
  exact And.intro k2 (And.intro k2 hQ)
theorem l_Me_C {ro : mm_Ro} {d q : Nat} {c n b : Int32} {g : mm_H} {Q : Value → mm_H → Prop} (kq : mm_k g q = 9) (lt : q ≤ mm_t g) (hQ : mm_go ro d mm_m_Me_init 40 [.ref q, .int c, .int n, .int b] [] (mm_sr (mm_new g 20 20) 519 q (mm_t g + 1)) Q) : mm_go ro d mm_m_Me_init 32 [.ref q, .int c, .int n, .int b] [] g Q := by
  have k1 : mm_k (mm_new g 20 20) q = 9 := (mm_kn lt).trans kq
  refine mm_go_at 40 (mm_hM n_Me_init rfl) (And.intro ⟨by decide, by decide, Or.inl rfl⟩ ?_)
  rw [mm_e20, if_pos rfl]
  exact And.intro k1 hQ
theorem l_Me_D {ro : mm_Ro} {d q : Nat} {c n b : Int32} {g : mm_H} {Q : Value → mm_H → Prop} (kq : mm_k g q = 9) (lt : q ≤ mm_t g) (hQ : mm_go ro d mm_m_Me_init 48 [.ref q, .int c, .int n, .int b] [] (mm_sr (mm_new g 20 20) 520 q (mm_t g + 1)) Q) : mm_go ro d mm_m_Me_init 40 [.ref q, .int c, .int n, .int b] [] g Q := by
  have k1 : mm_k (mm_new g 20 20) q = 9 := (mm_kn lt).trans kq
  refine mm_go_at 48 (mm_hM n_Me_init rfl) (And.intro ⟨by decide, by decide, Or.inl rfl⟩ ?_)
  rw [mm_e20, if_pos rfl]
  exact And.intro k1 hQ
theorem l_Me_E {ro : mm_Ro} {d q : Nat} {c n b : Int32} {g : mm_H} {Q : Value → mm_H → Prop} (kq : mm_k g q = 9) (lt : q ≤ mm_t g) (hQ : mm_go ro d mm_m_Me_init 55 [.ref q, .int c, .int n, .int b] [] (mm_sr (mm_new g 20 2) 522 q (mm_t g + 1)) Q) : mm_go ro d mm_m_Me_init 48 [.ref q, .int c, .int n, .int b] [] g Q := by
  have k1 : mm_k (mm_new g 20 2) q = 9 := (mm_kn lt).trans kq
  refine mm_go_at 55 (mm_hM n_Me_init rfl) (And.intro ⟨by decide, by decide, Or.inl rfl⟩ ?_)
  rw [mm_e2, if_pos rfl]
  exact And.intro k1 hQ
theorem l_Me_F {ro : mm_Ro} {d q : Nat} {c n b : Int32} {g : mm_H} {Q : Value → mm_H → Prop} (kq : mm_k g q = 9) (lt : q ≤ mm_t g) (hQ : mm_go ro d mm_m_Me_init 62 [.ref q, .int c, .int n, .int b] [] (mm_sr (mm_new g 20 2) 523 q (mm_t g + 1)) Q) : mm_go ro d mm_m_Me_init 55 [.ref q, .int c, .int n, .int b] [] g Q := by
  have k1 : mm_k (mm_new g 20 2) q = 9 := (mm_kn lt).trans kq
  refine mm_go_at 62 (mm_hM n_Me_init rfl) (And.intro ⟨by decide, by decide, Or.inl rfl⟩ ?_)
  rw [mm_e2, if_pos rfl]
  exact And.intro k1 hQ
theorem l_Me_G {ro : mm_Ro} {d q : Nat} {c n b : Int32} {g : mm_H} {Q : Value → mm_H → Prop} (kq : mm_k g q = 9) (lt : q ≤ mm_t g) (hQ : mm_go ro d mm_m_Me_init 69 [.ref q, .int c, .int n, .int b] [] (mm_sr (mm_new g 20 2) 524 q (mm_t g + 1)) Q) : mm_go ro d mm_m_Me_init 62 [.ref q, .int c, .int n, .int b] [] g Q := by
  have k1 : mm_k (mm_new g 20 2) q = 9 := (mm_kn lt).trans kq
  refine mm_go_at 69 (mm_hM n_Me_init rfl) (And.intro ⟨by decide, by decide, Or.inl rfl⟩ ?_)
  rw [mm_e2, if_pos rfl]
  exact And.intro k1 hQ
theorem l_Me_H {ro : mm_Ro} {d q : Nat} {c n b : Int32} {g : mm_H} {Q : Value → mm_H → Prop} (kq : mm_k g q = 9) (hb : b = 0 ∨ b = 1) (hQ : Q .null (mm_si (mm_si (mm_si g 512 q c) 513 q n) 514 q b)) : mm_go ro d mm_m_Me_init 69 [.ref q, .int c, .int n, .int b] [] g Q :=
  mm_go_from (mm_hM n_Me_init rfl) (And.intro kq (And.intro kq (And.intro kq (And.intro hb hQ))))
theorem c_Me_init {ro : mm_Ro} {d q : Nat} {c n b : Int32} {h : mm_H} {Q : Value → mm_H → Prop} (e : mm_t h = q) (kq : mm_k h q = 9) (hb : b = 0 ∨ b = 1) (hQ : Q .null (lx_nmh h q c n b)) : mm_ev ro (d + 3) n_Me_init [.ref q, .int c, .int n, .int b] h Q := by
  refine mm_ev_of (Z := mm_m_Me_init) rfl rfl (Nat.le_of_ble_eq_true rfl) rfl ?_
  have kk : ∀ (g : mm_H) (k m : Nat), mm_k g q = 9 → q ≤ mm_t g → mm_k (mm_new g k m) q = 9 := fun g k m z l => (mm_kn l).trans z
  subst e
  refine l_Me_A kq (Nat.le_refl _) ?_
  have k1 : mm_k (mm_sr (mm_new h 22 3) 515 (mm_t h) (mm_t h + 1)) (mm_t h) = 9 := mm_ks (Nat.le_refl _) kq
  generalize hg1 : mm_sr (mm_new h 22 3) 515 (mm_t h) (mm_t h + 1) = g1
  have kg1 : mm_k g1 (mm_t h) = 9 := (congrArg (fun g => mm_k g (mm_t h)) hg1).symm.trans k1
  have t1 : mm_t g1 = mm_t h + 1 := by rw [← hg1]; rfl
  refine l_Me_B kg1 (by rw [t1]; exact Nat.le_add_right _ _) ?_
  rw [show mm_t g1 + 1 = mm_t h + 2 from congrArg (· + 1) t1]
  have k2 : mm_k (mm_si (mm_sr (lx_np g1 (-2) 0 0) 517 (mm_t h) (mm_t h + 2)) 518 (mm_t h) (-1)) (mm_t h) = 9 := mm_ks2 (by rw [t1]; exact Nat.le_add_right _ _) kg1
  generalize hg2 : mm_si (mm_sr (lx_np g1 (-2) 0 0) 517 (mm_t h) (mm_t h + 2)) 518 (mm_t h) (-1) = g2
  have kg2 : mm_k g2 (mm_t h) = 9 := (congrArg (fun g => mm_k g (mm_t h)) hg2).symm.trans k2
  have t2 : mm_t g2 = mm_t h + 2 := by rw [← hg2]; show mm_t g1 + 1 = _; omega
  refine l_Me_C kg2 (by rw [t2]; exact Nat.le_add_right _ _) ?_
  rw [show mm_t g2 + 1 = mm_t h + 3 from congrArg (· + 1) t2]
  have k3 : mm_k (mm_sr (mm_new g2 20 20) 519 (mm_t h) (mm_t h + 3)) (mm_t h) = 9 := mm_ks (by rw [t2]; exact Nat.le_add_right _ _) kg2
  generalize hg3 : mm_sr (mm_new g2 20 20) 519 (mm_t h) (mm_t h + 3) = g3
  have kg3 : mm_k g3 (mm_t h) = 9 := (congrArg (fun g => mm_k g (mm_t h)) hg3).symm.trans k3
  have t3 : mm_t g3 = mm_t h + 3 := by exact (congrArg mm_t hg3).symm.trans (mm_tn.trans (congrArg (· + 1) t2))
  refine l_Me_D kg3 (by rw [t3]; exact Nat.le_add_right _ _) ?_
  rw [show mm_t g3 + 1 = mm_t h + 4 from congrArg (· + 1) t3]
  have k4 : mm_k (mm_sr (mm_new g3 20 20) 520 (mm_t h) (mm_t h + 4)) (mm_t h) = 9 := mm_ks (by rw [t3]; exact Nat.le_add_right _ _) kg3
  generalize hg4 : mm_sr (mm_new g3 20 20) 520 (mm_t h) (mm_t h + 4) = g4
  have kg4 : mm_k g4 (mm_t h) = 9 := (congrArg (fun g => mm_k g (mm_t h)) hg4).symm.trans k4
  have t4 : mm_t g4 = mm_t h + 4 := by exact (congrArg mm_t hg4).symm.trans (mm_tn.trans (congrArg (· + 1) t3))
  refine l_Me_E kg4 (by rw [t4]; exact Nat.le_add_right _ _) ?_
  rw [show mm_t g4 + 1 = mm_t h + 5 from congrArg (· + 1) t4]
  have k5 : mm_k (mm_sr (mm_new g4 20 2) 522 (mm_t h) (mm_t h + 5)) (mm_t h) = 9 := mm_ks (by rw [t4]; exact Nat.le_add_right _ _) kg4
  generalize hg5 : mm_sr (mm_new g4 20 2) 522 (mm_t h) (mm_t h + 5) = g5
  have kg5 : mm_k g5 (mm_t h) = 9 := (congrArg (fun g => mm_k g (mm_t h)) hg5).symm.trans k5
  have t5 : mm_t g5 = mm_t h + 5 := by exact (congrArg mm_t hg5).symm.trans (mm_tn.trans (congrArg (· + 1) t4))
  refine l_Me_F kg5 (by rw [t5]; exact Nat.le_add_right _ _) ?_
  rw [show mm_t g5 + 1 = mm_t h + 6 from congrArg (· + 1) t5]
  have k6 : mm_k (mm_sr (mm_new g5 20 2) 523 (mm_t h) (mm_t h + 6)) (mm_t h) = 9 := mm_ks (by rw [t5]; exact Nat.le_add_right _ _) kg5
  generalize hg6 : mm_sr (mm_new g5 20 2) 523 (mm_t h) (mm_t h + 6) = g6
  have kg6 : mm_k g6 (mm_t h) = 9 := (congrArg (fun g => mm_k g (mm_t h)) hg6).symm.trans k6
  have t6 : mm_t g6 = mm_t h + 6 := by exact (congrArg mm_t hg6).symm.trans (mm_tn.trans (congrArg (· + 1) t5))
  refine l_Me_G kg6 (by rw [t6]; exact Nat.le_add_right _ _) ?_
  rw [show mm_t g6 + 1 = mm_t h + 7 from congrArg (· + 1) t6]
  have k7 : mm_k (mm_sr (mm_new g6 20 2) 524 (mm_t h) (mm_t h + 7)) (mm_t h) = 9 := mm_ks (by rw [t6]; exact Nat.le_add_right _ _) kg6
  refine l_Me_H k7 hb ?_
  rw [← hg6, ← hg5, ← hg4, ← hg3, ← hg2, ← hg1]
  exact hQ
theorem c_St_makeMethod {ro : mm_Ro} {d p n : Nat} {h : mm_H} {Q : Value → mm_H → Prop} (I : mm_SH h) (en : mm_i h 72 2 = nI n) (hn : n < 10) (kp : mm_k h p = 9) (hQ : Q (.int (nI n)) (mm_si (mm_sq h 8 n p) 72 2 (nI (n + 1)))) : mm_ev ro (d + 1) n_St_makeMethod [.ref 2, .ref p] h Q := by
  have hB : 0 ≤ (nI n).toInt ∧ (nI n).toInt < ((10 : Nat) : Int) := mm_nb hn (by omega)
  have cn : (nI n).toNatClampNeg = n := mm_ncl (by omega)
  refine mm_ev_in (Z := mm_m_St_makeMethod) rfl rfl (Nat.le_of_ble_eq_true rfl) rfl ?_
  refine And.intro (k_2 I) (mm_rf (r_73 I) (And.intro (k_2 I) (mm_rf en (And.intro ⟨⟨by rw [k_8 I]; decide, by rw [k_8 I]; decide⟩, mm_inb 10 (n_8 I) hB, ?_⟩ (And.intro (k_2 I) (mm_rf en (And.intro (k_2 I) (And.intro (k_2 I) (mm_rf mm_i1 ?_)))))))))
  · rw [kp, k_8 I]
    decide
  · refine mm_qq hQ ?_ ?_
    · show Value.int (nI n + 1 - 1) = _
      rw [Int32.add_sub_cancel]
    · rw [cn, nI_succ]
      rfl
theorem lx_SHm {h : mm_H} {q : Nat} {c n b : Int32} (e : mm_t h = q) (hq : 124 ≤ q) (I : mm_SH h) : mm_SH (lx_nmh h q c n b) := by
  obtain ⟨a1, a2, a3, a4, a5⟩ := I
  refine ⟨fun x hx => ?_, fun x hx => ?_, fun t ht => ?_, fun i hi => ?_, fun i hi => ?_⟩
  · rw [lx_nmh_k e, if_neg (by omega), if_neg (by omega), if_neg (by omega), if_neg (by omega), if_neg (by omega), if_neg (by omega), if_neg (by omega)]
    exact a1 x hx
  · rw [lx_nmh_n e, if_neg (by omega), if_neg (by omega), if_neg (by omega), if_neg (by omega), if_neg (by omega), if_neg (by omega), if_neg (by omega)]
    exact a2 x hx
  · have z := mm_sh_lt t ht
    rw [lx_nmh_r e _ _ (by omega)]
    exact a3 t ht
  · rw [lx_nmh_q e _ (by omega)]
    exact a4 i hi
  · rw [lx_nmh_q e _ (by omega)]
    exact a5 i hi
/-- a new Method, from the very start -/
noncomputable def lx_nm (h : mm_H) (c n b : Int32) : mm_H := lx_nmh (mm_new h 9 14) (mm_t h + 1) c n b
theorem c_Ga_method {ro : mm_Ro} {d nC nF nM : Nat} {qm : Nat → Nat} {c n b : Int32} {h : mm_H} {Q : Value → mm_H → Prop} (I : mm_SH h) (V : mm_XN h nC nF nM) (E : mm_XM h nM qm) (ht : 123 ≤ mm_t h) (q0 : ∀ k, k < nM → ¬ qm k = 0) (hb : b = 0 ∨ b = 1)
    (q1 : ¬ mm_i h 68 2 = 0 → Q (.int (-3)) h) (q2 : mm_i h 68 2 = 0 → (¬ (0 ≤ c.toInt ∧ c.toInt < (nC : Int)) ∨ ¬ (0 ≤ n.toInt ∧ n.toInt ≤ 5) ∨ ∃ j, j < nM ∧ mm_hix h qm c n j) → Q (.int (-1)) h)
    (q3 : mm_i h 68 2 = 0 → (0 ≤ c.toInt ∧ c.toInt < (nC : Int)) → (0 ≤ n.toInt ∧ n.toInt ≤ 5) → (∀ j, j < nM → ¬ mm_hix h qm c n j) → nM = 10 → Q (.int (-2)) h)
    (q4 : mm_i h 68 2 = 0 → (0 ≤ c.toInt ∧ c.toInt < (nC : Int)) → (0 ≤ n.toInt ∧ n.toInt ≤ 5) → (∀ j, j < nM → ¬ mm_hix h qm c n j) → nM < 10 → Q (.int (nI nM)) (mm_si (mm_sq (lx_nm h c n b) 8 nM (mm_t h + 1)) 72 2 (nI (nM + 1)))) : mm_ev ro (d + 4) n_Ga_method [.ref 1, .int c, .int n, .int b] h Q := by
  have G := mm_hM n_Ga_method rfl
  have h10 := V.2.2.2.2.2.2
  have t6 : ((Int8.ofInt 6).toInt32).toInt = 6 := by decide
  refine mm_ev_at 45 (Z := mm_m_Ga_method) rfl rfl (Nat.le_of_ble_eq_true rfl) rfl ?_
  refine And.intro (k_1 I) (mm_rf (r_0 I) (And.intro (k_2 I) (mm_rf rfl (And.intro (fun c_7 => mm_go_at 45 G ?_) (fun c_7 => q1 c_7)))))
  have bad : (¬ (0 ≤ c.toInt ∧ c.toInt < (nC : Int)) ∨ ¬ (0 ≤ n.toInt ∧ n.toInt ≤ 5) ∨ ∃ j, j < nM ∧ mm_hix h qm c n j) → mm_go ro (d + 3) mm_m_Ga_method 45 [.ref 1, .int c, .int n, .int b] [] h Q := fun y => mm_go_from G (q2 c_7 y)
  refine And.intro (k_1 I) (mm_rf (r_0 I) (And.intro ⟨rfl, k_2 I⟩ (c_St_isClass I V (And.intro (fun c_21 => bad (Or.inl (mm_b0.mp c_21))) (fun c_21 => And.intro ⟨rfl, trivial⟩ (c_Ga_within I (And.intro (fun c_30 => bad (Or.inr (Or.inl (fun y => mm_b0.mp c_30 (by rw [t6]; omega))))) (fun c_30 => ?_))))))))
  have nn : 0 ≤ n.toInt ∧ n.toInt ≤ 5 := by
    have y := mm_nn c_30
    rw [t6] at y
    omega
  refine And.intro (k_1 I) (mm_rf (r_0 I) (And.intro ⟨rfl, k_2 I⟩ (c_St_own I V E (fun m hm hit _ => ?_) (fun no => ?_))))
  · exact And.intro (fun c_42 => absurd c_42 (q0 m hm)) (fun c_42 => bad (Or.inr (Or.inr ⟨m, hm, hit⟩)))
  · refine And.intro (fun c_42 => mm_go_from G ?_) (fun c_42 => absurd rfl c_42)
    refine And.intro (k_1 I) (mm_rf (r_0 I) (And.intro (k_2 I) (mm_rf V.2.2.1 (And.intro (fun c_56 => mm_go_from G ?_) (fun c_56 => mm_go_from G (q3 c_7 (mm_nn c_21) nn no (mm_nee (by omega) (by omega) (mm_no c_56))))))))
    have hlt : nM < 10 := mm_nel h10 (by omega) c_56
    have e8 : (mm_fks.getD 8 []).length = 14 := by decide
    refine And.intro (k_1 I) (mm_rf (r_0 I) (And.intro (by decide) ?_))
    rw [e8]
    have kq : mm_k (mm_new h 9 14) (mm_t h + 1) = 9 := if_pos rfl
    refine And.intro ⟨rfl, kq⟩ (c_Me_init (h := mm_new h 9 14) (q := mm_t h + 1) rfl kq hb ?_)
    have J : mm_SH (lx_nm h c n b) := lx_SHm rfl (by omega) (lx_SHn ht I)
    have en : mm_i (lx_nm h c n b) 72 2 = nI nM := by
      have z : mm_i (mm_new h 9 14) 72 2 = mm_i h 72 2 := if_neg (by omega)
      exact (lx_nmh_i (q := mm_t h + 1) rfl _ _ (by omega)).trans (z.trans V.2.2.1)
    have kp : mm_k (lx_nm h c n b) (mm_t h + 1) = 9 := (lx_nmh_ME (h := mm_new h 9 14) rfl kq).1.1
    exact And.intro ⟨rfl, k_2 J⟩ (c_St_makeMethod (h := lx_nm h c n b) J en hlt kp (q4 c_7 (mm_nn c_21) nn no hlt))
