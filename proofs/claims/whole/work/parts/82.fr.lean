/-! THE CLASS WHILE IT LOOKS: a base and the frames (out 11, jump 13, frame i: 16 + 2 * i; slots one address higher) -/
abbrev lx_is (a : Nat) : Prop := a = 11 ∨ a = 13 ∨ (16 ≤ a ∧ a < 56 ∧ a % 2 = 0)
def lx_L (h0 : mm_H) (P : Nat → mm_F × Int32) : mm_H := (mm_k h0, (fun f a => if lx_is a then (if f = 193 then (P a).1.1 else if f = 194 then (P a).1.2.1 else if f = 195 then (P a).1.2.2.1 else if f = 196 then (P a).2 else mm_i h0 f a) else mm_i h0 f a), mm_r h0, mm_n h0, (fun a j => if lx_is (a - 1) ∧ j < 10 then lx_pk ((P (a - 1)).1.2.2.2 j) else mm_a h0 a j), mm_q h0, mm_t h0, mm_s h0)
def lx_pu (P : Nat → mm_F × Int32) (a : Nat) (x : mm_F × Int32) : Nat → mm_F × Int32 := fun b => if b = a then x else P b
theorem lx_pu_t {P : Nat → mm_F × Int32} {a : Nat} {x : mm_F × Int32} : lx_pu P a x a = x := if_pos rfl
theorem lx_pu_f {P : Nat → mm_F × Int32} {a b : Nat} {x : mm_F × Int32} (h : ¬ b = a) : lx_pu P a x b = P b := if_neg h
theorem lx_pu_u {P : Nat → mm_F × Int32} {a : Nat} {x y : mm_F × Int32} : lx_pu (lx_pu P a x) a y = lx_pu P a y := by
  funext b
  by_cases q : b = a
  · rw [q, lx_pu_t, lx_pu_t]
  · rw [lx_pu_f q, lx_pu_f q, lx_pu_f q]
theorem lx_pu_s {P : Nat → mm_F × Int32} {a : Nat} : lx_pu P a (P a) = P := by
  funext b
  by_cases q : b = a
  · rw [q, lx_pu_t]
  · rw [lx_pu_f q]
def lx_ok (nC : Nat) (P : Nat → mm_F × Int32) : Prop := ∀ a, lx_is a → ((P a).2 = 0 ∨ (P a).2 = 1) ∧ ∀ v, v < 10 → lx_vr nC ((P a).1.2.2.2 v)
theorem lx_ok_pu {nC : Nat} {P : Nat → mm_F × Int32} {a : Nat} {x : mm_F × Int32} (h : lx_ok nC P) (hx : (x.2 = 0 ∨ x.2 = 1) ∧ ∀ v, v < 10 → lx_vr nC (x.1.2.2.2 v)) : lx_ok nC (lx_pu P a x) := by
  intro b hb
  by_cases q : b = a
  · rw [q, lx_pu_t]; exact hx
  · rw [lx_pu_f q]; exact h b hb
theorem lx_i {h0 : mm_H} {P : Nat → mm_F × Int32} {a : Nat} (ha : lx_is a) : mm_i (lx_L h0 P) 193 a = (P a).1.1 ∧ mm_i (lx_L h0 P) 194 a = (P a).1.2.1 ∧ mm_i (lx_L h0 P) 195 a = (P a).1.2.2.1 ∧ mm_i (lx_L h0 P) 196 a = (P a).2 := ⟨if_pos ha, if_pos ha, if_pos ha, if_pos ha⟩
theorem lx_a {h0 : mm_H} {P : Nat → mm_F × Int32} {a j : Nat} (ha : lx_is a) (hj : j < 10) : mm_a (lx_L h0 P) (a + 1) j = lx_pk ((P a).1.2.2.2 j) := if_pos ⟨ha, hj⟩
theorem lx_hi {h0 : mm_H} {P : Nat → mm_F × Int32} {f a : Nat} (ha : 124 ≤ a) : mm_i (lx_L h0 P) f a = mm_i h0 f a ∧ mm_a (lx_L h0 P) a = mm_a h0 a := by
  have n1 : ¬ lx_is a := fun z => by unfold lx_is at z; omega
  have n2 : ¬ lx_is (a - 1) := fun z => by unfold lx_is at z; omega
  exact ⟨if_neg n1, funext (fun j => if_neg (fun z => n2 z.1))⟩
theorem lx_shs : ∀ i, i < 20 → sh_k (16 + 2 * i) = 4 ∧ sh_k (16 + 2 * i + 1) = 20 ∧ sh_n (16 + 2 * i + 1) = 10 ∧ (192, 16 + 2 * i, 16 + 2 * i + 1) ∈ sh_r := by decide
theorem lx_fs {h : mm_H} {a : Nat} (I : mm_SH h) (ha : lx_is a) : mm_k h a = 4 ∧ mm_k h (a + 1) = 20 ∧ mm_n h (a + 1) = 10 ∧ mm_r h 192 a = a + 1 := by
  rcases ha with rfl | rfl | ⟨h1, h2, h3⟩
  · exact ⟨I.k 11 (by decide), I.k 12 (by decide), I.n 12 (by decide), I.r 192 11 12 (by decide)⟩
  · exact ⟨I.k 13 (by decide), I.k 14 (by decide), I.n 14 (by decide), I.r 192 13 14 (by decide)⟩
  · obtain ⟨s1, s2, s3, s4⟩ := lx_shs ((a - 16) / 2) (by omega)
    have e : 16 + 2 * ((a - 16) / 2) = a := by omega
    rw [e] at s1 s2 s3 s4
    exact ⟨(I.k a (by omega)).trans s1, (I.k (a + 1) (by omega)).trans s2, (I.n (a + 1) (by omega)).trans s3, I.r 192 a (a + 1) s4⟩
theorem lxw_i {h0 : mm_H} {P : Nat → mm_F × Int32} {a : Nat} (ha : lx_is a) (x : Int32) : mm_si (lx_L h0 P) 193 a x = lx_L h0 (lx_pu P a ((x, (P a).1.2), (P a).2)) ∧ mm_si (lx_L h0 P) 194 a x = lx_L h0 (lx_pu P a (((P a).1.1, x, (P a).1.2.2), (P a).2)) ∧ mm_si (lx_L h0 P) 195 a x = lx_L h0 (lx_pu P a (((P a).1.1, (P a).1.2.1, x, (P a).1.2.2.2), (P a).2)) ∧ mm_si (lx_L h0 P) 196 a x = lx_L h0 (lx_pu P a ((P a).1, x)) := by
  have sl : ∀ (y : mm_F × Int32), y.1.2.2.2 = (P a).1.2.2.2 → ∀ b j, (if lx_is (b - 1) ∧ j < 10 then lx_pk ((P (b - 1)).1.2.2.2 j) else mm_a h0 b j) = (if lx_is (b - 1) ∧ j < 10 then lx_pk ((lx_pu P a y (b - 1)).1.2.2.2 j) else mm_a h0 b j) := by
    intro y hy b j
    by_cases q : b - 1 = a
    · rw [q, lx_pu_t, hy]
    · rw [lx_pu_f q]
  refine ⟨lk_H (fun f b => ?_) (sl _ rfl), lk_H (fun f b => ?_) (sl _ rfl), lk_H (fun f b => ?_) (sl _ rfl), lk_H (fun f b => ?_) (sl _ rfl)⟩
  all_goals
    by_cases q : b = a
    · subst q
      by_cases q1 : f = 193
      · subst q1; simp [mm_u, mm_i, lx_L, lx_pu, ha]
      by_cases q2 : f = 194
      · subst q2; simp [mm_u, mm_i, lx_L, lx_pu, ha]
      by_cases q3 : f = 195
      · subst q3; simp [mm_u, mm_i, lx_L, lx_pu, ha]
      by_cases q4 : f = 196
      · subst q4; simp [mm_u, mm_i, lx_L, lx_pu, ha]
      simp [mm_u, mm_i, lx_L, lx_pu, ha, q1, q2, q3, q4]
    · simp [mm_u, mm_i, lx_L, lx_pu, q]
theorem lxw_s {h0 : mm_H} {P : Nat → mm_F × Int32} {a j : Nat} {x : mm_V} (ha : lx_is a) (hj : j < 10) : mm_sa (lx_L h0 P) (a + 1) j (lx_pk x) = lx_L h0 (lx_pu P a (((P a).1.1, (P a).1.2.1, (P a).1.2.2.1, lk_up (P a).1.2.2.2 j x), (P a).2)) := by
  refine lk_H (fun f b => ?_) (fun b k => ?_)
  · by_cases q : b = a
    · subst q; simp [mm_i, lx_L, lx_pu, ha]
    · simp [mm_i, lx_L, lx_pu, q]
  · by_cases q : b = a + 1
    · subst q
      by_cases qk : k = j
      · subst qk
        rw [show a + 1 - 1 = a by omega, lx_pu_t, if_pos ⟨ha, hj⟩]
        show mm_u _ (a + 1) k (lx_pk x) (a + 1) k = lx_pk (lk_up (P a).1.2.2.2 k x k)
        rw [lk_up_t]
        exact if_pos ⟨rfl, rfl⟩
      · rw [show a + 1 - 1 = a by omega, lx_pu_t]
        have e1 : mm_u (mm_a (lx_L h0 P)) (a + 1) j (lx_pk x) (a + 1) k = mm_a (lx_L h0 P) (a + 1) k := if_neg (fun z => qk z.2)
        rw [e1]
        show (if lx_is (a + 1 - 1) ∧ k < 10 then lx_pk ((P (a + 1 - 1)).1.2.2.2 k) else mm_a h0 (a + 1) k) = (if lx_is a ∧ k < 10 then lx_pk (lk_up (P a).1.2.2.2 j x k) else mm_a h0 (a + 1) k)
        rw [show a + 1 - 1 = a by omega, lk_up_f qk]
    · have e1 : mm_u (mm_a (lx_L h0 P)) (a + 1) j (lx_pk x) b k = mm_a (lx_L h0 P) b k := if_neg (fun z => q z.1)
      rw [e1]
      show (if lx_is (b - 1) ∧ k < 10 then lx_pk ((P (b - 1)).1.2.2.2 k) else mm_a h0 b k) = _
      by_cases qb : b - 1 = a
      · have b0 : b = 0 := by omega
        have na : ¬ lx_is (b - 1) := fun z => by unfold lx_is at z; omega
        rw [if_neg (fun z => na z.1), if_neg (fun z => na z.1)]
      · rw [lx_pu_f qb]
theorem lxw_c {h0 : mm_H} {P : Nat → mm_F × Int32} {a b : Nat} (ha : lx_is a) (hb : lx_is b) : mm_sc (lx_L h0 P) (b + 1) (a + 1) 0 0 10 = lx_L h0 (lx_pu P a (((P a).1.1, (P a).1.2.1, (P a).1.2.2.1, (P b).1.2.2.2), (P a).2)) := by
  refine lk_H (fun f c => ?_) (fun c k => ?_)
  · by_cases q : c = a
    · subst q; simp [mm_i, lx_L, lx_pu, ha]
    · simp [mm_i, lx_L, lx_pu, q]
  · by_cases q : c = a + 1
    · subst q
      rw [show a + 1 - 1 = a by omega, lx_pu_t]
      have e1 : mm_u1 (mm_a (lx_L h0 P)) (a + 1) (va_cpy (mm_a (lx_L h0 P) (b + 1)) (mm_a (lx_L h0 P) (a + 1)) 0 0 10) (a + 1) = va_cpy (mm_a (lx_L h0 P) (b + 1)) (mm_a (lx_L h0 P) (a + 1)) 0 0 10 := if_pos rfl
      rw [e1]
      by_cases hk : k < 10
      · rw [pk_cpy_in (by omega) (by omega), if_pos ⟨ha, hk⟩, show 0 + (k - 0) = k by omega, lx_a hb hk]
      · rw [pk_cpy_out (by omega), if_neg (fun z => hk z.2)]
        exact if_neg (fun z => hk z.2)
    · have e1 : mm_u1 (mm_a (lx_L h0 P)) (a + 1) (va_cpy (mm_a (lx_L h0 P) (b + 1)) (mm_a (lx_L h0 P) (a + 1)) 0 0 10) c = mm_a (lx_L h0 P) c := if_neg q
      rw [e1]
      show (if lx_is (c - 1) ∧ k < 10 then lx_pk ((P (c - 1)).1.2.2.2 k) else mm_a h0 c k) = _
      by_cases qb : c - 1 = a
      · have na : ¬ lx_is (c - 1) := fun z => by unfold lx_is at z; omega
        rw [if_neg (fun z => na z.1), if_neg (fun z => na z.1)]
      · rw [lx_pu_f qb]
theorem c_Fr_become {ro : mm_Ro} {d a b : Nat} {h0 : mm_H} {P : Nat → mm_F × Int32} {Q : Value → mm_H → Prop} (I : mm_SH h0) (ha : lx_is a) (hb : lx_is b) (ne : ¬ a = b) (hQ : Q .null (lx_L h0 (lx_pu P a ((P b).1, (P a).2)))) : mm_ev ro (d + 1) n_Fr_become [.ref a, .ref b] (lx_L h0 P) Q := by
  have J : mm_SH (lx_L h0 P) := I
  obtain ⟨a1, a2, a3, a4⟩ := lx_fs J ha
  obtain ⟨b1, b2, b3, b4⟩ := lx_fs J hb
  have t10 : Int32.ofNat 10 = nI 10 := rfl
  refine mm_ev_in (Z := mm_m_Fr_become) rfl rfl (Nat.le_of_ble_eq_true rfl) rfl ?_
  refine And.intro b1 (mm_rf b4 (And.intro a1 (mm_rf a4 (And.intro a1 (mm_rf a4 (And.intro ⟨by rw [a2]; decide, by rw [a2]; decide⟩ ?_))))))
  rw [a3]
  refine And.intro ⟨rfl, b2, a2, by decide, by decide, by decide, by rw [b3]; decide, by rw [a3]; decide, by decide⟩ ?_
  have e1 : mm_sc (lx_L h0 P) (b + 1) (a + 1) (Int32.ofInt 0).toNatClampNeg (Int32.ofInt 0).toNatClampNeg (Int32.ofNat 10).toNatClampNeg = lx_L h0 (lx_pu P a (((P a).1.1, (P a).1.2.1, (P a).1.2.2.1, (P b).1.2.2.2), (P a).2)) := lxw_c ha hb
  rw [e1]
  have ne' : ¬ b = a := fun z => ne z.symm
  refine And.intro b1 (mm_rf (b := (P b).1.1) ((lx_i hb).1.trans (by rw [lx_pu_f ne'])) (And.intro a1 ?_))
  rw [(lxw_i ha _).1, lx_pu_u, lx_pu_t]
  refine And.intro b1 (mm_rf (b := (P b).1.2.1) ((lx_i hb).2.1.trans (by rw [lx_pu_f ne'])) (And.intro a1 ?_))
  rw [(lxw_i ha _).2.1, lx_pu_u, lx_pu_t]
  refine And.intro b1 (mm_rf (b := (P b).1.2.2.1) ((lx_i hb).2.2.1.trans (by rw [lx_pu_f ne'])) (And.intro a1 ?_))
  rw [(lxw_i ha _).2.2.1, lx_pu_u, lx_pu_t]
  exact hQ
theorem c_Fr_push {ro : mm_Ro} {d a j : Nat} {h0 : mm_H} {P : Nat → mm_F × Int32} {x : mm_V} {Q : Value → mm_H → Prop} (I : mm_SH h0) (ha : lx_is a) (hj : 6 + (P a).1.1 = nI j) (hj10 : j < 10) (hQ : Q .null (lx_L h0 (lx_pu P a (((P a).1.1 + 1, (P a).1.2.1, (P a).1.2.2.1, lk_up (P a).1.2.2.2 j x), (P a).2)))) : mm_ev ro (d + 1) n_Fr_push [.ref a, .int (lx_pk x)] (lx_L h0 P) Q := by
  have J : mm_SH (lx_L h0 P) := I
  obtain ⟨a1, a2, a3, a4⟩ := lx_fs J ha
  have hB : 0 ≤ ((Int8.ofInt 6).toInt32 + (P a).1.1).toInt ∧ ((Int8.ofInt 6).toInt32 + (P a).1.1).toInt < ((10 : Nat) : Int) := by rw [show (Int8.ofInt 6).toInt32 + (P a).1.1 = nI j from hj]; exact mm_nb hj10 (by omega)
  have hc : ((Int8.ofInt 6).toInt32 + (P a).1.1).toNatClampNeg = j := by rw [show (Int8.ofInt 6).toInt32 + (P a).1.1 = nI j from hj]; exact mm_ncl (by omega)
  refine mm_ev_in (Z := mm_m_Fr_push) rfl rfl (Nat.le_of_ble_eq_true rfl) rfl ?_
  refine And.intro a1 (mm_rf a4 (And.intro a1 (mm_rf (lx_i ha).1 (And.intro ⟨a2, mm_inb 10 a3 hB⟩ ?_))))
  rw [hc, lxw_s ha hj10]
  refine And.intro a1 (mm_rf (b := (P a).1.1) ((lx_i ha).1.trans (by rw [lx_pu_t])) (And.intro a1 ?_))
  rw [(lxw_i ha _).1, lx_pu_u, lx_pu_t]
  exact hQ
theorem c_Fr_pop {ro : mm_Ro} {d a j : Nat} {h0 : mm_H} {P : Nat → mm_F × Int32} {Q : Value → mm_H → Prop} (I : mm_SH h0) (ha : lx_is a) (hj : 6 + ((P a).1.1 - 1) = nI j) (hj10 : j < 10) (hQ : Q (.int (lx_pk ((P a).1.2.2.2 j))) (lx_L h0 (lx_pu P a (((P a).1.1 - 1, (P a).1.2), (P a).2)))) : mm_ev ro (d + 1) n_Fr_pop [.ref a] (lx_L h0 P) Q := by
  have J : mm_SH (lx_L h0 P) := I
  obtain ⟨a1, a2, a3, a4⟩ := lx_fs J ha
  have hB : 0 ≤ ((Int8.ofInt 6).toInt32 + ((P a).1.1 - 1)).toInt ∧ ((Int8.ofInt 6).toInt32 + ((P a).1.1 - 1)).toInt < ((10 : Nat) : Int) := by rw [show (Int8.ofInt 6).toInt32 + ((P a).1.1 - 1) = nI j from hj]; exact mm_nb hj10 (by omega)
  have hc : ((Int8.ofInt 6).toInt32 + ((P a).1.1 - 1)).toNatClampNeg = j := by rw [show (Int8.ofInt 6).toInt32 + ((P a).1.1 - 1) = nI j from hj]; exact mm_ncl (by omega)
  refine mm_ev_in (Z := mm_m_Fr_pop) rfl rfl (Nat.le_of_ble_eq_true rfl) rfl ?_
  refine And.intro a1 (mm_rf (lx_i ha).1 (And.intro a1 ?_))
  rw [(lxw_i ha _).1]
  refine And.intro a1 (mm_rf a4 (And.intro a1 (mm_rf (b := (P a).1.1 - 1) ((lx_i ha).1.trans (by rw [lx_pu_t]; rfl)) (And.intro ⟨a2, mm_inb 10 a3 hB⟩ (mm_rf (b := lx_pk ((P a).1.2.2.2 j)) ?_ hQ)))))
  rw [hc, lx_a ha hj10, lx_pu_t]
theorem c_Fr_under {ro : mm_Ro} {d a j : Nat} {h0 : mm_H} {P : Nat → mm_F × Int32} {k : Int32} {Q : Value → mm_H → Prop} (I : mm_SH h0) (ha : lx_is a) (hj : 6 + (P a).1.1 - 1 - k = nI j) (hj10 : j < 10) (hQ : Q (.int (lx_pk ((P a).1.2.2.2 j))) (lx_L h0 P)) : mm_ev ro (d + 1) n_Fr_under [.ref a, .int k] (lx_L h0 P) Q := by
  have J : mm_SH (lx_L h0 P) := I
  obtain ⟨a1, a2, a3, a4⟩ := lx_fs J ha
  have e6 : (Int8.ofInt 6).toInt32 + (P a).1.1 - 1 - k = nI j := hj
  have hB : 0 ≤ ((Int8.ofInt 6).toInt32 + (P a).1.1 - 1 - k).toInt ∧ ((Int8.ofInt 6).toInt32 + (P a).1.1 - 1 - k).toInt < ((10 : Nat) : Int) := by rw [e6]; exact mm_nb hj10 (by omega)
  have hc : ((Int8.ofInt 6).toInt32 + (P a).1.1 - 1 - k).toNatClampNeg = j := by rw [e6]; exact mm_ncl (by omega)
  refine mm_ev_in (Z := mm_m_Fr_under) rfl rfl (Nat.le_of_ble_eq_true rfl) rfl ?_
  exact And.intro a1 (mm_rf a4 (And.intro a1 (mm_rf (lx_i ha).1 (And.intro ⟨a2, mm_inb 10 a3 hB⟩ (mm_rf (b := lx_pk ((P a).1.2.2.2 j)) (by
    show mm_a (lx_L h0 P) (a + 1) ((Int8.ofInt 6).toInt32 + (P a).1.1 - 1 - k).toNatClampNeg = _
    rw [hc, lx_a ha hj10]) hQ)))))
