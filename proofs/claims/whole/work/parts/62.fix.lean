/-! THE FRAMES OF A WHOLE METHOD: closed ones, the least; what comes together -/
def lk_fu (X : Nat → mm_F) (t : Nat) (ρ : mm_F) : Nat → mm_F := fun j => if j = t then ρ else X j
theorem lk_fu_t {X : Nat → mm_F} {t : Nat} {ρ : mm_F} : lk_fu X t ρ t = ρ := if_pos rfl
theorem lk_fu_f {X : Nat → mm_F} {t j : Nat} {ρ : mm_F} (h : ¬ j = t) : lk_fu X t ρ j = X j := if_neg h
/-- what comes into a frame, and what is there then -/
def lk_jn (up : Nat → Int) (φ ψ ρ : mm_F) : Prop := (φ.1 = -2 ∧ mm_feq φ ρ) ∨ (¬ φ.1 = -2 ∧ ρ.1 = -2 ∧ (ψ.1 = -2 ∨ (0 ≤ φ.1.toInt ∧ ¬ φ.1 = ψ.1))) ∨ (¬ φ.1 = -2 ∧ φ.1.toInt < 0 ∧ mm_feq ψ ρ) ∨ (0 ≤ φ.1.toInt ∧ φ.1 = ψ.1 ∧ mm_fj up φ ψ ρ)
theorem lk_m2n {a : Int32} (h : a = -2) : a.toInt < 0 := by rw [h]; decide
theorem lk_m1n {a : Int32} (h : a = -1) : a.toInt < 0 := by rw [h]; decide
theorem lk_jn_ok {up : Nat → Int} {na : Int32 → Int32} (U : mm_upo up) {φ ψ ρ : mm_F} (o1 : mm_fok na φ) (o2 : mm_fok na ψ) (j : lk_jn up φ ψ ρ) : mm_fok na ρ := by
  rcases j with ⟨_, e⟩ | ⟨_, e, _⟩ | ⟨_, _, e⟩ | ⟨p, e, j⟩
  · exact mm_fok_eq e o1
  · exact fun z => absurd e (mm_not_m2 z)
  · exact mm_fok_eq e o2
  · exact mm_fj_ok U e p o1 o2 j
theorem lk_jn_pr {up : Nat → Int} {φ ψ ρ : mm_F} (p2 : ψ.1 = -2 ∨ 0 ≤ ψ.1.toInt) (j : lk_jn up φ ψ ρ) : ρ.1 = -2 ∨ 0 ≤ ρ.1.toInt := by
  rcases j with ⟨a, e⟩ | ⟨_, e, _⟩ | ⟨_, _, e⟩ | ⟨p, _, j⟩
  · exact Or.inl (e.1.symm.trans a)
  · exact Or.inl e
  · rw [← e.1]; exact p2
  · rw [j.1]; exact Or.inr p
theorem lk_jn_up {up : Nat → Int} {na : Int32 → Int32} {φ ψ ρ : mm_F} (o1 : mm_fok na φ) (o2 : mm_fok na ψ) (p2 : ψ.1 = -2 ∨ 0 ≤ ψ.1.toInt) (j : lk_jn up φ ψ ρ) : mm_fle up ψ ρ ∧ (lk_pr φ → mm_fle up φ ρ) := by
  rcases j with ⟨a, e⟩ | ⟨_, e, _⟩ | ⟨a, b, e⟩ | ⟨p, q, j⟩
  · exact ⟨Or.inr (Or.inl (e.1.symm.trans a)), fun _ => Or.inr (Or.inl (e.1.symm.trans a))⟩
  · exact ⟨Or.inr (Or.inl e), fun _ => Or.inr (Or.inl e)⟩
  · refine ⟨mm_fle_of_eq e (Or.inr p2), fun z => ?_⟩
    rcases z with z | z | z
    · exact Or.inl z
    · exact absurd z a
    · omega
  · have := mm_fj_up q p o1 o2 j
    exact ⟨this.2, fun _ => this.1⟩
theorem lk_jn_least {up : Nat → Int} {na : Int32 → Int32} (U : mm_upo up) {φ ψ ρ χ : mm_F} (o1 : mm_fok na φ) (o2 : mm_fok na ψ) (o3 : mm_fok na χ) (p2 : ψ.1 = -2 ∨ 0 ≤ ψ.1.toInt) (j : lk_jn up φ ψ ρ) (h1 : mm_fle up φ χ) (h2 : mm_fle up ψ χ) : mm_fle up ρ χ := by
  rcases j with ⟨a, e⟩ | ⟨a, e, c⟩ | ⟨a, b, e⟩ | ⟨p, q, j⟩
  · have : mm_fle up ρ φ := Or.inr (Or.inl a)
    exact mm_fle_trans this h1
  · refine Or.inr (Or.inl ?_)
    rcases h2 with z | z | ⟨z1, z2, _⟩
    · rcases p2 with y | y
      · exact absurd (z.symm.trans y) (by decide)
      · exact absurd z (mm_not_m1 y)
    · exact z
    · rcases c with c | ⟨c1, c2⟩
      · exact absurd c (mm_not_m2 z2)
      · rcases h1 with y | y | ⟨y1, _⟩
        · exact absurd y (mm_not_m1 c1)
        · exact y
        · exact absurd (y1.trans z1.symm) c2
  · have : mm_fle up ρ ψ := mm_fle_of_eq (mm_feq_symm e) (by rw [← e.1]; exact Or.inr p2)
    exact mm_fle_trans this h2
  · exact mm_fj_least U q p o1 o2 o3 j h1 h2
theorem lk_fn_eq {φ ψ : mm_F} (e : mm_feq φ ψ) : lk_fn φ = lk_fn ψ := by
  by_cases q : φ.1 = -2
  · rw [lk_fn_top q, lk_fn_top (e.1.symm.trans q)]
  · have q' : ¬ ψ.1 = -2 := fun z => q (e.1.trans z)
    by_cases p : φ.1.toInt < 0
    · rw [lk_fn_bot q p, lk_fn_bot q' (by rw [← e.1]; exact p)]
    · have p0 : 0 ≤ φ.1.toInt := by omega
      obtain ⟨a, b, c⟩ := e.2 p0
      rw [lk_fn_in p0, lk_fn_in (φ := ψ) (by rw [← e.1]; exact p0), ← e.1]
      have s1 : lk_sn φ = lk_sn ψ := by unfold lk_sn; rw [a, b]
      have s2 : ∀ n, n ≤ (6 + φ.1.toInt).toNat → lk_sum (fun v => lk_vn (φ.2.2.2 v)) n = lk_sum (fun v => lk_vn (ψ.2.2.2 v)) n := by
        intro n
        induction n with
        | zero => intro _; rfl
        | succ n ih =>
          intro hn
          show lk_sum _ n + lk_vn (φ.2.2.2 n) = lk_sum _ n + lk_vn (ψ.2.2.2 n)
          rw [ih (by omega), c n (by show (n : Int) < 6 + φ.1.toInt; omega)]
      rw [s1, s2 _ (Nat.le_refl _)]
theorem lk_jn_rank {up : Nat → Int} {na : Int32 → Int32} (U : mm_upo up) {φ ψ ρ : mm_F} (o1 : mm_fok na φ) (o2 : mm_fok na ψ) (p2 : ψ.1 = -2 ∨ 0 ≤ ψ.1.toInt) (j : lk_jn up φ ψ ρ) : lk_fn φ ≤ lk_fn ρ ∧ (lk_fn φ = lk_fn ρ → mm_feq φ ρ) := by
  have o3 := lk_jn_ok U o1 o2 j
  have p3 := lk_jn_pr p2 j
  by_cases q : lk_pr φ
  · exact lk_fn_le U o1 o3 (fun _ => Or.inr p3) ((lk_jn_up o1 o2 p2 j).2 q)
  · have q2 : ¬ φ.1 = -2 := fun z => q (Or.inr (Or.inl z))
    have q3 : φ.1.toInt < 0 := by
      rcases Int.lt_or_le φ.1.toInt 0 with z | z
      · exact z
      · exact absurd (Or.inr (Or.inr z)) q
    rw [lk_fn_bot q2 q3]
    refine ⟨Nat.zero_le _, fun z => ?_⟩
    rcases p3 with y | y
    · rw [lk_fn_top y] at z; omega
    · rw [lk_fn_in y] at z; omega
/-- the frame in front of the first instruction -/
def lk_of (h : mm_H) (m : Nat) : Nat := if mm_a h 95 m = 0 then 1 else 0
def lk_sp (h : mm_H) (m n v : Nat) : mm_V := if v = 0 ∧ mm_a h 95 m = 0 then (3, mm_a h 87 m, 0, 0, -1) else if lk_of h m ≤ v ∧ v < lk_of h m + n then lk_sv (mm_a h 93 (4 * m + (v - lk_of h m))) (mm_a h 96 (4 * m + (v - lk_of h m))) (mm_a h 94 (4 * m + (v - lk_of h m))) else (0, -1, 0, 0, -1)
def lk_s0 (h : mm_H) (m v : Nat) : mm_V := lk_sp h m (lk_np h m) v
def lk_sf (h : mm_H) (m : Nat) : mm_F := (0, -1, 0, lk_s0 h m)
/-- what a method says of itself -/
def lk_MV (h : mm_H) (m : Nat) : Prop := m < 10 ∧ (0 ≤ (mm_a h 87 m).toInt ∧ (mm_a h 87 m).toInt ≤ 5) ∧ mm_a h 89 m = nI (lk_np h m) ∧ lk_np h m ≤ 3 ∧ (mm_a h 95 m = 0 ∨ mm_a h 95 m = 1) ∧ ∀ p, p < lk_np h m → ¬ mm_a h 93 (4 * m + p) = -2
theorem lk_of1 {h : mm_H} {m : Nat} : lk_of h m ≤ 1 := by unfold lk_of; split <;> omega
theorem lk_sf_ok {h : mm_H} {m : Nat} (S : lk_SV h) (M : lk_MV h m) : mm_fok (lk_na h m) (lk_sf h m) ∧ 0 ≤ (lk_sf h m).1.toInt := by
  have z0 : (0 : Int32).toInt = 0 := by decide
  refine ⟨fun _ => ⟨(by decide : (0 : Int32).toInt ≤ 4), fun _ => rfl, (by decide : 0 ≤ (0 : Int32).toInt ∧ (0 : Int32).toInt < 4096), (by decide : -1 ≤ (-1 : Int32).toInt ∧ (-1 : Int32).toInt ≤ 19), fun v _ => ?_⟩, (by decide : 0 ≤ (0 : Int32).toInt)⟩
  show mm_vr (lk_s0 h m v) ∧ ((lk_s0 h m v).1 = 4 → _) ∧ (v < 6 → (lk_s0 h m v).2.2.2.2 = -1)
  unfold lk_s0 lk_sp
  split
  · exact ⟨⟨(by decide : 0 ≤ (3 : Int32).toInt ∧ (3 : Int32).toInt ≤ 4), fun z => absurd z (by decide : ¬ (3 : Int32).toInt < 3), fun _ => M.2.1, Or.inl rfl, (by decide : 0 ≤ (0 : Int32).toInt ∧ (0 : Int32).toInt ≤ 15), (by decide : -1 ≤ (-1 : Int32).toInt ∧ (-1 : Int32).toInt ≤ 5)⟩, fun z => absurd z (by decide : ¬ (3 : Int32) = 4), fun _ => rfl⟩
  · split
    · rename_i q
      have hp : v - lk_of h m < lk_np h m := by omega
      have hm := M.1
      have h3 := M.2.2.2.1
      obtain ⟨a, b, c⟩ := S.2 (4 * m + (v - lk_of h m)) (by omega)
      have a' : ¬ (mm_a h 93 (4 * m + (v - lk_of h m))).toInt = -2 := lk_nn (n := -2) (M.2.2.2.2.2 _ hp) (by decide)
      obtain ⟨r1, r2⟩ := lk_sv_vr (s := mm_a h 93 (4 * m + (v - lk_of h m))) (by omega) b c
      refine ⟨r1, fun z => absurd z r2, fun _ => ?_⟩
      unfold lk_sv
      split <;> rfl
    · exact ⟨(by unfold mm_vr; decide), fun z => absurd z (by decide : ¬ (0 : Int32) = 4), fun _ => rfl⟩
/-- closed; as they must be; the least -/
def lk_PF (h : mm_H) (m len : Nat) (X : Nat → mm_F) : Prop := mm_fle (mm_up h) (lk_sf h m) (X 0) ∧ ∀ i, i < len → ¬ (X i).1 = -1 → ∀ w, w < 3 → 0 ≤ lk_w h m i w → lk_w h m i w < (len : Int) → mm_fle (mm_up h) (lk_out h m i w (X i)) (X (lk_w h m i w).toNat)
def lk_VF (h : mm_H) (m len : Nat) (X : Nat → mm_F) : Prop := ∀ i, i < len → mm_fok (lk_na h m) (X i) ∧ lk_pr (X i)
def lk_In (h : mm_H) (m len : Nat) (X : Nat → mm_F) : Prop := (∀ i, i < len → mm_fok (lk_na h m) (X i)) ∧ ∀ Y, lk_VF h m len Y → lk_PF h m len Y → ∀ i, i < len → mm_fle (mm_up h) (X i) (Y i)
def lk_LF (h : mm_H) (m len : Nat) (X : Nat → mm_F) : Prop := lk_VF h m len X ∧ lk_PF h m len X ∧ ∀ Y, lk_VF h m len Y → lk_PF h m len Y → ∀ i, i < len → mm_fle (mm_up h) (X i) (Y i)
theorem lk_LF_uni {h : mm_H} {m len : Nat} (U : mm_upo (mm_up h)) {X Y : Nat → mm_F} (LX : lk_LF h m len X) (LY : lk_LF h m len Y) : ∀ i, i < len → mm_feq (X i) (Y i) := fun i hi => mm_fle_anti U (LX.1 i hi).1 (LY.1 i hi).1 (LX.2.2 Y LY.1 LY.2.1 i hi) (LY.2.2 X LX.1 LX.2.1 i hi)
/-- what comes along a way comes into every closed row too -/
theorem lk_way {h : mm_H} {m len i w : Nat} {X : Nat → mm_F} (I : lk_In h m len X) (A : lk_AV h m i) (hi : i < len) (n1 : ¬ (X i).1 = -1) (hw : w < 3) (w0 : 0 ≤ lk_w h m i w) (w1 : lk_w h m i w < (len : Int)) : ∀ Y, lk_VF h m len Y → lk_PF h m len Y → mm_fle (mm_up h) (lk_out h m i w (X i)) (Y (lk_w h m i w).toNat) := by
  intro Y VY PY
  have l := I.2 Y VY PY i hi
  have nY : ¬ (Y i).1 = -1 := by
    intro z
    rcases l with l | l | ⟨l1, l2, _⟩
    · exact n1 l
    · exact absurd (z.symm.trans l) (by decide)
    · exact n1 (l1.trans z)
  exact mm_fle_trans (lk_out_mono A (I.1 i hi) (VY i hi).1 n1 l) (PY.2 i hi nY w hw w0 w1)
theorem lk_In_jn {h : mm_H} {m len T : Nat} {X : Nat → mm_F} {ψ ρ : mm_F} (U : mm_upo (mm_up h)) (I : lk_In h m len X) (hT : T < len) (o : mm_fok (lk_na h m) ψ) (p : ψ.1 = -2 ∨ 0 ≤ ψ.1.toInt) (j : lk_jn (mm_up h) (X T) ψ ρ) (l : ∀ Y, lk_VF h m len Y → lk_PF h m len Y → mm_fle (mm_up h) ψ (Y T)) : lk_In h m len (lk_fu X T ρ) := by
  refine ⟨fun i hi => ?_, fun Y VY PY i hi => ?_⟩
  · by_cases q : i = T
    · rw [q, lk_fu_t]; exact lk_jn_ok U (I.1 T hT) o j
    · rw [lk_fu_f q]; exact I.1 i hi
  · by_cases q : i = T
    · rw [q, lk_fu_t]; exact lk_jn_least U (I.1 T hT) o (VY T hT).1 p j (I.2 Y VY PY T hT) (l Y VY PY)
    · rw [lk_fu_f q]; exact I.2 Y VY PY i hi
theorem lk_In_ga {h : mm_H} {m len T : Nat} {X : Nat → mm_F} {ρ : mm_F} (I : lk_In h m len X) (o : ρ.1.toInt < 0) (l : ∀ Y, lk_VF h m len Y → lk_PF h m len Y → (Y T).1 = -2) : lk_In h m len (lk_fu X T ρ) := by
  refine ⟨fun i hi => ?_, fun Y VY PY i hi => ?_⟩
  · by_cases q : i = T
    · rw [q, lk_fu_t]; exact fun z => by omega
    · rw [lk_fu_f q]; exact I.1 i hi
  · by_cases q : i = T
    · rw [q, lk_fu_t]; exact Or.inr (Or.inl (l Y VY PY))
    · rw [lk_fu_f q]; exact I.2 Y VY PY i hi
theorem lk_fin {h : mm_H} {m len : Nat} {X : Nat → mm_F} (S : lk_SV h) (A : ∀ i, i < len → lk_AV h m i) (h20 : len ≤ 20) (I : lk_In h m len X) (P : lk_PF h m len X) : lk_LF h m len X := by
  have key : ∀ i, i < len → lk_pr (X i) := by
    have up : ∀ (φ ψ : mm_F), (¬ φ.1 = -1) → mm_fle (mm_up h) φ ψ → lk_pr ψ := by
      intro φ ψ n l
      rcases l with l | l | ⟨l1, l2, _⟩
      · exact absurd l n
      · exact Or.inr (Or.inl l)
      · exact Or.inr (Or.inr (by rw [← l1]; exact l2))
    have ex : ∃ Y : Nat → mm_F, ∀ i, (lk_pr (X i) ∧ Y i = X i) ∨ (¬ lk_pr (X i) ∧ Y i = (-1, -1, 0, fun _ => (0, -1, 0, 0, -1))) := by
      refine ⟨fun i => @ite _ (lk_pr (X i)) (Classical.propDecidable _) (X i) (-1, -1, 0, fun _ => (0, -1, 0, 0, -1)), fun i => ?_⟩
      by_cases q : lk_pr (X i)
      · exact Or.inl ⟨q, if_pos q⟩
      · exact Or.inr ⟨q, if_neg q⟩
    obtain ⟨Y, hY⟩ := ex
    have yt : ∀ i, lk_pr (X i) → Y i = X i := fun i q => by
      rcases hY i with ⟨_, e⟩ | ⟨n, _⟩
      · exact e
      · exact absurd q n
    have VY : lk_VF h m len Y := by
      intro i hi
      rcases hY i with ⟨q, e⟩ | ⟨q, e⟩
      · rw [e]; exact ⟨I.1 i hi, q⟩
      · rw [e]; exact ⟨fun z => absurd z (by decide), Or.inl rfl⟩
    have PY : lk_PF h m len Y := by
      refine ⟨?_, fun i hi n1 w hw w0 w1 => ?_⟩
      · rw [yt 0 (up _ _ (show ¬ (0 : Int32) = -1 by decide) P.1)]; exact P.1
      · rcases hY i with ⟨q, e⟩ | ⟨q, e⟩
        · rw [e] at n1 ⊢
          have l := P.2 i hi n1 w hw w0 w1
          have t1 := up _ _ (lk_out_ok S (by omega) (A i hi) (I.1 i hi)).2 l
          rw [yt _ t1]
          exact l
        · rw [e] at n1
          exact absurd rfl n1
    intro i hi
    rcases hY i with ⟨q, e⟩ | ⟨q, e⟩
    · exact q
    · have l := I.2 Y VY PY i hi
      rw [e] at l
      rcases l with l | l | ⟨l1, _⟩
      · exact Or.inl l
      · exact absurd l (by decide)
      · exact Or.inl l1
  exact ⟨fun i hi => ⟨I.1 i hi, key i hi⟩, P, I.2⟩
/-- ranks of all -/
noncomputable def lk_rs (len : Nat) (X : Nat → mm_F) : Nat := lk_sum (fun i => lk_fn (X i)) len
theorem lk_rs_max {h : mm_H} {m len : Nat} {X : Nat → mm_F} (I : ∀ i, i < len → mm_fok (lk_na h m) (X i)) : lk_rs len X ≤ len * 255 := lk_sum_max len (fun i hi => lk_fn_max (I i hi))
theorem lk_rs_up {len T : Nat} {X : Nat → mm_F} {ρ : mm_F} (hT : T < len) (l : lk_fn (X T) ≤ lk_fn ρ) : lk_rs len X ≤ lk_rs len (lk_fu X T ρ) ∧ (lk_rs len X = lk_rs len (lk_fu X T ρ) → lk_fn (X T) = lk_fn ρ) := by
  have := lk_sum_le (g := fun i => lk_fn (X i)) (g' := fun i => lk_fn (lk_fu X T ρ i)) len (fun v _ => by
    show lk_fn (X v) ≤ lk_fn (lk_fu X T ρ v)
    by_cases q : v = T
    · rw [q, lk_fu_t]; exact l
    · rw [lk_fu_f q]; exact Nat.le_refl _)
  refine ⟨this.1, fun z => ?_⟩
  have y : lk_fn (X T) = lk_fn (lk_fu X T ρ T) := this.2 z T hT
  rw [lk_fu_t] at y
  exact y
