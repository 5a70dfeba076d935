/-! each instruction keeps what holds: calling; who does it, with what -/
def ow (K : mm_H) (j a : Nat) : Prop := lk_np K j = lk_np K a ∧ lk_of K j = lk_of K a ∧ (∀ p, p < lk_np K a → 0 ≤ (mm_a K 93 (4 * j + p)).toInt → 0 ≤ (mm_a K 93 (4 * a + p)).toInt ∧ mm_bel (mm_up K) (mm_a K 93 (4 * a + p)).toInt (mm_a K 93 (4 * j + p)).toInt) ∧ rsb K j a
theorem ow_refl {K : mm_H} {a : Nat} : ow K a a := ⟨rfl, rfl, fun p _ z => ⟨z, mm_bel_refl z⟩, Iff.rfl, fun z => ⟨z, mm_bel_refl z⟩⟩
theorem ow_ov {K : mm_H} {j a : Nat} (h : ov K j a) : ow K j a := by
  obtain ⟨h1, h2, h3, h4, h5, h6⟩ := h
  refine ⟨h3, ?_, h4, h5, h6⟩
  unfold lk_of
  rw [if_pos h1, if_pos h2]
theorem wp_9 {K : mm_H} {g : Nat → mm_V} {F a : Nat} : ∀ p, (lk_wp K g F a p).toInt ≤ 9 := by
  intro p
  cases p with
  | zero => exact (by decide : (9 : Int32).toInt ≤ 9)
  | succ p =>
    show (lk_mn _ _).toInt ≤ 9
    unfold lk_mn
    split
    · rename_i q
      have := e5_9 (A := (mm_a K 93 (4 * a + p) = -1 ∧ ¬ (g (F + p)).1 = 1) ∨ (0 ≤ (mm_a K 93 (4 * a + p)).toInt ∧ ¬ lk_ir (mm_up K) (g (F + p)) (mm_a K 93 (4 * a + p)).toInt)) (B := 0 ≤ (mm_a K 93 (4 * a + p)).toInt ∧ (g (F + p)).1 = 4) (C := 0 ≤ (mm_a K 93 (4 * a + p)).toInt ∧ ¬ (g (F + p)).2.2.1 = 0 ∧ mm_a K 96 (4 * a + p) = 0) (D := ¬ (g (F + p)).2.2.2.1 &&& (mm_a K 94 (4 * a + p) ^^^ (-1)) = 0)
      exact Int.le_trans (Int.le_of_lt q) this
    · exact e5_9
theorem wp9 {K : mm_H} {g : Nat → mm_V} {F a : Nat} : ∀ p, lk_wp K g F a p = 9 → ∀ q, q < p → lk_wf (mm_up K) (g (F + q)) (mm_a K 93 (4 * a + q)) (mm_a K 96 (4 * a + q)) (mm_a K 94 (4 * a + q)) = 9 := by
  intro p
  induction p with
  | zero => intro _ q hq; omega
  | succ p ih =>
    intro h q hq
    obtain ⟨h1, h2⟩ := mn9 (wp_9 p) e5_9 h
    by_cases e : q = p
    · rw [e]; exact h2
    · exact ih h1 q (by omega)
section
variable {K s : mm_H} {nC nF nM n d m len i H k : Nat} {X : Nat → mm_F}
theorem call_args (tw : TW K nC nF nM s n d m len X i H) (o : lk_o K m i = 11) : lk_np K (lk_a K m i) + lk_of K (lk_a K m i) ≤ H ∧ (mm_a K 93 (4 * lk_a K m i + 3) = -2 ∨ H - (lk_np K (lk_a K m i) + lk_of K (lk_a K m i)) < 4) ∧ (∀ p, p < lk_np K (lk_a K m i) → 0 ≤ (mm_a K 93 (4 * lk_a K m i + p)).toInt → rt K nC s n (mm_a K 93 (4 * lk_a K m i + p)).toInt (mm_a s 119 (4 * d + (H - (lk_np K (lk_a K m i) + lk_of K (lk_a K m i))) + (lk_of K (lk_a K m i) + p)))) ∧ (mm_a K 95 (lk_a K m i) = 0 → rt K nC s n (mm_a K 87 (lk_a K m i)).toInt (mm_a s 119 (4 * d + (H - (lk_np K (lk_a K m i) + lk_of K (lk_a K m i)))))) := by
  obtain ⟨W, hi, a2, a1, a0, h4, eX, f⟩ := tw
  obtain ⟨n1, n2, n3⟩ := no_i W hi eX h4
  obtain ⟨g1, g2, g3⟩ := lk_good n2
  rw [o] at g2 g3 n3
  generalize lk_a K m i = a at *
  have g2' : lk_np K a + lk_of K a ≤ H := g2
  have g3' : H - (lk_np K a + lk_of K a) + (if mm_a K 93 (4 * a + 3) = -2 then 0 else 1) ≤ 4 := g3
  have n3' : lk_wc K (X i).2.2.2 H a = 9 := n3
  have par : lk_wp K (X i).2.2.2 (6 + H - lk_np K a) a (lk_np K a) = 9 ∧ (mm_a K 95 a = 0 → lk_wb (mm_up K) ((X i).2.2.2 (6 + H - lk_np K a - 1)) (mm_a K 87 a) 0 1 1 = 9) := by
    unfold lk_wc at n3'
    by_cases q : mm_a K 95 a = 0
    · rw [if_neg (fun z => z q)] at n3'
      obtain ⟨y1, y2⟩ := mn9 (wp_9 _) e5_9 n3'
      exact ⟨y1, fun _ => y2⟩
    · rw [if_pos q] at n3'
      exact ⟨n3', fun z => absurd z q⟩
  refine ⟨g2', ?_, fun p hp z => ?_, fun z => ?_⟩
  · by_cases q : mm_a K 93 (4 * a + 3) = -2
    · exact Or.inl q
    · rw [if_neg q] at g3'
      exact Or.inr (by omega)
  · have w := wp9 _ par.1 p hp
    have A := e5_A w
    have e1 : 6 + H - lk_np K a + p = 6 + (H - lk_np K a + p) := by omega
    have ir := Classical.byContradiction (fun y => A (Or.inr ⟨z, y⟩))
    rw [e1] at ir
    have ft := (f.2 (H - lk_np K a + p) (by omega)).1
    have r := vt_ir (WM_vr W hi eX h4 (by omega)) ir ft
    have e2 : 4 * d + (H - (lk_np K a + lk_of K a)) + (lk_of K a + p) = 4 * d + (H - lk_np K a + p) := by omega
    rw [e2]
    exact r
  · have of1 : lk_of K a = 1 := if_pos z
    have ir : lk_ir (mm_up K) ((X i).2.2.2 (6 + H - lk_np K a - 1)) (mm_a K 87 a).toInt := Classical.not_not.mp (e5_A (par.2 z))
    have e1 : 6 + H - lk_np K a - 1 = 6 + (H - (lk_np K a + lk_of K a)) := by omega
    rw [e1] at ir
    exact vt_ir (WM_vr W hi eX h4 (by omega)) ir (f.2 (H - (lk_np K a + lk_of K a)) (by omega)).1
/-- who does a call, and that it fits -/
def dj (K : mm_H) (nC nF nM : Nat) (s : mm_H) (n a : Nat) (x : Int32) (j : Nat) : Prop := j < nM ∧ ∃ c, c < nC ∧ mm_a K 87 j = nI c ∧ (¬ mm_a K 85 c = 0 → ow K j a ∧ lk_fine K nC nF nM j ∧ (mm_a K 95 j = 0 → rt K nC s n (c : Int) x))
theorem own_c (F : KF K nC nF nM) {a : Nat} (ha : a < nM) : ∃ c, c < nC ∧ mm_a K 87 a = nI c := by
  have h6 := F.1.2.1
  have z := (F.2.2.2.2.2.1 a ha).2.1
  have y := (F.2.2.2.2.1.2 a ha).2.1
  exact ⟨(mm_a K 87 a).toInt.toNat, by omega, mm_nz (by omega) (by omega)⟩
theorem dj_st (F : KF K nC nF nM) {a : Nat} {x : Int32} (ha : a < nM) (sa : ¬ mm_a K 95 a = 0) : dj K nC nF nM s n a x a := by
  obtain ⟨c, c1, c2⟩ := own_c F ha
  exact ⟨ha, c, c1, c2, fun z => ⟨ow_refl, F.2.2.2.2.2.2.2.2.2.2.1 a c ha c1 c2 z, fun y => absurd y sa⟩⟩
theorem dj_vi (F : KF K nC nF nM) {a u c : Nat} {x : Int32} (ha : a < nM) (sa : mm_a K 95 a = 0) (u1 : 0 < u) (u2 : u ≤ n) (ex : x = nI u) (c1 : c < nC) (e6 : mm_a s 116 u = nI c) (b : mm_bel (mm_up K) (c : Int) (mm_a K 87 a).toInt) : ∃ j, lk_at K nM (mm_a K 88 a) (c : Int) j ∧ dj K nC nF nM s n a x j := by
  have h6 := F.1.2.1
  have U := F.2.1
  obtain ⟨A, A1, A2⟩ := own_c F ha
  have tA : (mm_a K 87 a).toInt = (A : Int) := by rw [A2]; exact mm_nt (by omega)
  rw [tA] at b
  have hA : lk_hI K (A : Int) (mm_a K 88 a) a := ⟨tA, rfl⟩
  obtain ⟨j, hj⟩ := lk_at_ex (K := K) (nM := nM) (n := mm_a K 88 a) (x := (c : Int)) (by
    obtain ⟨_, k, hk⟩ := b
    exact ⟨k, a, by omega, ha, by rw [hk]; exact hA⟩)
  obtain ⟨k, k1, k2, k3, k4, k5⟩ := at_mid U (by omega) ha hA b hj
  obtain ⟨D, D1, D2⟩ := own_c F k3
  have tD : (mm_a K 87 j).toInt = (D : Int) := by rw [D2]; exact mm_nt (by omega)
  rw [tD] at k1 k5
  refine ⟨j, hj, k3, D, D1, D2, fun z => ⟨ow_ov (ov_ind F ha A2 A1 sa D j k3 D1 D2 k4 k5 z), F.2.2.2.2.2.2.2.2.2.2.1 j D k3 D1 D2 z, fun _ => Or.inr ⟨u, c, u1, u2, ex, c1, e6, ?_⟩⟩⟩
  exact ⟨by omega, k, k1⟩
theorem fine_os {j : Nat} (h : lk_fine K nC nF nM j) (b : ¬ mm_a K 90 j = -1) : ¬ lk_os K j := by
  obtain ⟨_, len, Y, t, ML, ins⟩ := h
  rcases ins with ⟨_, _, _, y | y⟩ | ⟨y, _⟩ | ⟨y, _⟩
  · exact absurd y.2 (by decide)
  · exact y.1
  · exact absurd y b
  · exact absurd y b
theorem fine_WM {j : Nat} (hj : j < nM) (h : lk_fine K nC nF nM j) (b : mm_a K 90 j = -1) : ∃ len Y, 0 < len ∧ WM K nC nF nM j len Y := by
  obtain ⟨_, len, Y, t, ML, ins⟩ := h
  rcases ins with ⟨y, _⟩ | ⟨_, _, _, _, y⟩ | ⟨_, y1, y2, y3, y4⟩
  · exact absurd b y
  · exact absurd y (by decide)
  · refine ⟨len, Y, y1, hj, b, ML, y2, ?_⟩
    rcases y4 with z | ⟨z1, z2⟩
    · exact z.1
    · rcases lk_er_r (h := K) (nF := nF) (m := j) (len := len) (i := t) (φ := Y t) with e | e | e | e | e | e | e | e <;> rw [e] at z2 <;> exact absurd z2 (by decide)
theorem kind_j (F : KF K nC nF nM) {j : Nat} (hj : j < nM) (b : ¬ mm_a K 90 j = -1) : mm_a K 90 j = 0 ∨ mm_a K 90 j = 1 ∨ mm_a K 90 j = 2 := by
  obtain ⟨len, l⟩ := F.2.2.2.2.2.2.1 j hj
  have z := l.2.2.2.2.2.1
  have m1 : ¬ (mm_a K 90 j).toInt = -1 := fun y => b (Int32.toInt_inj.mp (by rw [y]; decide))
  have : (mm_a K 90 j).toInt = 0 ∨ (mm_a K 90 j).toInt = 1 ∨ (mm_a K 90 j).toInt = 2 := by omega
  rcases this with y | y | y
  · exact Or.inl (Int32.toInt_inj.mp (by rw [y]; decide))
  · exact Or.inr (Or.inl (Int32.toInt_inj.mp (by rw [y]; decide)))
  · exact Or.inr (Or.inr (Int32.toInt_inj.mp (by rw [y]; decide)))
/-- the built-in ones: what they give -/
theorem os_n (F : KF K nC nF nM) {j : Nat} (hj : j < nM) (os : ¬ lk_os K j) (b : ¬ mm_a K 90 j = -1) : (mm_a K 90 j = 0 → mm_a K 93 (4 * j + 3) = -1) ∧ (mm_a K 90 j = 1 → 0 < lk_np K j ∧ mm_a K 93 (4 * j + 3) = -2) ∧ (mm_a K 90 j = 2 → 0 < lk_np K j ∧ ¬ mm_a K 93 (4 * j + 3) = -2 ∧ (0 ≤ (mm_a K 93 (4 * j + 3)).toInt → 0 ≤ (mm_a K 93 (4 * j)).toInt ∧ mm_bel (mm_up K) (mm_a K 93 (4 * j)).toInt (mm_a K 93 (4 * j + 3)).toInt)) := by
  have MV := F.2.2.2.2.2.1 j hj
  have h10 := F.1.2.2.2
  unfold lk_os at os
  refine ⟨fun z => ?_, fun z => ?_, fun z => ?_⟩
  · rw [if_pos z] at os
    exact Classical.not_not.mp os
  · rw [if_neg (by rw [z]; decide)] at os
    by_cases q : lk_np K j = 0
    · rw [if_pos q] at os; exact absurd trivial os
    · rw [if_neg q, if_pos z] at os
      exact ⟨by omega, Classical.byContradiction (fun y => os (Or.inr y))⟩
  · rw [if_neg (by rw [z]; decide)] at os
    by_cases q : lk_np K j = 0
    · rw [if_pos q] at os; exact absurd trivial os
    · rw [if_neg q, if_neg (by rw [z]; decide)] at os
      have p0 : ¬ mm_a K 93 (4 * j) = -2 := MV.2.2.2.2.2 0 (by omega)
      refine ⟨by omega, ?_⟩
      by_cases q2 : mm_a K 93 (4 * j) = -1 ∨ (mm_a K 93 (4 * j + 3)).toInt < 0
      · rw [if_pos q2] at os
        have e : mm_a K 93 (4 * j) = mm_a K 93 (4 * j + 3) := Classical.not_not.mp os
        rw [← e] at q2 ⊢
        refine ⟨p0, fun y => ?_⟩
        rcases q2 with x | x
        · rw [x] at y; exact absurd y (by decide)
        · omega
      · rw [if_neg q2] at os
        have g0 : ¬ (mm_a K 93 (4 * j + 3)).toInt < 0 := fun y => q2 (Or.inr y)
        refine ⟨fun y => g0 (by rw [y]; decide), fun _ => ⟨?_, Classical.byContradiction (fun y => os (Or.inl y))⟩⟩
        have sv := (F.2.2.2.1.2 (4 * j) (by omega)).1.1
        have m1 : ¬ (mm_a K 93 (4 * j)).toInt = -1 := fun y => q2 (Or.inl (Int32.toInt_inj.mp (by rw [y]; decide)))
        have m2 : ¬ (mm_a K 93 (4 * j)).toInt = -2 := fun y => p0 (Int32.toInt_inj.mp (by rw [y]; decide))
        omega
theorem dj_rs (F : KF K nC nF nM) {a B j : Nat} {x : Int32} (hB : mm_a K 93 (4 * a + 3) = -2 ∨ B < 4) (h : dj K nC nF nM s n a x j) : rs_dj K B j := by
  have h6 := F.1.2.1
  have h10 := F.1.2.2.2
  obtain ⟨hj, c, c1, c2, c3⟩ := h
  obtain ⟨len, l⟩ := F.2.2.2.2.2.2.1 j hj
  refine ⟨by omega, l.2.2.2.2.2.1.1, c, by omega, c2, fun z b => ?_⟩
  obtain ⟨o1, o2, _⟩ := c3 z
  obtain ⟨k0, k1, k2⟩ := os_n F hj (fine_os o2 b) b
  rcases kind_j F hj b with e | e | e
  · refine Or.inr (hB.elim (fun y => ?_) id)
    have w := o1.2.2.2.1.mpr y
    rw [k0 e] at w
    exact absurd w (by decide)
  · exact Or.inl e
  · refine Or.inr (hB.elim (fun y => ?_) id)
    exact absurd (o1.2.2.2.1.mpr y) (k2 e).2.1
end
