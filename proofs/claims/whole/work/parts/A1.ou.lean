/-! METHODS THAT ARE BUILT IN: isOutside, isFitBuiltIn -/
def lk_os (h : mm_H) (m : Nat) : Prop := if mm_a h 90 m = 0 then ¬ mm_a h 93 (4 * m + 3) = -1 else if lk_np h m = 0 then True else if mm_a h 90 m = 1 then (¬ mm_a h 93 (4 * m) = -1 ∨ ¬ mm_a h 93 (4 * m + 3) = -2) else if mm_a h 93 (4 * m) = -1 ∨ (mm_a h 93 (4 * m + 3)).toInt < 0 then ¬ mm_a h 93 (4 * m) = mm_a h 93 (4 * m + 3) else (¬ mm_bel (mm_up h) (mm_a h 93 (4 * m)).toInt (mm_a h 93 (4 * m + 3)).toInt ∨ (¬ mm_a h 96 (4 * m) = 0 ∧ mm_a h 96 (4 * m + 3) = 0))
theorem lk_os0 {h : mm_H} {m : Nat} (k : mm_a h 90 m = 0) : lk_os h m = (¬ mm_a h 93 (4 * m + 3) = -1) := if_pos k
theorem lk_os1 {h : mm_H} {m : Nat} (k : ¬ mm_a h 90 m = 0) (n : lk_np h m = 0) : lk_os h m = True := (if_neg k).trans (if_pos n)
theorem lk_os2 {h : mm_H} {m : Nat} (k : mm_a h 90 m = 1) (n : ¬ lk_np h m = 0) : lk_os h m = (¬ mm_a h 93 (4 * m) = -1 ∨ ¬ mm_a h 93 (4 * m + 3) = -2) := (if_neg (by rw [k]; decide)).trans ((if_neg n).trans (if_pos k))
theorem lk_os3 {h : mm_H} {m : Nat} (k0 : ¬ mm_a h 90 m = 0) (k1 : ¬ mm_a h 90 m = 1) (n : ¬ lk_np h m = 0) (c : mm_a h 93 (4 * m) = -1 ∨ (mm_a h 93 (4 * m + 3)).toInt < 0) : lk_os h m = (¬ mm_a h 93 (4 * m) = mm_a h 93 (4 * m + 3)) := (if_neg k0).trans ((if_neg n).trans ((if_neg k1).trans (if_pos c)))
theorem lk_os4 {h : mm_H} {m : Nat} (k0 : ¬ mm_a h 90 m = 0) (k1 : ¬ mm_a h 90 m = 1) (n : ¬ lk_np h m = 0) (c : ¬ (mm_a h 93 (4 * m) = -1 ∨ (mm_a h 93 (4 * m + 3)).toInt < 0)) : lk_os h m = (¬ mm_bel (mm_up h) (mm_a h 93 (4 * m)).toInt (mm_a h 93 (4 * m + 3)).toInt ∨ (¬ mm_a h 96 (4 * m) = 0 ∧ mm_a h 96 (4 * m + 3) = 0)) := (if_neg k0).trans ((if_neg n).trans ((if_neg k1).trans (if_neg c)))
theorem c_Mo_isOutside {ro : mm_Ro} {d m : Nat} {h : mm_H} {Q : Value → mm_H → Prop} (I : mm_SH h) (U : mm_upo (mm_up h)) (S : lk_SV h) (MV : lk_MV h m) (hQ : Q (.int (mm_b (lk_os h m))) h) : mm_ev ro (d + 2) n_Mo_isOutside [.ref 80, .int (nI m)] h Q := by
  have G := mm_hM n_Mo_isOutside rfl
  have hm := MV.1
  have hB : 0 ≤ (nI m).toInt ∧ (nI m).toInt < ((10 : Nat) : Int) := mm_nb hm (by omega)
  have hc : (nI m).toNatClampNeg = m := mm_ncl (by omega)
  have e4 : Int32.ofInt 4 * nI m = nI (4 * m) := pk_mul 4 m
  have hP : 0 ≤ (Int32.ofInt 4 * nI m).toInt ∧ (Int32.ofInt 4 * nI m).toInt < ((40 : Nat) : Int) := by rw [e4]; exact mm_nb (by omega) (by omega)
  have hPc : (Int32.ofInt 4 * nI m).toNatClampNeg = 4 * m := by rw [e4]; exact mm_ncl (by omega)
  have hX : 0 ≤ (Int32.ofInt 4 * nI m + Int32.ofInt 3).toInt ∧ (Int32.ofInt 4 * nI m + Int32.ofInt 3).toInt < ((40 : Nat) : Int) := by rw [lk_43]; exact mm_nb (by omega) (by omega)
  have hXc : (Int32.ofInt 4 * nI m + Int32.ofInt 3).toNatClampNeg = 4 * m + 3 := by rw [lk_43]; exact mm_ncl (by omega)
  have yes : lk_os h m → Q (.int 1) h := fun y => mm_qe hQ (mm_b_t y)
  have no : ¬ lk_os h m → Q (.int 0) h := fun y => mm_qe hQ (mm_b_f y)
  refine mm_ev_in (Z := mm_m_Mo_isOutside) rfl rfl (Nat.le_of_ble_eq_true rfl) rfl ?_
  refine And.intro (k_80 I) (mm_rf (r_588 I) (And.intro ⟨k_90 I, mm_inb 10 (n_90 I) hB⟩ (mm_rf (b := mm_a h 90 m) (by rw [hc]) (And.intro (fun c_16 => mm_go_from G ?_) (fun c_16 => ?_)))))
  · have k0 : ¬ mm_a h 90 m = 0 := c_16
    refine And.intro (k_80 I) (mm_rf (r_587 I) (And.intro ⟨k_89 I, mm_inb 10 (n_89 I) hB⟩ (mm_rf (b := nI (lk_np h m)) (by rw [hc]; exact MV.2.2.1) (And.intro (fun c_41 => mm_go_from G ?_) (fun c_41 => ?_)))))
    · have n0 : ¬ lk_np h m = 0 := fun y => by
        have z : ¬ nI (lk_np h m) = 0 := c_41
        rw [y] at z
        exact z rfl
      refine And.intro (k_80 I) (mm_rf (r_588 I) (And.intro ⟨k_90 I, mm_inb 10 (n_90 I) hB⟩ (mm_rf (b := mm_a h 90 m) (by rw [hc]) (And.intro (fun c_53 => mm_go_from G ?_) (fun c_53 => ?_)))))
      · have k1 : ¬ mm_a h 90 m = 1 := c_53
        have g102 : (mm_a h 93 (4 * m) = -1 ∨ (mm_a h 93 (4 * m + 3)).toInt < 0) → mm_go ro (d + 1) mm_m_Mo_isOutside 102 [.ref 80, .int (nI m), .int (Int32.ofInt 4 * nI m), .int (Int32.ofInt 4 * nI m + Int32.ofInt 3)] [] h Q := by
          intro cc
          have e := lk_os3 k0 k1 n0 cc
          refine mm_go_from G (And.intro (k_80 I) (mm_rf (r_591 I) (And.intro ⟨k_93 I, mm_inb 40 (n_93 I) hP⟩ (mm_rf (b := mm_a h 93 (4 * m)) (by rw [hPc]) (And.intro (k_80 I) (mm_rf (r_591 I) (And.intro ⟨k_93 I, mm_inb 40 (n_93 I) hX⟩ (mm_rf (b := mm_a h 93 (4 * m + 3)) (by rw [hXc]) (And.intro (fun c_114 => mm_go_from G ⟨Or.inl rfl, no (by rw [e]; exact fun y => y c_114)⟩) (fun c_114 => mm_go_from G ⟨Or.inr rfl, yes (by rw [e]; exact c_114)⟩))))))))))
        refine And.intro (k_80 I) (mm_rf (r_591 I) (And.intro ⟨k_93 I, mm_inb 40 (n_93 I) hP⟩ (mm_rf (b := mm_a h 93 (4 * m)) (by rw [hPc]) (And.intro (fun c_90 => g102 (Or.inl c_90)) (fun c_90 => ?_)))))
        refine And.intro (k_80 I) (mm_rf (r_591 I) (And.intro ⟨k_93 I, mm_inb 40 (n_93 I) hX⟩ (mm_rf (b := mm_a h 93 (4 * m + 3)) (by rw [hXc]) (And.intro (fun c_99 => mm_go_from G ?_) (fun c_99 => ?_)))))
        · have z : 0 ≤ (mm_a h 93 (4 * m + 3)).toInt := c_99
          have e := lk_os4 k0 k1 n0 (by
            rintro (y | y)
            · exact c_90 y
            · omega)
          have sp := (S.2 (4 * m) (by omega)).1
          refine And.intro (k_80 I) (mm_rf (r_591 I) (And.intro ⟨k_93 I, mm_inb 40 (n_93 I) hP⟩ (mm_rf (b := mm_a h 93 (4 * m)) (by rw [hPc]) (And.intro (k_80 I) (mm_rf (r_591 I) (And.intro ⟨k_93 I, mm_inb 40 (n_93 I) hX⟩ (mm_rf (b := mm_a h 93 (4 * m + 3)) (by rw [hXc]) (And.intro ⟨rfl, k_80 I⟩ (c_Mo_isBelow I U (by omega) (And.intro (fun c_139 => mm_go_from G (mm_go_from G ⟨Or.inr rfl, yes (by rw [e]; exact Or.inl (mm_b0.mp c_139))⟩)) (fun c_139 => ?_)))))))))))
          have bl := mm_nn c_139
          refine And.intro (k_80 I) (mm_rf (r_594 I) (And.intro ⟨k_96 I, mm_inb 40 (n_96 I) hP⟩ (mm_rf (b := mm_a h 96 (4 * m)) (by rw [hPc]) (And.intro (fun c_148 => mm_go_from G ⟨Or.inl rfl, no (by rw [e]; rintro (y | y); exact y bl; exact y.1 c_148)⟩) (fun c_148 => ?_)))))
          exact And.intro (k_80 I) (mm_rf (r_594 I) (And.intro ⟨k_96 I, mm_inb 40 (n_96 I) hX⟩ (mm_rf (b := mm_a h 96 (4 * m + 3)) (by rw [hXc]) (And.intro (fun c_157 => mm_go_from G ⟨Or.inl rfl, no (by rw [e]; rintro (y | y); exact y bl; exact c_157 y.2)⟩) (fun c_157 => mm_go_from G ⟨Or.inr rfl, yes (by rw [e]; exact Or.inr ⟨c_148, mm_no c_157⟩)⟩)))))
        · have z : ¬ 0 ≤ (mm_a h 93 (4 * m + 3)).toInt := c_99
          have w := g102 (Or.inr (by omega))
          have e := lk_os3 k0 k1 n0 (Or.inr (show (mm_a h 93 (4 * m + 3)).toInt < 0 by omega))
          exact (And.intro (k_80 I) (mm_rf (r_591 I) (And.intro ⟨k_93 I, mm_inb 40 (n_93 I) hP⟩ (mm_rf (b := mm_a h 93 (4 * m)) (by rw [hPc]) (And.intro (k_80 I) (mm_rf (r_591 I) (And.intro ⟨k_93 I, mm_inb 40 (n_93 I) hX⟩ (mm_rf (b := mm_a h 93 (4 * m + 3)) (by rw [hXc]) (And.intro (fun c_114 => mm_go_from G ⟨Or.inl rfl, no (by rw [e]; exact fun y => y c_114)⟩) (fun c_114 => mm_go_from G ⟨Or.inr rfl, yes (by rw [e]; exact c_114)⟩))))))))))
      · have k1 : mm_a h 90 m = 1 := mm_no c_53
        have e := lk_os2 k1 n0
        refine And.intro (k_80 I) (mm_rf (r_591 I) (And.intro ⟨k_93 I, mm_inb 40 (n_93 I) hP⟩ (mm_rf (b := mm_a h 93 (4 * m)) (by rw [hPc]) (And.intro (fun c_63 => mm_go_from G (mm_go_from G ⟨Or.inr rfl, yes (by rw [e]; exact Or.inl c_63)⟩)) (fun c_63 => ?_)))))
        exact And.intro (k_80 I) (mm_rf (r_591 I) (And.intro ⟨k_93 I, mm_inb 40 (n_93 I) hX⟩ (mm_rf (b := mm_a h 93 (4 * m + 3)) (by rw [hXc]) (And.intro (fun c_74 => mm_go_from G ⟨Or.inl rfl, no (by rw [e]; rintro (y | y); exact y (mm_no c_63); exact y c_74)⟩) (fun c_74 => mm_go_from G ⟨Or.inr rfl, yes (by rw [e]; exact Or.inr c_74)⟩)))))
    · have n0 : lk_np h m = 0 := by
        have z : nI (lk_np h m) = nI 0 := mm_no c_41
        exact (nI_eq (by have := MV.2.2.2.1; omega) (by omega)).mp z
      exact ⟨Or.inr rfl, yes (by rw [lk_os1 k0 n0]; trivial)⟩
  · have k0 : mm_a h 90 m = 0 := mm_no c_16
    have e := lk_os0 k0
    exact And.intro (k_80 I) (mm_rf (r_591 I) (And.intro ⟨k_93 I, mm_inb 40 (n_93 I) hX⟩ (mm_rf (b := mm_a h 93 (4 * m + 3)) (by rw [hXc]) (And.intro (fun c_26 => mm_go_from G ⟨Or.inl rfl, no (by rw [e]; exact fun y => y c_26)⟩) (fun c_26 => mm_go_from G ⟨Or.inr rfl, yes (by rw [e]; exact c_26)⟩)))))
/-- a place's values fit another place, marks aside -/
def lk_fi (up : Nat → Int) (s n s' n' : Int32) : Prop := (¬ (s.toInt < 0 ∨ s'.toInt < 0) → mm_bel up s.toInt s'.toInt ∧ (¬ n' = 0 ∨ n = 0)) ∧ ((s.toInt < 0 ∨ s'.toInt < 0) → s = s')
theorem c_Ru_fits {ro : mm_Ro} {d nC p p' : Nat} {h : mm_H} {s n w s' n' w' : Int32} {Q : Value → mm_H → Prop} (I : mm_SH h) (A : lx_AS h nC) (L : lx_PL h p s n w) (L' : lx_PL h p' s' n' w') (hs : s.toInt < (nC : Int)) (hs' : s'.toInt < (nC : Int)) (hQ : Q (.int (mm_b (lk_fi (mm_up h) s n s' n'))) h) : mm_ev ro (d + 2) n_Ru_fits [.ref 15, .ref p, .ref p'] h Q := by
  have G := mm_hM n_Ru_fits rfl
  obtain ⟨l1, l2, l3, l4, l5⟩ := L
  obtain ⟨m1, m2, m3, m4, m5⟩ := L'
  have yes : lk_fi (mm_up h) s n s' n' → Q (.int 1) h := fun y => mm_qe hQ (mm_b_t y)
  have no : ¬ lk_fi (mm_up h) s n s' n' → Q (.int 0) h := fun y => mm_qe hQ (mm_b_f y)
  have g14 : (s.toInt < 0 ∨ s'.toInt < 0) → mm_go ro (d + 1) mm_m_Ru_fits 14 [.ref 15, .ref p, .ref p'] [] h Q := by
    intro c
    exact mm_go_from G (And.intro l2 (mm_rf l3 (And.intro m2 (mm_rf m3 (And.intro (fun c_22 => mm_go_from G ⟨Or.inl rfl, no (fun y => c_22 (y.2 c))⟩) (fun c_22 => mm_go_from G ⟨Or.inr rfl, yes ⟨fun y => absurd c y, fun _ => mm_no c_22⟩⟩))))))
  refine mm_ev_at 14 (Z := mm_m_Ru_fits) rfl rfl (Nat.le_of_ble_eq_true rfl) rfl ?_
  refine And.intro l2 (mm_rf l3 (And.intro (fun c_4 => g14 (Or.inl c_4)) (fun c_4 => And.intro m2 (mm_rf m3 (And.intro (fun c_11 => mm_go_from G ?_) (fun c_11 => g14 (Or.inr ?_)))))))
  · have z : ¬ s.toInt < 0 := c_4
    have z' : 0 ≤ s'.toInt := c_11
    have nn : ¬ (s.toInt < 0 ∨ s'.toInt < 0) := by omega
    have a6 := A.1
    obtain ⟨c, hc, ec⟩ := mm_of (N := nC) (x := s) (by omega)
    obtain ⟨D, hD, eD⟩ := mm_of (N := nC) (x := s') (by omega)
    have tc : (nI c).toInt = (c : Int) := mm_nt (by omega)
    have tD : (nI D).toInt = (D : Int) := mm_nt (by omega)
    refine And.intro (k_15 I) (mm_rf (r_256 I) (And.intro l2 (mm_rf (l3.trans ec) (And.intro m2 (mm_rf (m3.trans eD) (And.intro ⟨rfl, k_2 I⟩ (c_St_below I A hc (by omega) (And.intro (fun c_46 => mm_go_from G ⟨Or.inl rfl, no (fun y => ?_)⟩) (fun c_46 => ?_)))))))))
    · have b := (y.1 nn).1
      rw [ec, eD, tc, tD] at b
      exact mm_b0.mp c_46 b
    · have b : mm_bel (mm_up h) s.toInt s'.toInt := by rw [ec, eD, tc, tD]; exact mm_nn c_46
      refine And.intro m2 (mm_rf (b := n') (m4.trans (if_pos z')) (And.intro (fun c_53 => mm_go_from G (mm_go_from G ⟨Or.inr rfl, yes ⟨fun _ => ⟨b, Or.inl c_53⟩, fun y => absurd y nn⟩⟩)) (fun c_53 => And.intro l2 (mm_rf (b := n) (l4.trans (if_pos (by omega))) (And.intro (fun c_60 => mm_go_from G ⟨Or.inl rfl, no (fun y => ?_)⟩) (fun c_60 => mm_go_from G ⟨Or.inr rfl, yes ⟨fun _ => ⟨b, Or.inr (mm_no c_60)⟩, fun y => absurd y nn⟩⟩))))))
      rcases (y.1 nn).2 with x | x
      · exact x (mm_no c_53)
      · exact c_60 x
  · have z : ¬ 0 ≤ s'.toInt := c_11
    omega
