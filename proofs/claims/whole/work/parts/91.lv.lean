/-! THE CLASS: leave, the whole -/
theorem lx_go_w {h : mm_H} {m i : Nat} (ho : lk_o h m i < 18) : (lx_go (lk_o h m i) = true → lk_w h m i 0 = (i : Int) + 1) ∧ (lx_go (lk_o h m i) = false → lk_w h m i 0 = -1) := by
  constructor
  · intro z
    have y := of_decide_eq_true z
    exact if_neg (by omega)
  · intro z
    have y := of_decide_eq_false z
    exact if_pos (by omega)
theorem l_lv_157 {Φ : mm_F} {ro : mm_Ro} {d i q m len nC nF nM : Nat} {qm : Nat → Nat} {h0 : mm_H} {P P' : Nat → mm_F × Int32} {b : Int32} {v5 : Value} {Q : Value → mm_H → Prop} (I : mm_SH h0) (V : lx_V ro h0 nC nF nM qm q m len) (hi : i < len) (C0 : lx_Cv Φ h0 nC m len P) (n1 : ¬ (lx_X P i).1 = -1) (C : lx_Cv Φ h0 nC m len P') (R : lx_Ar h0 len P P') (hin : lx_th (lk_o h0 m i) = true → P' (16 + 2 * i) = P (16 + 2 * i)) (hb : ¬ b = 0 ↔ lk_bad h0 m i (lx_X P i).1.toInt) (E0 : lx_go (lk_o h0 m i) = true → mm_feq (lk_out h0 m i 0 (lx_X P i)) (P' 11).1) (D1 : lx_Dn h0 m len i P P' 1) (hQ : ∀ P'', lx_Cv Φ h0 nC m len P'' → lx_Ar h0 len P P'' → (∀ w, w < 3 → lx_Dn h0 m len i P P'' w) → Q .null (lx_L h0 P'')) : mm_go ro (d + 4) mm_m_Lo_leave 157 [.ref 9, .int (nI i), .int (nI (lk_o h0 m i)), .ref (16 + 2 * i), .int b, v5] [] (lx_L h0 P') Q := by
  have V' := V
  obtain ⟨W, hq, M, WM, IVs⟩ := V'
  have WM' := WM
  obtain ⟨w1, w2, w3, w4, w5, w6, w7, w8, w9, w10⟩ := WM'
  have J : mm_SH (lx_L h0 P') := I
  have ho := (w7 i hi).1.1
  refine mm_go_at 175 (mm_hM n_Lo_leave rfl) (And.intro ⟨rfl, trivial⟩ (c_Op_goesOn ho (And.intro (fun c_161 => ?_) (fun c_161 => ?_))))
  · have z : lx_go (lk_o h0 m i) = false := lx_i0.mp c_161
    have e := (lx_go_w ho).2 z
    exact l_lv_175 I V hi C0 n1 C R hin hb (fun y => by rw [e] at y; omega) D1 hQ
  · have z : lx_go (lk_o h0 m i) = true := by
      cases e : lx_go (lk_o h0 m i)
      · exact absurd (lx_i0.mpr e) c_161
      · rfl
    have e := (lx_go_w ho).1 z
    have eT : (lk_w h0 m i 0).toNat = i + 1 := by omega
    have ov := lx_outs (w := 0) WM hi (C0.2.1.1 i hi)
    refine And.intro (k_9 J) (mm_rf (r_131 J) (And.intro ⟨rfl, k_9 J⟩ ?_))
    have e1 : nI i + Int32.ofInt 1 = nI (i + 1) := (nI_succ i).symm
    rw [e1]
    refine c_Lo_arrive (b := 11) (ψ := lk_out h0 m i 0 (lx_X P i)) I W hq M w3 w2 (by omega) (Or.inl rfl) C (E0 z) ov.1 ov.2 (fun hT => ?_) (fun P'' C'' R'' le same => ?_)
    · have := lk_way (w := 0) C0.2.1 (w7 i hi).1 hi n1 (by omega) (by omega) (by omega)
      rw [eT] at this
      exact this
    · refine l_lv_175 I V hi C0 n1 C'' (lx_Ar_trans R R'') (fun t => (same _ (by omega)).trans (hin t)) hb (fun _ y2 => ?_) (lx_Dn_up D1 R'') hQ
      rw [eT]
      exact le (by omega)
theorem l_lv_115 {Φ : mm_F} {ro : mm_Ro} {d i q m len nC nF nM : Nat} {qm : Nat → Nat} {h0 : mm_H} {P P' : Nat → mm_F × Int32} {b : Int32} {v5 : Value} {Q : Value → mm_H → Prop} (I : mm_SH h0) (V : lx_V ro h0 nC nF nM qm q m len) (hi : i < len) (C0 : lx_Cv Φ h0 nC m len P) (n1 : ¬ (lx_X P i).1 = -1) (C : lx_Cv Φ h0 nC m len P') (same : ∀ j, P' (16 + 2 * j) = P (16 + 2 * j)) (hb : ¬ b = 0 ↔ lk_bad h0 m i (lx_X P i).1.toInt) (E0 : lx_go (lk_o h0 m i) = true → mm_feq (lk_out h0 m i 0 (lx_X P i)) (P' 11).1) (E1 : lx_ju (lk_o h0 m i) = true → mm_feq (lk_out h0 m i 1 (lx_X P i)) (P' (if ¬ b = 0 ∨ ¬ lk_o h0 m i = 15 then 11 else 13)).1) (hQ : ∀ P'', lx_Cv Φ h0 nC m len P'' → lx_Ar h0 len P P'' → (∀ w, w < 3 → lx_Dn h0 m len i P P'' w) → Q .null (lx_L h0 P'')) : mm_go ro (d + 4) mm_m_Lo_leave 115 [.ref 9, .int (nI i), .int (nI (lk_o h0 m i)), .ref (16 + 2 * i), .int b, v5] [] (lx_L h0 P') Q := by
  have V' := V
  obtain ⟨W, hq, M, WM, IVs⟩ := V'
  have WM' := WM
  obtain ⟨w1, w2, w3, w4, w5, w6, w7, w8, w9, w10⟩ := WM'
  have J : mm_SH (lx_L h0 P') := I
  have ho := (w7 i hi).1.1
  have R : lx_Ar h0 len P P' := lx_Ar_refl C0.2.2.1 same
  have kq : mm_k (lx_L h0 P') q = 9 := M.2.1.1.1
  refine mm_go_at 157 (mm_hM n_Lo_leave rfl) (And.intro ⟨rfl, trivial⟩ (c_Op_jumps ho (And.intro (fun c_119 => ?_) (fun c_119 => ?_))))
  · have z : lx_ju (lk_o h0 m i) = false := lx_i0.mp c_119
    have e : lk_w h0 m i 1 = -1 := if_neg (of_decide_eq_false z)
    exact l_lv_157 I V hi C0 n1 C R (fun _ => same i) hb E0 (fun y => by rw [e] at y; omega) hQ
  · have z : lx_ju (lk_o h0 m i) = true := by
      cases e : lx_ju (lk_o h0 m i)
      · exact absurd (lx_i0.mpr e) c_119
      · rfl
    have zj := of_decide_eq_true z
    obtain ⟨ea, a20⟩ := (w7 i hi).2.2.2.2 zj
    have e : lk_w h0 m i 1 = (lk_a h0 m i : Int) := (if_pos zj).trans (by rw [ea, mm_nt (by omega)])
    have eT : (lk_w h0 m i 1).toNat = lk_a h0 m i := by omega
    have ov := lx_outs (w := 1) WM hi (C0.2.1.1 i hi)
    have nth : ¬ lx_th (lk_o h0 m i) = true := fun t => by
      have := of_decide_eq_true t
      omega
    obtain ⟨_, ⟨_, _, _, ⟨p1, p2, p3⟩, _⟩, _, _, _, hop, _⟩ := lx_MO_L (P := P') M
    have hB : 0 ≤ (nI i).toInt ∧ (nI i).toInt < ((20 : Nat) : Int) := mm_nb (by omega) (by omega)
    have hc : (nI i).toNatClampNeg = i := mm_ncl (by omega)
    have rar : mm_a (lx_L h0 P') (q + 4) (nI i).toNatClampNeg = nI (lk_a h0 m i) := by rw [hc, (hop i (by omega)).2]; exact ea
    have g154 : ∀ r : Nat, r = (if ¬ b = 0 ∨ ¬ lk_o h0 m i = 15 then 11 else 13) → mm_go ro (d + 4) mm_m_Lo_leave 154 [.ref 9, .int (nI i), .int (nI (lk_o h0 m i)), .ref (16 + 2 * i), .int b, v5] [.ref r, .int (nI (lk_a h0 m i)), .ref 9] (lx_L h0 P') Q := by
      intro r er
      rw [← er] at E1
      have r1113 : r = 11 ∨ r = 13 := by
        rw [er]
        split
        · exact Or.inl rfl
        · exact Or.inr rfl
      refine mm_go_at 157 (mm_hM n_Lo_leave rfl) (And.intro ⟨rfl, k_9 J⟩ (c_Lo_arrive (b := r) (ψ := lk_out h0 m i 1 (lx_X P i)) I W hq M w3 w2 (by omega) r1113 C (E1 z) ov.1 ov.2 (fun hT => ?_) (fun P'' C'' R'' le same' => ?_)))
      · have := lk_way (w := 1) C0.2.1 (w7 i hi).1 hi n1 (by omega) (by omega) (by omega)
        rw [eT] at this
        exact this
      · refine l_lv_157 I V hi C0 n1 C'' (lx_Ar_trans R R'') (fun t => absurd t nth) hb (fun g => by rw [same' 11 (by omega)]; exact E0 g) (fun _ y2 => ?_) hQ
        rw [eT]
        exact le (by omega)
    refine And.intro (k_9 J) (mm_rf (show mm_r (lx_L h0 P') 133 9 = q from hq) (And.intro kq (mm_rf p1 (And.intro ⟨p2, mm_inb 20 p3 hB⟩ (mm_rf rar (And.intro (fun c_134 => mm_go_at 154 (mm_hM n_Lo_leave rfl) ?_) (fun c_134 => And.intro (fun c_140 => mm_go_at 154 (mm_hM n_Lo_leave rfl) ?_) (fun c_140 => ?_))))))))
    · exact And.intro (k_9 J) (mm_rf (r_131 J) (g154 11 (if_pos (Or.inl c_134)).symm))
    · have o15 : lk_o h0 m i = 15 := (lk_b13 ho 15 (by omega)).mp c_140
      have b0 : b = 0 := mm_no c_134
      refine And.intro (k_9 J) (mm_rf (r_132 J) (g154 13 (if_neg ?_).symm))
      rintro (y | y)
      · exact y b0
      · exact y o15
    · have n15 : ¬ lk_o h0 m i = 15 := fun y => c_140 (by rw [y]; rfl)
      exact And.intro (k_9 J) (mm_rf (r_131 J) (g154 11 (if_pos (Or.inr n15)).symm))
theorem lx_WM_IV {ro : mm_Ro} {h : mm_H} {nC nF nM q m len : Nat} {qm : Nat → Nat} (V : lx_V ro h nC nF nM qm q m len) {i : Nat} (hi : i < len) : lx_IV h nC nF nM m i := V.2.2.2.2 i hi
/-- from 52 on: out is made -/
theorem l_lv_52 {Φ : mm_F} {ro : mm_Ro} {d i q m len nC nF nM : Nat} {qm : Nat → Nat} {h0 : mm_H} {P : Nat → mm_F × Int32} {b : Int32} {v5 : Value} {Q : Value → mm_H → Prop} (I : mm_SH h0) (V : lx_V ro h0 nC nF nM qm q m len) (hi : i < len) (C0 : lx_Cv Φ h0 nC m len P) (n1 : ¬ (lx_X P i).1 = -1) (hb : ¬ b = 0 ↔ lk_bad h0 m i (lx_X P i).1.toInt) (hQ : ∀ P'', lx_Cv Φ h0 nC m len P'' → lx_Ar h0 len P P'' → (∀ w, w < 3 → lx_Dn h0 m len i P P'' w) → Q .null (lx_L h0 P'')) : mm_go ro (d + 4) mm_m_Lo_leave 52 [.ref 9, .int (nI i), .int (nI (lk_o h0 m i)), .ref (16 + 2 * i), .int b, v5] [] (lx_L h0 P) Q := by
  have V' := V
  obtain ⟨W, hq, M, WM, IVs⟩ := V'
  have WM' := WM
  obtain ⟨w1, w2, w3, w4, w5, w6, w7, w8, w9, w10⟩ := WM'
  have J : mm_SH (lx_L h0 P) := I
  have ho := (w7 i hi).1.1
  have hC := W.2.1.1
  have isi := lx_ii (i := i) (by omega)
  have n11 : ¬ 11 = 16 + 2 * i := by omega
  have gin := (C0.1 _ isi).2
  have f11 := (C0.1 11 lx_11).1
  have f13 := (C0.1 13 lx_13).1
  have a1 := (lx_fs J lx_11).1
  have kq : mm_k (lx_L h0 P) q = 9 := M.2.1.1.1
  have sm : ∀ (y : mm_F × Int32) (j : Nat), lx_pu P 11 y (16 + 2 * j) = P (16 + 2 * j) := fun y j => lx_pu_f (by omega)
  refine mm_go_at 115 (mm_hM n_Lo_leave rfl) (And.intro (k_9 J) (mm_rf (r_131 J) (And.intro ⟨rfl, a1⟩ (c_Fr_become I lx_11 isi n11 (And.intro (fun c_62 => mm_go_at 115 (mm_hM n_Lo_leave rfl) ?_) (fun c_62 => ?_))))))
  · have b0 : b = 0 := c_62
    have good : ¬ lk_bad h0 m i (lx_X P i).1.toInt := fun y => hb.mpr y b0
    have g := lk_good good
    have o := C0.2.1.1 i hi
    have h4 := (o g.1).1
    have eH := lk_nI_of g.1 h4
    have okH : lk_ok (lk_na h0 m) (lx_X P i).1.toInt.toNat (lx_X P i).2.1 (lx_X P i).2.2.1 (lx_X P i).2.2.2 := lk_ok_of (by omega) (by rw [← eH]; exact o)
    have eo : ∀ w, lk_out h0 m i w (lx_X P i) = lk_ew h0 m i (lx_X P i).1.toInt.toNat (lx_X P i).2.1 (lx_X P i).2.2.1 (lx_X P i).2.2.2 w := fun w => lk_out_g good
    obtain ⟨g0, g1, g2⟩ := g
    have hH4 : (lx_X P i).1.toInt.toNat ≤ 4 := by omega
    generalize hH : (lx_X P i).1.toInt.toNat = H at eH okH eo g1 g2 hH4
    have eφ : (P (16 + 2 * i)).1 = (nI H, (lx_X P i).2.1, (lx_X P i).2.2.1, (lx_X P i).2.2.2) := by
      show lx_X P i = _
      rw [← eH]
    rw [eφ]
    obtain ⟨_, ⟨_, _, _, ⟨p1, p2, p3⟩, _⟩, _, _, _, hop, _⟩ := lx_MO_L (P := lx_pu P 11 ((nI H, (lx_X P i).2.1, (lx_X P i).2.2.1, (lx_X P i).2.2.2), (P 11).2)) M
    have hB : 0 ≤ (nI i).toInt ∧ (nI i).toInt < ((20 : Nat) : Int) := mm_nb (by omega) (by omega)
    have hc : (nI i).toNatClampNeg = i := mm_ncl (by omega)
    have rar : mm_a (lx_L h0 (lx_pu P 11 ((nI H, (lx_X P i).2.1, (lx_X P i).2.2.1, (lx_X P i).2.2.2), (P 11).2))) (q + 4) (nI i).toNatClampNeg = mm_a h0 98 (20 * m + i) := by rw [hc, (hop i (by omega)).2]; rfl
    obtain ⟨IV, iv1, iv2, iv3⟩ := IVs i hi
    obtain ⟨A, _, IV3, IV4, IV5⟩ := IV
    have nb : ¬ (¬ b = 0) := fun y => y b0
    have ewef : ¬ lk_o h0 m i = 15 → ∀ w, w < 2 → lk_ew h0 m i H (lx_X P i).2.1 (lx_X P i).2.2.1 (lx_X P i).2.2.2 w = lk_ef h0 m i H (lk_a h0 m i) (lx_X P i).2.1 (lx_X P i).2.2.1 (lx_X P i).2.2.2 (lk_o h0 m i) := fun n15 w hw => by
      rcases w with _ | _ | w
      · exact lk_is_n n15
      · exact lk_is_n n15
      · omega
    have plain : ¬ lk_o h0 m i = 15 → ∀ c, mm_feq (lk_ef h0 m i H (lk_a h0 m i) (lx_X P i).2.1 (lx_X P i).2.2.1 (lx_X P i).2.2.2 (lk_o h0 m i)) c → lx_gv nC c.2.2.2 → mm_go ro (d + 4) mm_m_Lo_leave 115 [.ref 9, .int (nI i), .int (nI (lk_o h0 m i)), .ref (16 + 2 * i), .int b, v5] [] (lx_L h0 (lx_pu P 11 (c, (P 11).2))) Q := by
      intro n15 c ec gv
      have C' : lx_Cv Φ h0 nC m len (lx_pu P 11 (c, (P 11).2)) := lx_Cv_11 (by omega) C0 ⟨f11, gv⟩
      refine l_lv_115 I V hi C0 n1 C' (sm _) hb (fun _ => ?_) (fun _ => ?_) hQ
      · rw [eo 0, ewef n15 0 (by omega), lx_pu_t]; exact ec
      · rw [if_pos (Or.inr n15), eo 1, ewef n15 1 (by omega), lx_pu_t]; exact ec
    refine And.intro (fun c_80 => mm_go_at 115 (mm_hM n_Lo_leave rfl) ?_) (fun c_80 => ?_)
    · have z : (9 : Int) ≤ (nI (lk_o h0 m i)).toInt := c_80
      rw [mm_nt (by omega)] at z
      refine And.intro (k_9 J) (mm_rf (show mm_r (lx_L h0 (lx_pu P 11 ((nI H, (lx_X P i).2.1, (lx_X P i).2.2.1, (lx_X P i).2.2.2), (P 11).2))) 133 9 = q from hq) (And.intro kq (mm_rf p1 (And.intro ⟨p2, mm_inb 20 p3 hB⟩ (mm_rf rar (And.intro ⟨rfl, k_9 J⟩ (c_Lo_applyToStock (m := m) (i := i) (nC := nC) (nF := nF) (nM := nM) (qm := qm) (c13 := (P 13).1) (z := (P 13).2) I W ⟨by omega, ho⟩ ?_ iv2 iv3 (fun y => iv1 (Or.inr y)) hH4 g1 g2 gin rfl ?_ ?_ ?_)))))))
      · intro y
        rcases y with y | y | y | y
        · exact IV4 (Or.inr (Or.inr (Or.inl y)))
        · exact IV4 (Or.inr (Or.inr (Or.inr y)))
        · exact (IV3 y).1
        · exact (A.2.2.1 (Or.inr y)).2
      · intro h15 c ec gv
        exact plain (by omega) c ec gv
      · intro o15 ga gb
        have C1 : lx_Cv Φ h0 nC m len (lx_pu P 11 (lk_is 15 (lx_X P i).2.2.2 H lk_n0 (nI (H - 1), (lx_X P i).2.1, (lx_X P i).2.2.1, (lx_X P i).2.2.2), (P 11).2)) := lx_Cv_11 (by omega) C0 ⟨f11, ga⟩
        have C' : lx_Cv Φ h0 nC m len (lx_pu (lx_pu P 11 (lk_is 15 (lx_X P i).2.2.2 H lk_n0 (nI (H - 1), (lx_X P i).2.1, (lx_X P i).2.2.1, (lx_X P i).2.2.2), (P 11).2)) 13 (lk_is 15 (lx_X P i).2.2.2 H lk_nk (nI (H - 1), (lx_X P i).2.1, (lx_X P i).2.2.1, (lx_X P i).2.2.2), (P 13).2)) := lx_Cv_11 (by omega) C1 ⟨f13, gb⟩
        refine l_lv_115 I V hi C0 n1 C' (fun j => (lx_pu_f (by omega)).trans (sm _ j)) hb (fun _ => ?_) (fun _ => ?_) hQ
        · rw [eo 0, lx_pu_f (by decide), lx_pu_t]
          show mm_feq (lk_is (lk_o h0 m i) (lx_X P i).2.2.2 H lk_n0 (lk_ef h0 m i H (lk_a h0 m i) (lx_X P i).2.1 (lx_X P i).2.2.1 (lx_X P i).2.2.2 (lk_o h0 m i))) _
          rw [o15]
          exact mm_feq_refl
        · rw [if_neg (by rintro (y | y); exact y b0; exact y o15), eo 1, lx_pu_t]
          show mm_feq (lk_is (lk_o h0 m i) (lx_X P i).2.2.2 H lk_nk (lk_ef h0 m i H (lk_a h0 m i) (lx_X P i).2.1 (lx_X P i).2.2.1 (lx_X P i).2.2.2 (lk_o h0 m i))) _
          rw [o15]
          exact mm_feq_refl
      · intro h16
        have C' : lx_Cv Φ h0 nC m len (lx_pu P 11 ((nI H, (lx_X P i).2.1, (lx_X P i).2.2.1, (lx_X P i).2.2.2), (P 11).2)) := lx_Cv_11 (by omega) C0 ⟨f11, gin⟩
        refine l_lv_115 I V hi C0 n1 C' (sm _) hb (fun y => ?_) (fun y => ?_) hQ
        · have := of_decide_eq_true y
          omega
        · have := of_decide_eq_true y
          omega
    · have z : ¬ (9 : Int) ≤ (nI (lk_o h0 m i)).toInt := c_80
      rw [mm_nt (by omega)] at z
      refine And.intro (k_9 J) (mm_rf (show mm_r (lx_L h0 (lx_pu P 11 ((nI H, (lx_X P i).2.1, (lx_X P i).2.2.1, (lx_X P i).2.2.2), (P 11).2))) 133 9 = q from hq) (And.intro kq (mm_rf p1 (And.intro ⟨p2, mm_inb 20 p3 hB⟩ (mm_rf rar (And.intro ⟨rfl, k_9 J⟩ (c_Lo_applyToValues (m := m) (nC := nC) I W.2.1.2 hC (by omega) (by omega) ?_ (fun y => by have := A.2.1 y; omega) (fun y => iv1 (Or.inl y)) hH4 g1 g2 gin (fun c ec gv => plain (by omega) c ec gv))))))))
      intro y
      rcases y with y | y | y
      · exact IV4 (Or.inl y)
      · exact IV4 (Or.inr (Or.inl y))
      · exact (A.2.2.1 (Or.inl y)).2
  · have nb : ¬ b = 0 := c_62
    have bad := hb.mp nb
    have J2 : mm_SH (lx_L h0 (lx_pu P 11 ((P (16 + 2 * i)).1, (P 11).2))) := I
    refine And.intro (k_9 J2) (mm_rf (r_131 J2) (And.intro a1 ?_))
    rw [(lxw_i lx_11 _).1, lx_pu_u, lx_pu_t]
    have C' : lx_Cv Φ h0 nC m len (lx_pu P 11 ((-2, (P (16 + 2 * i)).1.2), (P 11).2)) := lx_Cv_11 (by omega) C0 ⟨f11, gin⟩
    have e : ∀ w, mm_feq (lk_out h0 m i w (lx_X P i)) (-2, (P (16 + 2 * i)).1.2) := fun w => by
      rw [lk_out_b bad]
      exact ⟨rfl, fun y => absurd y (by decide)⟩
    exact l_lv_115 I V hi C0 n1 C' (sm _) hb (fun _ => by rw [lx_pu_t]; exact e 0) (fun _ => by rw [if_pos (Or.inl nb), lx_pu_t]; exact e 1) hQ
theorem c_Lo_leave {Φ : mm_F} {ro : mm_Ro} {d i q m len nC nF nM : Nat} {qm : Nat → Nat} {h0 : mm_H} {P : Nat → mm_F × Int32} {Q : Value → mm_H → Prop} (I : mm_SH h0) (V : lx_V ro h0 nC nF nM qm q m len) (hi : i < len) (C0 : lx_Cv Φ h0 nC m len P) (n1 : ¬ (lx_X P i).1 = -1) (hQ : ∀ P'', lx_Cv Φ h0 nC m len P'' → lx_Ar h0 len P P'' → (∀ w, w < 3 → lx_Dn h0 m len i P P'' w) → Q .null (lx_L h0 P'')) : mm_ev ro (d + 5) n_Lo_leave [.ref 9, .int (nI i)] (lx_L h0 P) Q := by
  have V' := V
  obtain ⟨W, hq, M, WM, IVs⟩ := V'
  have WM' := WM
  obtain ⟨w1, w2, w3, w4, w5, w6, w7, w8, w9, w10⟩ := WM'
  have J : mm_SH (lx_L h0 P) := I
  have hB : 0 ≤ (nI i).toInt ∧ (nI i).toInt < ((20 : Nat) : Int) := mm_nb (by omega) (by omega)
  have hc : (nI i).toNatClampNeg = i := mm_ncl (by omega)
  have isi := lx_ii (i := i) (by omega)
  have ML := lx_MO_L (P := P) M
  obtain ⟨_, ⟨⟨kq, _⟩, _, ⟨o1, o2, o3⟩, _⟩, _, _, _, hop, _⟩ := lx_MO_L (P := P) M
  have rop : mm_a (lx_L h0 P) (q + 3) (nI i).toNatClampNeg = nI (lk_o h0 m i) := by rw [hc, (hop i (by omega)).1]; exact (w7 i hi).2.1
  have aq : mm_q (lx_L h0 P) 10 i = 16 + 2 * i := J.2.2.2.1 i (by omega)
  have ka := (lx_fs J isi).1
  have hr : -10 ≤ (lx_X P i).1.toInt ∧ (lx_X P i).1.toInt ≤ 10 := by
    rcases C0.2.2.1 i hi with z | z | z
    · rw [z]; decide
    · rw [z]; decide
    · have := (C0.2.1.1 i hi z).1
      omega
  have g : ∀ b : Int32, (¬ b = 0 ↔ lk_bad h0 m i (lx_X P i).1.toInt) → mm_go ro (d + 4) mm_m_Lo_leave 50 [.ref 9, .int (nI i), .int (nI (lk_o h0 m i)), .ref (16 + 2 * i), .null, .null] [.int b] (lx_L h0 P) Q := fun b hb => mm_go_at 52 (mm_hM n_Lo_leave rfl) (l_lv_52 I V hi C0 n1 hb hQ)
  refine mm_ev_at 50 (Z := mm_m_Lo_leave) rfl rfl (Nat.le_of_ble_eq_true rfl) rfl ?_
  refine And.intro (k_9 J) (mm_rf (show mm_r (lx_L h0 P) 133 9 = q from hq) (And.intro kq (mm_rf o1 (And.intro ⟨o2, mm_inb 20 o3 hB⟩ (mm_rf rop (And.intro (k_9 J) (mm_rf (r_130 J) (And.intro ⟨⟨by rw [k_10 J]; decide, by rw [k_10 J]; decide⟩, mm_inb 20 (n_10 J) hB⟩ (mm_rf (b := 16 + 2 * i) (by rw [hc]; exact aq) (And.intro ka (mm_rf (lx_i isi).1 (And.intro (fun c_23 => mm_go_at 50 (mm_hM n_Lo_leave rfl) ?_) (fun c_23 => ?_)))))))))))))
  · have z : (lx_X P i).1 = -2 := c_23
    exact g 1 ⟨fun _ => lk_bad_neg (by rw [z]; decide), fun _ => by decide⟩
  · have MS : lx_MS (lx_L h0 P) nM qm := ⟨W.2.2.1.1, fun k hk => ⟨(W.2.2.1.2 k hk).1, lx_MO_L (W.2.2.1.2 k hk).2⟩⟩
    refine And.intro (k_9 J) (mm_rf (r_128 J) (And.intro (k_9 J) (mm_rf (show mm_r (lx_L h0 P) 133 9 = q from hq) (And.intro ka (mm_rf (b := (lx_X P i).1) (lx_i isi).1 (And.intro ⟨rfl, k_2 J⟩ (c_St_breaksStack (nC := nC) (nF := nF) (nM := nM) W.1 J ML MS (by omega) (IVs i hi) hr (And.intro (fun c_42 => mm_go_at 50 (mm_hM n_Lo_leave rfl) ?_) (fun c_42 => ?_)))))))))
    · have z : ¬ lk_bad h0 m i (lx_X P i).1.toInt := mm_b0.mp c_42
      exact g 0 ⟨fun y => absurd rfl y, fun y => absurd y z⟩
    · have z : lk_bad h0 m i (lx_X P i).1.toInt := mm_nn c_42
      exact g 1 ⟨fun _ => z, fun _ => by decide⟩
