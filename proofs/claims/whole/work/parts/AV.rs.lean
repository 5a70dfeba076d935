/-! the reference's give, raise -/
theorem l_Mo_give {ro : mm_Ro} {d w H m G : Nat} {x r : Int32} {s s1 : mm_H} {Q : Value → mm_H → Prop} (I : mm_SH s1) (hw : w < 6) (er : mm_a s 93 (4 * m + 3) = r) (r2 : -2 ≤ r.toInt) (e3 : mm_i s1 633 80 = nI (w + 1)) (e6 : mm_a s1 116 = mm_a s 116) (hG : 0 < w → mm_a s 120 (w - 1) = nI G ∧ mm_a s1 120 (w - 1) = nI G ∧ G ≤ 4 ∧ (r = -2 ∨ G < 4)) (hx : 0 ≤ r.toInt → w = 0 → ¬ x = 0 → ∃ o, o < 25 ∧ x = nI o) (hQ : Q .null (rs_gv s s w H m x s1)) : mm_go ro (d + 1) mm_m_Mo_give 25 [.ref 80, .int (nI m), .int r, .null] [.int x] s1 Q := by
  have ew : nI (w + 1) - 1 = nI w := nI_pred w
  have m2 : (-2 : Int32).toInt = -2 := by decide
  have z0 : (0 : Int32).toInt = 0 := by decide
  unfold rs_gv at hQ
  rw [er] at hQ
  have hR : mm_si s1 633 80 (nI (w + 1) - 1) = mm_si s1 633 80 (nI w) := by rw [ew]
  refine mm_go_from (mm_hM n_Mo_give rfl) (And.intro (k_80 I) (mm_rf e3 (And.intro (k_80 I) (And.intro (k_80 I) (mm_rf mm_i1 (And.intro (fun c_40 => mm_go_from (mm_hM n_Mo_give rfl) ?_) (fun c_40 => ?_)))))))
  · have c : ¬ nI (w + 1) - 1 = nI 0 := c_40
    rw [ew] at c
    have w0 : ¬ w = 0 := fun z => c (by rw [z])
    rw [if_neg w0] at hQ
    obtain ⟨g1, g2, g4, g3⟩ := hG (by omega)
    rw [g1, mm_ncl (by omega)] at hQ
    refine And.intro (fun c_80 => mm_go_from (mm_hM n_Mo_give rfl) ?_) (fun c_80 => ?_)
    · have c : r.toInt ≤ ((Int8.ofInt (-2)).toInt32).toInt := c_80
      rw [show ((Int8.ofInt (-2)).toInt32).toInt = -2 by decide] at c
      have r0 : r = -2 := Int32.toInt_inj.mp (by rw [m2]; omega)
      rw [if_pos r0] at hQ
      refine mm_qq hQ rfl ?_
      exact hR
    · have c : ¬ r.toInt ≤ ((Int8.ofInt (-2)).toInt32).toInt := c_80
      rw [show ((Int8.ofInt (-2)).toInt32).toInt = -2 by decide] at c
      have r0 : ¬ r = -2 := fun z => by rw [z, m2] at c; omega
      rw [if_neg r0] at hQ
      rw [← hR] at hQ
      obtain ⟨u, hu⟩ : ∃ u, w = u + 1 := ⟨w - 1, by omega⟩
      have e3' : mm_i (mm_si s1 633 80 (nI (w + 1) - 1)) 633 80 = nI (w - 1 + 1) := by rw [mm_i1, ew, hu]; rfl
      exact And.intro ⟨rfl, k_80 I⟩ (c_Mo_lay (h := mm_si s1 633 80 (nI (w + 1) - 1)) I (by omega) e3' g2 (g3.elim (fun z => absurd z r0) id) hQ)
  · have c : nI (w + 1) - 1 = nI 0 := mm_no c_40
    rw [ew] at c
    have w0 : w = 0 := mm_nee (by omega) (by omega) c
    rw [if_pos w0] at hQ
    rw [← hR] at hQ
    refine And.intro (k_80 I) (And.intro (fun c_50 => mm_go_from (mm_hM n_Mo_give rfl) ?_) (fun c_50 => ?_))
    · have c : (0 : Int32).toInt ≤ r.toInt := c_50
      rw [z0] at c
      rw [if_neg (by omega)] at hQ
      refine And.intro (fun c_58 => mm_go_from (mm_hM n_Mo_give rfl) ?_) (fun c_58 => ?_)
      · have x0 : ¬ x = 0 := c_58
        rw [if_neg x0] at hQ
        obtain ⟨o, o1, o2⟩ := hx c w0 x0
        refine And.intro (k_80 I) (mm_rf (r_620 I) (And.intro ⟨k_116 I, mm_inb 25 (n_116 I) (by rw [o2]; exact mm_nb o1 (by omega))⟩ (mm_rf (show mm_a s1 116 x.toNatClampNeg = mm_a s 116 x.toNatClampNeg by rw [e6]) (And.intro (k_80 I) (mm_go_from (mm_hM n_Mo_give rfl) ?_)))))
        exact hQ
      · rw [if_pos (mm_no c_58)] at hQ
        refine mm_go_from (mm_hM n_Mo_give rfl) (And.intro (k_80 I) (mm_go_from (mm_hM n_Mo_give rfl) ?_))
        exact hQ
    · have c : ¬ (0 : Int32).toInt ≤ r.toInt := c_50
      rw [z0] at c
      rw [if_pos (by omega)] at hQ
      refine mm_go_from (mm_hM n_Mo_give rfl) (And.intro (k_80 I) (mm_go_from (mm_hM n_Mo_give rfl) ?_))
      exact hQ
theorem c_Mo_give {ro : mm_Ro} {d w H m G : Nat} {h : mm_H} {Q : Value → mm_H → Prop} (I : mm_SH h) (hw : w < 6) (hm : m < 10) (r2 : -2 ≤ (mm_a h 93 (4 * m + 3)).toInt) (e3 : mm_i h 633 80 = nI (w + 1)) (e0 : mm_a h 120 w = nI H) (h4 : H ≤ 4) (h0 : mm_a h 93 (4 * m + 3) = -2 ∨ 0 < H) (hG : 0 < w → mm_a h 120 (w - 1) = nI G ∧ G ≤ 4 ∧ (mm_a h 93 (4 * m + 3) = -2 ∨ G < 4)) (hx : 0 ≤ (mm_a h 93 (4 * m + 3)).toInt → w = 0 → ¬ rs_tp h w H = 0 → ∃ o, o < 25 ∧ rs_tp h w H = nI o) (hQ : Q .null (rs_give h h w H m)) : mm_ev ro (d + 2) n_Mo_give [.ref 80, .int (nI m)] h Q := by
  have eX : Int32.ofInt 4 * nI m + Int32.ofInt 3 = nI (4 * m + 3) := mm_lin 4 m 3
  have bX : 0 ≤ (Int32.ofInt 4 * nI m + Int32.ofInt 3).toInt ∧ (Int32.ofInt 4 * nI m + Int32.ofInt 3).toInt < ((40 : Nat) : Int) := by rw [eX]; exact mm_nb (by omega) (by omega)
  have m2 : (Int8.ofInt (-2)).toInt32 = -2 := by decide
  have z0 : (0 : Int32).toInt = 0 := by decide
  unfold rs_give at hQ
  refine mm_ev_at 25 (Z := mm_m_Mo_give) rfl rfl (Nat.le_of_ble_eq_true rfl) rfl ?_
  refine And.intro (k_80 I) (mm_rf (r_591 I) (And.intro ⟨k_93 I, mm_inb 40 (n_93 I) bX⟩ (mm_rf (show mm_a h 93 (Int32.ofInt 4 * nI m + Int32.ofInt 3).toNatClampNeg = mm_a h 93 (4 * m + 3) by rw [eX, mm_ncl (by omega)]) (And.intro (fun c_14 => mm_go_at 25 (mm_hM n_Mo_give rfl) ?_) (fun c_14 => ?_)))))
  · have c : ¬ mm_a h 93 (4 * m + 3) = (Int8.ofInt (-2)).toInt32 := c_14
    rw [m2] at c
    rw [if_neg c] at hQ
    have h0' := h0.elim (fun z => absurd z c) id
    refine And.intro ⟨rfl, k_80 I⟩ (c_Mo_pull I hw e3 e0 h0' h4 ?_)
    refine l_Mo_give (s := h) (G := G) I hw rfl r2 e3 rfl (fun z => ?_) hx hQ
    obtain ⟨g1, g2, g3⟩ := hG z
    exact ⟨g1, (mm_a2 (by omega)).trans g1, g2, g3⟩
  · have c : mm_a h 93 (4 * m + 3) = (Int8.ofInt (-2)).toInt32 := mm_no c_14
    rw [m2] at c
    rw [if_pos c] at hQ
    refine l_Mo_give (s := h) (G := G) I hw rfl r2 e3 rfl (fun z => ?_) (fun _ _ z => absurd rfl z) hQ
    obtain ⟨g1, g2, g3⟩ := hG z
    exact ⟨g1, g1, g2, g3⟩
/-- what is known of the methods at work when something is thrown -/
def rs_rz (K s : mm_H) (D : Nat) : Prop := ∀ w, w < D → ∃ m i, m < 10 ∧ i < 20 ∧ mm_a s 122 w = nI m ∧ mm_a s 121 w = nI (i + 1) ∧ lk_GV K m ∧ lk_gd K m i < 20
theorem l_Mo_raise {ro : mm_Ro} {d : Nat} {x : Int32} {Q : Value → mm_H → Prop} {o : Nat} {K : mm_H} (o1 : o < 25) (ex : x = nI o) : ∀ (D : Nat) (h : mm_H) (v2 v3 : Value), mm_SH h → (lk_gd h = lk_gd K ∧ ∀ m, lk_GV K m → lk_GV h m) → D ≤ 6 → mm_i h 633 80 = nI D → rs_rz K h D → Q .null (rs_raise K x D h) → mm_go ro (d + 1) mm_m_Mo_raise 0 [.ref 80, .int x, v2, v3] [] h Q := by
  have z0 : (0 : Int32).toInt = 0 := by decide
  intro D
  induction D with
  | zero =>
    intro h v2 v3 I hK h6 e3 rz hQ
    refine mm_go_from (mm_hM n_Mo_raise rfl) (And.intro (k_80 I) (mm_rf e3 (And.intro (fun c_4 => mm_go_from (mm_hM n_Mo_raise rfl) ?_) (fun c_4 => ?_))))
    · refine And.intro (k_80 I) (And.intro (k_80 I) (mm_rf (r_620 I) (And.intro ⟨k_116 I, mm_inb 25 (n_116 I) (by rw [ex]; exact mm_nb o1 (by omega))⟩ (mm_rf rfl (And.intro (k_80 I) ?_)))))
      exact hQ
    · exact absurd (show (nI 0).toInt ≤ (0 : Int32).toInt by decide) c_4
  | succ D ih =>
    intro h v2 v3 I hK h6 e3 rz hQ
    have eD : nI (D + 1) - 1 = nI D := nI_pred D
    have cD : (nI (D + 1) - 1).toNatClampNeg = D := by rw [eD]; exact mm_ncl (by omega)
    have bD : 0 ≤ (nI (D + 1) - 1).toInt ∧ (nI (D + 1) - 1).toInt < ((6 : Nat) : Int) := by rw [eD]; exact mm_nb (by omega) (by omega)
    obtain ⟨m, i, hm, hi, em, ei, GV, gl⟩ := rz D (by omega)
    unfold rs_raise at hQ
    rw [em, ei, mm_ncl (by omega), mm_ncl (by omega), Nat.add_sub_cancel] at hQ
    refine mm_go_from (mm_hM n_Mo_raise rfl) (And.intro (k_80 I) (mm_rf e3 (And.intro (fun c_4 => ?_) (fun c_4 => ?_))))
    · have c : (nI (D + 1)).toInt ≤ (0 : Int32).toInt := c_4
      rw [mm_nt (by omega), z0] at c
      omega
    · have hi1 : nI (i + 1) - 1 = nI i := nI_pred i
      refine And.intro (k_80 I) (mm_rf e3 (And.intro (k_80 I) (mm_rf (r_626 I) (And.intro ⟨k_122 I, mm_inb 6 (n_122 I) bD⟩ (mm_rf (show mm_a h 122 (nI (D + 1) - 1).toNatClampNeg = nI m by rw [cD]; exact em) (And.intro (k_80 I) (mm_rf (r_625 I) (And.intro ⟨k_121 I, mm_inb 6 (n_121 I) bD⟩ (mm_rf (show mm_a h 121 (nI (D + 1) - 1).toNatClampNeg = nI (i + 1) by rw [cD]; exact ei) (And.intro ⟨rfl, k_80 I⟩ ?_))))))))))
      have go : mm_ev ro (d + 1) n_Mo_guardOf [.ref 80, .int (nI m), .int (nI i)] h (fun r h' => mm_wp ro (d + 1) mm_m_Mo_raise Q 99999 (mm_from mm_m_Mo_raise 32) [.ref 80, .int x, .int (nI (D + 1) - 1), v3] [r] h') := by
        refine c_Mo_guardOf I hm hi (hK.2 m GV) (fun r hr => And.intro (fun c_34 => mm_go_from (mm_hM n_Mo_raise rfl) ?_) (fun c_34 => ?_))
        · have c : r.toInt < (0 : Int32).toInt := c_34
          rw [z0, hr, hK.1] at c
          rw [if_neg (by omega)] at hQ
          refine And.intro (k_80 I) (mm_rf e3 (And.intro (k_80 I) ?_))
          have q := ih (mm_si h 633 80 (nI D)) (.int (nI (D + 1) - 1)) (.int r) I hK (by omega) mm_i1 (fun w hw => rz w (by omega)) hQ
          show mm_go ro (d + 1) mm_m_Mo_raise 0 [.ref 80, .int x, .int (nI (D + 1) - 1), .int r] [] (mm_si h 633 80 (nI (D + 1) - 1)) Q
          rw [eD] at q ⊢
          exact q
        · have c : ¬ r.toInt < (0 : Int32).toInt := c_34
          rw [z0, hr, hK.1] at c
          rw [if_pos (by omega)] at hQ
          have rr : r = nI (lk_gd K m i).toNat := by rw [← hK.1, ← hr]; exact mm_nz (by rw [hr, hK.1]; omega) (by rw [hr, hK.1]; omega)
          rw [← rr] at hQ
          refine And.intro (k_80 I) (mm_rf (r_624 I) (And.intro ⟨k_120 I, mm_inb 6 (n_120 I) bD⟩ (And.intro ⟨rfl, k_80 I⟩ ?_)))
          have q : mm_ev ro (d + 1) n_Mo_lay [.ref 80, .int x] (mm_sa h 120 D 0) (fun r' h' => mm_wp ro (d + 1) mm_m_Mo_raise Q 99999 (mm_from mm_m_Mo_raise 49) [.ref 80, .int x, .int (nI (D + 1) - 1), .int r] [] h') := by
            refine c_Mo_lay (h := mm_sa h 120 D 0) (w := D) (H := 0) I (by omega) e3 mm_a1 (by omega) ?_
            refine And.intro (k_80 I) (mm_rf (r_625 I) (And.intro ⟨k_121 I, mm_inb 6 (n_121 I) bD⟩ ?_))
            refine mm_qq hQ rfl ?_
            show mm_sa (rs_lay (mm_sa h 120 D 0) D 0 x) 121 (nI (D + 1) - 1).toNatClampNeg r = _
            rw [cD]
          rw [← cD] at q
          rw [cD] at q
          show mm_ev ro (d + 1) n_Mo_lay [.ref 80, .int x] (mm_sa h 120 (nI (D + 1) - 1).toNatClampNeg 0) _
          rw [cD]
          exact q
      rw [← hi1] at go
      exact go
theorem c_Mo_raise {ro : mm_Ro} {d D o : Nat} {x : Int32} {h K : mm_H} {Q : Value → mm_H → Prop} (I : mm_SH h) (hK : lk_gd h = lk_gd K ∧ ∀ m, lk_GV K m → lk_GV h m) (o1 : o < 25) (ex : x = nI o) (h6 : D ≤ 6) (e3 : mm_i h 633 80 = nI D) (rz : rs_rz K h D) (hQ : Q .null (rs_raise K x D h)) : mm_ev ro (d + 2) n_Mo_raise [.ref 80, .int x] h Q := by
  refine mm_ev_of (Z := mm_m_Mo_raise) rfl rfl (Nat.le_of_ble_eq_true rfl) rfl ?_
  exact l_Mo_raise o1 ex D h .null .null I hK h6 e3 rz hQ
