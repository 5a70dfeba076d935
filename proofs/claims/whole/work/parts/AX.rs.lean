/-! the reference's call, whole; step -/
theorem rs_fd_eq {K : mm_H} {nM j : Nat} {n : Int32} {x : Int} (e : lk_at K nM n x j) : rs_fd K nM n x = j := by
  have z : ∃ j, lk_at K nM n x j := ⟨j, e⟩
  unfold rs_fd
  rw [dif_pos z]
  exact lk_at_uni z.choose_spec e
def rs_dj (h : mm_H) (B j : Nat) : Prop := j < 10 ∧ -1 ≤ (mm_a h 90 j).toInt ∧ ∃ c, c < 6 ∧ mm_a h 87 j = nI c ∧ (¬ mm_a h 85 c = 0 → ¬ mm_a h 90 j = -1 → mm_a h 90 j = 1 ∨ B < 4)
theorem c_Mo_call {ro : mm_Ro} {d w H a B nC nF nM T P N : Nat} {h : mm_H} {Q : Value → mm_H → Prop} (I : mm_SH h) (MN : mm_MN h nC nF nM) (U : mm_upo (mm_up h)) (hw : w < 6) (ha : a < 10) (MV : lk_MV h a) (e3 : mm_i h 633 80 = nI (w + 1)) (e5 : mm_i h 635 80 = -1) (e0 : mm_a h 120 w = nI H) (h4 : H ≤ 4) (hB : B + (lk_np h a + lk_of h a) = H)
    (st : ¬ mm_a h 95 a = 0 → rs_dj h B a) (vi : mm_a h 95 a = 0 → mm_a h 119 (4 * w + B) = 0 ∨ ∃ k j, k < 25 ∧ mm_a h 119 (4 * w + B) = nI k ∧ (mm_a h 116 k).toInt < 6 ∧ lk_at h nM (mm_a h 88 a) (mm_a h 116 k).toInt j ∧ rs_dj h B j)
    (eT : mm_i h 630 80 = nI T) (hT : T < 1000) (eN : mm_i h 628 80 = nI N) (hN : N ≤ 8) (eP : mm_i h 631 80 = nI P) (hP : P < 1000) (hQ : Q .null (rs_call h nM h w H a)) : mm_ev ro (d + 3) n_Mo_call [.ref 80, .int (nI a)] h Q := by
  have G := mm_hM n_Mo_call rfl
  have z0 : (0 : Int32).toInt = 0 := by decide
  have MV' := MV
  obtain ⟨_, _, v3, v4, v5, _⟩ := MV'
  have o1 := lk_of1 (h := h) (m := a)
  have ew : nI (w + 1) - 1 = nI w := nI_pred w
  have cw : (nI w).toNatClampNeg = w := mm_ncl (by omega)
  have bw : 0 ≤ (nI w).toInt ∧ (nI w).toInt < ((6 : Nat) : Int) := mm_nb hw (by omega)
  have ca : (nI a).toNatClampNeg = a := mm_ncl (by omega)
  have ba : 0 ≤ (nI a).toInt ∧ (nI a).toInt < ((10 : Nat) : Int) := mm_nb ha (by omega)
  have po : lk_po h 0 11 a = lk_np h a + lk_of h a := rfl
  have eb : H - lk_po h 0 11 a = B := by rw [po]; omega
  have eX : Int32.ofInt 4 * nI w + nI H - nI (lk_np h a + lk_of h a) = nI (4 * w + B) := by
    rw [show Int32.ofInt 4 * nI w + nI H = nI (4 * w + H) from mm_lin 4 w H, show 4 * w + H = 4 * w + B + (lk_np h a + lk_of h a) by omega, ← nI_add, Int32.add_sub_cancel]
  unfold rs_call at hQ
  rw [eb] at hQ
  have B1 : mm_go ro (d + 2) mm_m_Mo_call 46 [.ref 80, .int (nI a), .int (nI w), .int (nI (lk_np h a + lk_of h a)), .int (nI (4 * w + B)), .int (nI a), .null] [] h Q := by
    refine mm_go_at 96 G (And.intro (k_80 I) (mm_rf (r_593 I) (And.intro ⟨k_95 I, mm_inb 10 (n_95 I) ba⟩ (mm_rf (show mm_a h 95 (nI a).toNatClampNeg = mm_a h 95 a by rw [ca]) (And.intro (fun c_52 => ?_) (fun c_52 => ?_))))))
    · have q : ¬ mm_a h 95 a = 0 := c_52
      rw [if_pos q] at hQ
      obtain ⟨j1, j3, c, c1, c2, j4⟩ := st q
      exact l_call_C I hw ha MV e3 e5 e0 h4 hB ha c2 c1 j3 j4 eT hT eN hN eP hP hQ
    · have q : mm_a h 95 a = 0 := mm_no c_52
      rw [if_neg (fun z => z q)] at hQ
      have of1 : lk_of h a = 1 := if_pos q
      have bX : 0 ≤ (nI (4 * w + B)).toInt ∧ (nI (4 * w + B)).toInt < ((24 : Nat) : Int) := mm_nb (by omega) (by omega)
      have rX : mm_a h 119 (nI (4 * w + B)).toNatClampNeg = mm_a h 119 (4 * w + B) := by rw [mm_ncl (by omega)]
      refine And.intro (k_80 I) (mm_rf (r_623 I) (And.intro ⟨k_119 I, mm_inb 24 (n_119 I) bX⟩ (mm_rf rX (And.intro (fun c_62 => mm_go_at 96 G ?_) (fun c_62 => ?_)))))
      · have n0 : ¬ mm_a h 119 (4 * w + B) = 0 := c_62
        rw [if_neg n0] at hQ
        rcases vi q with z | ⟨k, j, k1, k2, k3, k4, j1, j3, c, c1, c2, j4⟩
        · exact absurd z n0
        · rw [k2, mm_ncl (by omega), rs_fd_eq k4] at hQ
          refine And.intro (k_80 I) (mm_rf (r_620 I) (And.intro (k_80 I) (mm_rf (r_623 I) (And.intro ⟨k_119 I, mm_inb 24 (n_119 I) bX⟩ (mm_rf (rX.trans k2) (And.intro ⟨k_116 I, mm_inb 25 (n_116 I) (mm_nb k1 (by omega))⟩ (mm_rf (show mm_a h 116 (nI k).toNatClampNeg = mm_a h 116 k by rw [mm_ncl (by omega)]) (And.intro (k_80 I) (mm_rf (r_586 I) (And.intro ⟨k_88 I, mm_inb 10 (n_88 I) ba⟩ (mm_rf (show mm_a h 88 (nI a).toNatClampNeg = mm_a h 88 a by rw [ca]) (And.intro ⟨rfl, k_80 I⟩ (c_Mo_find I MN U k3 (fun j' hj' => ?_) (fun nf => ?_))))))))))))))
          · have : j = j' := lk_at_uni k4 hj'
            subst this
            exact l_call_C I hw ha MV e3 e5 e0 h4 hB j1 c2 c1 j3 j4 eT hT eN hN eP hP hQ
          · obtain ⟨t, t1, ⟨t2, t3, t4⟩, t5⟩ := k4
            exact absurd t3 (nf t t1 j t2)
      · rw [if_pos (mm_no c_62)] at hQ
        exact And.intro (k_80 I) hQ
  refine mm_ev_at 46 (Z := mm_m_Mo_call) rfl rfl (Nat.le_of_ble_eq_true rfl) rfl ?_
  refine And.intro (k_80 I) (mm_rf e3 (And.intro (k_80 I) (mm_rf (r_587 I) (And.intro ⟨k_89 I, mm_inb 10 (n_89 I) ba⟩ (mm_rf (show mm_a h 89 (nI a).toNatClampNeg = nI (lk_np h a) by rw [ca]; exact v3) (And.intro (k_80 I) (mm_rf (r_593 I) (And.intro ⟨k_95 I, mm_inb 10 (n_95 I) ba⟩ (mm_rf (show mm_a h 95 (nI a).toNatClampNeg = mm_a h 95 a by rw [ca]) (And.intro (fun c_19 => mm_go_at 46 G ?_) (fun c_19 => ?_)))))))))))
  · have q : mm_a h 95 a = 0 := c_19
    have of1 : lk_of h a = 1 := if_pos q
    have et : nI (lk_np h a) + Int32.ofInt 1 = nI (lk_np h a + lk_of h a) := by rw [of1]; exact nI_add _ 1
    refine And.intro (k_80 I) (mm_rf (r_624 I) (And.intro ⟨k_120 I, mm_inb 6 (n_120 I) (by rw [show nI (w + 1) - Int32.ofInt 1 = nI w from ew]; exact bw)⟩ (mm_rf (show mm_a h 120 (nI (w + 1) - Int32.ofInt 1).toNatClampNeg = nI H by rw [show nI (w + 1) - Int32.ofInt 1 = nI w from ew, cw]; exact e0) ?_)))
    show mm_go ro (d + 2) mm_m_Mo_call 46 [.ref 80, .int (nI a), .int (nI (w + 1) - 1), .int (nI (lk_np h a) + Int32.ofInt 1), .int (Int32.ofInt 4 * (nI (w + 1) - 1) + nI H - (nI (lk_np h a) + Int32.ofInt 1)), .int (nI a), .null] [] h Q
    rw [ew, et, eX]
    exact B1
  · have q : ¬ mm_a h 95 a = 0 := c_19
    have of0 : lk_of h a = 0 := if_neg q
    have et : nI (lk_np h a) + Int32.ofInt 0 = nI (lk_np h a + lk_of h a) := by rw [of0]; exact nI_add _ 0
    refine mm_go_at 46 G (And.intro (k_80 I) (mm_rf (r_624 I) (And.intro ⟨k_120 I, mm_inb 6 (n_120 I) (by rw [show nI (w + 1) - Int32.ofInt 1 = nI w from ew]; exact bw)⟩ (mm_rf (show mm_a h 120 (nI (w + 1) - Int32.ofInt 1).toNatClampNeg = nI H by rw [show nI (w + 1) - Int32.ofInt 1 = nI w from ew, cw]; exact e0) ?_))))
    show mm_go ro (d + 2) mm_m_Mo_call 46 [.ref 80, .int (nI a), .int (nI (w + 1) - 1), .int (nI (lk_np h a) + Int32.ofInt 0), .int (Int32.ofInt 4 * (nI (w + 1) - 1) + nI H - (nI (lk_np h a) + Int32.ofInt 0)), .int (nI a), .null] [] h Q
    rw [ew, et, eX]
    exact B1
