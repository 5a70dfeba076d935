/-! RUNNING: perform beside step, instruction by instruction -/
section
variable {ro : mm_Ro} {h0 h s : mm_H} {qm : Nat → Nat} {nC nF nM d n H m i len D : Nat} {Q : Value → mm_H → Prop}
theorem st_tp (S : STs ro h0 nC nF nM qm h s d n H m i) (h0' : 0 < H) : mm_a h (62 + 3 * d + 2) (H - 1) = rs_tp s d H := by
  have z := (st_f S).2.2.2.1 (H - 1) (by omega)
  rw [show 62 + 3 * d + 2 = 64 + 3 * d by omega]
  exact z
theorem st_t2 (S : STs ro h0 nC nF nM qm h s d n H m i) (h0' : 1 < H) : mm_a h (62 + 3 * d + 2) (H - 1 - 1) = mm_a s 119 (4 * d + (H - 2)) := by
  have z := (st_f S).2.2.2.1 (H - 2) (by omega)
  rw [show 62 + 3 * d + 2 = 64 + 3 * d by omega, show H - 1 - 1 = H - 2 by omega]
  exact z
theorem st_E (S : STs ro h0 nC nF nM qm h s d n H m i) : mm_SH h ∧ ac h (62 + 3 * d) ∧ d < 6 ∧ H ≤ 4 ∧ n ≤ 24 := by
  have I := AR_SH S.2.1 S.1.1
  have hd := S.2.2.2.1.1.1
  exact ⟨I, ac_w I hd, hd, S.2.2.2.1.1.2.1, S.2.2.2.1.1.2.2.2.2⟩
theorem pf_0 (S : STs ro h0 nC nF nM qm h s d n H m i) (ML : lx_ML h nC nF nM m len) (hi : i < len) (o : lk_o h m i = 0) (ok : H < 4) (hQ : ∀ h', PC h0 qm nM (rs_op (kc h) nM (mm_sa s 121 d (nI (i + 1))) d H m i 0) h' → Q .null h') : mm_ev ro (D + 6) n_Ma_perform [.ref 56, .ref (62 + 3 * d)] h Q := by
  obtain ⟨I, E, hd, h4, n24⟩ := st_E S
  obtain ⟨f4, f8, f5, _⟩ := st_f S
  refine c_pf (D := D + 4) S ML hi ?_
  rw [o]
  exact l_pf_0 (d := D + 3) E f8 f5 ok (hQ _ (pc_ri S (ri_at hd (ri_lay hd ok (ri_a1 (ri_st S)))) (by omega) mm_a1 (mm_i1.trans ((mm_a2 (by omega)).trans ((mm_a2 (by omega)).trans mm_a1)).symm)))
theorem pf_1 (S : STs ro h0 nC nF nM qm h s d n H m i) (ML : lx_ML h nC nF nM m len) (hi : i < len) (o : lk_o h m i = 1) (ok : H < 4) (hQ : ∀ h', PC h0 qm nM (rs_op (kc h) nM (mm_sa s 121 d (nI (i + 1))) d H m i 1) h' → Q .null h') : mm_ev ro (D + 6) n_Ma_perform [.ref 56, .ref (62 + 3 * d)] h Q := by
  obtain ⟨I, E, hd, h4, n24⟩ := st_E S
  obtain ⟨f4, f8, f5, _⟩ := st_f S
  refine c_pf (D := D + 4) S ML hi ?_
  rw [o]
  exact l_pf_1 (d := D + 3) E f8 f5 ok (hQ _ (pc_ri S (ri_at hd (ri_lay hd ok (ri_a1 (ri_st S)))) (by omega) mm_a1 (mm_i1.trans ((mm_a2 (by omega)).trans ((mm_a2 (by omega)).trans mm_a1)).symm)))
theorem pf_2 (S : STs ro h0 nC nF nM qm h s d n H m i) (ML : lx_ML h nC nF nM m len) (hi : i < len) (o : lk_o h m i = 2) (ok : H < 4 ∧ lk_a h m i < 6) (hQ : ∀ h', PC h0 qm nM (rs_op (kc h) nM (mm_sa s 121 d (nI (i + 1))) d H m i 2) h' → Q .null h') : mm_ev ro (D + 6) n_Ma_perform [.ref 56, .ref (62 + 3 * d)] h Q := by
  obtain ⟨I, E, hd, h4, n24⟩ := st_E S
  obtain ⟨f4, f8, f5, _, fl, _⟩ := st_f S
  have IV := (ML.2.2.1 i hi).1
  refine c_pf (D := D + 4) S ML hi ?_
  rw [o, IV.2.2.2.1 (by omega)]
  refine l_pf_2 (d := D + 3) E f8 f5 ok.1 ok.2 (hQ _ ?_)
  rw [show 62 + 3 * d + 1 = 63 + 3 * d by omega, fl _ ok.2]
  exact pc_ri S (ri_at hd (ri_lay hd ok.1 (ri_a1 (ri_st S)))) (by omega) mm_a1 (mm_i1.trans ((mm_a2 (by omega)).trans ((mm_a2 (by omega)).trans mm_a1)).symm)
theorem pf_3 (S : STs ro h0 nC nF nM qm h s d n H m i) (ML : lx_ML h nC nF nM m len) (hi : i < len) (o : lk_o h m i = 3) (ok : 0 < H ∧ lk_a h m i < 6) (hQ : ∀ h', PC h0 qm nM (rs_op (kc h) nM (mm_sa s 121 d (nI (i + 1))) d H m i 3) h' → Q .null h') : mm_ev ro (D + 6) n_Ma_perform [.ref 56, .ref (62 + 3 * d)] h Q := by
  obtain ⟨I, E, hd, h4, n24⟩ := st_E S
  obtain ⟨f4, f8, f5, _, fl, _⟩ := st_f S
  have IV := (ML.2.2.1 i hi).1
  refine c_pf (D := D + 4) S ML hi ?_
  rw [o, IV.2.2.2.1 (by omega)]
  refine l_pf_3 (d := D + 3) E f8 f5 ok.1 h4 ok.2 (hQ _ ?_)
  rw [st_tp S ok.1, show 62 + 3 * d + 1 = 63 + 3 * d by omega]
  exact pc_ri S (ri_at hd (ri_loc hd ok.2 (ri_hgt (H' := H - 1) hd (by omega) (ri_a1 (ri_st S))))) (by omega) ((mm_a2 (by omega)).trans mm_a1) (mm_i1.trans ((mm_a2 (by omega)).trans ((mm_a2 (by omega)).trans mm_a1)).symm)
theorem pf_4 (S : STs ro h0 nC nF nM qm h s d n H m i) (ML : lx_ML h nC nF nM m len) (hi : i < len) (o : lk_o h m i = 4) (ok : 0 < H ∧ H < 4) (hQ : ∀ h', PC h0 qm nM (rs_op (kc h) nM (mm_sa s 121 d (nI (i + 1))) d H m i 4) h' → Q .null h') : mm_ev ro (D + 6) n_Ma_perform [.ref 56, .ref (62 + 3 * d)] h Q := by
  obtain ⟨I, E, hd, h4, n24⟩ := st_E S
  obtain ⟨f4, f8, f5, _, fl, _⟩ := st_f S
  refine c_pf (D := D + 4) S ML hi ?_
  rw [o]
  refine l_pf_4 (d := D + 3) E f8 f5 ok.1 ok.2 (hQ _ ?_)
  rw [st_tp S ok.1]
  have r := ri_lay (x := rs_tp s d H) hd (by omega) (ri_hgt (y := nI (H - 1)) (H' := H - 1) hd (by omega) (ri_a1 (y := nI (i + 1)) (ri_st S)))
  rw [show H - 1 + 1 = H by omega] at r
  exact pc_ri S (ri_at hd (ri_lay hd ok.2 r)) (by omega) mm_a1 (mm_i1.trans ((mm_a2 (by omega)).trans ((mm_a2 (by omega)).trans ((mm_a2 (by omega)).trans ((mm_a2 (by omega)).trans ((mm_a2 (by omega)).trans mm_a1))))).symm)
theorem pf_5 (S : STs ro h0 nC nF nM qm h s d n H m i) (ML : lx_ML h nC nF nM m len) (hi : i < len) (o : lk_o h m i = 5) (ok : 0 < H) (hQ : ∀ h', PC h0 qm nM (rs_op (kc h) nM (mm_sa s 121 d (nI (i + 1))) d H m i 5) h' → Q .null h') : mm_ev ro (D + 6) n_Ma_perform [.ref 56, .ref (62 + 3 * d)] h Q := by
  obtain ⟨I, E, hd, h4, n24⟩ := st_E S
  obtain ⟨f4, f8, f5, _, fl, _⟩ := st_f S
  refine c_pf (D := D + 4) S ML hi ?_
  rw [o]
  exact l_pf_5 (d := D + 3) E f8 f5 ok h4 (hQ _ (pc_ri S (ri_at hd (ri_hgt (H' := H - 1) hd (by omega) (ri_a1 (ri_st S)))) (by omega) mm_a1 (mm_i1.trans ((mm_a2 (by omega)).trans mm_a1).symm)))
theorem pf_6 (S : STs ro h0 nC nF nM qm h s d n H m i) (ML : lx_ML h nC nF nM m len) (hi : i < len) (o : lk_o h m i = 6) (ok : 1 < H) (hQ : ∀ h', PC h0 qm nM (rs_op (kc h) nM (mm_sa s 121 d (nI (i + 1))) d H m i 6) h' → Q .null h') : mm_ev ro (D + 6) n_Ma_perform [.ref 56, .ref (62 + 3 * d)] h Q := by
  obtain ⟨I, E, hd, h4, n24⟩ := st_E S
  obtain ⟨f4, f8, f5, _, fl, _⟩ := st_f S
  refine c_pf (D := D + 4) S ML hi ?_
  rw [o]
  refine l_pf_6 (d := D + 3) E f8 f5 ok h4 (hQ _ ?_)
  rw [st_tp S (by omega), st_t2 S ok, Int32.add_comm, show H - 1 - 1 = H - 2 by omega]
  have r := ri_lay (x := mm_a s 119 (4 * d + (H - 2)) + rs_tp s d H) hd (by omega) (ri_hgt (y := nI (H - 2)) (H' := H - 2) hd (by omega) (ri_hgt (y := nI (H - 1)) (H' := H - 1) hd (by omega) (ri_a1 (y := nI (i + 1)) (ri_st S))))
  have e : rs_op (kc h) nM (mm_sa s 121 d (nI (i + 1))) d H m i 6 = rs_lay (mm_sa (mm_sa (mm_sa s 121 d (nI (i + 1))) 120 d (nI (H - 1))) 120 d (nI (H - 2))) d (H - 2) (mm_a s 119 (4 * d + (H - 2)) + rs_tp s d H) := by
    show rs_lay (rs_pop (rs_pop (mm_sa s 121 d (nI (i + 1))) d H) d (H - 1)) d (H - 2) (mm_a s 119 (4 * d + (H - 2)) + rs_tp s d H) = _
    unfold rs_pop
    rw [show H - 1 - 1 = H - 2 by omega]
  rw [e]
  exact pc_ri S (ri_at hd r) (by omega) mm_a1 (mm_i1.trans ((mm_a2 (by omega)).trans ((mm_a2 (by omega)).trans ((mm_a2 (by omega)).trans ((mm_a2 (by omega)).trans mm_a1)))).symm)
theorem pf_8 (S : STs ro h0 nC nF nM qm h s d n H m i) (ML : lx_ML h nC nF nM m len) (hi : i < len) (o : lk_o h m i = 8) (hQ : ∀ h', PC h0 qm nM (rs_op (kc h) nM (mm_sa s 121 d (nI (i + 1))) d H m i 8) h' → Q .null h') : mm_ev ro (D + 6) n_Ma_perform [.ref 56, .ref (62 + 3 * d)] h Q := by
  obtain ⟨I, E, hd, h4, n24⟩ := st_E S
  obtain ⟨f4, f8, f5, _, fl, _⟩ := st_f S
  have t0 := S.2.2.2.1.2.2.2.1
  refine c_pf (D := D + 4) S ML hi ?_
  rw [o]
  exact l_pf_8 (d := D + 3) E f8 f5 (hQ _ (pc_ri S (ri_at hd (ri_a1 (ri_st S))) h4 ((mm_a2 (by omega)).trans t0) (mm_i1.trans mm_a1.symm)))
theorem pf_13 (S : STs ro h0 nC nF nM qm h s d n H m i) (ML : lx_ML h nC nF nM m len) (hi : i < len) (o : lk_o h m i = 13) (hQ : ∀ h', PC h0 qm nM (rs_op (kc h) nM (mm_sa s 121 d (nI (i + 1))) d H m i 13) h' → Q .null h') : mm_ev ro (D + 6) n_Ma_perform [.ref 56, .ref (62 + 3 * d)] h Q := by
  obtain ⟨I, E, hd, h4, n24⟩ := st_E S
  obtain ⟨f4, f8, f5, _, fl, _⟩ := st_f S
  have t0 := S.2.2.2.1.2.2.2.1
  refine c_pf (D := D + 4) S ML hi ?_
  rw [o]
  exact l_pf_13 (d := D + 3) E f8 f5 (hQ _ (pc_ri S (ri_at hd (ri_a1 (ri_a1 (ri_st S)))) h4 ((mm_a2 (by omega)).trans ((mm_a2 (by omega)).trans t0)) (mm_i1.trans mm_a1.symm)))
theorem pf_jm {x : Int32} (S : STs ro h0 nC nF nM qm h s d n H m i) (ok : 0 < H) : PC h0 qm nM (if rs_tp s d H = 0 then mm_sa (rs_pop (mm_sa s 121 d (nI (i + 1))) d H) 121 d x else rs_pop (mm_sa s 121 d (nI (i + 1))) d H) (mm_si (mm_si h 388 (62 + 3 * d) (nI (H - 1))) 385 (62 + 3 * d) (if mm_a h (62 + 3 * d + 2) (H - 1) = 0 then x else nI (i + 1))) := by
  obtain ⟨I, E, hd, h4, n24⟩ := st_E S
  rw [st_tp S ok]
  by_cases q : rs_tp s d H = 0
  · rw [if_pos q, if_pos q]
    exact pc_ri S (ri_at hd (ri_a1 (ri_hgt (H' := H - 1) hd (by omega) (ri_a1 (ri_st S))))) (by omega) ((mm_a2 (by omega)).trans mm_a1) (mm_i1.trans mm_a1.symm)
  · rw [if_neg q, if_neg q]
    exact pc_ri S (ri_at hd (ri_hgt (H' := H - 1) hd (by omega) (ri_a1 (ri_st S)))) (by omega) mm_a1 (mm_i1.trans ((mm_a2 (by omega)).trans mm_a1).symm)
theorem pf_14 (S : STs ro h0 nC nF nM qm h s d n H m i) (ML : lx_ML h nC nF nM m len) (hi : i < len) (o : lk_o h m i = 14) (ok : 0 < H) (hQ : ∀ h', PC h0 qm nM (rs_op (kc h) nM (mm_sa s 121 d (nI (i + 1))) d H m i 14) h' → Q .null h') : mm_ev ro (D + 6) n_Ma_perform [.ref 56, .ref (62 + 3 * d)] h Q := by
  obtain ⟨I, E, hd, h4, n24⟩ := st_E S
  obtain ⟨f4, f8, f5, _, fl, _⟩ := st_f S
  refine c_pf (D := D + 4) S ML hi ?_
  rw [o]
  exact l_pf_14 (d := D + 3) E f8 f5 ok h4 (hQ _ (pf_jm S ok))
theorem pf_15 (S : STs ro h0 nC nF nM qm h s d n H m i) (ML : lx_ML h nC nF nM m len) (hi : i < len) (o : lk_o h m i = 15) (ok : 0 < H) (hQ : ∀ h', PC h0 qm nM (rs_op (kc h) nM (mm_sa s 121 d (nI (i + 1))) d H m i 15) h' → Q .null h') : mm_ev ro (D + 6) n_Ma_perform [.ref 56, .ref (62 + 3 * d)] h Q := by
  obtain ⟨I, E, hd, h4, n24⟩ := st_E S
  obtain ⟨f4, f8, f5, _, fl, _⟩ := st_f S
  refine c_pf (D := D + 4) S ML hi ?_
  rw [o]
  exact l_pf_15 (d := D + 3) E f8 f5 ok h4 (hQ _ (pf_jm S ok))
end
