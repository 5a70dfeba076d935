/-! RUNNING: perform beside step: calling, whole; every instruction -/
section
variable {ro : mm_Ro} {h0 h s : mm_H} {qm : Nat → Nat} {nC nF nM d n H m i len D : Nat} {Q : Value → mm_H → Prop}
/-- what the class's inputs and loaded marks have to do with the reference's -/
def IX (h : mm_H) : Prop := (∀ c, c < 6 → mm_a h 5 c = mm_a h 85 c) ∧ mm_i h 322 56 = mm_i h 628 80 ∧ ∃ N, N ≤ 8 ∧ mm_i h 628 80 = nI N ∧ ∀ j, j < N → mm_a h 57 j = mm_a h 115 j
theorem pc_do {a B j e : Nat} {x : Int32} (F : KF (kc h) nC nF nM) (S : STs ro h0 nC nF nM qm h s d n H m i) (ix : IX h) (ee : mm_i s 634 80 = nI e) (he : e ≤ 6) (hde : d + 1 ≤ e) (eB : B + (lk_np h a + lk_of h a) = H) (hB : mm_a h 93 (4 * a + 3) = -2 ∨ B < 4) (dd : dj (kc h) nC nF nM s n a x j) : PC h0 qm nM (rs_do (kc h) (mm_sa s 121 d (nI (i + 1))) d H a B j) (ma_do h qm d B i (lk_np h a + lk_of h a) e j) := by
  obtain ⟨I, E, hd, h4, n24⟩ := st_E S
  have stk := (st_f S).2.2.2.1
  have h6 := F.1.2.1
  obtain ⟨L5, i1, N, N1, N2, N3⟩ := ix
  have rd := dj_rs F (s := s) (n := n) (x := x) (a := a) (B := B) hB dd
  obtain ⟨hj, c, c1, c2, c3⟩ := dd
  have c2' : mm_a h 87 j = nI c := c2
  unfold rs_do ma_do
  rw [c2, c2', mm_ncl (by omega), L5 c (by omega)]
  show PC h0 qm nM (if mm_a h 85 c = 0 then _ else _) _
  by_cases q1 : mm_a h 85 c = 0
  · rw [if_pos q1, if_pos q1]
    exact pc_e S (ri_a1 (ri_st S)) (by decide)
  rw [if_neg q1, if_neg q1]
  obtain ⟨fw, fi, rc⟩ := c3 q1
  show PC h0 qm nM (if ¬ mm_a h 90 j = -1 then _ else _) _
  by_cases q2 : mm_a h 90 j = -1
  · rw [if_neg (show ¬ ¬ mm_a h 90 j = -1 from fun z => z q2), if_neg (show ¬ ¬ mm_a h 90 j = -1 from fun z => z q2)]
    by_cases q3 : d = 5
    · rw [if_pos q3, if_pos q3]
      exact pc_e S (ri_a1 (ri_st S)) (by decide)
    · rw [if_neg q3, if_neg q3]
      exact pc_en S q3 hj eB ee he hde
  · rw [if_pos q2, if_pos q2]
    obtain ⟨_, r2, c', r3, r4, r5⟩ := rd
    have ecc : c = c' := (nI_eq (by omega) (by omega)).mp (c2.symm.trans r4)
    subst ecc
    refine pc_bi S (by omega) (r5 q1 q2) (fun n0 => ?_) i1 N N2 N1 N3
    obtain ⟨k0, k1, k2⟩ := os_n F hj (fine_os fi q2) q2
    have np0 : 0 < lk_np h j := by
      rcases kind_j F hj q2 with z | z | z
      · exact absurd z n0
      · exact (k1 z).1
      · exact (k2 z).1
    have na : lk_np h j = lk_np h a := fw.1
    have oa : lk_of h j = lk_of h a := fw.2.1
    have o1 := lk_of1 (h := h) (m := a)
    show mm_a h (64 + 3 * d) (if B + lk_of h j < 3 then B + lk_of h j else 3) = (if 0 < lk_np h a then mm_a s 119 (4 * d + B + lk_of h a) else 0)
    rw [if_pos (show 0 < lk_np h a by omega), oa]
    have ei : (if B + lk_of h a < 3 then B + lk_of h a else 3) = B + lk_of h a := by
      by_cases z : B + lk_of h a < 3
      · rw [if_pos z]
      · rw [if_neg z]; omega
    rw [ei, stk _ (by omega), Nat.add_assoc]
theorem pf_11 (F : KF (kc h) nC nF nM) (S : STs ro h0 nC nF nM qm h s d n H m i) (ML : lx_ML h nC nF nM m len) (ix : IX h) (sc : ∃ e, mm_i s 634 80 = nI e ∧ d + 1 ≤ e ∧ e ≤ 6) (hi : i < len) (o : lk_o h m i = 11) (xl : xc_l (kc h) nC nF nM s n d H (lk_a h m i)) (hQ : ∀ h', PC h0 qm nM (rs_op (kc h) nM (mm_sa s 121 d (nI (i + 1))) d H m i 11) h' → Q .null h') : mm_ev ro (D + 6) n_Ma_perform [.ref 56, .ref (62 + 3 * d)] h Q := by
  obtain ⟨I, E, hd, h4, n24⟩ := st_E S
  obtain ⟨f4, f8, f5, stk, fl, fn⟩ := st_f S
  have T := AR_T S.2.1 S.1
  have h6 := F.1.2.1
  have h10 := F.1.2.2.2
  have MO := (T.2.2.2.1.2.2.1.2 m S.2.2.2.2).2
  have IV := (ML.2.2.1 i hi).1
  have l20 := ML.1
  have eo := IV.2.1
  rw [o] at eo
  obtain ⟨e, ee, hde, he⟩ := sc
  have ix' := ix
  obtain ⟨L5, i1, N, N1, N2, N3⟩ := ix'
  obtain ⟨TT, P, eT, hT, eP, hP⟩ := S.2.2.2.1.2.2.2.2.2.2.2
  have sl := S.2.2.1.2.2.2.2.2
  have c5 := S.2.2.1.1.2.2.2.2.1
  obtain ⟨a, ea⟩ : ∃ a, lk_a h m i = a := ⟨_, rfl⟩
  rw [ea] at xl
  obtain ⟨al, p1, p2, p3, p4⟩ := xl
  have p1' : lk_np h a + lk_of h a ≤ H := p1
  obtain ⟨B, eB⟩ : ∃ B, H - (lk_np h a + lk_of h a) = B := ⟨_, rfl⟩
  have eBk : H - (lk_np (kc h) a + lk_of (kc h) a) = B := eB
  rw [eBk] at p2 p4
  have eB' : B + (lk_np h a + lk_of h a) = H := by omega
  have of1 := lk_of1 (h := h) (m := a)
  have mdj : ∀ x j, dj (kc h) nC nF nM s n a x j → ma_dj h nM B j := fun x j dd => by
    obtain ⟨_, r2, c', r3, r4, r5⟩ := dj_rs F (B := B) p2 dd
    exact ⟨dd.1, c', r3, r4, fun z => r5 (show ¬ mm_a h 85 c' = 0 by rw [← L5 c' r3]; exact z)⟩
  refine c_pf (D := D + 4) S ML hi ?_
  rw [o, (IV.2.2.1 o).1, ea]
  refine l_pf_11 (d := D + 3) I E.1 (l_po_11 (d := D) I E f4 MO f5 (by omega) eo (by omega) (T.2.2.2.1.2.2.1.2 a al).1 (c_Ma_call (d := D + 1) (B := B) (e := e) (N := N) T hd al S.2.2.1.2.1 (sl.2.2.2.2.2.trans ee) he f8 h4 eB' f5 fn n24 (fun sa => mdj 0 a (p3 sa)) (fun sa => ?_) (sl.2.2.2.2.1.trans eT) hT (i1.trans N2) N1 (sl.2.2.2.1.trans eP) hP (hQ _ ?_)))
  · have of1 : lk_of h a = 1 := if_pos sa
    rw [stk B (by omega)]
    rcases p4 sa with z | ⟨u, c, j, u1, u2, u3, u4, u5, u6, u7⟩
    · exact Or.inl z
    · refine Or.inr ⟨u, c, j, u1, u2, u3, u4, ?_, u6, mdj _ j u7⟩
      have z := c5 (u - 1) (by omega)
      rw [show u - 1 + 1 = u by omega] at z
      exact z.trans u5
  · show PC h0 qm nM (rs_call (kc h) nM (mm_sa s 121 d (nI (i + 1))) d H (lk_a h m i)) (ma_cl h qm nM d B i (lk_np h a + lk_of h a) e a)
    rw [ea]
    unfold rs_call ma_cl
    have po : H - lk_po (kc h) 0 11 a = B := eB
    rw [po]
    show PC h0 qm nM (if ¬ mm_a h 95 a = 0 then rs_do (kc h) (mm_sa s 121 d (nI (i + 1))) d H a B a else if mm_a s 119 (4 * d + B) = 0 then mm_si (mm_sa s 121 d (nI (i + 1))) 635 80 6 else rs_do (kc h) (mm_sa s 121 d (nI (i + 1))) d H a B (rs_fd (kc h) nM (mm_a h 88 a) (mm_a s 116 (mm_a s 119 (4 * d + B)).toNatClampNeg).toInt)) _
    by_cases sa : mm_a h 95 a = 0
    · rw [if_neg (show ¬ ¬ mm_a h 95 a = 0 from fun z => z sa), if_neg (show ¬ ¬ mm_a h 95 a = 0 from fun z => z sa)]
      have of1 : lk_of h a = 1 := if_pos sa
      rw [stk B (by omega)]
      rcases p4 sa with z | ⟨u, c, j, u1, u2, u3, u4, u5, u6, u7⟩
      · rw [if_pos z, if_pos z]
        exact pc_e S (ri_a1 (ri_st S)) (by decide)
      · have n0 : ¬ mm_a s 119 (4 * d + B) = 0 := fun y => by
          rw [u3] at y
          have := mm_nee (by omega) (by omega) (show nI u = nI 0 from y)
          omega
        rw [if_neg n0, if_neg n0]
        have z := c5 (u - 1) (by omega)
        rw [show u - 1 + 1 = u by omega] at z
        have u6' : lk_at h nM (mm_a h 88 a) (c : Int) j := u6
        rw [u3, mm_ncl (by omega), z, u5, mm_nt (by omega), rs_fd_eq u6', show rs_fd (kc h) nM (mm_a h 88 a) (c : Int) = j from rs_fd_eq u6]
        exact pc_do F S ix ee he hde eB' p2 u7
    · rw [if_pos sa, if_pos sa]
      exact pc_do F S ix ee he hde eB' p2 (p3 sa)
/-- one step of the class -/
theorem c_Ma_perform (F : KF (kc h) nC nF nM) (S : STs ro h0 nC nF nM qm h s d n H m i) (ix : IX h) (sc : ∃ e, mm_i s 634 80 = nI e ∧ d + 1 ≤ e ∧ e ≤ 6) (ML : ∃ len, lx_ML (kc h) nC nF nM m len ∧ i < len) (oc : ∀ u, 0 < u → u ≤ n → ∃ c, c < nC ∧ mm_a s 116 u = nI c) (xl : lk_o (kc h) m i = 11 → xc_l (kc h) nC nF nM s n d H (lk_a (kc h) m i)) (rz : rs_rz (kc h) (mm_sa s 121 d (nI (i + 1))) (d + 1)) (ok : rs_ok (kc h) nM n s d H m (lk_a (kc h) m i) (lk_o (kc h) m i)) (hQ : ∀ h', PC h0 qm nM (rs_op (kc h) nM (mm_sa s 121 d (nI (i + 1))) d H m i (lk_o (kc h) m i)) h' → Q .null h') : mm_ev ro (D + 6) n_Ma_perform [.ref 56, .ref (62 + 3 * d)] h Q := by
  obtain ⟨len, ML', hi⟩ := ML
  have ML : lx_ML h nC nF nM m len := lx_ML_sm (h := kc h) (h' := h) (fun k k1 k2 _ => funext (fun j => if_pos (Or.inl ⟨k1, k2⟩))) ML'
  have IV := (ML.2.2.1 i hi).1
  have ho := IV.1.1
  have hmM := S.2.2.2.2
  have h10 := F.1.2.2.2
  have e0 : lk_o (kc h) m i = lk_o h m i := rfl
  have ea : lk_a (kc h) m i = lk_a h m i := rfl
  have r2 : -2 ≤ (mm_a h 93 (4 * m + 3)).toInt := (F.2.2.2.1.2 (4 * m + 3) (by omega)).1.1
  rw [e0] at ok hQ xl
  rw [ea] at ok xl
  have c18 : lk_o h m i = 0 ∨ lk_o h m i = 1 ∨ lk_o h m i = 2 ∨ lk_o h m i = 3 ∨ lk_o h m i = 4 ∨ lk_o h m i = 5 ∨ lk_o h m i = 6 ∨ lk_o h m i = 7 ∨ lk_o h m i = 8 ∨ lk_o h m i = 9 ∨ lk_o h m i = 10 ∨ lk_o h m i = 11 ∨ lk_o h m i = 12 ∨ lk_o h m i = 13 ∨ lk_o h m i = 14 ∨ lk_o h m i = 15 ∨ lk_o h m i = 16 ∨ lk_o h m i = 17 := by omega
  rcases c18 with q | q | q | q | q | q | q | q | q | q | q | q | q | q | q | q | q | q
  · rw [q] at ok hQ; exact pf_0 S ML hi q ok hQ
  · rw [q] at ok hQ; exact pf_1 S ML hi q ok hQ
  · rw [q] at ok hQ; exact pf_2 S ML hi q ok hQ
  · rw [q] at ok hQ; exact pf_3 S ML hi q ok hQ
  · rw [q] at ok hQ; exact pf_4 S ML hi q ok hQ
  · rw [q] at ok hQ; exact pf_5 S ML hi q ok hQ
  · rw [q] at ok hQ; exact pf_6 S ML hi q ok hQ
  · rw [q] at ok hQ; exact pf_7 S ML ix.1 hi q ok hQ
  · rw [q] at ok hQ; exact pf_8 S ML hi q hQ
  · rw [q] at ok hQ; exact pf_9 S ML hi q ok hQ
  · rw [q] at ok hQ; exact pf_10 S ML hi q ok hQ
  · have x := xl q
    rw [q] at ok hQ; exact pf_11 F S ML ix sc hi q x hQ
  · rw [q] at ok hQ; exact pf_12 S ML rz oc hi q ok hQ
  · rw [q] at ok hQ; exact pf_13 S ML hi q hQ
  · rw [q] at ok hQ; exact pf_14 S ML hi q ok hQ
  · rw [q] at ok hQ; exact pf_15 S ML hi q ok hQ
  · rw [q] at ok hQ; exact pf_16 S ML rz r2 hi q ok hQ
  · rw [q] at ok hQ; exact pf_17 S ML rz hi q ok hQ
end
