/-! one step: it goes well, and keeps what holds -/
theorem e6 {s : mm_H} {v : Int32} (n : ¬ v = -1) {P : Prop} : mm_i (mm_si s 635 80 v) 635 80 = -1 → P := fun z => by
  rw [mm_i1] at z
  exact absurd z n
/-- what a call comes to -/
def xc_l (K : mm_H) (nC nF nM : Nat) (s : mm_H) (n d H a : Nat) : Prop := a < nM ∧ lk_np K a + lk_of K a ≤ H ∧ (mm_a K 93 (4 * a + 3) = -2 ∨ H - (lk_np K a + lk_of K a) < 4) ∧ (¬ mm_a K 95 a = 0 → dj K nC nF nM s n a 0 a) ∧ (mm_a K 95 a = 0 → mm_a s 119 (4 * d + (H - (lk_np K a + lk_of K a))) = 0 ∨ ∃ u c j, 0 < u ∧ u ≤ n ∧ mm_a s 119 (4 * d + (H - (lk_np K a + lk_of K a))) = nI u ∧ c < nC ∧ mm_a s 116 u = nI c ∧ lk_at K nM (mm_a K 88 a) (c : Int) j ∧ dj K nC nF nM s n a (nI u) j)
theorem xc_of {K s : mm_H} {nC nF nM n d m len i H : Nat} {X : Nat → mm_F} (F : KF K nC nF nM) (tw : TW K nC nF nM s n d m len X i H) (o : lk_o K m i = 11) : xc_l K nC nF nM s n d H (lk_a K m i) := by
  obtain ⟨p1, p2, p3, p4⟩ := call_args tw o
  have al : lk_a K m i < nM := (tw.1.2.2.1.2.2.1 i tw.2.1).2.2.2 o
  refine ⟨al, p1, p2, fun sa => dj_st F al sa, fun sa => ?_⟩
  rcases p4 sa with z | ⟨u, c, u1, u2, u3, u4, u5, u6⟩
  · exact Or.inl z
  · obtain ⟨j, j1, j2⟩ := dj_vi (s := s) (n := n) F al sa u1 u2 rfl u4 u5 u6
    exact Or.inr ⟨u, c, j, u1, u2, u3, u4, u5, j1, j2⟩
theorem step_ok {K s : mm_H} {nC nF nM k : Nat} (F : KF K nC nF nM) (hk : k < 1000) (ty : TY K nC nF nM s k) : ∃ n w H m i, rs_gs n s w H m i ∧ m < nM ∧ lx_IV K nC nF nM m i ∧ (∃ len, lx_ML K nC nF nM m len ∧ i < len) ∧ (∀ u, 0 < u → u ≤ n → ∃ c, c < nC ∧ mm_a s 116 u = nI c) ∧ (lk_o K m i = 11 → xc_l K nC nF nM s n w H (lk_a K m i)) ∧ rs_rz K (mm_sa s 121 w (nI (i + 1))) (w + 1) ∧ rs_ok K nM n s w H m (lk_a K m i) (lk_o K m i) ∧ (mm_i (rs_op K nM (mm_sa s 121 w (nI (i + 1))) w H m i (lk_o K m i)) 635 80 = -1 → TY K nC nF nM (rs_op K nM (mm_sa s 121 w (nI (i + 1))) w H m i (lk_o K m i)) (k + 1)) := by
  obtain ⟨d, n, m, len, X, i, H, sc, ob, tw, sws⟩ := ty
  have h10 := F.1.2.2.2
  have W := tw.1
  have hi := tw.2.1
  have IV := W.2.2.1.2.2.1 i hi
  have ho := IV.1.1.1
  have l20 := W.2.2.1.1
  have hm := W.1
  have sc' := sc
  obtain ⟨s1, s2, s3, ⟨T, P, t1, t2, t3, t4⟩, _⟩ := sc'
  refine ⟨n, d, H, m, i, ⟨⟨s1, tw.2.2.2.2.2.1, by omega, by omega, ob.1⟩, s2, s3, tw.2.2.2.2.1, tw.2.2.1, tw.2.2.2.1, ob.2.1, T, P, t1, by omega, t3, by omega⟩, hm, IV, ⟨len, W.2.2.1, hi⟩, ob.2.2.1, xc_of F tw, rz_of F sws tw, ?_⟩
  have AV := IV.1.1
  have c18 : lk_o K m i = 0 ∨ lk_o K m i = 1 ∨ lk_o K m i = 2 ∨ lk_o K m i = 3 ∨ lk_o K m i = 4 ∨ lk_o K m i = 5 ∨ lk_o K m i = 6 ∨ lk_o K m i = 7 ∨ lk_o K m i = 8 ∨ lk_o K m i = 9 ∨ lk_o K m i = 10 ∨ lk_o K m i = 11 ∨ lk_o K m i = 12 ∨ lk_o K m i = 13 ∨ lk_o K m i = 14 ∨ lk_o K m i = 15 ∨ lk_o K m i = 16 ∨ lk_o K m i = 17 := by omega
  rcases c18 with q | q | q | q | q | q | q | q | q | q | q | q | q | q | q | q | q | q
  · have z := op_0 sc ob sws tw q
    rw [q]; exact ⟨z.1, fun _ => z.2 _⟩
  · have z := op_1 sc ob sws tw q
    rw [q]; exact ⟨z.1, fun _ => z.2⟩
  · have a5 := AV.2.1 (Or.inl q)
    have z := op_2 sc ob sws tw q a5
    rw [q]; exact ⟨⟨z.1, by omega⟩, fun _ => z.2⟩
  · have a5 := AV.2.1 (Or.inr q)
    have z := op_3 sc ob sws tw q a5
    rw [q]; exact ⟨⟨z.1, by omega⟩, fun _ => z.2⟩
  · have z := op_4 sc ob sws tw q
    rw [q]; exact ⟨z.1, fun _ => z.2⟩
  · have z := op_5 sc ob sws tw q
    rw [q]; exact ⟨z.1, fun _ => z.2⟩
  · have z := op_6 sc ob sws tw q
    rw [q]; exact ⟨z.1, fun _ => z.2 _⟩
  · have z := op_7 F sc ob sws tw q
    rw [q]
    refine ⟨z.1, ?_⟩
    show mm_i (rs_make K (mm_sa s 121 d (nI (i + 1))) d H (mm_i s 629 80).toNatClampNeg (lk_a K m i)) 635 80 = -1 → TY K nC nF nM (rs_make K (mm_sa s 121 d (nI (i + 1))) d H (mm_i s 629 80).toNatClampNeg (lk_a K m i)) (k + 1)
    rw [ob.2.1, mm_ncl (by have := ob.1; omega)]
    exact z.2
  · have z := op_8 sc ob sws tw q
    rw [q]; exact ⟨trivial, fun _ => z⟩
  · have z := op_9 F sc ob sws tw q
    rw [q]
    refine ⟨z.1, ?_⟩
    show mm_i (if rs_tp s d H = 0 then mm_si (rs_pop (mm_sa s 121 d (nI (i + 1))) d H) 635 80 6 else rs_lay (rs_pop (mm_sa s 121 d (nI (i + 1))) d H) d (H - 1) (mm_a s 117 (12 * ((rs_tp s d H).toNatClampNeg - 1) + lk_a K m i))) 635 80 = -1 → TY K nC nF nM (if rs_tp s d H = 0 then mm_si (rs_pop (mm_sa s 121 d (nI (i + 1))) d H) 635 80 6 else rs_lay (rs_pop (mm_sa s 121 d (nI (i + 1))) d H) d (H - 1) (mm_a s 117 (12 * ((rs_tp s d H).toNatClampNeg - 1) + lk_a K m i))) (k + 1)
    by_cases x0 : rs_tp s d H = 0
    · rw [if_pos x0]; exact e6 (by decide)
    · rw [if_neg x0]; exact fun _ => z.2 x0
  · have z := op_10 F sc ob sws tw q
    rw [q]
    refine ⟨z.1, ?_⟩
    show mm_i (if mm_a s 119 (4 * d + (H - 2)) = 0 then mm_si (rs_pop (rs_pop (mm_sa s 121 d (nI (i + 1))) d H) d (H - 1)) 635 80 6 else mm_sa (rs_pop (rs_pop (mm_sa s 121 d (nI (i + 1))) d H) d (H - 1)) 117 (12 * ((mm_a s 119 (4 * d + (H - 2))).toNatClampNeg - 1) + lk_a K m i) (rs_tp s d H)) 635 80 = -1 → TY K nC nF nM (if mm_a s 119 (4 * d + (H - 2)) = 0 then mm_si (rs_pop (rs_pop (mm_sa s 121 d (nI (i + 1))) d H) d (H - 1)) 635 80 6 else mm_sa (rs_pop (rs_pop (mm_sa s 121 d (nI (i + 1))) d H) d (H - 1)) 117 (12 * ((mm_a s 119 (4 * d + (H - 2))).toNatClampNeg - 1) + lk_a K m i) (rs_tp s d H)) (k + 1)
    by_cases x0 : mm_a s 119 (4 * d + (H - 2)) = 0
    · rw [if_pos x0]; exact e6 (by decide)
    · rw [if_neg x0]; exact fun _ => z.2 x0
  · have z := op_11 F sc ob sws tw q
    rw [q]; exact z
  · have z := op_12 F sc ob sws tw q
    rw [q]
    refine ⟨z.1, ?_⟩
    show mm_i (@ite _ (rs_tp s d H = 0 ∨ mm_bel (mm_up K) (mm_a s 116 (rs_tp s d H).toNatClampNeg).toInt (lk_a K m i : Int)) (Classical.propDecidable _) (rs_lay (rs_pop (mm_sa s 121 d (nI (i + 1))) d H) d (H - 1) (rs_tp s d H)) (rs_raise K (rs_tp s d H) (d + 1) (rs_pop (mm_sa s 121 d (nI (i + 1))) d H))) 635 80 = -1 → TY K nC nF nM (@ite _ (rs_tp s d H = 0 ∨ mm_bel (mm_up K) (mm_a s 116 (rs_tp s d H).toNatClampNeg).toInt (lk_a K m i : Int)) (Classical.propDecidable _) (rs_lay (rs_pop (mm_sa s 121 d (nI (i + 1))) d H) d (H - 1) (rs_tp s d H)) (rs_raise K (rs_tp s d H) (d + 1) (rs_pop (mm_sa s 121 d (nI (i + 1))) d H))) (k + 1)
    by_cases x0 : rs_tp s d H = 0 ∨ mm_bel (mm_up K) (mm_a s 116 (rs_tp s d H).toNatClampNeg).toInt (lk_a K m i : Int)
    · rw [if_pos x0]; exact fun _ => z.2.1 x0
    · rw [if_neg x0]; exact z.2.2
  · have z := op_13 sc ob sws tw q
    rw [q]; exact ⟨trivial, fun _ => z⟩
  · have z := op_14 sc ob sws tw q
    rw [q]
    refine ⟨z.1, fun _ => ?_⟩
    show TY K nC nF nM (if rs_tp s d H = 0 then mm_sa (rs_pop (mm_sa s 121 d (nI (i + 1))) d H) 121 d (mm_a K 98 (20 * m + i)) else rs_pop (mm_sa s 121 d (nI (i + 1))) d H) (k + 1)
    by_cases x0 : rs_tp s d H = 0
    · rw [if_pos x0]; exact z.2.1
    · rw [if_neg x0]; exact z.2.2
  · have z := op_15 sc ob sws tw q
    rw [q]
    refine ⟨z.1, fun _ => ?_⟩
    show TY K nC nF nM (if rs_tp s d H = 0 then mm_sa (rs_pop (mm_sa s 121 d (nI (i + 1))) d H) 121 d (mm_a K 98 (20 * m + i)) else rs_pop (mm_sa s 121 d (nI (i + 1))) d H) (k + 1)
    by_cases x0 : rs_tp s d H = 0
    · rw [if_pos x0]; exact z.2.1 x0
    · rw [if_neg x0]; exact z.2.2
  · have z := op_16 F sc ob sws tw q
    rw [q]; exact z
  · have z := op_17 F sc ob sws tw q
    rw [q]
    refine ⟨z.1, ?_⟩
    show mm_i (if rs_tp s d H = 0 then mm_si (rs_pop (mm_sa s 121 d (nI (i + 1))) d H) 635 80 6 else rs_raise K (rs_tp s d H) (d + 1) (rs_pop (mm_sa s 121 d (nI (i + 1))) d H)) 635 80 = -1 → TY K nC nF nM (if rs_tp s d H = 0 then mm_si (rs_pop (mm_sa s 121 d (nI (i + 1))) d H) 635 80 6 else rs_raise K (rs_tp s d H) (d + 1) (rs_pop (mm_sa s 121 d (nI (i + 1))) d H)) (k + 1)
    by_cases x0 : rs_tp s d H = 0
    · rw [if_pos x0]; exact e6 (by decide)
    · rw [if_neg x0]; exact z.2
theorem st_eq {K s : mm_H} {nM n w H m i : Nat} (g : rs_gs n s w H m i) : rs_st K nM s = rs_op K nM (mm_sa s 121 w (nI (i + 1))) w H m i (lk_o K m i) := by
  obtain ⟨⟨hw, h4, hm, hi, hn⟩, e3, e5, e0, e2, e1, en, _⟩ := g
  have w0 : rs_w s = w := by
    unfold rs_w
    rw [e3, mm_ncl (by omega)]
    omega
  unfold rs_st
  rw [w0, e0, e1, e2, mm_ncl (by omega), mm_ncl (by omega), mm_ncl (by omega), ← nI_succ]
