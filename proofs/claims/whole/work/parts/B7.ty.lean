/-! each instruction keeps what holds: giving -/
section
variable {K s : mm_H} {nC nF nM n d m len i H k : Nat} {X : Nat → mm_F}
theorem SC_dn {g : mm_H} {e : Nat} (sc : SC s (e + 1) k) (c3 : mm_i g 633 80 = nI (e + 1)) (ci : ∀ f, f = 635 ∨ f = 630 ∨ f = 631 ∨ f = 634 → mm_i g f 80 = mm_i s f 80) : SC g e (k + 1) := by
  obtain ⟨c1, c2, c4, ⟨T, P, t1, t2, t3, t4⟩, q, e1, e2, e3⟩ := sc
  exact ⟨by omega, c3, (ci _ (by omega)).trans c4, ⟨T, P, (ci _ (by omega)).trans t1, by omega, (ci _ (by omega)).trans t3, by omega⟩, q, (ci _ (by omega)).trans e1, by omega, e3⟩
theorem give_fit (F : KF K nC nF nM) (tw : TW K nC nF nM s n d m len X i H) (o : lk_o K m i = 16) : (mm_a K 93 (4 * m + 3) = -2 ∨ 0 < H) ∧ (0 ≤ (mm_a K 93 (4 * m + 3)).toInt → rt K nC s n (mm_a K 93 (4 * m + 3)).toInt (rs_tp s d H)) := by
  obtain ⟨W, hi, a2, a1, a0, h4, eX, f⟩ := tw
  obtain ⟨n1, n2, n3⟩ := no_i W hi eX h4
  obtain ⟨g1, g2, g3⟩ := lk_good n2
  rw [o] at g2 g3 n3
  by_cases q : mm_a K 93 (4 * m + 3) = -2
  · refine ⟨Or.inl q, fun z => ?_⟩
    rw [q] at z
    exact absurd z (by decide)
  · have g2' : (if mm_a K 93 (4 * m + 3) = -2 then 0 else 1) ≤ H := g2
    rw [if_neg q] at g2'
    refine ⟨Or.inr (by omega), fun z => ?_⟩
    have n3' : (if mm_a K 93 (4 * m + 3) = -2 then (9 : Int32) else lk_wf (mm_up K) ((X i).2.2.2 (5 + H)) (mm_a K 93 (4 * m + 3)) (mm_a K 96 (4 * m + 3)) (mm_a K 94 (4 * m + 3))) = 9 := n3
    rw [if_neg q] at n3'
    have ft := (f.2 (H - 1) (by omega)).1
    rw [show 6 + (H - 1) = 5 + H by omega] at ft
    have vr := WM_vr (v := 5 + H) W hi eX h4 (by omega)
    have A := e5_A n3'
    exact vt_ir vr (Classical.byContradiction (fun y => A (Or.inr ⟨z, y⟩))) ft
/-- what a method that has called knows of its stack -/
theorem SW_4 {w mc B : Nat} (h : SW K nC nF nM s n w mc m len X i B) : B ≤ 4 ∧ (mm_a K 93 (4 * mc + 3) = -2 ∨ B < 4) := by
  obtain ⟨W, hi, eo, e2, e1, e0, h4, eX, f, rb⟩ := h
  obtain ⟨n1, n2, n3⟩ := no_i W hi eX h4
  obtain ⟨g1, g2, g3⟩ := lk_good n2
  rw [eo] at g2 g3
  have g3' : B + (lk_np K (lk_a K m i) + lk_of K (lk_a K m i)) - (lk_np K (lk_a K m i) + lk_of K (lk_a K m i)) + (if mm_a K 93 (4 * lk_a K m i + 3) = -2 then 0 else 1) ≤ 4 := g3
  refine ⟨by omega, ?_⟩
  by_cases q : mm_a K 93 (4 * lk_a K m i + 3) = -2
  · exact Or.inl (rb.1.mpr q)
  · rw [if_neg q] at g3'
    exact Or.inr (by omega)
theorem op_16 (F : KF K nC nF nM) (sc : SC s d k) (ob : OB K nC nF s n) (sws : SWs K nC nF nM s n d) (tw : TW K nC nF nM s n d m len X i H) (o : lk_o K m i = 16) : ((mm_a K 93 (4 * m + 3) = -2 ∨ 0 < H) ∧ (0 < d → ∃ g, mm_a s 120 (d - 1) = nI g ∧ g ≤ 4 ∧ (mm_a K 93 (4 * m + 3) = -2 ∨ g < 4)) ∧ (0 ≤ (mm_a K 93 (4 * m + 3)).toInt → rs_ob s n (rs_tp s d H))) ∧ (mm_i (rs_give K (mm_sa s 121 d (nI (i + 1))) d H m) 635 80 = -1 → TY K nC nF nM (rs_give K (mm_sa s 121 d (nI (i + 1))) d H m) (k + 1)) := by
  have h6 := F.1.2.1
  have h10 := F.1.2.2.2
  obtain ⟨ft1, ft2⟩ := give_fit F tw o
  have tw' := tw
  obtain ⟨W, hi, a2, a1, a0, h4, eX, f⟩ := tw'
  have hm := W.1
  refine ⟨⟨ft1, fun d0 => ?_, fun z => rt_ob h6 (ft2 z)⟩, ?_⟩
  · obtain ⟨mc, m', len', X', i', B, hc, e22, sw⟩ := sws (d - 1) (by omega)
    rw [show d - 1 + 1 = d by omega, a2] at e22
    have em : m = mc := (nI_eq (by omega) (by omega)).mp e22
    subst em
    have z := SW_4 sw
    exact ⟨B, sw.2.2.2.2.2.1, z.1, z.2⟩
  by_cases d0 : d = 0
  · intro z
    have e : mm_i (rs_give K (mm_sa s 121 d (nI (i + 1))) d H m) 635 80 = 0 := by
      unfold rs_give rs_gv
      rw [if_pos d0, if_pos d0]
      split
      · exact (mm_i2 (by omega)).trans mm_i1
      · exact (mm_i2 (by omega)).trans mm_i1
    rw [e] at z
    exact absurd z (by decide)
  intro _
  obtain ⟨e, hd⟩ : ∃ e, d = e + 1 := ⟨d - 1, by omega⟩
  subst hd
  obtain ⟨mc, m', len', X', i', B, hc, e22, sw⟩ := sws e (by omega)
  rw [a2] at e22
  have em : m = mc := (nI_eq (by omega) (by omega)).mp e22
  subst em
  have z4 := SW_4 sw
  have sw' := sw
  obtain ⟨W', hi', eo', e2', e1', e0', h4', eX', f', rb⟩ := sw'
  have sB := z4.1
  have eBB : B + (lk_np K (lk_a K m' i') + lk_of K (lk_a K m' i')) - (lk_np K (lk_a K m' i') + lk_of K (lk_a K m' i')) = B := by omega
  have ew := ew_0 (K := K) (m := m') (i := i') (H := B + (lk_np K (lk_a K m' i') + lk_of K (lk_a K m' i'))) (s := (X' i').2.1) (f := (X' i').2.2.1) (g := (X' i').2.2.2) (by omega)
  rw [eo'] at ew
  have ew' : lk_ew K m' i' (B + (lk_np K (lk_a K m' i') + lk_of K (lk_a K m' i'))) (X' i').2.1 (X' i').2.2.1 (X' i').2.2.2 0 = (if mm_a K 93 (4 * lk_a K m' i' + 3) = -2 then (nI (B + (lk_np K (lk_a K m' i') + lk_of K (lk_a K m' i')) - (lk_np K (lk_a K m' i') + lk_of K (lk_a K m' i'))), (X' i').2.1, (X' i').2.2.1, (X' i').2.2.2) else (nI (B + (lk_np K (lk_a K m' i') + lk_of K (lk_a K m' i')) - (lk_np K (lk_a K m' i') + lk_of K (lk_a K m' i')) + 1), (X' i').2.1, (X' i').2.2.1, lk_up (X' i').2.2.2 (6 + (B + (lk_np K (lk_a K m' i') + lk_of K (lk_a K m' i')) - (lk_np K (lk_a K m' i') + lk_of K (lk_a K m' i')))) (lk_sv (mm_a K 93 (4 * lk_a K m' i' + 3)) (mm_a K 96 (4 * lk_a K m' i' + 3)) (mm_a K 94 (4 * lk_a K m' i' + 3))))) := ew
  rw [eBB] at ew'
  clear ew
  have sws' : SWs K nC nF nM s n e := SWs_lf (d := e + 1) lf_rf (sg_rf rfl) (by omega) (fun _ => rfl) sws
  by_cases q : mm_a K 93 (4 * m + 3) = -2
  · have qa := rb.1.mp q
    rw [if_pos qa] at ew'
    have es : rs_give K (mm_sa s 121 (e + 1) (nI (i + 1))) (e + 1) H m = mm_si (mm_sa s 121 (e + 1) (nI (i + 1))) 633 80 (nI (e + 1)) := by
      unfold rs_give rs_gv
      rw [if_pos q, if_neg (by omega), if_pos q]
    rw [es]
    obtain ⟨b1, b2, b3⟩ := go_on W' hi' eX' h4' (by omega : 0 < 3) (w_0 (by omega)) ew' rfl (by omega) f'
    refine ⟨e, n, m', len', X', i' + 1, B, SC_dn sc mm_i1 (fun f hf => (mm_i2 (by omega)).trans rfl), OB_si (by omega) (OB_sa (by omega) ob), ⟨W', b1, ?_, ?_, ?_, by omega, b2, ?_⟩, ?_⟩
    · exact (mm_a2 (by omega)).trans e2'
    · exact (mm_a2 (by omega)).trans e1'
    · exact (mm_a2 (by omega)).trans e0'
    · exact ftb_cg (s := s) (L := fun v => mm_a s 118 (6 * e + v)) (S := fun j => mm_a s 119 (4 * e + j)) (sg_rf rfl) (fun v _ => mm_a2 (by omega)) (fun j _ => mm_a2 (by omega)) (fun j hj => WM_vr W' b1 b2 (by omega) (by omega)) b3
    · refine SWs_si (SWs_lf (d := e) (lf_sa lf_rf (by omega)) (sg_rf rfl) (Nat.le_refl _) (fun _ => mm_a2 (by omega)) sws')
  · have qa : ¬ mm_a K 93 (4 * lk_a K m' i' + 3) = -2 := fun z => q (rb.1.mpr z)
    rw [if_neg qa] at ew'
    have hB : B < 4 := z4.2.elim (fun z => absurd z q) id
    have es : rs_give K (mm_sa s 121 (e + 1) (nI (i + 1))) (e + 1) H m = rs_lay (mm_si (rs_pop (mm_sa s 121 (e + 1) (nI (i + 1))) (e + 1) H) 633 80 (nI (e + 1))) e B (rs_tp s (e + 1) H) := by
      unfold rs_give rs_gv
      rw [if_neg q, if_neg (by omega), if_neg q]
      have z : (mm_a (mm_sa s 121 (e + 1) (nI (i + 1))) 120 (e + 1 - 1)).toNatClampNeg = B := by
        rw [mm_a2 (by omega), Nat.add_sub_cancel, e0']
        exact mm_ncl (by omega)
      rw [z]
      rfl
    rw [es]
    generalize hg : mm_si (rs_pop (mm_sa s 121 (e + 1) (nI (i + 1))) (e + 1) H) 633 80 (nI (e + 1)) = g
    have ca : ∀ b j, ¬ ((b = 120 ∨ b = 121) ∧ j = e + 1) → mm_a g b j = mm_a s b j := fun b j hb => by rw [← hg, ra_si]; exact (mm_a2 (by omega)).trans (mm_a2 (by omega))
    have ci : ∀ f, ¬ f = 633 → mm_i g f 80 = mm_i s f 80 := fun f hf => by rw [← hg]; exact (mm_i2 (by omega)).trans rfl
    have c3 : mm_i g 633 80 = nI (e + 1) := by rw [← hg]; exact mm_i1
    have gg : sg s n g n := by rw [← hg]; exact sg_rf rfl
    have gl : lf s g e := by rw [← hg]; exact lf_si (lf_sa (lf_sa lf_rf (by omega)) (by omega))
    have og : OB K nC nF g n := by rw [← hg]; exact OB_si (by omega) (OB_sa (by omega) (OB_sa (by omega) ob))
    clear hg
    have fg : ftb K nC g n (X' i').2.2.2 B (fun v => mm_a g 118 (6 * e + v)) (fun j => mm_a g 119 (4 * e + j)) := ftb_cg gg (fun v _ => ca _ _ (by omega)) (fun j _ => ca _ _ (by omega)) (fun j hj => WM_vr W' hi' eX' h4' (by omega)) f'
    have rr : 0 ≤ (mm_a K 93 (4 * lk_a K m' i' + 3)).toInt → rt K nC g n (mm_a K 93 (4 * lk_a K m' i' + 3)).toInt (rs_tp s (e + 1) H) := fun z => by
      obtain ⟨y1, y2⟩ := rb.2 z
      exact rt_sg gg (rt_bel y2 (ft2 y1))
    have r1 : -1 ≤ (mm_a K 93 (4 * lk_a K m' i' + 3)).toInt := by
      have al : lk_a K m' i' < nM := (W'.2.2.1.2.2.1 i' hi').2.2.2 eo'
      have z := (F.2.2.2.1.2 (4 * lk_a K m' i' + 3) (by omega)).1.1
      have : ¬ (mm_a K 93 (4 * lk_a K m' i' + 3)).toInt = -2 := fun y => qa (Int32.toInt_inj.mp (by rw [y]; decide))
      omega
    have ft := lay_ft (K := K) (nC := nC) (n := n) (d := e) (B := B) (s2 := g) (g := (X' i').2.2.2) (x := rs_tp s (e + 1) H) (y := lk_sv (mm_a K 93 (4 * lk_a K m' i' + 3)) (mm_a K 96 (4 * lk_a K m' i' + 3)) (mm_a K 94 (4 * lk_a K m' i' + 3))) (fun j hj => WM_vr W' hi' eX' h4' (by omega)) (by rw [lk_sv_o]; decide) (vt_sv rr r1) (fun z => absurd lk_sv_o z) fg
    obtain ⟨b1, b2, b3⟩ := go_on W' hi' eX' h4' (by omega : 0 < 3) (w_0 (by omega)) ew' rfl (by omega) ft
    refine ⟨e, n, m', len', X', i' + 1, B + 1, SC_lay (SC_dn sc c3 (fun f hf => ci f (by omega))), OB_lay og, ⟨W', b1, ?_, ?_, mm_a1, by omega, b2, b3⟩, ?_⟩
    · exact (mm_a2 (by omega)).trans ((mm_a2 (by omega)).trans ((ca _ _ (by omega)).trans e2'))
    · exact (mm_a2 (by omega)).trans ((mm_a2 (by omega)).trans ((ca _ _ (by omega)).trans e1'))
    · exact SWs_lf (d := e) (lf_lay gl) (sg_lay gg) (Nat.le_refl _) (fun _ => (mm_a2 (by omega)).trans ((mm_a2 (by omega)).trans (ca _ _ (by omega)))) sws'
end
