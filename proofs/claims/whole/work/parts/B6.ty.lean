/-! each instruction keeps what holds: throwing, giving -/
def SCr (s : mm_H) (D k : Nat) : Prop := D ≤ 6 ∧ mm_i s 633 80 = nI D ∧ mm_i s 635 80 = -1 ∧ (∃ T P, mm_i s 630 80 = nI T ∧ T ≤ k ∧ mm_i s 631 80 = nI P ∧ P ≤ k) ∧ ∃ e, mm_i s 634 80 = nI e ∧ D ≤ e ∧ e ≤ 6
def RZ (K : mm_H) (nC nF nM : Nat) (s : mm_H) (n D : Nat) : Prop := ∀ w, w < D → ∃ m len X i B, WM K nC nF nM m len X ∧ i < len ∧ (lk_o K m i = 11 ∨ lk_o K m i = 12 ∨ lk_o K m i = 17) ∧ mm_a s 122 w = nI m ∧ mm_a s 121 w = nI (i + 1) ∧ (X i).1 = nI B ∧ B ≤ 4 ∧ ftb K nC s n (X i).2.2.2 0 (fun v => mm_a s 118 (6 * w + v)) (fun j => mm_a s 119 (4 * w + j))
theorem SWs_si {K s : mm_H} {nC nF nM n d f : Nat} {x : Int32} (h : SWs K nC nF nM s n d) : SWs K nC nF nM (mm_si s f 80 x) n d := SWs_lf (lf_si lf_rf) (sg_rf rfl) (Nat.le_refl _) (fun _ => rfl) h
theorem OB_si {K s : mm_H} {nC nF n f : Nat} {x : Int32} (o : ¬ f = 629) (h : OB K nC nF s n) : OB K nC nF (mm_si s f 80 x) n := ⟨h.1, (mm_i2 (by omega)).trans h.2.1, h.2.2.1, fun o f a b c z => rt_sg (sg_rf rfl) (h.2.2.2 o f a b c z)⟩
theorem OB_sa {K s : mm_H} {nC nF n a j : Nat} {x : Int32} (o : ¬ a = 116 ∧ ¬ a = 117) (h : OB K nC nF s n) : OB K nC nF (mm_sa s a j x) n := by
  have e6 : mm_a (mm_sa s a j x) 116 = mm_a s 116 := funext (fun i => mm_a2 (by omega))
  have e7 : mm_a (mm_sa s a j x) 117 = mm_a s 117 := funext (fun i => mm_a2 (by omega))
  refine ⟨h.1, h.2.1, by rw [e6]; exact h.2.2.1, fun o f a b c z => ?_⟩
  rw [e7]
  exact rt_sg (sg_rf e6) (h.2.2.2 o f a b c z)
theorem ftb_at {K s : mm_H} {nC n D B : Nat} {g : Nat → mm_V} {x : Int32} (h : ftb K nC s n g B (fun v => mm_a s 118 (6 * D + v)) (fun j => mm_a s 119 (4 * D + j))) : ftb K nC (mm_sa s 121 D x) n g B (fun v => mm_a (mm_sa s 121 D x) 118 (6 * D + v)) (fun j => mm_a (mm_sa s 121 D x) 119 (4 * D + j)) := ⟨fun v hv => vt_sg (sg_rf rfl) (h.1 v hv), fun j hj => ⟨vt_sg (sg_rf rfl) (h.2 j hj).1, fun z => (h.2 j hj).2 z⟩⟩
theorem ty_raise {K : mm_H} {nC nF nM n k : Nat} {x : Int32} (F : KF K nC nF nM) : ∀ (D : Nat) (s : mm_H), SCr s D k → OB K nC nF s n → RZ K nC nF nM s n D → SWs K nC nF nM s n (D - 1) → rt K nC s n 0 x → mm_i (rs_raise K x D s) 635 80 = -1 → TY K nC nF nM (rs_raise K x D s) (k + 1) := by
  have h10 := F.1.2.2.2
  intro D
  induction D with
  | zero =>
    intro s sc ob rz sw r z
    have e : mm_i (rs_raise K x 0 s) 635 80 = 1 := (mm_i2 (by omega)).trans mm_i1
    rw [e] at z
    exact absurd z (by decide)
  | succ D ih =>
    intro s sc ob rz sw r
    obtain ⟨c1, c2, c3, ⟨T, P, t1, t2, t3, t4⟩, e, e1, e2, e3⟩ := sc
    obtain ⟨m, len, X, i, B, W, hi, op, e22, e21, eX, h4, f⟩ := rz D (by omega)
    obtain ⟨l1, l2, l3, l4, l5, l6, l7⟩ := W.2.2.1
    have hm := W.1
    unfold rs_raise
    rw [e22, e21, mm_ncl (by omega), mm_ncl (by omega), Nat.add_sub_cancel]
    have gl := l5 i
    by_cases q : 0 ≤ lk_gd K m i
    · rw [if_pos q]
      intro _
      have w2 : lk_w K m i 2 = (((lk_gd K m i).toNat : Nat) : Int) := by
        show (if lk_o K m i = 11 ∨ lk_o K m i = 12 ∨ lk_o K m i = 17 then lk_gd K m i else -1) = _
        rw [if_pos op]
        omega
      have ft := lay_ft (K := K) (nC := nC) (n := n) (d := D) (B := 0) (s2 := mm_sa s 120 D 0) (g := (X i).2.2.2) (x := x) (y := (3, 0, 0, 0, -1)) (fun j hj => absurd hj (by omega)) (show -1 ≤ (-1 : Int32).toInt ∧ (-1 : Int32).toInt ≤ 5 by decide) (vt_ref (Or.inl rfl) (rt_sg (sg_rf rfl) r)) (fun z => absurd rfl z) f
      obtain ⟨b1, b2, b3⟩ := go_on (H' := 1) W hi eX h4 (by omega) w2 (show lk_ew K m i B (X i).2.1 (X i).2.2.1 (X i).2.2.2 2 = (1, (X i).2.1, (X i).2.2.1, lk_up (X i).2.2.2 6 (3, 0, 0, 0, -1)) from rfl) rfl (by omega) ft
      refine ⟨D, n, m, len, X, (lk_gd K m i).toNat, 1, ⟨by omega, c2, c3, ⟨T, P, t1, by omega, t3, by omega⟩, e, e1, e2, e3⟩, OB_sa (by omega) (OB_lay (OB_sa (by omega) ob)), ⟨W, b1, ?_, mm_a1, ?_, by omega, b2, ?_⟩, ?_⟩
      · exact (mm_a2 (by omega)).trans ((mm_a2 (by omega)).trans ((mm_a2 (by omega)).trans ((mm_a2 (by omega)).trans e22)))
      · exact (mm_a2 (by omega)).trans mm_a1
      · exact ftb_at b3
      · refine SWs_lf (d := D) (lf_sa (lf_lay (lf_sa lf_rf (by omega))) (by omega)) (sg_rf rfl) (Nat.le_refl _) (fun _ => ?_) sw
        exact (mm_a2 (by omega)).trans ((mm_a2 (by omega)).trans ((mm_a2 (by omega)).trans (mm_a2 (by omega))))
    · rw [if_neg q]
      refine ih (mm_si s 633 80 (nI D)) ⟨by omega, mm_i1, c3, ⟨T, P, t1, t2, t3, t4⟩, e, e1, by omega, e3⟩ (OB_si (by omega) ob) (fun w hw => rz w (by omega)) (SWs_si ?_) (rt_sg (sg_rf rfl) r)
      exact SWs_lf (d := D) lf_rf (sg_rf rfl) (by omega) (fun _ => rfl) sw
section
variable {K s : mm_H} {nC nF nM n d m len i H k : Nat} {X : Nat → mm_F}
/-- every method at work, where something is thrown at the last one's instruction -/
theorem RZ_of (sws : SWs K nC nF nM s n d) (tw : TW K nC nF nM s n d m len X i H) (op : lk_o K m i = 11 ∨ lk_o K m i = 12 ∨ lk_o K m i = 17) : RZ K nC nF nM (rs_pop (mm_sa s 121 d (nI (i + 1))) d H) n (d + 1) := by
  intro w hw
  by_cases q : w = d
  · rw [q]
    obtain ⟨W, hi, a2, a1, a0, h4, eX, f⟩ := tw
    exact ⟨m, len, X, i, H, W, hi, op, (mm_a2 (by omega)).trans ((mm_a2 (by omega)).trans a2), (mm_a2 (by omega)).trans mm_a1, eX, h4, ftb_dn (B := H) (by omega) f⟩
  · obtain ⟨mc, m', len', X', i', B, _, _, W, hi, eo, e2, e1, e0, h4, eX, f, rb⟩ := sws w (by omega)
    exact ⟨m', len', X', i', _, W, hi, Or.inl eo, (mm_a2 (by omega)).trans ((mm_a2 (by omega)).trans e2), (mm_a2 (by omega)).trans ((mm_a2 (by omega)).trans e1), eX, h4, ftb_dn (B := B) (by omega) f⟩
theorem rz_of (F : KF K nC nF nM) (sws : SWs K nC nF nM s n d) (tw : TW K nC nF nM s n d m len X i H) : rs_rz K (mm_sa s 121 d (nI (i + 1))) (d + 1) := by
  have h10 := F.1.2.2.2
  intro w hw
  by_cases q : w = d
  · rw [q]
    obtain ⟨W, hi, a2, a1, a0, h4, eX, f⟩ := tw
    obtain ⟨l1, l2, l3, l4, l5, l6, l7⟩ := W.2.2.1
    exact ⟨m, i, by have := W.1; omega, by omega, (mm_a2 (by omega)).trans a2, mm_a1, l4, (l5 i).2⟩
  · obtain ⟨mc, m', len', X', i', B, _, _, W, hi, eo, e2, e1, e0, h4, eX, f, rb⟩ := sws w (by omega)
    obtain ⟨l1, l2, l3, l4, l5, l6, l7⟩ := W.2.2.1
    exact ⟨m', i', by have := W.1; omega, by omega, (mm_a2 (by omega)).trans e2, (mm_a2 (by omega)).trans e1, l4, (l5 i').2⟩
theorem SC_r (sc : SC s d k) : SCr (rs_pop (mm_sa s 121 d (nI (i + 1))) d H) (d + 1) k := by
  obtain ⟨c1, c2, c3, ⟨T, P, t1, t2, t3, t4⟩, e, e1, e2, e3⟩ := sc
  exact ⟨by omega, c2, c3, ⟨T, P, t1, t2, t3, t4⟩, e, e1, by omega, e3⟩
theorem raise_of (F : KF K nC nF nM) (sc : SC s d k) (ob : OB K nC nF s n) (sws : SWs K nC nF nM s n d) (tw : TW K nC nF nM s n d m len X i H) (op : lk_o K m i = 11 ∨ lk_o K m i = 12 ∨ lk_o K m i = 17) {x : Int32} (r : rt K nC s n 0 x) : mm_i (rs_raise K x (d + 1) (rs_pop (mm_sa s 121 d (nI (i + 1))) d H)) 635 80 = -1 → TY K nC nF nM (rs_raise K x (d + 1) (rs_pop (mm_sa s 121 d (nI (i + 1))) d H)) (k + 1) := by
  refine ty_raise F (d + 1) _ (SC_r sc) (OB_sa (by omega) (OB_sa (by omega) ob)) (RZ_of sws tw op) ?_ (rt_sg (sg_rf rfl) r)
  exact SWs_lf (d := d) (lf_pop lf_at) (sg_rf rfl) (Nat.le_refl _) (fun _ => rfl) sws
theorem op_12 (F : KF K nC nF nM) (sc : SC s d k) (ob : OB K nC nF s n) (sws : SWs K nC nF nM s n d) (tw : TW K nC nF nM s n d m len X i H) (o : lk_o K m i = 12) : (0 < H ∧ lk_a K m i < 6 ∧ rs_ob s n (rs_tp s d H)) ∧ ((rs_tp s d H = 0 ∨ mm_bel (mm_up K) (mm_a s 116 (rs_tp s d H).toNatClampNeg).toInt (lk_a K m i : Int)) → TY K nC nF nM (rs_lay (rs_pop (mm_sa s 121 d (nI (i + 1))) d H) d (H - 1) (rs_tp s d H)) (k + 1)) ∧ (mm_i (rs_raise K (rs_tp s d H) (d + 1) (rs_pop (mm_sa s 121 d (nI (i + 1))) d H)) 635 80 = -1 → TY K nC nF nM (rs_raise K (rs_tp s d H) (d + 1) (rs_pop (mm_sa s 121 d (nI (i + 1))) d H)) (k + 1)) := by
  have tw' := tw
  obtain ⟨W, hi, a2, a1, a0, h4, eX, f⟩ := tw'
  obtain ⟨n1, n2, n3⟩ := no_i W hi eX h4
  obtain ⟨g1, g2, g3⟩ := lk_good n2
  rw [o] at g2 g3 n3
  have g2' : 1 ≤ H := g2
  have h6 := F.1.2.1
  have aC : lk_a K m i < nC := (W.2.2.1.2.2.1 i hi).2.1 (Or.inr o)
  have ft := (f.2 (H - 1) (by omega)).1
  rw [show 6 + (H - 1) = 5 + H by omega] at ft
  have vr := WM_vr (v := 5 + H) W hi eX h4 (by omega)
  have ir : lk_ir (mm_up K) ((X i).2.2.2 (5 + H)) (0 : Int32).toInt := Classical.not_not.mp (e5_A n3)
  have r : rt K nC s n 0 (rs_tp s d H) := vt_ir vr ir ft
  refine ⟨⟨by omega, by omega, rt_ob h6 r⟩, fun z => ?_, raise_of F sc ob sws tw (Or.inr (Or.inl o)) r⟩
  have ta : (nI (lk_a K m i)).toInt = (lk_a K m i : Int) := mm_nt (by omega)
  have u24 := ob.1
  have r2 : rt K nC s n (nI (lk_a K m i)).toInt (rs_tp s d H) := by
    rcases r with y | ⟨u, c, u1, u2, u3, u4, u5, u6⟩
    · exact Or.inl y
    · rcases z with y | y
      · exact Or.inl y
      · refine Or.inr ⟨u, c, u1, u2, u3, u4, u5, ?_⟩
        rw [u3, mm_ncl (by omega), u5, mm_nt (by omega)] at y
        rw [ta]
        exact y
  refine TY_top (φ := (nI H, (X i).2.1, (X i).2.2.1, lk_up (X i).2.2.2 (5 + H) (3, nI (lk_a K m i), ((X i).2.2.2 (5 + H)).2.2.1, ((X i).2.2.2 (5 + H)).2.2.2.1, -1))) sc sws tw (sg_rf rfl) (lf_lay (lf_pop lf_at)) rfl (SC_up sc) ob (by omega) (w_0 (by omega)) (by rw [ew_0 (by omega), o]; rfl) rfl (by omega) ?_ ((mm_a2 (by omega)).trans ((mm_a2 (by omega)).trans ((mm_a2 (by omega)).trans mm_a1))) (by rw [show nI H = nI (H - 1 + 1) by rw [show H - 1 + 1 = H by omega]]; exact mm_a1)
  have hh : H = H - 1 + 1 := by omega
  have key := lay_ft (K := K) (nC := nC) (n := n) (d := d) (B := H - 1) (s2 := rs_pop (mm_sa s 121 d (nI (i + 1))) d H) (g := (X i).2.2.2) (x := rs_tp s d H) (y := (3, nI (lk_a K m i), ((X i).2.2.2 (5 + H)).2.2.1, ((X i).2.2.2 (5 + H)).2.2.2.1, -1)) (fun j hj => WM_vr W hi eX h4 (by omega)) (show -1 ≤ (-1 : Int32).toInt ∧ (-1 : Int32).toInt ≤ 5 by decide) (vt_ref (Or.inl rfl) r2) (fun z => absurd rfl z) (ftb_dn (B := H) (by omega) f)
  rw [show 6 + (H - 1) = 5 + H by omega, ← hh] at key
  exact key
theorem op_17 (F : KF K nC nF nM) (sc : SC s d k) (ob : OB K nC nF s n) (sws : SWs K nC nF nM s n d) (tw : TW K nC nF nM s n d m len X i H) (o : lk_o K m i = 17) : (0 < H ∧ rs_ob s n (rs_tp s d H)) ∧ (mm_i (rs_raise K (rs_tp s d H) (d + 1) (rs_pop (mm_sa s 121 d (nI (i + 1))) d H)) 635 80 = -1 → TY K nC nF nM (rs_raise K (rs_tp s d H) (d + 1) (rs_pop (mm_sa s 121 d (nI (i + 1))) d H)) (k + 1)) := by
  have tw' := tw
  obtain ⟨W, hi, a2, a1, a0, h4, eX, f⟩ := tw'
  obtain ⟨n1, n2, n3⟩ := no_i W hi eX h4
  obtain ⟨g1, g2, g3⟩ := lk_good n2
  rw [o] at g2 g3 n3
  have g2' : 1 ≤ H := g2
  have h6 := F.1.2.1
  have ft := (f.2 (H - 1) (by omega)).1
  rw [show 6 + (H - 1) = 5 + H by omega] at ft
  have vr := WM_vr (v := 5 + H) W hi eX h4 (by omega)
  have ir : lk_ir (mm_up K) ((X i).2.2.2 (5 + H)) (0 : Int32).toInt := Classical.not_not.mp (e5_A n3)
  have r : rt K nC s n 0 (rs_tp s d H) := vt_ir vr ir ft
  exact ⟨⟨by omega, rt_ob h6 r⟩, raise_of F sc ob sws tw (Or.inr (Or.inr o)) r⟩
end
