/-! each instruction keeps what holds -/
theorem e5_A {A B C D : Prop} (h : lk_e5 A B C D = 9) : ¬ A := fun z => by
  unfold lk_e5 at h
  rw [if_pos z] at h
  exact absurd h (by decide)
theorem e5_9 {A B C D : Prop} : (lk_e5 A B C D).toInt ≤ 9 := by
  rcases lk_e5_r (A := A) (B := B) (C := C) (D := D) with z | z | z | z | z <;> rw [z] <;> decide
theorem mn9 {a b : Int32} (ha : a.toInt ≤ 9) (hb : b.toInt ≤ 9) (h : lk_mn a b = 9) : a = 9 ∧ b = 9 := by
  unfold lk_mn at h
  have n9 : (9 : Int32).toInt = 9 := by decide
  by_cases q : a.toInt < b.toInt
  · rw [if_pos q] at h
    rw [h, n9] at q
    omega
  · rw [if_neg q] at h
    rw [h, n9] at q
    exact ⟨Int32.toInt_inj.mp (by rw [n9]; omega), h⟩
theorem ew_0 {K : mm_H} {m i H : Nat} {s f : Int32} {g : Nat → mm_V} (n : ¬ lk_o K m i = 15) : lk_ew K m i H s f g 0 = lk_ef K m i H (lk_a K m i) s f g (lk_o K m i) := if_neg (fun z => n z.1)
theorem ew_1 {K : mm_H} {m i H : Nat} {s f : Int32} {g : Nat → mm_V} (n : ¬ lk_o K m i = 15) : lk_ew K m i H s f g 1 = lk_ef K m i H (lk_a K m i) s f g (lk_o K m i) := if_neg (fun z => n z.1)
theorem w_0 {K : mm_H} {m i : Nat} (n : ¬ (lk_o K m i = 13 ∨ 16 ≤ lk_o K m i)) : lk_w K m i 0 = ((i + 1 : Nat) : Int) := by
  show (if lk_o K m i = 13 ∨ 16 ≤ lk_o K m i then (-1 : Int) else (i : Int) + 1) = _
  rw [if_neg n]
  omega
theorem SC_up {s : mm_H} {d k : Nat} (h : SC s d k) : SC s d (k + 1) := by
  obtain ⟨h1, h2, h3, ⟨T, P, t1, t2, t3, t4⟩, h5⟩ := h
  exact ⟨h1, h2, h3, ⟨T, P, t1, by omega, t3, by omega⟩, h5⟩
theorem sg_rf {s s' : mm_H} {n : Nat} (e : mm_a s' 116 = mm_a s 116) : sg s n s' n := ⟨Nat.le_refl _, fun _ _ _ => by rw [e]⟩
/-- a value is laid upon B values -/
theorem lay_ft {K s2 : mm_H} {nC n d B : Nat} {g : Nat → mm_V} {y : mm_V} {x : Int32} (r : ∀ j, j < B → mm_vr (g (6 + j))) (ry : -1 ≤ y.2.2.2.2.toInt ∧ y.2.2.2.2.toInt ≤ 5) (v : vt K nC s2 n y x) (o : ¬ y.2.2.2.2 = -1 → x = mm_a s2 118 (6 * d + y.2.2.2.2.toInt.toNat)) (h : ftb K nC s2 n g B (fun v => mm_a s2 118 (6 * d + v)) (fun j => mm_a s2 119 (4 * d + j))) : ftb K nC (rs_lay s2 d B x) n (lk_up g (6 + B) y) (B + 1) (fun v => mm_a (rs_lay s2 d B x) 118 (6 * d + v)) (fun j => mm_a (rs_lay s2 d B x) 119 (4 * d + j)) := by
  have c8 : ∀ j, mm_a (rs_lay s2 d B x) 118 j = mm_a s2 118 j := fun j => (mm_a2 (by omega)).trans (mm_a2 (by omega))
  have c9 : ∀ j, j < B → mm_a (rs_lay s2 d B x) 119 (4 * d + j) = mm_a s2 119 (4 * d + j) := fun j hj => (mm_a2 (by omega)).trans (mm_a2 (by omega))
  have cB : mm_a (rs_lay s2 d B x) 119 (4 * d + B) = x := (mm_a2 (by omega)).trans mm_a1
  have c6 : mm_a (rs_lay s2 d B x) 116 = mm_a s2 116 := rfl
  have h' := ftb_cg (s' := rs_lay s2 d B x) (n' := n) (L' := fun v => mm_a (rs_lay s2 d B x) 118 (6 * d + v)) (S' := fun j => mm_a (rs_lay s2 d B x) 119 (4 * d + j)) (sg_rf c6) (fun v _ => c8 _) (fun j hj => c9 j hj) r h
  refine ftb_push ?_ (fun z => ?_) h'
  · rw [cB]; exact vt_sg (sg_rf c6) v
  · rw [cB, c8]; exact o z
theorem lf_lay {s g : mm_H} {d B : Nat} {x : Int32} (h : lf s g d) : lf s (rs_lay g d B x) d := lf_sa (lf_sa h (by omega)) (by omega)
theorem lf_pop {s g : mm_H} {d B : Nat} (h : lf s g d) : lf s (rs_pop g d B) d := lf_sa h (by omega)
/-- the state with the at moved on -/
theorem lf_at {s : mm_H} {d : Nat} {x : Int32} : lf s (mm_sa s 121 d x) d := lf_sa lf_rf (by omega)
section
variable {K s : mm_H} {nC nF nM n d m len i H k : Nat} {X : Nat → mm_F}
theorem op_0 (sc : SC s d k) (ob : OB K nC nF s n) (sws : SWs K nC nF nM s n d) (tw : TW K nC nF nM s n d m len X i H) (o : lk_o K m i = 0) : H < 4 ∧ ∀ x, TY K nC nF nM (rs_lay (mm_sa s 121 d (nI (i + 1))) d H x) (k + 1) := by
  have tw' := tw
  obtain ⟨W, hi, a2, a1, a0, h4, eX, f⟩ := tw'
  obtain ⟨n1, n2, n3⟩ := no_i W hi eX h4
  obtain ⟨g1, g2, g3⟩ := lk_good n2
  rw [o] at g2 g3
  have g3' : H - 0 + 1 ≤ 4 := g3
  refine ⟨by omega, fun x => ?_⟩
  refine TY_top (φ := (nI (H + 1), (X i).2.1, (X i).2.2.1, lk_up (X i).2.2.2 (6 + H) (1, -1, 0, 0, -1))) sc sws tw (sg_rf rfl) (lf_lay lf_at) rfl (SC_up sc) ob (by omega) (w_0 (by omega)) (by rw [ew_0 (by omega), o]; rfl) rfl (by omega) ?_ ?_ mm_a1
  · exact lay_ft (s2 := mm_sa s 121 d (nI (i + 1))) (fun j hj => WM_vr W hi eX h4 (by omega)) (by decide) (vt_any (Or.inr rfl)) (fun z => absurd rfl z) f
  · exact (mm_a2 (by omega)).trans ((mm_a2 (by omega)).trans mm_a1)
theorem op_1 (sc : SC s d k) (ob : OB K nC nF s n) (sws : SWs K nC nF nM s n d) (tw : TW K nC nF nM s n d m len X i H) (o : lk_o K m i = 1) : H < 4 ∧ TY K nC nF nM (rs_lay (mm_sa s 121 d (nI (i + 1))) d H 0) (k + 1) := by
  have tw' := tw
  obtain ⟨W, hi, a2, a1, a0, h4, eX, f⟩ := tw'
  obtain ⟨n1, n2, n3⟩ := no_i W hi eX h4
  obtain ⟨g1, g2, g3⟩ := lk_good n2
  rw [o] at g2 g3
  have g3' : H - 0 + 1 ≤ 4 := g3
  refine ⟨by omega, ?_⟩
  refine TY_top (φ := (nI (H + 1), (X i).2.1, (X i).2.2.1, lk_up (X i).2.2.2 (6 + H) (2, -1, 1, 0, -1))) sc sws tw (sg_rf rfl) (lf_lay lf_at) rfl (SC_up sc) ob (by omega) (w_0 (by omega)) (by rw [ew_0 (by omega), o]; rfl) rfl (by omega) ?_ ?_ mm_a1
  · exact lay_ft (s2 := mm_sa s 121 d (nI (i + 1))) (fun j hj => WM_vr W hi eX h4 (by omega)) (by decide) vt_nul (fun z => absurd rfl z) f
  · exact (mm_a2 (by omega)).trans ((mm_a2 (by omega)).trans mm_a1)
theorem op_2 (sc : SC s d k) (ob : OB K nC nF s n) (sws : SWs K nC nF nM s n d) (tw : TW K nC nF nM s n d m len X i H) (o : lk_o K m i = 2) (ha : lk_a K m i ≤ 5) : H < 4 ∧ TY K nC nF nM (rs_lay (mm_sa s 121 d (nI (i + 1))) d H (mm_a s 118 (6 * d + lk_a K m i))) (k + 1) := by
  have tw' := tw
  obtain ⟨W, hi, a2, a1, a0, h4, eX, f⟩ := tw'
  obtain ⟨n1, n2, n3⟩ := no_i W hi eX h4
  obtain ⟨g1, g2, g3⟩ := lk_good n2
  rw [o] at g2 g3
  have g3' : H - 0 + 1 ≤ 4 := g3
  have ta : (nI (lk_a K m i)).toInt = (lk_a K m i : Int) := mm_nt (by omega)
  refine ⟨by omega, ?_⟩
  refine TY_top (φ := (nI (H + 1), (X i).2.1, (X i).2.2.1, lk_up (X i).2.2.2 (6 + H) (lk_wo ((X i).2.2.2 (lk_a K m i)) (nI (lk_a K m i))))) sc sws tw (sg_rf rfl) (lf_lay lf_at) rfl (SC_up sc) ob (by omega) (w_0 (by omega)) (by rw [ew_0 (by omega), o]; rfl) rfl (by omega) ?_ ?_ mm_a1
  · refine lay_ft (s2 := mm_sa s 121 d (nI (i + 1))) (fun j hj => WM_vr W hi eX h4 (by omega)) ?_ (f.1 _ (by omega)) (fun z => ?_) f
    · show -1 ≤ (nI (lk_a K m i)).toInt ∧ (nI (lk_a K m i)).toInt ≤ 5
      omega
    · show _ = mm_a s 118 (6 * d + (nI (lk_a K m i)).toInt.toNat)
      rw [ta, Int.toNat_natCast]
  · exact (mm_a2 (by omega)).trans ((mm_a2 (by omega)).trans mm_a1)
theorem op_3 (sc : SC s d k) (ob : OB K nC nF s n) (sws : SWs K nC nF nM s n d) (tw : TW K nC nF nM s n d m len X i H) (o : lk_o K m i = 3) (ha : lk_a K m i ≤ 5) : 0 < H ∧ TY K nC nF nM (mm_sa (rs_pop (mm_sa s 121 d (nI (i + 1))) d H) 118 (6 * d + lk_a K m i) (rs_tp s d H)) (k + 1) := by
  have tw' := tw
  obtain ⟨W, hi, a2, a1, a0, h4, eX, f⟩ := tw'
  obtain ⟨n1, n2, n3⟩ := no_i W hi eX h4
  obtain ⟨g1, g2, g3⟩ := lk_good n2
  rw [o] at g2 g3
  have g2' : 1 ≤ H := g2
  refine ⟨by omega, ?_⟩
  refine TY_top (φ := (nI (H - 1), (X i).2.1, (X i).2.2.1, lk_st (X i).2.2.2 (lk_a K m i) ((X i).2.2.2 (5 + H)))) sc sws tw (sg_rf rfl) (lf_sa (lf_pop lf_at) (by omega)) rfl (SC_up sc) ob (by omega) (w_0 (by omega)) (by rw [ew_0 (by omega), o]; rfl) rfl (by omega) ?_ ((mm_a2 (by omega)).trans ((mm_a2 (by omega)).trans mm_a1)) ((mm_a2 (by omega)).trans mm_a1)
  have ft := (f.2 (H - 1) (by omega)).1
  rw [show 6 + (H - 1) = 5 + H by omega] at ft
  refine ftb_st (L := fun v => mm_a s 118 (6 * d + v)) (by omega) (fun j hj => WM_vr W hi eX h4 (by omega)) (rs_tp s d H) _ ft mm_a1 (fun v hv => mm_a2 (by omega)) ?_
  exact ftb_dn (by omega) f
theorem op_4 (sc : SC s d k) (ob : OB K nC nF s n) (sws : SWs K nC nF nM s n d) (tw : TW K nC nF nM s n d m len X i H) (o : lk_o K m i = 4) : (0 < H ∧ H < 4) ∧ TY K nC nF nM (rs_lay (rs_lay (rs_pop (mm_sa s 121 d (nI (i + 1))) d H) d (H - 1) (rs_tp s d H)) d H (rs_tp s d H)) (k + 1) := by
  have tw' := tw
  obtain ⟨W, hi, a2, a1, a0, h4, eX, f⟩ := tw'
  obtain ⟨n1, n2, n3⟩ := no_i W hi eX h4
  obtain ⟨g1, g2, g3⟩ := lk_good n2
  rw [o] at g2 g3
  have g2' : 1 ≤ H := g2
  have g3' : H - 1 + 2 ≤ 4 := g3
  refine ⟨⟨by omega, by omega⟩, ?_⟩
  refine TY_top (φ := (nI (H + 1), (X i).2.1, (X i).2.2.1, lk_up (X i).2.2.2 (6 + H) ((X i).2.2.2 (5 + H)))) sc sws tw (sg_rf rfl) (lf_lay (lf_lay (lf_pop lf_at))) rfl (SC_up sc) ob (by omega) (w_0 (by omega)) (by rw [ew_0 (by omega), o]; rfl) rfl (by omega) ?_ ((mm_a2 (by omega)).trans ((mm_a2 (by omega)).trans ((mm_a2 (by omega)).trans ((mm_a2 (by omega)).trans ((mm_a2 (by omega)).trans mm_a1))))) mm_a1
  have ft := f.2 (H - 1) (by omega)
  rw [show 6 + (H - 1) = 5 + H by omega] at ft
  have vr := WM_vr (v := 5 + H) W hi eX h4 (by omega)
  refine lay_ft (fun j hj => WM_vr W hi eX h4 (by omega)) vr.2.2.2.2.2 (vt_sg (sg_rf rfl) ft.1) (fun z => ft.2 z) ?_
  refine ftb_cg (sg_rf rfl) (fun v _ => rfl) (fun j hj => ?_) (fun j hj => WM_vr W hi eX h4 (by omega)) f
  by_cases q : j = H - 1
  · rw [q]
    exact (mm_a2 (by omega)).trans mm_a1
  · exact (mm_a2 (by omega)).trans ((mm_a2 (by omega)).trans ((mm_a2 (by omega)).trans (mm_a2 (by omega))))
theorem op_5 (sc : SC s d k) (ob : OB K nC nF s n) (sws : SWs K nC nF nM s n d) (tw : TW K nC nF nM s n d m len X i H) (o : lk_o K m i = 5) : 0 < H ∧ TY K nC nF nM (rs_pop (mm_sa s 121 d (nI (i + 1))) d H) (k + 1) := by
  have tw' := tw
  obtain ⟨W, hi, a2, a1, a0, h4, eX, f⟩ := tw'
  obtain ⟨n1, n2, n3⟩ := no_i W hi eX h4
  obtain ⟨g1, g2, g3⟩ := lk_good n2
  rw [o] at g2 g3
  have g2' : 1 ≤ H := g2
  refine ⟨by omega, ?_⟩
  refine TY_top (φ := (nI (H - 1), (X i).2.1, (X i).2.2.1, (X i).2.2.2)) sc sws tw (sg_rf rfl) (lf_pop lf_at) rfl (SC_up sc) ob (by omega) (w_0 (by omega)) (by rw [ew_0 (by omega), o]; rfl) rfl (by omega) ?_ ((mm_a2 (by omega)).trans mm_a1) mm_a1
  exact ftb_dn (B := H) (by omega) f
theorem op_6 (sc : SC s d k) (ob : OB K nC nF s n) (sws : SWs K nC nF nM s n d) (tw : TW K nC nF nM s n d m len X i H) (o : lk_o K m i = 6) : 1 < H ∧ ∀ x, TY K nC nF nM (rs_lay (rs_pop (rs_pop (mm_sa s 121 d (nI (i + 1))) d H) d (H - 1)) d (H - 2) x) (k + 1) := by
  have tw' := tw
  obtain ⟨W, hi, a2, a1, a0, h4, eX, f⟩ := tw'
  obtain ⟨n1, n2, n3⟩ := no_i W hi eX h4
  obtain ⟨g1, g2, g3⟩ := lk_good n2
  rw [o] at g2 g3
  have g2' : 2 ≤ H := g2
  refine ⟨by omega, fun x => ?_⟩
  refine TY_top (φ := (nI (H - 1), (X i).2.1, (X i).2.2.1, lk_up (X i).2.2.2 (4 + H) (1, -1, 0, ((X i).2.2.2 (4 + H)).2.2.2.1 ||| ((X i).2.2.2 (5 + H)).2.2.2.1, -1))) sc sws tw (sg_rf rfl) (lf_lay (lf_pop (lf_pop lf_at))) rfl (SC_up sc) ob (by omega) (w_0 (by omega)) (by rw [ew_0 (by omega), o]; rfl) rfl (by omega) ?_ ((mm_a2 (by omega)).trans ((mm_a2 (by omega)).trans ((mm_a2 (by omega)).trans ((mm_a2 (by omega)).trans mm_a1)))) (by rw [show H - 1 = H - 2 + 1 by omega]; exact mm_a1)
  rw [show H - 1 = H - 2 + 1 by omega, show 4 + H = 6 + (H - 2) by omega]
  exact lay_ft (s2 := rs_pop (rs_pop (mm_sa s 121 d (nI (i + 1))) d H) d (H - 2 + 1)) (fun j hj => WM_vr W hi eX h4 (by omega)) (show -1 ≤ (-1 : Int32).toInt ∧ (-1 : Int32).toInt ≤ 5 by decide) (vt_any (Or.inr rfl)) (fun z => absurd rfl z) (ftb_dn (B := H) (by omega) f)
theorem op_8 (sc : SC s d k) (ob : OB K nC nF s n) (sws : SWs K nC nF nM s n d) (tw : TW K nC nF nM s n d m len X i H) (o : lk_o K m i = 8) : TY K nC nF nM (mm_sa s 121 d (nI (i + 1))) (k + 1) := by
  have tw' := tw
  obtain ⟨W, hi, a2, a1, a0, h4, eX, f⟩ := tw'
  refine TY_top (φ := (nI H, -1, 0, fun v => if ((X i).2.2.2 (5 + H)).1 = 4 then lk_rf ((X i).2.2.2 v) else mm_dr ((X i).2.2.2 v))) sc sws tw (sg_rf rfl) lf_at rfl (SC_up sc) ob (by omega) (w_0 (by omega)) (by rw [ew_0 (by omega), o]; rfl) rfl (by omega) ?_ mm_a1 a0
  refine ftb_map (fun v x hv z => ?_) (fun v hv => ?_) f
  · show vt K nC (mm_sa s 121 d (nI (i + 1))) n (if ((X i).2.2.2 (5 + H)).1 = 4 then lk_rf ((X i).2.2.2 v) else mm_dr ((X i).2.2.2 v)) x
    by_cases q : ((X i).2.2.2 (5 + H)).1 = 4
    · rw [if_pos q]; exact (vt_rf z).1
    · rw [if_neg q]; exact (vt_dr z).1
  · by_cases q : ((X i).2.2.2 (5 + H)).1 = 4
    · show (if ((X i).2.2.2 (5 + H)).1 = 4 then lk_rf ((X i).2.2.2 v) else mm_dr ((X i).2.2.2 v)).2.2.2.2 = _
      rw [if_pos q]; exact (vt_rf (K := K) (s := s) (nC := nC) (n := n) (x := 0) vt_nul).2
    · show (if ((X i).2.2.2 (5 + H)).1 = 4 then lk_rf ((X i).2.2.2 v) else mm_dr ((X i).2.2.2 v)).2.2.2.2 = _
      rw [if_neg q]; exact (vt_dr (K := K) (s := s) (nC := nC) (n := n) (x := 0) vt_nul).2
end
