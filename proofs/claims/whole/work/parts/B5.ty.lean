/-! each instruction keeps what holds: objects, ways -/
section
variable {K s : mm_H} {nC nF nM n d m len i H k : Nat} {X : Nat → mm_F}
theorem lk_sv_o {r q w : Int32} : (lk_sv r q w).2.2.2.2 = -1 := by
  unfold lk_sv
  split <;> rfl
theorem w_1 (a : 13 ≤ lk_o K m i ∧ lk_o K m i ≤ 15) (e : mm_a K 98 (20 * m + i) = nI (lk_a K m i)) (l : lk_a K m i < 20) : lk_w K m i 1 = ((lk_a K m i : Nat) : Int) := by
  show (if 13 ≤ lk_o K m i ∧ lk_o K m i ≤ 15 then (mm_a K 98 (20 * m + i)).toInt else -1) = _
  rw [if_pos a, e, mm_nt (by omega)]
theorem sg_lay {s g : mm_H} {n n' e B : Nat} {x : Int32} (h : sg s n g n') : sg s n (rs_lay g e B x) n' := ⟨h.1, fun o a b => h.2 o a b⟩
theorem SC_lay {g : mm_H} {d e B k : Nat} {x : Int32} (h : SC g d k) : SC (rs_lay g e B x) d k := ⟨h.1, h.2.1, h.2.2.1, h.2.2.2.1, h.2.2.2.2⟩
theorem OB_lay {K g : mm_H} {nC nF n e B : Nat} {x : Int32} (h : OB K nC nF g n) : OB K nC nF (rs_lay g e B x) n := ⟨h.1, h.2.1, h.2.2.1, fun o f a b c z => rt_sg (sg_rf rfl) (h.2.2.2 o f a b c z)⟩
theorem op_7 (F : KF K nC nF nM) (sc : SC s d k) (ob : OB K nC nF s n) (sws : SWs K nC nF nM s n d) (tw : TW K nC nF nM s n d m len X i H) (o : lk_o K m i = 7) : (H < 4 ∧ lk_a K m i < 6) ∧ (mm_i (rs_make K (mm_sa s 121 d (nI (i + 1))) d H n (lk_a K m i)) 635 80 = -1 → TY K nC nF nM (rs_make K (mm_sa s 121 d (nI (i + 1))) d H n (lk_a K m i)) (k + 1)) := by
  have tw' := tw
  obtain ⟨W, hi, a2, a1, a0, h4, eX, f⟩ := tw'
  obtain ⟨n1, n2, n3⟩ := no_i W hi eX h4
  obtain ⟨g1, g2, g3⟩ := lk_good n2
  rw [o] at g2 g3
  have g3' : H - 0 + 1 ≤ 4 := g3
  have h6 := F.1.2.1
  have aC : lk_a K m i < nC := (W.2.2.1.2.2.1 i hi).2.1 (Or.inl o)
  refine ⟨⟨by omega, by omega⟩, ?_⟩
  unfold rs_make
  by_cases q1 : mm_a K 85 (lk_a K m i) = 0
  · rw [if_pos q1]
    intro z
    rw [mm_i1] at z
    exact absurd z (by decide)
  rw [if_neg q1]
  by_cases q2 : n = 24
  · rw [if_pos q2]
    intro z
    rw [mm_i1] at z
    exact absurd z (by decide)
  rw [if_neg q2]
  intro _
  obtain ⟨b1, b2, b3, b4⟩ := ob
  generalize hs2 : rs_fill (mm_sa (mm_si (mm_sa s 121 d (nI (i + 1))) 629 80 (nI (n + 1))) 116 (n + 1) (nI (lk_a K m i))) 117 (12 * n) 12 (fun _ => 0) = s2
  have c6 : ∀ j, ¬ j = n + 1 → mm_a s2 116 j = mm_a s 116 j := fun j hj => by rw [← hs2, rs_fill_a (by omega), mm_a2 (by omega), ra_si, mm_a2 (by omega)]
  have c6n : mm_a s2 116 (n + 1) = nI (lk_a K m i) := by rw [← hs2, rs_fill_a (by omega), mm_a1]
  have c7 : ∀ j, ¬ (12 * n ≤ j ∧ j < 12 * n + 12) → mm_a s2 117 j = mm_a s 117 j := fun j hj => by rw [← hs2, rs_fill_a (by omega), mm_a2 (by omega), ra_si, mm_a2 (by omega)]
  have c7n : ∀ j, (12 * n ≤ j ∧ j < 12 * n + 12) → mm_a s2 117 j = 0 := fun j hj => by rw [← hs2, rs_fill_b hj]
  have cx : ∀ b j, 118 ≤ b → ¬ b = 121 → mm_a s2 b j = mm_a s b j := fun b j hb hn => by rw [← hs2, rs_fill_a (by omega), mm_a2 (by omega), ra_si, mm_a2 (by omega)]
  have ci : ∀ f, ¬ f = 629 → mm_i s2 f 80 = mm_i s f 80 := fun f hf => by rw [← hs2, rs_fill_i, ri_sa, mm_i2 (by omega), ri_sa]
  have cn : mm_i s2 629 80 = nI (n + 1) := by rw [← hs2, rs_fill_i, ri_sa, mm_i1]
  have c1 : mm_a s2 121 d = nI (i + 1) := by rw [← hs2, rs_fill_a (by omega), mm_a2 (by omega), ra_si, mm_a1]
  have l2 : lf s s2 d := by rw [← hs2]; exact lf_fill (lf_sa (lf_si lf_at) (by omega)) (by omega)
  have g : sg s n s2 (n + 1) := ⟨Nat.le_succ _, fun o o1 o2 => c6 o (by omega)⟩
  have ta : (nI (lk_a K m i)).toInt = (lk_a K m i : Int) := mm_nt (by omega)
  have SCs : SC s2 d (k + 1) := by
    obtain ⟨z1, z2, z3, ⟨T, P, z4, z5, z6, z7⟩, e, z8, z9⟩ := sc
    exact ⟨z1, (ci 633 (by omega)).trans z2, (ci 635 (by omega)).trans z3, ⟨T, P, (ci 630 (by omega)).trans z4, by omega, (ci 631 (by omega)).trans z6, by omega⟩, e, (ci 634 (by omega)).trans z8, z9⟩
  have OBs : OB K nC nF s2 (n + 1) := by
    refine ⟨by omega, cn, fun o o1 o2 => ?_, fun o f o1 o2 hf z => ?_⟩
    · by_cases q : o = n + 1
      · rw [q]; exact ⟨lk_a K m i, aC, c6n⟩
      · rw [c6 o q]; exact b3 o o1 (by omega)
    · have f12 := F.1.2.2.1
      by_cases q : o = n + 1
      · rw [q, c7n _ (by omega)]; exact Or.inl rfl
      · rw [c7 _ (by omega)]; exact rt_sg g (b4 o f o1 (by omega) hf z)
  refine TY_top (φ := (nI (H + 1), nI i, 0, lk_up (fun v => mm_dr ((X i).2.2.2 v)) (6 + H) (4, nI (lk_a K m i), 0, 0, -1))) (n' := n + 1) sc sws tw (sg_lay g) (lf_lay l2) ((mm_a2 (by omega)).trans ((mm_a2 (by omega)).trans (cx 122 d (by omega) (by omega)))) (SC_lay SCs) (OB_lay OBs) (by omega) (w_0 (by omega)) (by rw [ew_0 (by omega), o]; rfl) rfl (by omega) ?_ ((mm_a2 (by omega)).trans ((mm_a2 (by omega)).trans c1)) mm_a1
  refine lay_ft (fun j hj => ?_) (show -1 ≤ (-1 : Int32).toInt ∧ (-1 : Int32).toInt ≤ 5 by decide) (vt_ref (Or.inr rfl) (Or.inr ⟨n + 1, lk_a K m i, by omega, Nat.le_refl _, rfl, aC, c6n, ?_⟩)) (fun z => absurd rfl z) ?_
  · have := WM_vr (v := 6 + j) W hi eX h4 (by omega)
    exact mm_dr_vr this
  · show mm_bel (mm_up K) (lk_a K m i : Int) (nI (lk_a K m i)).toInt
    rw [ta]
    exact mm_bel_refl (by omega)
  · refine ftb_map (g := (X i).2.2.2) (fun v x hv z => (vt_dr z).1) (fun v hv => (vt_dr (K := K) (s := s) (nC := nC) (n := n) (x := 0) vt_nul).2) ?_
    exact ftb_cg g (fun v _ => cx _ _ (by omega) (by omega)) (fun j _ => cx _ _ (by omega) (by omega)) (fun j hj => WM_vr W hi eX h4 (by omega)) f
theorem op_9 (F : KF K nC nF nM) (sc : SC s d k) (ob : OB K nC nF s n) (sws : SWs K nC nF nM s n d) (tw : TW K nC nF nM s n d m len X i H) (o : lk_o K m i = 9) : (0 < H ∧ lk_a K m i < 12 ∧ rs_ob s n (rs_tp s d H)) ∧ (¬ rs_tp s d H = 0 → TY K nC nF nM (rs_lay (rs_pop (mm_sa s 121 d (nI (i + 1))) d H) d (H - 1) (mm_a s 117 (12 * ((rs_tp s d H).toNatClampNeg - 1) + lk_a K m i))) (k + 1)) := by
  have tw' := tw
  obtain ⟨W, hi, a2, a1, a0, h4, eX, f⟩ := tw'
  obtain ⟨n1, n2, n3⟩ := no_i W hi eX h4
  obtain ⟨g1, g2, g3⟩ := lk_good n2
  rw [o] at g2 g3 n3
  have g2' : 1 ≤ H := g2
  have h6 := F.1.2.1
  have aF : lk_a K m i < nF := (W.2.2.1.2.2.1 i hi).2.2.1 (Or.inl o)
  have f12 := F.1.2.2.1
  have ft := (f.2 (H - 1) (by omega)).1
  rw [show 6 + (H - 1) = 5 + H by omega] at ft
  have vr := WM_vr (v := 5 + H) W hi eX h4 (by omega)
  have ir : lk_ir (mm_up K) ((X i).2.2.2 (5 + H)) (mm_a K 82 (lk_a K m i)).toInt := Classical.not_not.mp (e5_A n3)
  have r := vt_ir vr ir ft
  have ro : rs_ob s n (rs_tp s d H) := rt_ob h6 r
  refine ⟨⟨by omega, by omega, ro⟩, fun z => ?_⟩
  rcases ro with y | ⟨u, c, u1, u2, u3, u4, u5⟩
  · exact absurd y z
  have un : (rs_tp s d H).toNatClampNeg = u := by rw [u3]; exact mm_ncl (by have := ob.1; omega)
  rw [un]
  have sv := F.2.2.2.1.1 (lk_a K m i) (by omega)
  refine TY_top (φ := (nI H, (X i).2.1, (X i).2.2.1, lk_up (X i).2.2.2 (5 + H) (lk_sv (mm_a K 83 (lk_a K m i)) (mm_b (¬ mm_a K 86 (lk_a K m i) = 0 ∨ lk_un (X i).2.2.1 (lk_a K m i) ((X i).2.2.2 (5 + H)))) (mm_a K 84 (lk_a K m i))))) sc sws tw (sg_rf rfl) (lf_lay (lf_pop lf_at)) rfl (SC_up sc) ob (by omega) (w_0 (by omega)) (by rw [ew_0 (by omega), o]; rfl) rfl (by omega) ?_ ((mm_a2 (by omega)).trans ((mm_a2 (by omega)).trans ((mm_a2 (by omega)).trans mm_a1))) (by rw [show nI H = nI (H - 1 + 1) by rw [show H - 1 + 1 = H by omega]]; exact mm_a1)
  have hh : H = H - 1 + 1 := by omega
  have key := lay_ft (K := K) (nC := nC) (n := n) (d := d) (B := H - 1) (s2 := rs_pop (mm_sa s 121 d (nI (i + 1))) d H) (g := (X i).2.2.2) (x := mm_a s 117 (12 * (u - 1) + lk_a K m i)) (y := lk_sv (mm_a K 83 (lk_a K m i)) (mm_b (¬ mm_a K 86 (lk_a K m i) = 0 ∨ lk_un (X i).2.2.1 (lk_a K m i) ((X i).2.2.2 (5 + H)))) (mm_a K 84 (lk_a K m i))) (fun j hj => WM_vr W hi eX h4 (by omega)) (by rw [lk_sv_o]; decide) (vt_sv (fun z0 => ob.2.2.2 u _ u1 u2 aF z0) sv.1.1) (fun z => absurd lk_sv_o z) (ftb_dn (B := H) (by omega) f)
  rw [show 6 + (H - 1) = 5 + H by omega, ← hh] at key
  exact key
theorem op_10 (F : KF K nC nF nM) (sc : SC s d k) (ob : OB K nC nF s n) (sws : SWs K nC nF nM s n d) (tw : TW K nC nF nM s n d m len X i H) (o : lk_o K m i = 10) : (1 < H ∧ lk_a K m i < 12 ∧ rs_ob s n (mm_a s 119 (4 * d + (H - 2)))) ∧ (¬ mm_a s 119 (4 * d + (H - 2)) = 0 → TY K nC nF nM (mm_sa (rs_pop (rs_pop (mm_sa s 121 d (nI (i + 1))) d H) d (H - 1)) 117 (12 * ((mm_a s 119 (4 * d + (H - 2))).toNatClampNeg - 1) + lk_a K m i) (rs_tp s d H)) (k + 1)) := by
  have tw' := tw
  obtain ⟨W, hi, a2, a1, a0, h4, eX, f⟩ := tw'
  obtain ⟨n1, n2, n3⟩ := no_i W hi eX h4
  obtain ⟨g1, g2, g3⟩ := lk_good n2
  rw [o] at g2 g3 n3
  have g2' : 2 ≤ H := g2
  have h6 := F.1.2.1
  have aF : lk_a K m i < nF := (W.2.2.1.2.2.1 i hi).2.2.1 (Or.inr o)
  have f12 := F.1.2.2.1
  obtain ⟨m1, m2⟩ := mn9 e5_9 e5_9 n3
  have ft := (f.2 (H - 1) (by omega)).1
  rw [show 6 + (H - 1) = 5 + H by omega] at ft
  have vr := WM_vr (v := 5 + H) W hi eX h4 (by omega)
  have ft2 := (f.2 (H - 2) (by omega)).1
  rw [show 6 + (H - 2) = 4 + H by omega] at ft2
  have vr2 := WM_vr (v := 4 + H) W hi eX h4 (by omega)
  have ir : lk_ir (mm_up K) ((X i).2.2.2 (4 + H)) (mm_a K 82 (lk_a K m i)).toInt := Classical.not_not.mp (e5_A m2)
  have ro : rs_ob s n (mm_a s 119 (4 * d + (H - 2))) := rt_ob h6 (vt_ir vr2 ir ft2)
  refine ⟨⟨by omega, by omega, ro⟩, fun z => ?_⟩
  rcases ro with y | ⟨u, c, u1, u2, u3, u4, u5⟩
  · exact absurd y z
  have u24 := ob.1
  have un : (mm_a s 119 (4 * d + (H - 2))).toNatClampNeg = u := by rw [u3]; exact mm_ncl (by omega)
  rw [un]
  have A := e5_A m1
  refine TY_top (φ := (nI (H - 2), (X i).2.1, (if ((X i).2.2.2 (4 + H)).1 = 4 then (X i).2.2.1 ||| (1 : Int32) <<< (nI (lk_a K m i) &&& 31) else (X i).2.2.1), (X i).2.2.2)) sc sws tw (sg_rf rfl) (lf_sa (lf_pop (lf_pop lf_at)) (by omega)) rfl (SC_up sc) ?_ (by omega) (w_0 (by omega)) (by rw [ew_0 (by omega), o]; rfl) rfl (by omega) ?_ ((mm_a2 (by omega)).trans ((mm_a2 (by omega)).trans ((mm_a2 (by omega)).trans mm_a1))) ((mm_a2 (by omega)).trans mm_a1)
  · obtain ⟨b1, b2, b3, b4⟩ := ob
    refine ⟨b1, b2, b3, fun o' f' o1 o2 hf z0 => ?_⟩
    by_cases q : 12 * (o' - 1) + f' = 12 * (u - 1) + lk_a K m i
    · have ef : f' = lk_a K m i := by omega
      rw [q, mm_a1, ef]
      rw [ef] at z0
      have i2 : lk_ir (mm_up K) ((X i).2.2.2 (5 + H)) (mm_a K 83 (lk_a K m i)).toInt := Classical.byContradiction (fun y => A (Or.inr ⟨z0, y⟩))
      exact rt_sg (sg_rf rfl) (vt_ir vr i2 ft)
    · rw [mm_a2 (by omega)]
      exact rt_sg (sg_rf rfl) (b4 o' f' o1 o2 hf z0)
  · exact ftb_dn (B := H) (by omega) f
theorem op_13 (sc : SC s d k) (ob : OB K nC nF s n) (sws : SWs K nC nF nM s n d) (tw : TW K nC nF nM s n d m len X i H) (o : lk_o K m i = 13) : TY K nC nF nM (mm_sa (mm_sa s 121 d (nI (i + 1))) 121 d (mm_a K 98 (20 * m + i))) (k + 1) := by
  have tw' := tw
  obtain ⟨W, hi, a2, a1, a0, h4, eX, f⟩ := tw'
  obtain ⟨ea, la⟩ := (W.2.2.1.2.2.1 i hi).1.2.2.2.2 (by omega)
  exact TY_top (φ := (nI H, (X i).2.1, (X i).2.2.1, (X i).2.2.2)) (q := 1) sc sws tw (sg_rf rfl) (lf_sa lf_at (by omega)) rfl (SC_up sc) ob (by omega) (w_1 (by omega) ea la) (by rw [ew_1 (by omega), o]; rfl) rfl h4 f (mm_a1.trans ea) a0
theorem op_14 (sc : SC s d k) (ob : OB K nC nF s n) (sws : SWs K nC nF nM s n d) (tw : TW K nC nF nM s n d m len X i H) (o : lk_o K m i = 14) : 0 < H ∧ TY K nC nF nM (mm_sa (rs_pop (mm_sa s 121 d (nI (i + 1))) d H) 121 d (mm_a K 98 (20 * m + i))) (k + 1) ∧ TY K nC nF nM (rs_pop (mm_sa s 121 d (nI (i + 1))) d H) (k + 1) := by
  have tw' := tw
  obtain ⟨W, hi, a2, a1, a0, h4, eX, f⟩ := tw'
  obtain ⟨n1, n2, n3⟩ := no_i W hi eX h4
  obtain ⟨g1, g2, g3⟩ := lk_good n2
  rw [o] at g2 g3
  have g2' : 1 ≤ H := g2
  obtain ⟨ea, la⟩ := (W.2.2.1.2.2.1 i hi).1.2.2.2.2 (by omega)
  refine ⟨by omega, ?_, ?_⟩
  · exact TY_top (φ := (nI (H - 1), (X i).2.1, (X i).2.2.1, (X i).2.2.2)) (q := 1) sc sws tw (sg_rf rfl) (lf_sa (lf_pop lf_at) (by omega)) rfl (SC_up sc) ob (by omega) (w_1 (by omega) ea la) (by rw [ew_1 (by omega), o]; rfl) rfl (by omega) (ftb_dn (B := H) (by omega) f) (mm_a1.trans ea) ((mm_a2 (by omega)).trans mm_a1)
  · exact TY_top (φ := (nI (H - 1), (X i).2.1, (X i).2.2.1, (X i).2.2.2)) (q := 0) sc sws tw (sg_rf rfl) (lf_pop lf_at) rfl (SC_up sc) ob (by omega) (w_0 (by omega)) (by rw [ew_0 (by omega), o]; rfl) rfl (by omega) (ftb_dn (B := H) (by omega) f) ((mm_a2 (by omega)).trans mm_a1) mm_a1
theorem vt_n0 {φ : mm_V} {x : Int32} (h : vt K nC s n φ x) : vt K nC s n (lk_n0 φ) x := h
theorem vt_nk {φ : mm_V} {x : Int32} (z : x = 0) (h : vt K nC s n φ x) : vt K nC s n (lk_nk φ) x := by
  rw [z]; exact vt_nul
theorem op_15 (sc : SC s d k) (ob : OB K nC nF s n) (sws : SWs K nC nF nM s n d) (tw : TW K nC nF nM s n d m len X i H) (o : lk_o K m i = 15) : 0 < H ∧ (rs_tp s d H = 0 → TY K nC nF nM (mm_sa (rs_pop (mm_sa s 121 d (nI (i + 1))) d H) 121 d (mm_a K 98 (20 * m + i))) (k + 1)) ∧ TY K nC nF nM (rs_pop (mm_sa s 121 d (nI (i + 1))) d H) (k + 1) := by
  have tw' := tw
  obtain ⟨W, hi, a2, a1, a0, h4, eX, f⟩ := tw'
  obtain ⟨n1, n2, n3⟩ := no_i W hi eX h4
  obtain ⟨g1, g2, g3⟩ := lk_good n2
  rw [o] at g2 g3
  have g2' : 1 ≤ H := g2
  obtain ⟨ea, la⟩ := (W.2.2.1.2.2.1 i hi).1.2.2.2.2 (by omega)
  have ft := f.2 (H - 1) (by omega)
  rw [show 6 + (H - 1) = 5 + H by omega] at ft
  have vr := (WM_vr (v := 5 + H) W hi eX h4 (by omega)).2.2.2.2.2
  have m1 : (-1 : Int32).toInt = -1 := by decide
  have gen : ∀ (G : mm_V → mm_V), (¬ ((X i).2.2.2 (5 + H)).2.2.2.2 = -1 → ∀ v, v = ((X i).2.2.2 (5 + H)).2.2.2.2.toInt.toNat → vt K nC s n (G ((X i).2.2.2 v)) (mm_a s 118 (6 * d + v))) → (lk_is (lk_o K m i) (X i).2.2.2 H G (nI (H - 1), (X i).2.1, (X i).2.2.1, (X i).2.2.2)).1 = nI (H - 1) ∧ ftb K nC s n (lk_is (lk_o K m i) (X i).2.2.2 H G (nI (H - 1), (X i).2.1, (X i).2.2.1, (X i).2.2.2)).2.2.2 (H - 1) (fun v => mm_a s 118 (6 * d + v)) (fun j => mm_a s 119 (4 * d + j)) := by
    intro G hG
    unfold lk_is
    by_cases q : lk_o K m i = 15 ∧ ¬ ((X i).2.2.2 (5 + H)).2.2.2.2 = -1
    · rw [if_pos q]
      have n1 : ¬ ((X i).2.2.2 (5 + H)).2.2.2.2.toInt = -1 := fun y => q.2 (Int32.toInt_inj.mp (by rw [y, m1]))
      exact ⟨rfl, ftb_loc (by omega) (hG q.2 _ rfl) (ftb_dn (B := H) (by omega) f)⟩
    · rw [if_neg q]
      exact ⟨rfl, ftb_dn (B := H) (by omega) f⟩
  refine ⟨by omega, fun z => ?_, ?_⟩
  · obtain ⟨p1, p2⟩ := gen lk_nk (fun q v hv => vt_nk (by rw [hv]; exact (ft.2 q).symm.trans z) (f.1 v (by omega)))
    exact TY_top (q := 1) sc sws tw (sg_rf rfl) (lf_sa (lf_pop lf_at) (by omega)) rfl (SC_up sc) ob (by omega) (w_1 (by omega) ea la) (show lk_is (lk_o K m i) (X i).2.2.2 H lk_nk (lk_ef K m i H (lk_a K m i) (X i).2.1 (X i).2.2.1 (X i).2.2.2 (lk_o K m i)) = lk_is (lk_o K m i) (X i).2.2.2 H lk_nk (nI (H - 1), (X i).2.1, (X i).2.2.1, (X i).2.2.2) by rw [o]; rfl) p1 (by omega) p2 (mm_a1.trans ea) ((mm_a2 (by omega)).trans mm_a1)
  · obtain ⟨p1, p2⟩ := gen lk_n0 (fun q v hv => vt_n0 (f.1 v (by omega)))
    exact TY_top (q := 0) sc sws tw (sg_rf rfl) (lf_pop lf_at) rfl (SC_up sc) ob (by omega) (w_0 (by omega)) (show lk_is (lk_o K m i) (X i).2.2.2 H lk_n0 (lk_ef K m i H (lk_a K m i) (X i).2.1 (X i).2.2.1 (X i).2.2.2 (lk_o K m i)) = lk_is (lk_o K m i) (X i).2.2.2 H lk_n0 (nI (H - 1), (X i).2.1, (X i).2.2.1, (X i).2.2.2) by rw [o]; rfl) p1 (by omega) p2 ((mm_a2 (by omega)).trans mm_a1) mm_a1
end
