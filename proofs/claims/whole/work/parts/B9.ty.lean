/-! each instruction keeps what holds: calling -/
theorem en_a {s : mm_H} {D b j : Nat} {m : Int32} (o : ¬ ((b = 118 ∧ 6 * D ≤ j ∧ j < 6 * D + 6) ∨ ((b = 120 ∨ b = 121 ∨ b = 122) ∧ j = D))) : mm_a (rs_enter s D m) b j = mm_a s b j := by
  have z : mm_a (rs_ent0 s D m) b j = mm_a s b j := (congrFun (congrFun ra_si _) _).trans ((rs_fill_a (by omega)).trans ((mm_a2 (by omega)).trans ((mm_a2 (by omega)).trans (mm_a2 (by omega)))))
  unfold rs_enter
  split
  · exact (congrFun (congrFun ra_si _) _).trans z
  · exact z
theorem en_n {s : mm_H} {D : Nat} {m : Int32} : (∀ j, 6 * D ≤ j ∧ j < 6 * D + 6 → mm_a (rs_enter s D m) 118 j = 0) ∧ mm_a (rs_enter s D m) 120 D = 0 ∧ mm_a (rs_enter s D m) 121 D = 0 ∧ mm_a (rs_enter s D m) 122 D = m := by
  have z1 : ∀ j, 6 * D ≤ j ∧ j < 6 * D + 6 → mm_a (rs_ent0 s D m) 118 j = 0 := fun j hj => (congrFun (congrFun ra_si _) _).trans (rs_fill_b hj)
  have z2 : mm_a (rs_ent0 s D m) 120 D = 0 := (congrFun (congrFun ra_si _) _).trans ((rs_fill_a (by omega)).trans mm_a1)
  have z3 : mm_a (rs_ent0 s D m) 121 D = 0 := (congrFun (congrFun ra_si _) _).trans ((rs_fill_a (by omega)).trans ((mm_a2 (by omega)).trans mm_a1))
  have z4 : mm_a (rs_ent0 s D m) 122 D = m := (congrFun (congrFun ra_si _) _).trans ((rs_fill_a (by omega)).trans ((mm_a2 (by omega)).trans ((mm_a2 (by omega)).trans mm_a1)))
  unfold rs_enter
  split
  · exact ⟨fun j hj => (congrFun (congrFun ra_si _) _).trans (z1 j hj), (congrFun (congrFun ra_si _) _).trans z2, (congrFun (congrFun ra_si _) _).trans z3, (congrFun (congrFun ra_si _) _).trans z4⟩
  · exact ⟨z1, z2, z3, z4⟩
theorem en_i {s : mm_H} {D f : Nat} {m : Int32} (o : ¬ f = 633 ∧ ¬ f = 634) : mm_i (rs_enter s D m) f 80 = mm_i s f 80 := by
  have z : mm_i (rs_ent0 s D m) f 80 = mm_i s f 80 := (mm_i2 (by omega)).trans rfl
  unfold rs_enter
  split
  · exact (mm_i2 (by omega)).trans z
  · exact z
theorem en_3 {s : mm_H} {D : Nat} {m : Int32} : mm_i (rs_enter s D m) 633 80 = nI (D + 1) := by
  have z : mm_i (rs_ent0 s D m) 633 80 = nI (D + 1) := mm_i1
  unfold rs_enter
  split
  · exact (mm_i2 (by omega)).trans z
  · exact z
theorem en_4 {s : mm_H} {D e : Nat} {m : Int32} (h : mm_i s 634 80 = nI e) (h6 : e ≤ 6) (hD : D ≤ e) (hD6 : D < 6) : ∃ e', mm_i (rs_enter s D m) 634 80 = nI e' ∧ D + 1 ≤ e' ∧ e' ≤ 6 := by
  have z : mm_i (rs_ent0 s D m) 634 80 = nI e := (mm_i2 (by omega)).trans h
  unfold rs_enter
  rw [h, mm_nt (by omega)]
  by_cases q : (e : Int) < (D : Int) + 1
  · rw [if_pos q]; exact ⟨D + 1, mm_i1, by omega, by omega⟩
  · rw [if_neg q]; exact ⟨e, z, by omega, h6⟩
section
variable {K s : mm_H} {nC nF nM n d m len i H k : Nat} {X : Nat → mm_F}
/-- a method begins -/
theorem ty_enter (F : KF K nC nF nM) {a B j c : Nat} (d5 : ¬ d = 5) (sc : SC s d k) (ob : OB K nC nF s n) (sws : SWs K nC nF nM s n d) (tw : TW K nC nF nM s n d m len X i H) (o : lk_o K m i = 11) (ea : lk_a K m i = a) (eB : B + (lk_np K a + lk_of K a) = H)
    (ar : ∀ p, p < lk_np K a → 0 ≤ (mm_a K 93 (4 * a + p)).toInt → rt K nC s n (mm_a K 93 (4 * a + p)).toInt (mm_a s 119 (4 * d + B + (lk_of K a + p)))) (hj : j < nM) (c1 : c < nC) (ec : mm_a K 87 j = nI c) (fw : ow K j a) (fi : lk_fine K nC nF nM j) (rc : mm_a K 95 j = 0 → rt K nC s n (c : Int) (mm_a s 119 (4 * d + B))) (b : mm_a K 90 j = -1) : TY K nC nF nM (rs_fill (rs_enter (mm_sa (mm_sa s 121 d (nI (i + 1))) 120 d (nI B)) (d + 1) (nI j)) 118 (6 * (d + 1)) (lk_np K a + lk_of K a) (fun t => mm_a s 119 (4 * d + B + t))) (k + 1) := by
  have h6 := F.1.2.1
  have h10 := F.1.2.2.2
  obtain ⟨W, hi, a2, a1, a0, h4, eX, f⟩ := tw
  obtain ⟨s1, s2, s3, ⟨T, P, t1, t2, t3, t4⟩, e, e1, e2, e3⟩ := sc
  have of1 := lk_of1 (h := K) (m := a)
  obtain ⟨len', Y, l0, W'⟩ := fine_WM hj fi b
  generalize hg : rs_fill (rs_enter (mm_sa (mm_sa s 121 d (nI (i + 1))) 120 d (nI B)) (d + 1) (nI j)) 118 (6 * (d + 1)) (lk_np K a + lk_of K a) (fun t => mm_a s 119 (4 * d + B + t)) = g
  have ca : ∀ b q, ¬ ((b = 118 ∧ 6 * (d + 1) ≤ q ∧ q < 6 * (d + 1) + 6) ∨ ((b = 120 ∨ b = 121 ∨ b = 122) ∧ q = d + 1) ∨ ((b = 120 ∨ b = 121) ∧ q = d)) → mm_a g b q = mm_a s b q := fun b q hb => by
    rw [← hg, rs_fill_a (by omega), en_a (by omega)]
    exact (mm_a2 (by omega)).trans (mm_a2 (by omega))
  have cb : mm_a g 120 d = nI B := by
    rw [← hg, rs_fill_a (by omega), en_a (by omega)]
    exact mm_a1
  have cat : mm_a g 121 d = nI (i + 1) := by
    rw [← hg, rs_fill_a (by omega), en_a (by omega)]
    exact (mm_a2 (by omega)).trans mm_a1
  have c0 : mm_a g 120 (d + 1) = nI 0 := by
    rw [← hg, rs_fill_a (by omega)]
    exact en_n.2.1
  have c01 : mm_a g 121 (d + 1) = nI 0 := by
    rw [← hg, rs_fill_a (by omega)]
    exact en_n.2.2.1
  have c2 : mm_a g 122 (d + 1) = nI j := by
    rw [← hg, rs_fill_a (by omega)]
    exact en_n.2.2.2
  have cl : ∀ v, v < lk_np K a + lk_of K a → mm_a g 118 (6 * (d + 1) + v) = mm_a s 119 (4 * d + B + v) := fun v hv => by
    rw [← hg, rs_fill_b (by omega), Nat.add_sub_cancel_left]
  have ci : ∀ f, ¬ f = 633 ∧ ¬ f = 634 → mm_i g f 80 = mm_i s f 80 := fun f hf => by
    rw [← hg, rs_fill_i, en_i hf]
    rfl
  have c3 : mm_i g 633 80 = nI (d + 1 + 1) := by rw [← hg, rs_fill_i]; exact en_3
  have c4 : ∃ e', mm_i g 634 80 = nI e' ∧ d + 1 + 1 ≤ e' ∧ e' ≤ 6 := by rw [← hg, rs_fill_i]; exact en_4 e1 e3 e2 (by omega)
  clear hg
  have gg : sg s n g n := ⟨Nat.le_refl _, fun o _ _ => ca _ _ (by omega)⟩
  have gl : lf s g d := ⟨fun j hj => ca _ _ (by omega), fun j hj => ca _ _ (by omega), fun w hw => ⟨ca _ _ (by omega), ca _ _ (by omega), ca _ _ (by omega)⟩⟩
  have og : OB K nC nF g n := by
    obtain ⟨b1, b2, b3, b4⟩ := ob
    refine ⟨b1, (ci _ (by omega)).trans b2, fun o o1 o2 => ?_, fun o f o1 o2 hf z => ?_⟩
    · rw [ca _ _ (by omega)]; exact b3 o o1 o2
    · rw [ca _ _ (by omega)]; exact rt_sg gg (b4 o f o1 o2 hf z)
  have MV := F.2.2.2.2.2.1 j hj
  have ft : ftb K nC g n (lk_s0 K j) 0 (fun v => mm_a g 118 (6 * (d + 1) + v)) (fun q => mm_a g 119 (4 * (d + 1) + q)) := by
    refine ⟨fun v hv => ?_, fun q hq => absurd hq (by omega)⟩
    show vt K nC g n (lk_s0 K j v) (mm_a g 118 (6 * (d + 1) + v))
    unfold lk_s0 lk_sp
    by_cases q1 : v = 0 ∧ mm_a K 95 j = 0
    · rw [if_pos q1]
      have o1 : lk_of K a = 1 := by rw [← fw.2.1]; exact if_pos q1.2
      refine vt_ref (Or.inl rfl) ?_
      show rt K nC g n (mm_a K 87 j).toInt (mm_a g 118 (6 * (d + 1) + v))
      rw [ec, mm_nt (by omega), q1.1, cl 0 (by omega)]
      exact rt_sg gg (rc q1.2)
    · rw [if_neg q1]
      by_cases q2 : lk_of K j ≤ v ∧ v < lk_of K j + lk_np K j
      · rw [if_pos q2]
        have e1 := fw.1
        have e2 := fw.2.1
        obtain ⟨p, hp⟩ : ∃ p, v = lk_of K a + p := ⟨v - lk_of K a, by omega⟩
        rw [cl v (by omega), hp, e2, Nat.add_sub_cancel_left]
        refine vt_sv (fun z => ?_) ?_
        · obtain ⟨y1, y2⟩ := fw.2.2.1 p (by omega) z
          exact rt_sg gg (rt_bel y2 (ar p (by omega) y1))
        · have sv := (F.2.2.2.1.2 (4 * j + p) (by omega)).1.1
          have n2 : ¬ (mm_a K 93 (4 * j + p)).toInt = -2 := fun y => MV.2.2.2.2.2 p (by omega) (Int32.toInt_inj.mp (by rw [y]; decide))
          omega
      · rw [if_neg q2]
        exact vt_any (Or.inl rfl)
  have st : (Y 0).1 = nI 0 ∧ ftb K nC g n (Y 0).2.2.2 0 (fun v => mm_a g 118 (6 * (d + 1) + v)) (fun q => mm_a g 119 (4 * (d + 1) + q)) := by
    rcases W'.2.2.2.1.2.1.1 with z | z | ⟨z1, z2, z3, z4⟩
    · exact absurd z (by decide : ¬ (0 : Int32) = -1)
    · rcases W'.2.2.2.2 0 l0 with y | y
      · rw [z] at y; exact absurd y (by decide)
      · unfold lk_er at y
        by_cases q1 : lk_aw K j len' 0
        · rw [if_pos q1] at y; exact absurd y (by decide)
        · rw [if_neg q1, if_pos z] at y; exact absurd y (by decide)
    · exact ⟨z1.symm, ftb_le (fun v hv => z4 v (by show (v : Int) < 6 + (0 : Int32).toInt; rw [show (0 : Int32).toInt = 0 by decide]; omega)) ft⟩
  refine ⟨d + 1, n, j, len', Y, 0, 0, ⟨by omega, c3, (ci _ (by omega)).trans s3, ⟨T, P, (ci _ (by omega)).trans t1, by omega, (ci _ (by omega)).trans t3, by omega⟩, c4⟩, og, ⟨W', l0, c2, c01, c0, by omega, st.1, st.2⟩, fun w hw => ?_⟩
  by_cases q : w = d
  · rw [q]
    refine ⟨j, m, len, X, i, B, hj, c2, W, hi, o, (ca _ _ (by omega)).trans a2, cat, cb, by rw [ea]; omega, by rw [ea, eB]; exact eX, ?_, by rw [ea]; exact fw.2.2.2⟩
    exact ftb_cg gg (fun v _ => ca _ _ (by omega)) (fun j _ => ca _ _ (by omega)) (fun j hj => WM_vr W hi eX h4 (by omega)) (ftb_dn (B := H) (by omega) f)
  · obtain ⟨mc, m', len'', X', i', B', h1, h2, h3⟩ := sws w (by omega)
    exact ⟨mc, m', len'', X', i', B', h1, (ca _ _ (by omega)).trans h2, SW_lf gl gg (by omega) h3⟩
theorem ty_out (F : KF K nC nF nM) {a B j : Nat} {x : Int32} (sc : SC s d k) (ob : OB K nC nF s n) (sws : SWs K nC nF nM s n d) (tw : TW K nC nF nM s n d m len X i H) (o : lk_o K m i = 11) (ea : lk_a K m i = a) (eB : B + (lk_np K a + lk_of K a) = H) (hB : mm_a K 93 (4 * a + 3) = -2 ∨ B < 4)
    (ex : 0 < lk_np K a → x = mm_a s 119 (4 * d + B + lk_of K a)) (ar : ∀ p, p < lk_np K a → 0 ≤ (mm_a K 93 (4 * a + p)).toInt → rt K nC s n (mm_a K 93 (4 * a + p)).toInt (mm_a s 119 (4 * d + B + (lk_of K a + p)))) (hj : j < nM) (fw : ow K j a) (fi : lk_fine K nC nF nM j) (b : ¬ mm_a K 90 j = -1) : TY K nC nF nM (rs_out K (mm_sa (mm_sa s 121 d (nI (i + 1))) 120 d (nI B)) d B j x) (k + 1) := by
  have h6 := F.1.2.1
  have h10 := F.1.2.2.2
  have tw' := tw
  obtain ⟨W, hi, a2, a1, a0, h4, eX, f⟩ := tw'
  obtain ⟨s1, s2, s3, ⟨T, P, t1, t2, t3, t4⟩, e, e1, e2, e3⟩ := sc
  obtain ⟨k0, k1, k2⟩ := os_n F hj (fine_os fi b) b
  have eBB : H - (lk_np K a + lk_of K a) = B := by omega
  have ew := ew_0 (K := K) (m := m) (i := i) (H := H) (s := (X i).2.1) (f := (X i).2.2.1) (g := (X i).2.2.2) (by omega)
  rw [o, ea] at ew
  have ew' : lk_ew K m i H (X i).2.1 (X i).2.2.1 (X i).2.2.2 0 = (if mm_a K 93 (4 * a + 3) = -2 then (nI (H - (lk_np K a + lk_of K a)), (X i).2.1, (X i).2.2.1, (X i).2.2.2) else (nI (H - (lk_np K a + lk_of K a) + 1), (X i).2.1, (X i).2.2.1, lk_up (X i).2.2.2 (6 + (H - (lk_np K a + lk_of K a))) (lk_sv (mm_a K 93 (4 * a + 3)) (mm_a K 96 (4 * a + 3)) (mm_a K 94 (4 * a + 3))))) := ew
  rw [eBB] at ew'
  clear ew
  have al : a < nM := by rw [← ea]; exact (W.2.2.1.2.2.1 i hi).2.2.2 o
  have r1 : ¬ mm_a K 93 (4 * a + 3) = -2 → -1 ≤ (mm_a K 93 (4 * a + 3)).toInt := fun qa => by
    have z := (F.2.2.2.1.2 (4 * a + 3) (by omega)).1.1
    have : ¬ (mm_a K 93 (4 * a + 3)).toInt = -2 := fun y => qa (Int32.toInt_inj.mp (by rw [y]; decide))
    omega
  have psh : ∀ (g : mm_H) (y : Int32), (∀ b q, ¬ ((b = 120 ∨ b = 121) ∧ q = d) → mm_a g b q = mm_a s b q) → mm_a g 121 d = nI (i + 1) → SC (rs_lay g d B y) d (k + 1) → OB K nC nF (rs_lay g d B y) n → ¬ mm_a K 93 (4 * a + 3) = -2 → (0 ≤ (mm_a K 93 (4 * a + 3)).toInt → rt K nC s n (mm_a K 93 (4 * a + 3)).toInt y) → TY K nC nF nM (rs_lay g d B y) (k + 1) := by
    intro g y ca cat sc' ob' qa ry
    rw [if_neg qa] at ew'
    have gg : sg s n g n := ⟨Nat.le_refl _, fun o _ _ => ca _ _ (by omega)⟩
    have gl : lf s g d := ⟨fun j hj => ca _ _ (by omega), fun j hj => ca _ _ (by omega), fun w hw => ⟨ca _ _ (by omega), ca _ _ (by omega), ca _ _ (by omega)⟩⟩
    have fg : ftb K nC g n (X i).2.2.2 B (fun v => mm_a g 118 (6 * d + v)) (fun q => mm_a g 119 (4 * d + q)) := ftb_cg gg (fun v _ => ca _ _ (by omega)) (fun j _ => ca _ _ (by omega)) (fun j hj => WM_vr W hi eX h4 (by omega)) (ftb_dn (B := H) (by omega) f)
    have hB' : B < 4 := hB.elim (fun z => absurd z qa) id
    have ft := lay_ft (K := K) (nC := nC) (n := n) (d := d) (B := B) (s2 := g) (g := (X i).2.2.2) (x := y) (y := lk_sv (mm_a K 93 (4 * a + 3)) (mm_a K 96 (4 * a + 3)) (mm_a K 94 (4 * a + 3))) (fun j hj => WM_vr W hi eX h4 (by omega)) (by rw [lk_sv_o]; decide) (vt_sv (fun z => rt_sg gg (ry z)) (r1 qa)) (fun z => absurd lk_sv_o z) fg
    exact TY_top (q := 0) ⟨s1, s2, s3, ⟨T, P, t1, t2, t3, t4⟩, e, e1, e2, e3⟩ sws tw (sg_lay gg) (lf_lay gl) ((mm_a2 (by omega)).trans ((mm_a2 (by omega)).trans (ca _ _ (by omega)))) sc' ob' (by omega) (w_0 (by omega)) ew' rfl (by omega) ft ((mm_a2 (by omega)).trans ((mm_a2 (by omega)).trans cat)) mm_a1
  have ca0 : ∀ b q, ¬ ((b = 120 ∨ b = 121) ∧ q = d) → mm_a (mm_sa (mm_sa s 121 d (nI (i + 1))) 120 d (nI B)) b q = mm_a s b q := fun b q hb => (mm_a2 (by omega)).trans (mm_a2 (by omega))
  have cat0 : mm_a (mm_sa (mm_sa s 121 d (nI (i + 1))) 120 d (nI B)) 121 d = nI (i + 1) := (mm_a2 (by omega)).trans mm_a1
  have ob0 : OB K nC nF (mm_sa (mm_sa s 121 d (nI (i + 1))) 120 d (nI B)) n := OB_sa (by omega) (OB_sa (by omega) ob)
  unfold rs_out
  rcases kind_j F hj b with q | q | q
  · rw [if_pos q]
    generalize (if (mm_i (mm_sa (mm_sa s 121 d (nI (i + 1))) 120 d (nI B)) 630 80).toInt < (mm_i K 628 80).toInt then mm_a K 115 (mm_i (mm_sa (mm_sa s 121 d (nI (i + 1))) 120 d (nI B)) 630 80).toNatClampNeg else 0) = y
    have qa : ¬ mm_a K 93 (4 * a + 3) = -2 := fun z => by
      have w := fw.2.2.2.1.mpr z
      rw [k0 q] at w
      exact absurd w (by decide)
    have sw : mm_si (rs_lay (mm_sa (mm_sa s 121 d (nI (i + 1))) 120 d (nI B)) d B y) 630 80 (mm_i (mm_sa (mm_sa s 121 d (nI (i + 1))) 120 d (nI B)) 630 80 + 1) = rs_lay (mm_si (mm_sa (mm_sa s 121 d (nI (i + 1))) 120 d (nI B)) 630 80 (nI (T + 1))) d B y := by
      rw [show mm_i (mm_sa (mm_sa s 121 d (nI (i + 1))) 120 d (nI B)) 630 80 = nI T from t1, ← nI_succ T]
      rfl
    rw [sw]
    refine psh _ y ca0 cat0 (SC_lay ⟨s1, s2, s3, ⟨T + 1, P, mm_i1, by omega, t3, by omega⟩, e, e1, e2, e3⟩) (OB_lay (OB_si (by omega) ob0)) qa (fun z => ?_)
    obtain ⟨y1, _⟩ := fw.2.2.2.2 z
    rw [k0 q] at y1
    exact absurd y1 (by decide)
  · rw [if_neg (by rw [q]; decide), if_pos q]
    have qa : mm_a K 93 (4 * a + 3) = -2 := fw.2.2.2.1.mp (k1 q).2
    rw [if_pos qa] at ew'
    generalize hg : mm_si (if (mm_i (mm_sa (mm_sa s 121 d (nI (i + 1))) 120 d (nI B)) 631 80).toInt < 16 then mm_sa (mm_sa (mm_sa s 121 d (nI (i + 1))) 120 d (nI B)) 123 (mm_i (mm_sa (mm_sa s 121 d (nI (i + 1))) 120 d (nI B)) 631 80).toNatClampNeg x else (mm_sa (mm_sa s 121 d (nI (i + 1))) 120 d (nI B))) 631 80 (mm_i (mm_sa (mm_sa s 121 d (nI (i + 1))) 120 d (nI B)) 631 80 + 1) = g
    have ca : ∀ b q, ¬ ((b = 120 ∨ b = 121) ∧ q = d) → ¬ b = 123 → mm_a g b q = mm_a s b q := fun b q hb hn => by
      rw [← hg, ra_si]
      split
      · exact (mm_a2 (by omega)).trans (ca0 b q hb)
      · exact ca0 b q hb
    have cat : mm_a g 121 d = nI (i + 1) := by
      rw [← hg, ra_si]
      split
      · exact (mm_a2 (by omega)).trans cat0
      · exact cat0
    have cb : mm_a g 120 d = nI B := by
      rw [← hg, ra_si]
      split
      · exact (mm_a2 (by omega)).trans mm_a1
      · exact mm_a1
    have ci : ∀ f, ¬ f = 631 → mm_i g f 80 = mm_i s f 80 := fun f hf => by
      rw [← hg, mm_i2 (by omega)]
      split
      · rfl
      · rfl
    have c1 : mm_i g 631 80 = nI (P + 1) := by
      rw [← hg, mm_i1, show mm_i (mm_sa (mm_sa s 121 d (nI (i + 1))) 120 d (nI B)) 631 80 = nI P from t3, nI_succ P]
    clear hg
    have gg : sg s n g n := ⟨Nat.le_refl _, fun o _ _ => ca _ _ (by omega) (by omega)⟩
    have gl : lf s g d := ⟨fun j hj => ca _ _ (by omega) (by omega), fun j hj => ca _ _ (by omega) (by omega), fun w hw => ⟨ca _ _ (by omega) (by omega), ca _ _ (by omega) (by omega), ca _ _ (by omega) (by omega)⟩⟩
    have og : OB K nC nF g n := by
      obtain ⟨b1, b2, b3, b4⟩ := ob
      refine ⟨b1, (ci _ (by omega)).trans b2, fun o o1 o2 => ?_, fun o f o1 o2 hf z => ?_⟩
      · rw [ca _ _ (by omega) (by omega)]; exact b3 o o1 o2
      · rw [ca _ _ (by omega) (by omega)]; exact rt_sg gg (b4 o f o1 o2 hf z)
    have fg : ftb K nC g n (X i).2.2.2 B (fun v => mm_a g 118 (6 * d + v)) (fun q => mm_a g 119 (4 * d + q)) := ftb_cg gg (fun v _ => ca _ _ (by omega) (by omega)) (fun j _ => ca _ _ (by omega) (by omega)) (fun j hj => WM_vr W hi eX h4 (by omega)) (ftb_dn (B := H) (by omega) f)
    exact TY_top (q := 0) ⟨s1, s2, s3, ⟨T, P, t1, t2, t3, t4⟩, e, e1, e2, e3⟩ sws tw gg gl (ca _ _ (by omega) (by omega)) ⟨s1, (ci _ (by omega)).trans s2, (ci _ (by omega)).trans s3, ⟨T, P + 1, (ci _ (by omega)).trans t1, by omega, c1, by omega⟩, e, (ci _ (by omega)).trans e1, e2, e3⟩ og (by omega) (w_0 (by omega)) ew' rfl (by omega) fg cat cb
  · rw [if_neg (by rw [q]; decide), if_neg (by rw [q]; decide)]
    obtain ⟨np0, r2, r3⟩ := k2 q
    have qa : ¬ mm_a K 93 (4 * a + 3) = -2 := fun z => r2 (fw.2.2.2.1.mpr z)
    refine psh _ x ca0 cat0 (SC_lay ⟨s1, s2, s3, ⟨T, P, t1, by omega, t3, by omega⟩, e, e1, e2, e3⟩) (OB_lay ob0) qa (fun z => ?_)
    obtain ⟨y1, y2⟩ := fw.2.2.2.2 z
    obtain ⟨y3, y4⟩ := r3 y1
    have na := fw.1
    obtain ⟨y5, y6⟩ := fw.2.2.1 0 (by omega) y3
    rw [ex (by omega)]
    exact rt_bel y2 (rt_bel y4 (rt_bel y6 (ar 0 (by omega) y5)))
theorem op_11 (F : KF K nC nF nM) (sc : SC s d k) (ob : OB K nC nF s n) (sws : SWs K nC nF nM s n d) (tw : TW K nC nF nM s n d m len X i H) (o : lk_o K m i = 11) : (lk_a K m i < 10 ∧ lk_MV K (lk_a K m i) ∧ lk_np K (lk_a K m i) + lk_of K (lk_a K m i) ≤ H ∧ rs_cl K nM s d (H - (lk_np K (lk_a K m i) + lk_of K (lk_a K m i))) (lk_a K m i)) ∧ (mm_i (rs_call K nM (mm_sa s 121 d (nI (i + 1))) d H (lk_a K m i)) 635 80 = -1 → TY K nC nF nM (rs_call K nM (mm_sa s 121 d (nI (i + 1))) d H (lk_a K m i)) (k + 1)) := by
  have h6 := F.1.2.1
  have h10 := F.1.2.2.2
  have u24 := ob.1
  obtain ⟨p1, p2, p3, p4⟩ := call_args tw o
  have al : lk_a K m i < nM := (tw.1.2.2.1.2.2.1 i tw.2.1).2.2.2 o
  have MV := F.2.2.2.2.2.1 _ al
  obtain ⟨a, ea⟩ : ∃ a, lk_a K m i = a := ⟨_, rfl⟩
  rw [ea] at p1 p2 p3 p4 al MV ⊢
  obtain ⟨B, eB⟩ : ∃ B, H - (lk_np K a + lk_of K a) = B := ⟨_, rfl⟩
  rw [eB] at p2 p3 p4 ⊢
  have eB' : B + (lk_np K a + lk_of K a) = H := by omega
  have po : lk_po K 0 11 a = lk_np K a + lk_of K a := rfl
  have ob' := ob
  have od := lk_of1 (h := K) (m := a)
  have ar : ∀ p, p < lk_np K a → 0 ≤ (mm_a K 93 (4 * a + p)).toInt → rt K nC s n (mm_a K 93 (4 * a + p)).toInt (mm_a s 119 (4 * d + B + (lk_of K a + p))) := p3
  have dof : ∀ j, dj K nC nF nM s n a (mm_a s 119 (4 * d + B)) j → mm_i (rs_do K (mm_sa s 121 d (nI (i + 1))) d H a B j) 635 80 = -1 → TY K nC nF nM (rs_do K (mm_sa s 121 d (nI (i + 1))) d H a B j) (k + 1) := by
    intro j hd
    obtain ⟨hj, c, c1, c2, c3⟩ := hd
    unfold rs_do
    rw [c2, mm_ncl (by omega)]
    by_cases q1 : mm_a K 85 c = 0
    · rw [if_pos q1]
      intro z
      rw [mm_i1] at z
      exact absurd z (by decide)
    rw [if_neg q1]
    obtain ⟨fw, fi, rc⟩ := c3 q1
    by_cases q2 : mm_a K 90 j = -1
    · rw [if_neg (fun z => z q2)]
      by_cases q3 : d = 5
      · rw [if_pos q3]
        intro z
        rw [mm_i1] at z
        exact absurd z (by decide)
      · rw [if_neg q3]
        intro _
        exact ty_enter F q3 sc ob sws tw o ea eB' ar hj c1 c2 fw fi rc q2
    · rw [if_pos q2]
      intro _
      exact ty_out F sc ob sws tw o ea eB' p2 (fun z => by rw [if_pos z]; exact mm_a2 (by omega)) ar hj fw fi q2
  refine ⟨⟨by omega, MV, by omega, fun sa => dj_rs (s := s) (n := n) (x := 0) F p2 (dj_st F al sa), fun sa => ?_⟩, ?_⟩
  · rcases p4 sa with z | ⟨u, c, u1, u2, u3, u4, u5, u6⟩
    · exact Or.inl z
    · obtain ⟨j, j1, j2⟩ := dj_vi (s := s) (n := n) F al sa u1 u2 rfl u4 u5 u6
      exact Or.inr ⟨u, j, by omega, u3, by rw [u5, mm_nt (by omega)]; omega, by rw [u5, mm_nt (by omega)]; exact j1, dj_rs F p2 j2⟩
  · unfold rs_call
    rw [po, eB]
    by_cases sa : mm_a K 95 a = 0
    · rw [if_neg (fun z => z sa)]
      rw [show mm_a (mm_sa s 121 d (nI (i + 1))) 119 (4 * d + B) = mm_a s 119 (4 * d + B) from mm_a2 (by omega)]
      rcases p4 sa with z | ⟨u, c, u1, u2, u3, u4, u5, u6⟩
      · rw [if_pos z]
        intro y
        rw [mm_i1] at y
        exact absurd y (by decide)
      · have n0 : ¬ mm_a s 119 (4 * d + B) = 0 := fun y => by
          rw [u3] at y
          have : u = 0 := (nI_eq (by omega) (by omega)).mp y
          omega
        rw [if_neg n0]
        obtain ⟨j, j1, j2⟩ := dj_vi (s := s) (n := n) F al sa u1 u2 u3 u4 u5 u6
        rw [u3, mm_ncl (by omega), mm_a2 (by omega), u5, mm_nt (by omega), rs_fd_eq j1]
        exact dof j j2
    · rw [if_pos sa]
      exact dof a (dj_st F al sa)
end
