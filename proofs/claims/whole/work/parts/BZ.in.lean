/-! RUNNING: how a run begins -/
def ri0 (h : mm_H) : mm_H := mm_si (mm_si (mm_si (mm_si (mm_si (mm_si (mm_si (mm_si h 629 80 0) 630 80 0) 631 80 0) 632 80 0) 633 80 0) 634 80 0) 635 80 (-1)) 636 80 0
def ci0 (h : mm_H) : mm_H := mm_si (mm_si (mm_si (mm_si (mm_si (mm_si (mm_si (mm_si h 324 56 0) 325 56 0) 326 56 0) 327 56 0) 328 56 0) 329 56 0) 333 56 0) 334 56 (-1)
theorem ri0_i {h : mm_H} : mm_i (ri0 h) 629 80 = 0 ∧ mm_i (ri0 h) 630 80 = 0 ∧ mm_i (ri0 h) 631 80 = 0 ∧ mm_i (ri0 h) 632 80 = 0 ∧ mm_i (ri0 h) 633 80 = 0 ∧ mm_i (ri0 h) 634 80 = 0 ∧ mm_i (ri0 h) 635 80 = -1 ∧ mm_i (ri0 h) 636 80 = 0 := ⟨rfl, rfl, rfl, rfl, rfl, rfl, rfl, rfl⟩
theorem ci0_i {h : mm_H} : mm_i (ci0 h) 324 56 = 0 ∧ mm_i (ci0 h) 325 56 = 0 ∧ mm_i (ci0 h) 326 56 = 0 ∧ mm_i (ci0 h) 327 56 = 0 ∧ mm_i (ci0 h) 328 56 = 0 ∧ mm_i (ci0 h) 329 56 = 0 ∧ mm_i (ci0 h) 333 56 = 0 ∧ mm_i (ci0 h) 334 56 = -1 := ⟨rfl, rfl, rfl, rfl, rfl, rfl, rfl, rfl⟩
theorem ci0_AR {h : mm_H} : AR h (ci0 h) := AR_si (by omega) (AR_si (by omega) (AR_si (by omega) (AR_si (by omega) (AR_si (by omega) (AR_si (by omega) (AR_si (by omega) (AR_si (by omega) AR_rf)))))))
theorem ci0_SH {h : mm_H} (I : mm_SH h) : mm_SH (ci0 h) := AR_SH ci0_AR I
noncomputable def lo2 (g : mm_H) (b np : Nat) (x y : Int32) : mm_H := if 1 < np then mm_sa (if 0 < np then mm_sa g b 0 x else g) b 1 y else (if 0 < np then mm_sa g b 0 x else g)
theorem lo2_i {g : mm_H} {b np : Nat} {x y : Int32} : mm_i (lo2 g b np x y) = mm_i g := by
  unfold lo2
  split <;> split <;> rfl
theorem lo2_a {g : mm_H} {b np c j : Nat} {x y : Int32} (o : ¬ c = b) : mm_a (lo2 g b np x y) c j = mm_a g c j := by
  unfold lo2
  split
  · rw [mm_a2 (Or.inl o)]
    split
    · exact mm_a2 (Or.inl o)
    · rfl
  · split
    · exact mm_a2 (Or.inl o)
    · rfl
theorem lo2_AR {h0 g : mm_H} {b np : Nat} {x y : Int32} (o : 58 ≤ b ∧ b < 80) (r : AR h0 g) : AR h0 (lo2 g b np x y) := by
  unfold lo2
  split
  · refine AR_sa o ?_
    split
    · exact AR_sa o r
    · exact r
  · split
    · exact AR_sa o r
    · exact r
theorem cx_lo2 {qm T : Nat → Nat} {nM n P np : Nat} {h s : mm_H} {x y : Int32} (c : CX qm nM h s T 1 n P) : CX qm nM (lo2 h 63 np x y) (lo2 s 118 np x y) T 1 n P := by
  have c1 : CX qm nM (if 0 < np then mm_sa h 63 0 x else h) (if 0 < np then mm_sa s 118 0 x else s) T 1 n P := by
    split
    · exact cx_loc (w := 0) (v := 0) (by omega) (by omega) (by omega) c
    · exact c
  unfold lo2
  generalize (if 0 < np then mm_sa h 63 0 x else h) = h' at *
  generalize (if 0 < np then mm_sa s 118 0 x else s) = s' at *
  split
  · exact cx_loc (w := 0) (v := 1) (by omega) (by omega) (by omega) c1
  · exact c1
noncomputable def ri1 (h : mm_H) (m np : Nat) (x y : Int32) : mm_H := lo2 (rs_enter (ri0 h) 0 (nI m)) 118 np x y
noncomputable def ci1 (h : mm_H) (q np : Nat) (x y : Int32) : mm_H := lo2 (ma_en (ci0 h) 0 q (nI 1)) 63 np x y
theorem ri1_i {h : mm_H} {m np : Nat} {x y : Int32} : mm_i (ri1 h m np x y) 629 80 = nI 0 ∧ mm_i (ri1 h m np x y) 630 80 = nI 0 ∧ mm_i (ri1 h m np x y) 631 80 = nI 0 ∧ mm_i (ri1 h m np x y) 632 80 = nI 0 ∧ mm_i (ri1 h m np x y) 633 80 = nI 1 ∧ mm_i (ri1 h m np x y) 634 80 = nI 1 ∧ mm_i (ri1 h m np x y) 635 80 = -1 ∧ mm_i (ri1 h m np x y) 636 80 = 0 := by
  obtain ⟨a1, a2, a3, a4, a5, a6, a7, a8⟩ := ri0_i (h := h)
  unfold ri1
  rw [lo2_i]
  refine ⟨(en_i (by omega)).trans a1, (en_i (by omega)).trans a2, (en_i (by omega)).trans a3, (en_i (by omega)).trans a4, en_3, ?_, (en_i (by omega)).trans a7, (en_i (by omega)).trans a8⟩
  unfold rs_enter
  rw [a6, if_pos (by decide)]
  exact mm_i1
theorem ri1_a {h : mm_H} {m np : Nat} {x y : Int32} : mm_a (ri1 h m np x y) 120 0 = nI 0 ∧ mm_a (ri1 h m np x y) 121 0 = nI 0 ∧ mm_a (ri1 h m np x y) 122 0 = nI m := by
  unfold ri1
  rw [lo2_a (by omega), lo2_a (by omega), lo2_a (by omega)]
  exact ⟨en_n.2.1, en_n.2.2.1, en_n.2.2.2⟩
theorem ri_sr {h : mm_H} {f a x : Nat} : mm_i (mm_sr h f a x) = mm_i h := rfl
theorem pc_in0 {h g k : mm_H} {nM m np : Nat} {qm : Nat → Nat} {x y : Int32} (hm : m < nM) (ag : AR h g) (dd : mm_i g 324 56 = 0 ∧ mm_i g 325 56 = 0 ∧ mm_i g 326 56 = 0 ∧ mm_i g 327 56 = 0 ∧ mm_i g 328 56 = 0 ∧ mm_i g 329 56 = 0 ∧ mm_i g 333 56 = 0 ∧ mm_i g 334 56 = -1) (aa : mm_i (lo2 (rs_enter k 0 (nI m)) 118 np x y) 629 80 = nI 0 ∧ mm_i (lo2 (rs_enter k 0 (nI m)) 118 np x y) 630 80 = nI 0 ∧ mm_i (lo2 (rs_enter k 0 (nI m)) 118 np x y) 631 80 = nI 0 ∧ mm_i (lo2 (rs_enter k 0 (nI m)) 118 np x y) 632 80 = nI 0 ∧ mm_i (lo2 (rs_enter k 0 (nI m)) 118 np x y) 633 80 = nI 1 ∧ mm_i (lo2 (rs_enter k 0 (nI m)) 118 np x y) 634 80 = nI 1 ∧ mm_i (lo2 (rs_enter k 0 (nI m)) 118 np x y) 635 80 = -1 ∧ mm_i (lo2 (rs_enter k 0 (nI m)) 118 np x y) 636 80 = 0) (bb : mm_a (lo2 (rs_enter k 0 (nI m)) 118 np x y) 120 0 = nI 0 ∧ mm_a (lo2 (rs_enter k 0 (nI m)) 118 np x y) 121 0 = nI 0 ∧ mm_a (lo2 (rs_enter k 0 (nI m)) 118 np x y) 122 0 = nI m) : PC h qm nM (lo2 (rs_enter k 0 (nI m)) 118 np x y) (lo2 (ma_en g 0 (qm m) (nI 1)) 63 np x y) := by
  obtain ⟨a1, a2, a3, a4, a5, a6, a7, a8⟩ := aa
  obtain ⟨b0, b1, b2⟩ := bb
  obtain ⟨d1, d2, d3, d4, d5, d6, d7, d8⟩ := dd
  have ar1 : AR h (ma_en (g) 0 (qm m) (nI 1)) := AR_si (by omega) (AR_si (by omega) (AR_fill (by omega) (AR_si (by omega) (AR_si (by omega) (AR_sr (by omega) ag)))))
  have cI : ∀ f, ¬ f = 329 → ¬ f = 333 → mm_i (lo2 (ma_en g 0 (qm m) (nI 1)) 63 np x y) f 56 = mm_i (g) f 56 := fun f f1 f2 => by
    rw [lo2_i]
    unfold ma_en ac_bg
    rw [mm_i2 (by omega), mm_i2 (by omega), rs_fill_i, mm_i2 (by omega), mm_i2 (by omega), ri_sr]
  have c9 : mm_i (lo2 (ma_en g 0 (qm m) (nI 1)) 63 np x y) 329 56 = nI 1 := by
    rw [lo2_i]
    exact mm_i1
  have c3 : mm_i (lo2 (ma_en g 0 (qm m) (nI 1)) 63 np x y) 333 56 = nI 1 := by
    rw [lo2_i]
    exact (mm_i2 (by omega)).trans mm_i1
  have c5 : mm_i (lo2 (ma_en g 0 (qm m) (nI 1)) 63 np x y) 385 62 = 0 := by
    rw [lo2_i]
    unfold ma_en ac_bg
    rw [mm_i2 (by omega), mm_i2 (by omega), rs_fill_i, mm_i2 (by omega)]
    exact mm_i1
  have base : CX qm nM (ma_en (g) 0 (qm m) (nI 1)) (rs_enter (k) 0 (nI m)) (fun _ => 0) 1 0 0 := by
    refine ⟨fun w hw => ?_, fun w v hw hv => ?_, fun w j hw hj h4 => absurd hj (Nat.not_lt_zero _), fun w hw => ?_, fun o ho => absurd ho (by omega), fun j hj => absurd hj (by omega), fun j hj => absurd hj (by omega)⟩
    · have w0 : w = 0 := by omega
      subst w0
      exact ⟨m, hm, en_n.2.2.2, (show mm_r (mm_sr (g) 384 62 (qm m)) 384 62 = qm m from mm_r1)⟩
    · have w0 : w = 0 := by omega
      subst w0
      have z1 : mm_a (rs_enter (k) 0 (nI m)) 118 (6 * 0 + v) = 0 := en_n.1 _ (by omega)
      have z2 : mm_a (ma_en (g) 0 (qm m) (nI 1)) (63 + 3 * 0) v = 0 := by
        unfold ma_en ac_bg
        rw [ra_si, ra_si]
        exact rs_fill_b (by omega)
      rw [z1, z2]
    · have w0 : w = 0 := by omega
      subst w0
      have z1 : mm_a (rs_enter (k) 0 (nI m)) 120 0 = 0 := en_n.2.1
      have z2 : mm_i (ma_en (g) 0 (qm m) (nI 1)) 388 (62 + 3 * 0) = 0 := by
        unfold ma_en ac_bg
        rw [mm_i2 (by omega), mm_i2 (by omega), rs_fill_i]
        exact mm_i1
      rw [z1, z2]
  have z0 : nI 0 = 0 := rfl
  refine pc_mk (d := 0) (n := 0) (P := 0) (T := fun _ => 0) (lo2_AR (by omega) ar1) (cx_lo2 base) (fun w hw => ?_) ?_ (by omega) (by omega) c3 a5 ((cI 334 (by omega) (by omega)).trans d8) a7 a1 (fun w hw => absurd hw (by omega)) (c5.trans b1.symm) ⟨(cI _ (by omega) (by omega)).trans (d1.trans a8.symm), (cI _ (by omega) (by omega)).trans (d2.trans a4.symm), (cI _ (by omega) (by omega)).trans (d3.trans a1.symm), (cI _ (by omega) (by omega)).trans (d4.trans a3.symm), (cI _ (by omega) (by omega)).trans (d5.trans a2.symm), c9.trans a6.symm⟩
  · have w0 : w = 0 := by omega
    subst w0
    show (mm_a (lo2 (rs_enter k 0 (nI m)) 118 np x y) 120 0).toNatClampNeg ≤ 0
    rw [b0, mm_ncl (by omega)]
    exact Nat.le_refl _
  · show (mm_i (lo2 (rs_enter k 0 (nI m)) 118 np x y) 631 80).toNatClampNeg ≤ 0
    rw [a3, mm_ncl (by omega)]
    exact Nat.le_refl _
theorem pc_init {h : mm_H} {nM m np : Nat} {qm : Nat → Nat} {x y : Int32} (hm : m < nM) : PC h qm nM (ri1 h m np x y) (ci1 h (qm m) np x y) := pc_in0 hm ci0_AR ci0_i ri1_i ri1_a
theorem ty_init {h K : mm_H} {nC nF nM m : Nat} {x y : Int32} {c : Nat} (F : KF K nC nF nM) (hm : m < nM) (c1 : c < nC) (ec : mm_a K 87 m = nI c) (ok : cs K 85 m c) : TY K nC nF nM (ri1 h m (lk_np K m) x y) 0 := by
  obtain ⟨k1, k2, k3, k4, k5⟩ := ok
  obtain ⟨a1, a2, a3, a4, a5, a6, a7, a8⟩ := ri1_i (h := h) (m := m) (np := lk_np K m) (x := x) (y := y)
  obtain ⟨b0, b1, b2⟩ := ri1_a (h := h) (m := m) (np := lk_np K m) (x := x) (y := y)
  obtain ⟨len, Y, l0, W⟩ := fine_WM hm (F.2.2.2.2.2.2.2.2.2.2.1 m c hm c1 ec k3) k2
  generalize ri1 h m (lk_np K m) x y = s at *
  have ft : ftb K nC s 0 (lk_s0 K m) 0 (fun v => mm_a s 118 (6 * 0 + v)) (fun q => mm_a s 119 (4 * 0 + q)) := by
    refine ⟨fun v hv => ?_, fun q hq => absurd hq (by omega)⟩
    show vt K nC s 0 (lk_s0 K m v) (mm_a s 118 (6 * 0 + v))
    unfold lk_s0 lk_sp
    rw [if_neg (fun z => k1 z.2)]
    by_cases q2 : lk_of K m ≤ v ∧ v < lk_of K m + lk_np K m
    · rw [if_pos q2, k5 (v - lk_of K m) (by omega)]
      exact vt_any (Or.inr rfl)
    · rw [if_neg q2]
      exact vt_any (Or.inl rfl)
  have st : (Y 0).1 = nI 0 ∧ ftb K nC s 0 (Y 0).2.2.2 0 (fun v => mm_a s 118 (6 * 0 + v)) (fun q => mm_a s 119 (4 * 0 + q)) := by
    rcases W.2.2.2.1.2.1.1 with z | z | ⟨z1, z2, z3, z4⟩
    · exact absurd z (by decide : ¬ (0 : Int32) = -1)
    · rcases W.2.2.2.2 0 l0 with y | y
      · rw [z] at y; exact absurd y (by decide)
      · unfold lk_er at y
        by_cases q1 : lk_aw K m len 0
        · rw [if_pos q1] at y; exact absurd y (by decide)
        · rw [if_neg q1, if_pos z] at y; exact absurd y (by decide)
    · exact ⟨z1.symm, ftb_le (fun v hv => z4 v (by show (v : Int) < 6 + (0 : Int32).toInt; rw [show (0 : Int32).toInt = 0 by decide]; omega)) ft⟩
  exact ⟨0, 0, m, len, Y, 0, 0, ⟨by omega, a5, a7, ⟨0, 0, a2, by omega, a3, by omega⟩, 1, a6, by omega, by omega⟩, ⟨by omega, a1, fun o o1 o2 => absurd o1 (by omega), fun o f o1 o2 => absurd o1 (by omega)⟩, ⟨W, l0, b2, b1, b0, by omega, st.1, st.2⟩, fun w hw => absurd hw (by omega)⟩
