/-! method -/
theorem nmm_t {h : mm_H} {c n b : Int32} : mm_t (lx_nm h c n b) = mm_t h + 8 ∧ mm_s (lx_nm h c n b) = mm_s h + 66 := by
  have z := lx_nmh_t (h := mm_new h 9 14) (q := mm_t h + 1) (c := c) (n := n) (b := b) rfl
  exact ⟨z.1, z.2⟩
theorem nmm_a {h : mm_H} {c n b : Int32} {e : Nat} (he : e ≤ mm_t h) : mm_a (lx_nm h c n b) e = mm_a h e := by
  have z := lx_nmh_a (h := mm_new h 9 14) (q := mm_t h + 1) (c := c) (n := n) (b := b) rfl e
  rw [if_neg (by omega)] at z
  exact z.trans (if_neg (by omega))
theorem nm_a0 {h : mm_H} {c n b : Int32} {j : Nat} (h1 : 0 < j) (h7 : j ≤ 7) : mm_a (lx_nm h c n b) (mm_t h + 1 + j) = (fun _ => 0) := by
  have z := lx_nmh_a (h := mm_new h 9 14) (q := mm_t h + 1) (c := c) (n := n) (b := b) rfl (mm_t h + 1 + j)
  rw [if_pos (by omega)] at z
  exact z
theorem nmm_i {h : mm_H} {c n b : Int32} {f e : Nat} (he : e ≤ mm_t h) : mm_i (lx_nm h c n b) f e = mm_i h f e := (lx_nmh_i (h := mm_new h 9 14) (q := mm_t h + 1) rfl f e (by omega)).trans (if_neg (by omega))
theorem nmm_r {h : mm_H} {c n b : Int32} {f e : Nat} (he : e ≤ mm_t h) : mm_r (lx_nm h c n b) f e = mm_r h f e := (lx_nmh_r (h := mm_new h 9 14) (q := mm_t h + 1) rfl f e (by omega)).trans (if_neg (by omega))
theorem nmm_q {h : mm_H} {c n b : Int32} {e : Nat} (he : e ≤ mm_t h) : mm_q (lx_nm h c n b) e = mm_q h e := (lx_nmh_q (h := mm_new h 9 14) (q := mm_t h + 1) rfl e (by omega)).trans (if_neg (by omega))
theorem nmm_k {h : mm_H} {c n b : Int32} {e : Nat} (he : e ≤ mm_t h) : mm_k (lx_nm h c n b) e = mm_k h e := by
  have z := lx_nmh_k (h := mm_new h 9 14) (q := mm_t h + 1) (c := c) (n := n) (b := b) rfl e
  rw [if_neg (by omega), if_neg (by omega), if_neg (by omega), if_neg (by omega), if_neg (by omega), if_neg (by omega), if_neg (by omega)] at z
  exact z.trans (if_neg (by omega))
theorem nmm_n {h : mm_H} {c n b : Int32} {e : Nat} (he : e ≤ mm_t h) : mm_n (lx_nm h c n b) e = mm_n h e := by
  have z := lx_nmh_n (h := mm_new h 9 14) (q := mm_t h + 1) (c := c) (n := n) (b := b) rfl e
  rw [if_neg (by omega), if_neg (by omega), if_neg (by omega), if_neg (by omega), if_neg (by omega), if_neg (by omega), if_neg (by omega)] at z
  exact z.trans (if_neg (by omega))
theorem nm_ME {h : mm_H} {c n b : Int32} : mm_ME (lx_nm h c n b) (mm_t h + 1) := lx_nmh_ME (h := mm_new h 9 14) (q := mm_t h + 1) rfl (if_pos rfl)
theorem nm_iq {h : mm_H} {c n b : Int32} : (mm_i (lx_nm h c n b) 512 (mm_t h + 1) = c ∧ mm_i (lx_nm h c n b) 513 (mm_t h + 1) = n ∧ mm_i (lx_nm h c n b) 514 (mm_t h + 1) = b ∧ mm_i (lx_nm h c n b) 518 (mm_t h + 1) = -1 ∧ mm_i (lx_nm h c n b) 516 (mm_t h + 1) = 0 ∧ mm_i (lx_nm h c n b) 521 (mm_t h + 1) = 0 ∧ mm_i (lx_nm h c n b) 525 (mm_t h + 1) = 0) ∧ mm_i (lx_nm h c n b) 448 (mm_t h + 1 + 2) = -2 ∧ mm_i (lx_nm h c n b) 449 (mm_t h + 1 + 2) = 0 ∧ mm_i (lx_nm h c n b) 450 (mm_t h + 1 + 2) = 0 := by
  obtain ⟨a1, a2, a3, a4, a5, a6, a7⟩ := lx_nmh_iq (h := mm_new h 9 14) (q := mm_t h + 1) (c := c) (n := n) (b := b) rfl
  have z := lx_nmh_i2 (h := mm_new h 9 14) (q := mm_t h + 1) (c := c) (n := n) (b := b) rfl
  exact ⟨⟨a1, a2, a3, a4, a5.trans (if_pos rfl), a6.trans (if_pos rfl), a7.trans (if_pos rfl)⟩, z⟩
/-- the heap after a method is made, from the one with its Method -/
def me_h (h : mm_H) (m v : Nat) (c n b x y : Int32) : mm_H := mm_si (mm_sa (mm_sa (mm_sa (mm_sa (mm_sa (mm_si (mm_sq h 8 m v) 72 2 (nI (m + 1))) 87 m c) 88 m n) 95 m b) 90 m x) 93 (4 * m + 3) y) 578 80 (nI (m + 1))
theorem me_0 {h : mm_H} {m v e i : Nat} {c n b x y : Int32} (o : ¬ ((e = 87 ∨ e = 88 ∨ e = 95 ∨ e = 90) ∧ i = m) ∧ ¬ (e = 93 ∧ i = 4 * m + 3)) : mm_a (me_h h m v c n b x y) e i = mm_a h e i := (congrFun (congrFun ra_si _) _).trans ((mm_a2 (by omega)).trans ((mm_a2 (by omega)).trans ((mm_a2 (by omega)).trans ((mm_a2 (by omega)).trans ((mm_a2 (by omega)).trans ((congrFun (congrFun ra_si _) _).trans (congrFun (congrFun ra_sq _) _)))))))
theorem me_A {h : mm_H} {m v e : Nat} {c n b x y : Int32} (o : ¬ (e = 87 ∨ e = 88 ∨ e = 95 ∨ e = 90 ∨ e = 93)) : mm_a (me_h h m v c n b x y) e = mm_a h e := funext (fun i => me_0 (by omega))
theorem me_n {h : mm_H} {m v : Nat} {c n b x y : Int32} : mm_a (me_h h m v c n b x y) 87 m = c ∧ mm_a (me_h h m v c n b x y) 88 m = n ∧ mm_a (me_h h m v c n b x y) 95 m = b ∧ mm_a (me_h h m v c n b x y) 90 m = x ∧ mm_a (me_h h m v c n b x y) 93 (4 * m + 3) = y := by
  refine ⟨(congrFun (congrFun ra_si _) _).trans ((mm_a2 (by omega)).trans ((mm_a2 (by omega)).trans ((mm_a2 (by omega)).trans ((mm_a2 (by omega)).trans mm_a1)))), (congrFun (congrFun ra_si _) _).trans ((mm_a2 (by omega)).trans ((mm_a2 (by omega)).trans ((mm_a2 (by omega)).trans mm_a1))), (congrFun (congrFun ra_si _) _).trans ((mm_a2 (by omega)).trans ((mm_a2 (by omega)).trans mm_a1)), (congrFun (congrFun ra_si _) _).trans ((mm_a2 (by omega)).trans mm_a1), (congrFun (congrFun ra_si _) _).trans mm_a1⟩
theorem ri5 {h : mm_H} {a j a' j' a'' j'' a3 j3 a4 j4 : Nat} {x x' x'' x3 x4 : Int32} : mm_i (mm_sa (mm_sa (mm_sa (mm_sa (mm_sa h a j x) a' j' x') a'' j'' x'') a3 j3 x3) a4 j4 x4) = mm_i h := rfl
theorem me_I {h : mm_H} {m v f e : Nat} {c n b x y : Int32} (o : ¬ (f = 72 ∧ e = 2) ∧ ¬ (f = 578 ∧ e = 80)) : mm_i (me_h h m v c n b x y) f e = mm_i h f e := (mm_i2 (by omega)).trans ((congrFun (congrFun ri5 _) _).trans ((mm_i2 (by omega)).trans (congrFun (congrFun ri_sq _) _)))
theorem me_I1 {h : mm_H} {m v : Nat} {c n b x y : Int32} : mm_i (me_h h m v c n b x y) 72 2 = nI (m + 1) ∧ mm_i (me_h h m v c n b x y) 578 80 = nI (m + 1) := ⟨(mm_i2 (by omega)).trans ((congrFun (congrFun ri5 _) _).trans mm_i1), mm_i1⟩
theorem me_q {h : mm_H} {m v e i : Nat} {c n b x y : Int32} (o : ¬ (e = 8 ∧ i = m)) : mm_q (me_h h m v c n b x y) e i = mm_q h e i := (show mm_q (mm_sq h 8 m v) e i = mm_q h e i from if_neg o)
theorem me_q1 {h : mm_H} {m v : Nat} {c n b x y : Int32} : mm_q (me_h h m v c n b x y) 8 m = v := (show mm_q (mm_sq h 8 m v) 8 m = v from if_pos ⟨rfl, rfl⟩)
theorem me_k {h : mm_H} {m v : Nat} {c n b x y : Int32} : mm_k (me_h h m v c n b x y) = mm_k h ∧ mm_n (me_h h m v c n b x y) = mm_n h ∧ mm_r (me_h h m v c n b x y) = mm_r h ∧ mm_t (me_h h m v c n b x y) = mm_t h ∧ mm_s (me_h h m v c n b x y) = mm_s h := ⟨rfl, rfl, rfl, rfl, rfl⟩
theorem me_ME {h : mm_H} {m v q : Nat} {c n b x y : Int32} (E : mm_ME h q) : mm_ME (me_h h m v c n b x y) q := E
theorem me_SH {h : mm_H} {m v : Nat} {c n b x y : Int32} (I : mm_SH h) : mm_SH (me_h h m v c n b x y) := SH_si (SH_sa (SH_sa (SH_sa (SH_sa (SH_sa (SH_si (SH_sq (by omega) I)))))))
/-- all that is to be known of the heap after a method is made -/
theorem rr_method_ok {ro : mm_Ro} {h g : mm_H} {nC nF nM : Nat} {qm : Nat → Nat} {P : Nat → mm_F × Int32} {c n b : Int32} (T : lx_T ro h nC nF nM qm) (D : rr_D h nF nM qm) (U : rr_U h nM) (L : rr_L h nC nF nM) (V : rr_V h nC P) (M : rr_M h) (fz : mm_i h 68 2 = 0) (hb : b = 0 ∨ b = 1) (k1 : 0 ≤ c.toInt ∧ c.toInt < (nC : Int)) (k2 : 0 ≤ n.toInt ∧ n.toInt ≤ 5) (no : ∀ j, j < nM → ¬ mm_hit h c n j) (lt : nM < 10)
    (I2 : mm_SH g) (AA : ∀ e, e ≤ mm_t h → ¬ (e = 87 ∨ e = 88 ∨ e = 95 ∨ e = 90 ∨ e = 93) → mm_a g e = mm_a h e) (A0 : ∀ e i, e ≤ mm_t h → (¬ ((e = 87 ∨ e = 88 ∨ e = 95 ∨ e = 90) ∧ i = nM) ∧ ¬ (e = 93 ∧ i = 4 * nM + 3)) → mm_a g e i = mm_a h e i) (az : ∀ j, 0 < j → j ≤ 7 → mm_a g (mm_t h + 1 + j) = (fun _ => 0)) (II : ∀ f e, e ≤ mm_t h → (¬ (f = 72 ∧ e = 2) ∧ ¬ (f = 578 ∧ e = 80)) → mm_i g f e = mm_i h f e) (ek : ∀ e, e ≤ mm_t h → mm_k g e = mm_k h e) (en : ∀ e, e ≤ mm_t h → mm_n g e = mm_n h e) (er : ∀ f e, e ≤ mm_t h → mm_r g f e = mm_r h f e) (eq0 : ∀ e i, e ≤ mm_t h → ¬ (e = 8 ∧ i = nM) → mm_q g e i = mm_q h e i) (eq1 : mm_q g 8 nM = mm_t h + 1) (et : mm_t g = mm_t h + 8) (ME : mm_ME g (mm_t h + 1))
    (an : mm_a g 87 nM = c ∧ mm_a g 88 nM = n ∧ mm_a g 95 nM = b ∧ mm_a g 90 nM = -1 ∧ mm_a g 93 (4 * nM + 3) = -2) (i1 : mm_i g 72 2 = nI (nM + 1) ∧ mm_i g 578 80 = nI (nM + 1)) (iq : mm_i g 512 (mm_t h + 1) = c ∧ mm_i g 513 (mm_t h + 1) = n ∧ mm_i g 514 (mm_t h + 1) = b ∧ mm_i g 518 (mm_t h + 1) = -1 ∧ mm_i g 516 (mm_t h + 1) = 0 ∧ mm_i g 521 (mm_t h + 1) = 0 ∧ mm_i g 525 (mm_t h + 1) = 0) (ip : mm_i g 448 (mm_t h + 1 + 2) = -2 ∧ mm_i g 449 (mm_t h + 1 + 2) = 0 ∧ mm_i g 450 (mm_t h + 1 + 2) = 0) : rr ro g := by
  have E := rr_E T D
  have F := rr_F T D
  have ht := D.1
  have XN := T.2.1
  have MN := T.2.2.1
  have N := XN
  obtain ⟨x1, x2, x3, _, h6, h12, h10⟩ := N
  obtain ⟨n1, n2, n3, n4, n5⟩ := an
  obtain ⟨q1, q2, q3, q4, q5, q6, q7⟩ := iq
  obtain ⟨p1, p2, p3⟩ := ip
  have RC : ∀ m, m < 10 → ¬ m = nM → rc_M h g m := fun m hm n => ⟨⟨A0 _ _ (by omega) (by omega), A0 _ _ (by omega) (by omega), A0 _ _ (by omega) (by omega), A0 _ _ (by omega) (by omega), A0 _ _ (by omega) (by omega), A0 _ _ (by omega) (by omega), A0 _ _ (by omega) (by omega)⟩, fun p hp => ⟨A0 _ _ (by omega) (by omega), A0 _ _ (by omega) (by omega), A0 _ _ (by omega) (by omega)⟩, fun i hi => ⟨A0 _ _ (by omega) (by omega), A0 _ _ (by omega) (by omega)⟩, fun i hi => ⟨A0 _ _ (by omega) (by omega), A0 _ _ (by omega) (by omega), A0 _ _ (by omega) (by omega)⟩⟩
  have AN : mm_an h g := ⟨fun f a z => II f a (by omega) (by omega), fun f z => II f 80 (by omega) (by omega), fun a z => AA a (by omega) (by omega)⟩
  have X : xc h g 0 0 := ⟨by omega, fun a ha => ⟨ek a ha, en a ha⟩, fun f a h1 h2 => er f a h2, fun a h1 h2 _ => ⟨fun f => II f a h2 (by omega), AA a h2 (by omega), funext (fun i => eq0 a i h2 (by omega))⟩⟩
  obtain ⟨_, _, _, ⟨K, _, MS, FD, SC, SV, AS, u1, u2, MVs⟩, ow, ML, AB⟩ := T
  have eup : mm_up g = mm_up h := by unfold mm_up; rw [AA 81 (by omega) (by omega)]
  obtain ⟨⟨y1, y2, y3⟩, ⟨y4, y5⟩, y6, y7⟩ := U nM (Nat.le_refl _) lt
  have g89 : mm_a g 89 nM = 0 := (A0 _ _ (by omega) (by omega)).trans y1
  have g91 : mm_a g 91 nM = 0 := (A0 _ _ (by omega) (by omega)).trans y2
  have g92 : mm_a g 92 nM = 0 := (A0 _ _ (by omega) (by omega)).trans y3
  have g96 : mm_a g 96 (4 * nM + 3) = 0 := (A0 _ _ (by omega) (by omega)).trans y4
  have g94 : mm_a g 94 (4 * nM + 3) = 0 := (A0 _ _ (by omega) (by omega)).trans y5
  have z0 : (0 : Int32).toInt = 0 := by decide
  have m2 : (-2 : Int32).toInt = -2 := by decide
  have np : lk_np g nM = 0 := by unfold lk_np; rw [g89, z0]; rfl
  have MVn : lk_MV g nM := ⟨lt, by rw [n1]; omega, by rw [g89, np]; rfl, by omega, by rw [n3]; exact hb, fun p hp => by omega⟩
  have MV' : ∀ a, a < nM + 1 → lk_MV g a := fun a ha => by
    by_cases q : a = nM
    · rw [q]; exact MVn
    · exact rc_MV (RC a (by omega) q) (MVs a (by omega))
  let qm' : Nat → Nat := fun m => if m = nM then mm_t h + 1 else qm m
  have qn : qm' nM = mm_t h + 1 := if_pos rfl
  have qo : ∀ m, ¬ m = nM → qm' m = qm m := fun m hm => if_neg hm
  have qq : ∀ m', m' < nM + 1 → (m' < nM ∧ qm' m' = qm m') ∨ mm_t h < qm' m' := fun m' hm' => by
    by_cases q : m' = nM
    · rw [q, qn]; exact Or.inr (by omega)
    · exact Or.inl ⟨by omega, qo m' q⟩
  have nm : ∀ m, m < nM → ¬ (mm_a g 87 m = mm_a g 87 nM ∧ mm_a g 88 m = mm_a g 88 nM) := fun m hm z => by
    rw [n1, n2, A0 87 m (by omega) (by omega), A0 88 m (by omega) (by omega)] at z
    exact no m hm z
  refine rr_mk (qm := qm') (P := P) (nC := nC) (nF := nF) (nM := nM + 1) K I2 (by omega) ⟨?_, ?_, i1.1, by omega, by omega, by omega, by omega⟩ ⟨?_, ?_, i1.2, by omega, by omega, by omega, by omega⟩ (fun m hm => ?_) ⟨AS.1, ?_⟩ (by rw [eup]; exact u1) (by rw [eup]; exact u2) ?_ ⟨?_, fun p hp => ?_⟩ (fun f hf => ?_) (fun m hm => ?_) (fun m hm => ?_) (rr_U_rc (nM := nM) (Nat.le_succ _) (fun m h1 h2 => RC m h2 (by omega)) U) (rr_L0 fz (II _ _ (by omega) (by omega)) (AA 5 (by omega) (by omega)) (AA 85 (by omega) (by omega)) h6 L) (rr_V_an AN V) (rr_M_an AN M)
  · rw [II _ _ (by omega) (by omega)]; exact x1
  · rw [II _ _ (by omega) (by omega)]; exact x2
  · rw [II _ _ (by omega) (by omega)]; exact MN.1
  · rw [II _ _ (by omega) (by omega)]; exact MN.2.1
  · by_cases q : m = nM
    · rw [q, eq1, qn]
    · rw [eq0 _ _ (by omega) (by omega), qo m q]; exact (MS.2 m (by omega)).1
  · rw [eup, AA 4 (by omega) (by omega)]; exact AS.2
  · unfold lx_AB; rw [AA 81 (by omega) (by omega), AA 3 (by omega) (by omega)]; exact AB
  · rw [AA 83 (by omega) (by omega), AA 86 (by omega) (by omega), AA 84 (by omega) (by omega)]; exact SV.1
  · rw [AA 94 (by omega) (by omega), AA 96 (by omega) (by omega)]
    by_cases q : p = 4 * nM + 3
    · rw [q, n5, m2, y4, y5, z0]; exact ⟨by omega, Or.inl rfl, by omega⟩
    · rw [A0 93 p (by omega) (by omega)]; exact SV.2 p hp
  · exact rr_Fd_x X (Nat.le_refl _) (eq0 _ _ (by omega) (by omega)) (by rw [AA 6 (by omega) (by omega)]) (by rw [AA 82 (by omega) (by omega)]) (by rw [AA 83 (by omega) (by omega)]) (by rw [AA 84 (by omega) (by omega)]) (by rw [AA 86 (by omega) (by omega)]) (by omega) qq (F f hf)
  · by_cases q : m = nM
    · rw [q]
      refine ⟨?_, MVn, ⟨by rw [n5, m2]; omega, by rw [n1]; omega, fun p hp => by omega⟩, by rw [qn]; omega, fun p hp => by omega, fun m' hm' n => ⟨?_, ?_⟩⟩
      · rw [qn]
        refine ⟨by omega, ME, ⟨q1.trans n1.symm, q2.trans n2.symm, q3.trans n3.symm, q5.trans g89.symm, q4.trans n4.symm, q6.trans g91.symm, q7.trans g92.symm⟩, fun p h3 hp => ?_, ⟨by omega, ME.2.1.2, p1.trans n5.symm, ?_, p3.trans g94.symm⟩, fun i hi => ?_, fun i hi => ?_⟩
        · rw [g89, z0] at hp; omega
        · rw [n5, m2, p2, if_neg (by omega)]
        · rw [az 3 (by omega) (by omega), az 4 (by omega) (by omega), A0 97 _ (by omega) (by omega), A0 98 _ (by omega) (by omega)]
          exact ⟨(y6 i hi).1.symm, (y6 i hi).2.symm⟩
        · rw [az 5 (by omega) (by omega), az 6 (by omega) (by omega), az 7 (by omega) (by omega), A0 99 _ (by omega) (by omega), A0 100 _ (by omega) (by omega), A0 101 _ (by omega) (by omega)]
          exact ⟨(y7 i hi).1.symm, (y7 i hi).2.1.symm, (y7 i hi).2.2.symm⟩
      · rw [qn, qo m' (by omega)]
        have := (E m' (by omega)).2.2.2.1
        omega
      · exact fun z => nm m' (by omega) ⟨z.1.symm, z.2.symm⟩
    · refine rr_Md_x (nF := nF) X (Nat.le_refl _) (RC m (by omega) q) (qo m q) (fun j hj => by omega) (fun p hp => by omega) qq (fun m' hm' n => ?_) (E m (by omega))
      by_cases q' : m' = nM
      · rw [q']; exact nm m (by omega)
      · rw [A0 87 m (by omega) (by omega), A0 88 m (by omega) (by omega), A0 87 m' (by omega) (by omega), A0 88 m' (by omega) (by omega)]
        exact ((E m (by omega)).2.2.2.2.2 m' (by omega) n).2
  · by_cases q : m = nM
    · rw [q]
      refine ⟨0, by omega, g91, fun i hi => absurd hi (by omega), ⟨0, by omega, g92⟩, fun i => ?_, by rw [n4]; decide, by rw [n2]; exact k2⟩
      unfold lk_gd
      rw [g92, if_neg (fun z => absurd z.1 (by decide)), if_neg (fun z => absurd z.1 (by decide))]
      decide
    · obtain ⟨len, z⟩ := ML m (by omega)
      exact ⟨len, rc_ML (RC m (by omega) q) (Nat.le_refl _) (Nat.le_refl _) (Nat.le_succ _) MV' z⟩
theorem rr_method {ro : mm_Ro} {h : mm_H} {c n b : Int32} (hb : b = 0 ∨ b = 1) (R : rr ro h) : rr_2 ro 9 n_Ga_method n_Mo_method [.int c, .int n, .int b] h := by
  have R' := R
  obtain ⟨nC, nF, nM, qm, P, T, D, U, L, V, M⟩ := R'
  have E := rr_E T D
  have ht := D.1
  have XN := T.2.1
  have MN := T.2.2.1
  have h10 := XN.2.2.2.2.2.2
  have hx : ∀ j, j < nM → (mm_hix h qm c n j ↔ mm_hit h c n j) := fun j hj => by
    obtain ⟨_, _, ⟨i1, i2, _⟩, _⟩ := (E j hj).1
    unfold mm_hix mm_hit
    rw [i1, i2]
  refine c_Ga_method (d := 5) T.1 XN (rr_XM T) ht (fun k hk z => by have := (E k hk).1.1; omega) hb (fun z => ⟨_, rfl, c_Mo_method (d := 6) T.1 MN hb (fun _ => ⟨rfl, rr_nop R⟩) (fun nf => absurd (L.2.1.mpr nf) z) (fun nf => absurd (L.2.1.mpr nf) z) (fun nf => absurd (L.2.1.mpr nf) z)⟩) (fun fz z => ⟨_, rfl, c_Mo_method (d := 6) T.1 MN hb (fun y => absurd y (L.2.1.mp fz)) (fun _ _ => ⟨rfl, rr_nop R⟩) (fun _ k1 k2 k3 => ?_) (fun _ k1 k2 k3 => ?_)⟩) (fun fz k1 k2 k3 e12 => ⟨_, rfl, c_Mo_method (d := 6) T.1 MN hb (fun y => absurd y (L.2.1.mp fz)) (fun _ z => ?_) (fun _ _ _ _ _ => ⟨rfl, rr_nop R⟩) (fun _ _ _ _ z => by omega)⟩) (fun fz k1 k2 k3 lt => ⟨_, rfl, ?_⟩)
  · rcases z with z | z | ⟨j, hj, z⟩
    · exact absurd k1 z
    · exact absurd k2 z
    · exact absurd ((hx j hj).mp z) (k3 j hj)
  · rcases z with z | z | ⟨j, hj, z⟩
    · exact absurd k1 z
    · exact absurd k2 z
    · exact absurd ((hx j hj).mp z) (k3 j hj)
  · rcases z with z | z | ⟨j, hj, z⟩
    · exact absurd k1 z
    · exact absurd k2 z
    · exact absurd ((hx j hj).mpr z) (k3 j hj)
  · have J : mm_SH (lx_nm h c n b) := lx_SHm rfl (by omega) (lx_SHn ht T.1)
    have I1 : mm_SH (mm_si (mm_sq (lx_nm h c n b) 8 nM (mm_t h + 1)) 72 2 (nI (nM + 1))) := SH_si (SH_sq (by omega) J)
    have MN1 : mm_MN (mm_si (mm_sq (lx_nm h c n b) 8 nM (mm_t h + 1)) 72 2 (nI (nM + 1))) nC nF nM := by
      unfold mm_MN
      rw [mm_i2 (by omega), mm_i2 (by omega), mm_i2 (by omega), ri_sq, nmm_i (by omega), nmm_i (by omega), nmm_i (by omega)]
      exact MN
    have a1 : ∀ e, e ≤ mm_t h → mm_a (mm_si (mm_sq (lx_nm h c n b) 8 nM (mm_t h + 1)) 72 2 (nI (nM + 1))) e = mm_a h e := fun e he => by
      rw [ra_si, ra_sq]
      exact nmm_a he
    have nf1 : ¬ mm_fz (mm_si (mm_sq (lx_nm h c n b) 8 nM (mm_t h + 1)) 72 2 (nI (nM + 1))) := fun z => absurd ((rr_fz (a1 85 (by omega))).mp z) (L.2.1.mp fz)
    have hh : ∀ j, (mm_hit (mm_si (mm_sq (lx_nm h c n b) 8 nM (mm_t h + 1)) 72 2 (nI (nM + 1))) c n j ↔ mm_hit h c n j) := fun j => by
      unfold mm_hit
      rw [a1 87 (by omega), a1 88 (by omega)]
    refine c_Mo_method (d := 6) I1 MN1 hb (fun z => absurd z nf1) (fun _ z => ?_) (fun _ _ _ _ _ => by omega) (fun _ _ _ k3' _ => ?_)
    · rcases z with z | z | ⟨j, hj, z⟩
      · exact absurd k1 z
      · exact absurd k2 z
      · exact absurd ((hx j hj).mpr ((hh j).mp z)) (k3 j hj)
    · refine ⟨rfl, ?_, ?_, ?_⟩
      · show rr ro (me_h (lx_nm h c n b) nM (mm_t h + 1) c n b (-1) (-2))
        generalize hg1 : (-1 : Int32) = v1
        generalize hg2 : (-2 : Int32) = v2
        refine rr_method_ok T D U L V M fz hb k1 k2 (fun j hj => fun z => k3 j hj ((hx j hj).mpr z)) lt (me_SH J) (fun e he o => (me_A o).trans (nmm_a he)) (fun e i he o => (me_0 o).trans (by rw [nmm_a he])) (fun j h1 h7 => (me_A (by omega)).trans (nm_a0 h1 h7)) (fun f e he o => (me_I o).trans (nmm_i he)) (fun e he => ?_) (fun e he => ?_) (fun f e he => ?_) (fun e i he o => (me_q o).trans (by rw [nmm_q he])) me_q1 ?_ (me_ME nm_ME) ?_ me_I1 ?_ ?_
        · rw [me_k.1]; exact nmm_k he
        · rw [me_k.2.1]; exact nmm_n he
        · rw [me_k.2.2.1]; exact nmm_r he
        · rw [me_k.2.2.2.1]; exact nmm_t.1
        · rw [hg1, hg2]; exact me_n
        · obtain ⟨⟨z1, z2, z3, z4, z5, z6, z7⟩, _⟩ := nm_iq (h := h) (c := c) (n := n) (b := b)
          exact ⟨(me_I (by omega)).trans z1, (me_I (by omega)).trans z2, (me_I (by omega)).trans z3, (me_I (by omega)).trans z4, (me_I (by omega)).trans z5, (me_I (by omega)).trans z6, (me_I (by omega)).trans z7⟩
        · obtain ⟨_, z1, z2, z3⟩ := nm_iq (h := h) (c := c) (n := n) (b := b)
          exact ⟨(me_I (by omega)).trans z1, (me_I (by omega)).trans z2, (me_I (by omega)).trans z3⟩
      · rw [t_si.1, t_sa.1, t_sa.1, t_sa.1, t_sa.1, t_sa.1, t_si.1, t_sq.1, nmm_t.1]; omega
      · rw [t_si.2, t_sa.2, t_sa.2, t_sa.2, t_sa.2, t_sa.2, t_si.2, t_sq.2, nmm_t.2]; omega
