/-! field, cls -/
theorem rr_U_rc {h g : mm_H} {nM nM' : Nat} (le : nM ≤ nM') (c : ∀ m, nM' ≤ m → m < 10 → rc_M h g m) (U : rr_U h nM) : rr_U g nM' := by
  intro m h1 h2
  obtain ⟨⟨c1, c2, c3, c4, c5, c6, c7⟩, cp, cc, cg⟩ := c m h1 h2
  obtain ⟨⟨y1, y2, y3⟩, ⟨y4, y5⟩, y6, y7⟩ := U m (by omega) h2
  obtain ⟨_, p2, p3⟩ := cp 3 (by omega)
  exact ⟨⟨c3.trans y1, c5.trans y2, c6.trans y3⟩, ⟨p3.trans y4, p2.trans y5⟩, fun i hi => ⟨(cc i hi).1.trans (y6 i hi).1, (cc i hi).2.trans (y6 i hi).2⟩, fun j hj => ⟨(cg j hj).1.trans (y7 j hj).1, (cg j hj).2.1.trans (y7 j hj).2.1, (cg j hj).2.2.trans (y7 j hj).2.2⟩⟩
/-- the heap after a field is made, from the one with its Place -/
def fi_h (h : mm_H) (n v : Nat) (c s b w : Int32) : mm_H := mm_si (mm_sa (mm_sa (mm_sa (mm_sa (mm_si (mm_sq (mm_sa h 6 n c) 7 n v) 69 2 (nI (n + 1))) 82 n c) 83 n s) 86 n b) 84 n w) 577 80 (nI (n + 1))
theorem fi_0 {h : mm_H} {n v e i : Nat} {c s b w : Int32} (o : ¬ ((e = 6 ∨ e = 82 ∨ e = 83 ∨ e = 86 ∨ e = 84) ∧ i = n)) : mm_a (fi_h h n v c s b w) e i = mm_a h e i := (congrFun (congrFun ra_si _) _).trans ((mm_a2 (by omega)).trans ((mm_a2 (by omega)).trans ((mm_a2 (by omega)).trans ((mm_a2 (by omega)).trans ((congrFun (congrFun ra_si _) _).trans ((congrFun (congrFun ra_sq _) _).trans (mm_a2 (by omega))))))))
theorem fi_A {h : mm_H} {n v e : Nat} {c s b w : Int32} (o : ¬ (e = 6 ∨ e = 82 ∨ e = 83 ∨ e = 86 ∨ e = 84)) : mm_a (fi_h h n v c s b w) e = mm_a h e := funext (fun i => fi_0 (by omega))
theorem fi_n {h : mm_H} {n v : Nat} {c s b w : Int32} : mm_a (fi_h h n v c s b w) 6 n = c ∧ mm_a (fi_h h n v c s b w) 82 n = c ∧ mm_a (fi_h h n v c s b w) 83 n = s ∧ mm_a (fi_h h n v c s b w) 86 n = b ∧ mm_a (fi_h h n v c s b w) 84 n = w := by
  refine ⟨(congrFun (congrFun ra_si _) _).trans ((mm_a2 (by omega)).trans ((mm_a2 (by omega)).trans ((mm_a2 (by omega)).trans ((mm_a2 (by omega)).trans ((congrFun (congrFun ra_si _) _).trans ((congrFun (congrFun ra_sq _) _).trans mm_a1)))))), (congrFun (congrFun ra_si _) _).trans ((mm_a2 (by omega)).trans ((mm_a2 (by omega)).trans ((mm_a2 (by omega)).trans mm_a1))), (congrFun (congrFun ra_si _) _).trans ((mm_a2 (by omega)).trans ((mm_a2 (by omega)).trans mm_a1)), (congrFun (congrFun ra_si _) _).trans ((mm_a2 (by omega)).trans mm_a1), (congrFun (congrFun ra_si _) _).trans mm_a1⟩
theorem fi_I {h : mm_H} {n v f e : Nat} {c s b w : Int32} (o : ¬ (f = 69 ∧ e = 2) ∧ ¬ (f = 577 ∧ e = 80)) : mm_i (fi_h h n v c s b w) f e = mm_i h f e := (mm_i2 (by omega)).trans ((congrFun (congrFun ri_sa _) _).trans ((congrFun (congrFun ri3 _) _).trans ((mm_i2 (by omega)).trans ((congrFun (congrFun ri_sq _) _).trans (congrFun (congrFun ri_sa _) _)))))
theorem fi_I1 {h : mm_H} {n v : Nat} {c s b w : Int32} : mm_i (fi_h h n v c s b w) 69 2 = nI (n + 1) ∧ mm_i (fi_h h n v c s b w) 577 80 = nI (n + 1) := ⟨(mm_i2 (by omega)).trans ((congrFun (congrFun ri_sa _) _).trans ((congrFun (congrFun ri3 _) _).trans mm_i1)), mm_i1⟩
theorem fi_q {h : mm_H} {n v e i : Nat} {c s b w : Int32} (o : ¬ (e = 7 ∧ i = n)) : mm_q (fi_h h n v c s b w) e i = mm_q h e i := (show mm_q (mm_sq h 7 n v) e i = mm_q h e i from if_neg o)
theorem fi_q1 {h : mm_H} {n v : Nat} {c s b w : Int32} : mm_q (fi_h h n v c s b w) 7 n = v := (show mm_q (mm_sq h 7 n v) 7 n = v from if_pos ⟨rfl, rfl⟩)
theorem SH_sq {h : mm_H} {a j v : Nat} (o : ¬ a = 10 ∧ ¬ a = 61) (I : mm_SH h) : mm_SH (mm_sq h a j v) := by
  obtain ⟨i1, i2, i3, i4, i5⟩ := I
  have e : ∀ b, ¬ b = a → mm_q (mm_sq h a j v) b = mm_q h b := fun b hb => funext (fun i => if_neg (fun z => hb z.1))
  refine ⟨i1, i2, i3, ?_, ?_⟩
  · rw [e 10 (by omega)]; exact i4
  · rw [e 61 (by omega)]; exact i5
/-- what a new Place leaves -/
theorem np_an {h : mm_H} {s b w : Int32} (ht : 123 ≤ mm_t h) : mm_an h (lx_np h s b w) := an_si (an_si (an_si (an_new an_rf ht) (by omega)) (by omega)) (by omega)
theorem rr_field {ro : mm_Ro} {h : mm_H} {c s b w : Int32} (hb : b = 0 ∨ b = 1) (R : rr ro h) : rr_2 ro 9 n_Ga_field n_Mo_field [.int c, .int s, .int b, .int w] h := by
  have R' := R
  obtain ⟨nC, nF, nM, qm, P, T, D, U, L, V, M⟩ := R'
  have E := rr_E T D
  have F := rr_F T D
  have ht := D.1
  have XN := T.2.1
  have MN := T.2.2.1
  have N := XN
  obtain ⟨x1, x2, x3, _, h6, h12, h10⟩ := N
  refine c_Ga_field (d := 5) T.1 XN ht (fun z => ⟨_, rfl, c_Mo_field (d := 5) T.1 MN hb (fun _ => ⟨rfl, rr_nop R⟩) (fun nf => absurd (L.2.1.mpr nf) z) (fun nf => absurd (L.2.1.mpr nf) z) (fun nf => absurd (L.2.1.mpr nf) z)⟩) (fun fz z => ⟨_, rfl, c_Mo_field (d := 5) T.1 MN hb (fun y => absurd y (L.2.1.mp fz)) (fun _ _ => ⟨rfl, rr_nop R⟩) (fun _ k1 k2 => absurd ⟨k1, k2⟩ z) (fun _ k1 k2 => absurd ⟨k1, k2⟩ z)⟩) (fun fz k1 k2 e12 => ⟨_, rfl, c_Mo_field (d := 5) T.1 MN hb (fun y => absurd y (L.2.1.mp fz)) (fun _ z => absurd ⟨k1, k2⟩ z) (fun _ _ _ _ => ⟨rfl, rr_nop R⟩) (fun _ _ _ z => by omega)⟩) (fun fz k1 k2 lt => ⟨_, rfl, ?_⟩)
  have J : mm_SH (lx_np h s b w) := (np_st (lo := 0) (hi := 0) ht T.1).1
  have I1 : mm_SH (mm_si (mm_sq (mm_sa (lx_np h s b w) 6 nF c) 7 nF (mm_t h + 1)) 69 2 (nI (nF + 1))) := SH_si (SH_sq (by omega) (SH_sa J))
  have MN1 : mm_MN (mm_si (mm_sq (mm_sa (lx_np h s b w) 6 nF c) 7 nF (mm_t h + 1)) 69 2 (nI (nF + 1))) nC nF nM := by
    unfold mm_MN
    rw [mm_i2 (by omega), mm_i2 (by omega), mm_i2 (by omega), ri_sq, ri_sa, np_i (by omega), np_i (by omega), np_i (by omega)]
    exact MN
  have nf1 : ¬ mm_fz (mm_si (mm_sq (mm_sa (lx_np h s b w) 6 nF c) 7 nF (mm_t h + 1)) 69 2 (nI (nF + 1))) := fun z => by
    refine absurd ((rr_fz ?_).mp z) (L.2.1.mp fz)
    rw [ra_si, ra_sq]
    exact (funext (fun i => mm_a2 (by omega))).trans (np_a (by omega))
  refine c_Mo_field (d := 5) I1 MN1 hb (fun z => absurd z nf1) (fun _ z => absurd ⟨k1, k2⟩ z) (fun _ _ _ _ => by omega) (fun _ _ _ _ => ?_)
  refine ⟨rfl, ?_, ?_, ?_⟩
  · show rr ro (fi_h (lx_np h s b w) nF (mm_t h + 1) c s b w)
    have I2 : mm_SH (fi_h (lx_np h s b w) nF (mm_t h + 1) c s b w) := SH_si (SH_sa (SH_sa (SH_sa (SH_sa I1))))
    have AN : mm_an h (fi_h (lx_np h s b w) nF (mm_t h + 1) c s b w) := an_si (an_sa (an_sa (an_sa (an_sa (an_si (an_sq (an_sa (np_an ht) (by omega))) (by omega)) (by omega)) (by omega)) (by omega)) (by omega)) (by omega)
    have RC : ∀ m, m < 10 → rc_M h (fi_h (lx_np h s b w) nF (mm_t h + 1) c s b w) m := fun m hm => rc_si (rc_sa (rc_sa (rc_sa (rc_sa (rc_si (rc_sq (rc_sa (rc_si (rc_si (rc_si (rc_new rc_rf ht)))) (by omega)))) (by omega)) (by omega)) (by omega)) (by omega))
    generalize hg : fi_h (lx_np h s b w) nF (mm_t h + 1) c s b w = g at I2 AN RC
    have AA : ∀ e, e ≤ mm_t h → ¬ (e = 6 ∨ e = 82 ∨ e = 83 ∨ e = 86 ∨ e = 84) → mm_a g e = mm_a h e := fun e h1 he => by rw [← hg]; exact (fi_A he).trans (np_a h1)
    have A0 : ∀ e i, e ≤ mm_t h → ¬ i = nF → mm_a g e i = mm_a h e i := fun e i h1 he => by rw [← hg]; exact (fi_0 (by omega)).trans (by rw [np_a h1])
    have II : ∀ f e, e ≤ mm_t h → (¬ (f = 69 ∧ e = 2) ∧ ¬ (f = 577 ∧ e = 80)) → mm_i g f e = mm_i h f e := fun f e h1 he => by rw [← hg]; exact (fi_I he).trans (np_i h1)
    have ek : ∀ e, e ≤ mm_t h → mm_k g e = mm_k h e := fun e he => by rw [← hg]; exact np_k (s := s) (b := b) (w := w) he
    have en : ∀ e, e ≤ mm_t h → mm_n g e = mm_n h e := fun e he => by rw [← hg]; exact np_n (s := s) (b := b) (w := w) he
    have er : ∀ f e, e ≤ mm_t h → mm_r g f e = mm_r h f e := fun f e he => by rw [← hg]; exact np_r (s := s) (b := b) (w := w) he
    have eq0 : ∀ e i, e ≤ mm_t h → ¬ (e = 7 ∧ i = nF) → mm_q g e i = mm_q h e i := fun e i h1 hi => by rw [← hg]; exact (fi_q hi).trans (by rw [np_q h1])
    have eq1 : mm_q g 7 nF = mm_t h + 1 := by rw [← hg]; exact fi_q1
    have et : mm_t g = mm_t h + 1 := by rw [← hg]; rfl
    have pl : lx_PL g (mm_t h + 1) s b w := by rw [← hg]; exact pl_cg (np_PL ht hb) rfl (fi_I (by omega)) (fi_I (by omega)) (fi_I (by omega))
    have an := fi_n (h := lx_np h s b w) (n := nF) (v := mm_t h + 1) (c := c) (s := s) (b := b) (w := w)
    have i1 := fi_I1 (h := lx_np h s b w) (n := nF) (v := mm_t h + 1) (c := c) (s := s) (b := b) (w := w)
    rw [hg] at an i1
    clear hg
    obtain ⟨n1, n2, n3, n4, n5⟩ := an
    obtain ⟨so, w1, w2⟩ := k2
    have sr : -1 ≤ s.toInt ∧ s.toInt < (nC : Int) := by
      rcases so with z | z
      · omega
      · omega
    have X : xc h g 0 0 := ⟨by omega, fun a ha => ⟨ek a ha, en a ha⟩, fun f a h1 h2 => er f a h2, fun a h1 h2 _ => ⟨fun f => II f a h2 (by omega), AA a h2 (by omega), funext (fun i => eq0 a i h2 (by omega))⟩⟩
    have eup : mm_up g = mm_up h := by unfold mm_up; rw [AA 81 (by omega) (by omega)]
    obtain ⟨_, _, _, ⟨K, _, MS, FD, SC, SV, AS, u1, u2, MVs⟩, ow, ML, AB⟩ := T
    have MV' : ∀ a, a < nM → lk_MV g a := fun a ha => rc_MV (RC a (by omega)) (MVs a ha)
    have qq : ∀ m', m' < nM → (m' < nM ∧ qm m' = qm m') ∨ mm_t h < qm m' := fun m' hm' => Or.inl ⟨hm', rfl⟩
    refine rr_mk (qm := qm) (P := P) (nC := nC) (nF := nF + 1) (nM := nM) K I2 (by omega) ⟨?_, i1.1, ?_, by omega, by omega, by omega, by omega⟩ ⟨?_, i1.2, ?_, by omega, by omega, by omega, by omega⟩ (fun m hm => ?_) ⟨AS.1, ?_⟩ (by rw [eup]; exact u1) (by rw [eup]; exact u2) ?_ ⟨fun a ha => ?_, ?_⟩ (fun f hf => ?_) (fun m hm => ?_) (fun m hm => ?_) (rr_U_rc (Nat.le_refl _) (fun m _ h2 => RC m h2) U) (rr_L0 fz (II _ _ (by omega) (by omega)) (AA 5 (by omega) (by omega)) (AA 85 (by omega) (by omega)) h6 L) (rr_V_an AN V) (rr_M_an AN M)
    · rw [II _ _ (by omega) (by omega)]; exact x1
    · rw [II _ _ (by omega) (by omega)]; exact x3
    · rw [II _ _ (by omega) (by omega)]; exact MN.1
    · rw [II _ _ (by omega) (by omega)]; exact MN.2.2.1
    · rw [eq0 _ _ (by omega) (by omega)]; exact (MS.2 m hm).1
    · rw [eup, AA 4 (by omega) (by omega)]; exact AS.2
    · unfold lx_AB; rw [AA 81 (by omega) (by omega), AA 3 (by omega) (by omega)]; exact AB
    · by_cases q : a = nF
      · rw [q, n3, n4, n5]; exact ⟨by omega, hb, w1, w2⟩
      · rw [A0 83 a (by omega) q, A0 86 a (by omega) q, A0 84 a (by omega) q]; exact SV.1 a ha
    · rw [AA 93 (by omega) (by omega), AA 94 (by omega) (by omega), AA 96 (by omega) (by omega)]; exact SV.2
    · by_cases q : f = nF
      · unfold rr_Fd
        rw [q, eq1, n1, n2, n3, n4, n5, et]
        refine ⟨pl, rfl, sr.2, ⟨c.toInt.toNat, by omega, mm_nz (by omega) (by omega)⟩, Nat.le_refl _, fun m' hm' z => by have := (E m' hm').2.2.2.1; omega⟩
      · exact rr_Fd_x X (Nat.le_refl _) (eq0 _ _ (by omega) (by omega)) (A0 _ _ (by omega) q) (A0 _ _ (by omega) q) (A0 _ _ (by omega) q) (A0 _ _ (by omega) q) (A0 _ _ (by omega) q) (by omega) qq (F f (by omega))
    · refine rr_Md_x (nF := nF) X (Nat.le_refl _) (RC m (by omega)) rfl (fun j hj => by omega) (fun p hp => by omega) qq (fun m' hm' n => ?_) (E m hm)
      rw [AA 87 (by omega) (by omega), AA 88 (by omega) (by omega)]
      exact ((E m hm).2.2.2.2.2 m' hm' n).2
    · obtain ⟨len, z⟩ := ML m hm
      exact ⟨len, rc_ML (RC m (by omega)) (Nat.le_refl _) (Nat.le_succ _) (Nat.le_refl _) MV' z⟩
  · rw [t_si.1, t_sa.1, t_sa.1, t_sa.1, t_sa.1, t_si.1, t_sq.1, t_sa.1, np_t.1]; omega
  · rw [t_si.2, t_sa.2, t_sa.2, t_sa.2, t_sa.2, t_si.2, t_sq.2, t_sa.2, np_t.2]; omega
