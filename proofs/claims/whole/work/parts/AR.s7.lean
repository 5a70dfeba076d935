/-! cls -/
theorem as_or : ∀ S : Fin 64, ∀ n : Fin 6, nI S.1 ||| (1 <<< (nI n.1 &&& 31)) = nI (S.1 ||| 2 ^ n.1) ∧ (S.1 ||| 2 ^ n.1) < 64 ∧ ∀ d : Fin 6, (S.1 ||| 2 ^ n.1).testBit d.1 = (S.1.testBit d.1 || d.1 == n.1) := by decide +kernel
theorem anc_up {up up' : Nat → Int} {n : Nat} (U : mm_upo up) (h6 : n ≤ 6) (e : ∀ z, z < n → up' z = up z) {x : Int} (hx : x < n) : ∀ k, mm_anc up' k x = mm_anc up k x := by
  intro k
  induction k with
  | zero => rfl
  | succ k ih =>
    show (if mm_anc up' k x < 0 then -1 else up' (mm_anc up' k x).toNat) = (if mm_anc up k x < 0 then -1 else up (mm_anc up k x).toNat)
    rw [ih]
    by_cases q : mm_anc up k x < 0
    · rw [if_pos q, if_pos q]
    · rw [if_neg q, if_neg q]
      have w := mm_anc_le U (x := x) (by omega) k (by omega)
      exact e _ (by omega)
theorem bel_up {up up' : Nat → Int} {n : Nat} (U : mm_upo up) (h6 : n ≤ 6) (e : ∀ z, z < n → up' z = up z) {x y : Int} (hx : x < n) : mm_bel up' x y ↔ mm_bel up x y := by
  unfold mm_bel
  constructor
  · rintro ⟨h1, k, h2⟩
    exact ⟨h1, k, by rw [← anc_up U h6 e hx]; exact h2⟩
  · rintro ⟨h1, k, h2⟩
    exact ⟨h1, k, by rw [anc_up U h6 e hx]; exact h2⟩
theorem bel_new {up up' : Nat → Int} {n s : Nat} (U : mm_upo up) (h6 : n ≤ 6) (hs : s < n) (e : ∀ z, z < n → up' z = up z) (en : up' n = s) {y : Int} (hy : 0 ≤ y) : mm_bel up' n y ↔ (y = n ∨ mm_bel up s y) := by
  have e1 : mm_anc up' 1 n = s := by
    show (if (n : Int) < 0 then -1 else up' (n : Int).toNat) = _
    rw [if_neg (by omega)]
    exact en
  constructor
  · rintro ⟨_, k, h2⟩
    cases k with
    | zero => exact Or.inl h2.symm
    | succ k =>
      rw [Nat.add_comm, mm_anc_add, e1] at h2
      exact Or.inr ((bel_up U h6 e (by omega)).mp ⟨hy, k, h2⟩)
  · rintro (z | z)
    · exact ⟨hy, 0, z.symm⟩
    · obtain ⟨_, k, h2⟩ := (bel_up U h6 e (x := s) (by omega)).mpr z
      refine ⟨hy, 1 + k, ?_⟩
      rw [mm_anc_add, e1]
      exact h2
def cl_h (h : mm_H) (n : Nat) (a x : Int32) : mm_H := mm_si (mm_sa (mm_si (mm_sa (mm_sa h 3 n x) 4 n a) 64 2 (nI (n + 1))) 81 n x) 576 80 (nI (n + 1))
theorem cl_0 {h : mm_H} {n e i : Nat} {a x : Int32} (o : ¬ ((e = 3 ∨ e = 4 ∨ e = 81) ∧ i = n)) : mm_a (cl_h h n a x) e i = mm_a h e i := (congrFun (congrFun ra_si _) _).trans ((mm_a2 (by omega)).trans ((congrFun (congrFun ra_si _) _).trans ((mm_a2 (by omega)).trans (mm_a2 (by omega)))))
theorem cl_A {h : mm_H} {n e : Nat} {a x : Int32} (o : ¬ (e = 3 ∨ e = 4 ∨ e = 81)) : mm_a (cl_h h n a x) e = mm_a h e := funext (fun i => cl_0 (by omega))
theorem cl_n {h : mm_H} {n : Nat} {a x : Int32} : mm_a (cl_h h n a x) 3 n = x ∧ mm_a (cl_h h n a x) 4 n = a ∧ mm_a (cl_h h n a x) 81 n = x := ⟨(congrFun (congrFun ra_si _) _).trans ((mm_a2 (by omega)).trans ((congrFun (congrFun ra_si _) _).trans ((mm_a2 (by omega)).trans mm_a1))), (congrFun (congrFun ra_si _) _).trans ((mm_a2 (by omega)).trans ((congrFun (congrFun ra_si _) _).trans mm_a1)), (congrFun (congrFun ra_si _) _).trans mm_a1⟩
theorem cl_I {h : mm_H} {n f e : Nat} {a x : Int32} (o : ¬ (f = 64 ∧ e = 2) ∧ ¬ (f = 576 ∧ e = 80)) : mm_i (cl_h h n a x) f e = mm_i h f e := (mm_i2 (by omega)).trans ((congrFun (congrFun ri_sa _) _).trans ((mm_i2 (by omega)).trans ((congrFun (congrFun ri_sa _) _).trans (congrFun (congrFun ri_sa _) _))))
theorem cl_I1 {h : mm_H} {n : Nat} {a x : Int32} : mm_i (cl_h h n a x) 64 2 = nI (n + 1) ∧ mm_i (cl_h h n a x) 576 80 = nI (n + 1) := ⟨(mm_i2 (by omega)).trans ((congrFun (congrFun ri_sa _) _).trans mm_i1), mm_i1⟩
theorem rr_cls {ro : mm_Ro} {h : mm_H} {x : Int32} (R : rr ro h) : rr_2 ro 9 n_Ga_cls n_Mo_cls [.int x] h := by
  have R' := R
  obtain ⟨nC, nF, nM, qm, P, T, D, U, L, V, M⟩ := R'
  have E := rr_E T D
  have F := rr_F T D
  have ht := D.1
  have XN := T.2.1
  have MN := T.2.2.1
  have N := XN
  obtain ⟨x1, x2, x3, _, h6, h12, h10⟩ := N
  refine c_Ga_cls (d := 6) T.1 XN (fun z => ⟨_, rfl, c_Mo_cls (d := 6) T.1 MN (fun _ => ⟨rfl, rr_nop R⟩) (fun nf => absurd (L.2.1.mpr nf) z) (fun nf => absurd (L.2.1.mpr nf) z) (fun nf => absurd (L.2.1.mpr nf) z)⟩) (fun fz z => ⟨_, rfl, c_Mo_cls (d := 6) T.1 MN (fun y => absurd y (L.2.1.mp fz)) (fun _ _ => ⟨rfl, rr_nop R⟩) (fun _ k1 => absurd k1 z) (fun _ k1 => absurd k1 z)⟩) (fun fz k1 e12 => ⟨_, rfl, c_Mo_cls (d := 6) T.1 MN (fun y => absurd y (L.2.1.mp fz)) (fun _ z => absurd k1 z) (fun _ _ _ => ⟨rfl, rr_nop R⟩) (fun _ _ z => by omega)⟩) (fun fz s hs ex lt => ⟨_, rfl, ?_⟩)
  subst ex
  generalize ha : (mm_a h 4 s ||| (1 <<< (nI nC &&& 31))) = a
  have I1 : mm_SH (mm_si (mm_sa (mm_sa h 3 nC (nI s)) 4 nC a) 64 2 (nI (nC + 1))) := SH_si (SH_sa (SH_sa T.1))
  have MN1 : mm_MN (mm_si (mm_sa (mm_sa h 3 nC (nI s)) 4 nC a) 64 2 (nI (nC + 1))) nC nF nM := by
    unfold mm_MN
    rw [mm_i2 (by omega), mm_i2 (by omega), mm_i2 (by omega), ri_sa, ri_sa]
    exact MN
  have nf1 : ¬ mm_fz (mm_si (mm_sa (mm_sa h 3 nC (nI s)) 4 nC a) 64 2 (nI (nC + 1))) := fun z => by
    refine absurd ((rr_fz ?_).mp z) (L.2.1.mp fz)
    rw [ra_si]
    exact (funext (fun i => (mm_a2 (by omega)).trans (mm_a2 (by omega))))
  refine c_Mo_cls (d := 6) I1 MN1 (fun z => absurd z nf1) (fun _ z => absurd (mm_nb hs (by omega)) z) (fun _ _ _ => by omega) (fun _ _ _ => ?_)
  refine ⟨rfl, ?_, Nat.le_add_right _ _, Nat.le_add_right _ _⟩
  show rr ro (cl_h h nC a (nI s))
  have I2 : mm_SH (cl_h h nC a (nI s)) := SH_si (SH_sa I1)
  have AN : mm_an h (cl_h h nC a (nI s)) := an_si (an_sa (an_si (an_sa (an_sa an_rf (by omega)) (by omega)) (by omega)) (by omega)) (by omega)
  have RC : ∀ m, m < 10 → rc_M h (cl_h h nC a (nI s)) m := fun m hm => rc_si (rc_sa (rc_si (rc_sa (rc_sa rc_rf (by omega)) (by omega))) (by omega))
  generalize hg : cl_h h nC a (nI s) = g at I2 AN RC
  have AA : ∀ e, ¬ (e = 3 ∨ e = 4 ∨ e = 81) → mm_a g e = mm_a h e := fun e he => by rw [← hg]; exact cl_A he
  have A0 : ∀ e i, ¬ i = nC → mm_a g e i = mm_a h e i := fun e i he => by rw [← hg]; exact cl_0 (by omega)
  have II : ∀ f e, (¬ (f = 64 ∧ e = 2) ∧ ¬ (f = 576 ∧ e = 80)) → mm_i g f e = mm_i h f e := fun f e he => by rw [← hg]; exact cl_I he
  have ek : mm_k g = mm_k h := by rw [← hg]; rfl
  have en : mm_n g = mm_n h := by rw [← hg]; rfl
  have er : mm_r g = mm_r h := by rw [← hg]; rfl
  have eqq : mm_q g = mm_q h := by rw [← hg]; rfl
  have et : mm_t g = mm_t h := by rw [← hg]; rfl
  have an := cl_n (h := h) (n := nC) (a := a) (x := nI s)
  have i1 := cl_I1 (h := h) (n := nC) (a := a) (x := nI s)
  rw [hg] at an i1
  clear hg
  obtain ⟨n1, n2, n3⟩ := an
  have X : xc h g 0 0 := ⟨by omega, fun a ha => ⟨by rw [ek], by rw [en]⟩, fun f a h1 h2 => by rw [er], fun a h1 h2 _ => ⟨fun f => II f a (by omega), AA a (by omega), by rw [eqq]⟩⟩
  obtain ⟨_, _, _, ⟨K, _, MS, FD, SC, SV, AS, u1, u2, MVs⟩, ow, ML, AB⟩ := T
  have eup : ∀ z, z < nC → mm_up g z = mm_up h z := fun z hz => by unfold mm_up; rw [A0 81 z (by omega)]
  have eun : mm_up g nC = s := by unfold mm_up; rw [n3, mm_nt (by omega)]
  have eu2 : ∀ z, ¬ z = nC → mm_up g z = mm_up h z := fun z hz => by unfold mm_up; rw [A0 81 z (by omega)]
  have MV' : ∀ a, a < nM → lk_MV g a := fun a ha => rc_MV (RC a (by omega)) (MVs a ha)
  have qq : ∀ m', m' < nM → (m' < nM ∧ qm m' = qm m') ∨ mm_t h < qm m' := fun m' hm' => Or.inl ⟨hm', rfl⟩
  have V' := rr_V_an AN V
  refine rr_mk (qm := qm) (P := P) (nC := nC + 1) (nF := nF) (nM := nM) K I2 (by omega) ⟨i1.1, ?_, ?_, by omega, by omega, by omega, by omega⟩ ⟨i1.2, ?_, ?_, by omega, by omega, by omega, by omega⟩ (fun m hm => ?_) ⟨by omega, fun c hc => ?_⟩ (fun z hz => ?_) (fun z h0 hz => ?_) ⟨?_, fun c hc => ?_, fun c h0 hc => ?_⟩ ⟨?_, ?_⟩ (fun f hf => ?_) (fun m hm => ?_) (fun m hm => ?_) (rr_U_rc (Nat.le_refl _) (fun m _ h2 => RC m h2) U) (rr_L0 fz (II _ _ (by omega)) (AA 5 (by omega)) (AA 85 (by omega)) (by omega) L) ⟨V'.1, lx_ok_up (Nat.le_succ _) V'.2.1, V'.2.2⟩ (rr_M_an AN M)
  · rw [II _ _ (by omega)]; exact x2
  · rw [II _ _ (by omega)]; exact x3
  · rw [II _ _ (by omega)]; exact MN.2.1
  · rw [II _ _ (by omega)]; exact MN.2.2.1
  · rw [eqq]; exact (MS.2 m hm).1
  · by_cases q : c = nC
    · obtain ⟨S, h64, eS, bS⟩ := AS.2 s hs
      have w := as_or ⟨S, h64⟩ ⟨nC, lt⟩
      refine ⟨S ||| 2 ^ nC, w.2.1, ?_, fun d hd => ?_⟩
      · rw [q, n2, ← ha, eS]; exact w.1
      · rw [q, w.2.2 ⟨d, hd⟩, bel_new u1 h6 hs eup eun (by omega), ← bS d hd]
        show (S.testBit d || d == nC) = true ↔ _
        rw [Bool.or_eq_true, beq_iff_eq]
        constructor
        · rintro (z | z)
          · exact Or.inr z
          · exact Or.inl (by omega)
        · rintro (z | z)
          · exact Or.inr (by omega)
          · exact Or.inl z
    · obtain ⟨S, h64, eS, bS⟩ := AS.2 c (by omega)
      refine ⟨S, h64, by rw [A0 4 c q]; exact eS, fun d hd => ?_⟩
      rw [bel_up u1 h6 eup (by omega)]
      exact bS d hd
  · by_cases q : z = nC
    · rw [q, eun]; omega
    · rw [eu2 z q]; exact u1 z hz
  · by_cases q : z = nC
    · rw [q, eun]; omega
    · rw [eu2 z q]; exact u2 z h0 hz
  · rw [A0 81 0 (by omega)]; exact AB.1
  · by_cases q : c = nC
    · rw [q, n1, n3]
    · rw [A0 3 c q, A0 81 c q]; exact AB.2.1 c (by omega)
  · by_cases q : c = nC
    · rw [q, n3]; exact ⟨s, hs, rfl⟩
    · rw [A0 81 c q]; exact AB.2.2 c h0 (by omega)
  · rw [AA 83 (by omega), AA 86 (by omega), AA 84 (by omega)]; exact SV.1
  · rw [AA 93 (by omega), AA 94 (by omega), AA 96 (by omega)]; exact SV.2
  · exact rr_Fd_x X (Nat.le_succ _) (by rw [eqq]) (by rw [AA 6 (by omega)]) (by rw [AA 82 (by omega)]) (by rw [AA 83 (by omega)]) (by rw [AA 84 (by omega)]) (by rw [AA 86 (by omega)]) (by omega) qq (F f hf)
  · refine rr_Md_x (nF := nF) X (Nat.le_succ _) (RC m (by omega)) rfl (fun j hj => by omega) (fun p hp => by omega) qq (fun m' hm' n => ?_) (E m hm)
    rw [AA 87 (by omega), AA 88 (by omega)]
    exact ((E m hm).2.2.2.2.2 m' hm' n).2
  · obtain ⟨len, z⟩ := ML m hm
    exact ⟨len, rc_ML (RC m (by omega)) (Nat.le_succ _) (Nat.le_refl _) (Nat.le_refl _) MV' z⟩
