/-! Between calls: run -/
theorem sm_kc {h : mm_H} : lk_sm h (kc h) := fun k k1 k2 _ => (funext (fun j => if_pos (Or.inl ⟨k1, k2⟩))).symm
theorem rr_KF {ro : mm_Ro} {h : mm_H} {nC nF nM : Nat} {qm : Nat → Nat} (T : lx_T ro h nC nF nM qm) (D : rr_D h nF nM qm) (L : rr_L h nC nF nM) : KF (kc h) nC nF nM := by
  obtain ⟨_, XN, _, ⟨_, _, _, _, SC, SV, _, u1, u2, MVs⟩, _, ML, AB⟩ := T
  refine ⟨⟨XN.2.2.2.1, XN.2.2.2.2.1, XN.2.2.2.2.2.1, XN.2.2.2.2.2.2⟩, u1, u2, lk_SV_sm sm_kc SV, lx_SC_sm sm_kc SC, fun m hm => lk_MV_sm sm_kc (MVs m hm), fun m hm => ?_, AB.2.2, AB.1, L.2.2.2.1, fun m c hm hc e z => lk_fine_sm sm_kc (L.2.2.2.2 m c hm hc e z), D.2.2.2.2.2⟩
  obtain ⟨len, z⟩ := ML m hm
  exact ⟨len, lx_ML_sm sm_kc z⟩
theorem rr_IX {h : mm_H} {nC nF nM : Nat} (L : rr_L h nC nF nM) (M : rr_M h) : IX h := by
  obtain ⟨⟨N, n1, n2, n3, n4⟩, _⟩ := M
  exact ⟨fun c hc => (L.1 c hc).1, n2.trans n3.symm, N, n1, n3, n4⟩
theorem rr_fin {ro : mm_Ro} {h h1 s : mm_H} (R : rr ro h) (ar : AR h h1) (sl : SL h1 s) (o : ∀ j, j < 16 → j < (mm_i s 631 80).toNatClampNeg → mm_a h1 58 j = mm_a s 123 j) (p : pb 400 s) : rr_P ro h (rv h1 s) := by
  obtain ⟨nC, nF, nM, qm, P, T, D, U, L, V, M⟩ := R
  have ia : ∀ f a, ¬ (a = 80 ∧ 629 ≤ f) → mm_i (rv h1 s) f a = mm_i h1 f a := fun f a z => if_neg z
  have aa : ∀ b, ¬ (116 ≤ b ∧ b ≤ 123) → mm_a (rv h1 s) b = mm_a h1 b := fun b z => funext (fun j => if_neg z)
  have i2 : ∀ f a, ¬ (a = 80 ∧ 629 ≤ f) → (¬ (56 ≤ a ∧ a < 80) ∨ f = 322) → mm_i (rv h1 s) f a = mm_i h f a := fun f a z y => (ia f a z).trans (ar.2.2.1 f a y)
  have a2 : ∀ b, ¬ (116 ≤ b ∧ b ≤ 123) → ¬ (58 ≤ b ∧ b < 80) → mm_a (rv h1 s) b = mm_a h b := fun b z y => (aa b z).trans (ar.2.2.2 b y)
  have i6 : ∀ f, 629 ≤ f → mm_i (rv h1 s) f 80 = mm_i s f 80 := fun f hf => rv_i hf
  have a6 : ∀ b, 116 ≤ b ∧ b ≤ 123 → mm_a (rv h1 s) b = mm_a s b := fun b hb => rv_a hb
  have ek : mm_k (rv h1 s) = mm_k h := ar.1.1
  have en : mm_n (rv h1 s) = mm_n h := ar.1.2.1
  have eq : mm_q (rv h1 s) = mm_q h := ar.1.2.2.1
  have et : mm_t (rv h1 s) = mm_t h := ar.1.2.2.2.1
  have es : mm_s (rv h1 s) = mm_s h := ar.1.2.2.2.2
  have er : ∀ f a, ¬ f = 384 ∨ 124 ≤ a → mm_r (rv h1 s) f a = mm_r h f a := fun f a z => ar.2.1 f a z
  have I0 : mm_SH h1 := AR_SH ar T.1
  have I1 : mm_SH (rv h1 s) := I0
  have i56 : ∀ f, mm_i (rv h1 s) f 56 = mm_i h1 f 56 := fun f => ia f 56 (by omega)
  have a58 : mm_a (rv h1 s) 58 = mm_a h1 58 := aa 58 (by omega)
  generalize rv h1 s = g at *
  have ag : mm_ag h g := ⟨ek, fun f a z => er f a (Or.inr z), en, eq, fun f a z => i2 f a (by omega) (Or.inl (by omega)), fun f z => i2 f 80 (by omega) (Or.inl (by omega)), fun a z => a2 a (by omega) (by omega)⟩
  refine ⟨⟨nC, nF, nM, qm, P, lx_T_ag ag I1 T, rr_D_ag ag et D, rr_U_sm (mm_ag_sm ag) U, rr_L_ag (mm_ag_sm ag) (a2 5 (by omega) (by omega)) (a2 85 (by omega) (by omega)) (i2 68 2 (by omega) (Or.inl (by omega))) L, ?_, ?_⟩, by omega, by omega⟩
  · obtain ⟨v1, v2, v3, v4, v5, v6⟩ := V
    have e1 : rr_sv g = rr_sv h := by
      unfold rr_sv
      rw [a2 105 (by omega) (by omega), a2 106 (by omega) (by omega), a2 107 (by omega) (by omega), a2 108 (by omega) (by omega), a2 109 (by omega) (by omega)]
    have e2 : rr_hd g = rr_hd h := by
      unfold rr_hd
      rw [a2 102 (by omega) (by omega), a2 103 (by omega) (by omega), a2 104 (by omega) (by omega)]
    have e3 : rr_c g = rr_c h := by
      unfold rr_c
      rw [i2 611 80 (by omega) (Or.inl (by omega)), i2 612 80 (by omega) (Or.inl (by omega)), i2 613 80 (by omega) (Or.inl (by omega)), a2 110 (by omega) (by omega), a2 111 (by omega) (by omega), a2 112 (by omega) (by omega), a2 113 (by omega) (by omega), a2 114 (by omega) (by omega)]
    refine ⟨?_, v2, by rw [e1]; exact v3, by rw [e3]; exact v4, ?_, fun k hk => ?_⟩
    · exact lx_VW_cg (h := h) (fun f a z1 z2 => i2 f a (by omega) (Or.inl (by omega))) (fun a z1 z2 j => by
        by_cases q : a = 56
        · rw [a2 a (by omega) (by omega)]
        · rw [a2 a (by omega) (by omega)]) v1
    · rw [i2 3 1 (by omega) (Or.inl (by omega)), i2 609 80 (by omega) (Or.inl (by omega))]
      exact v5
    · rw [i2 608 80 (by omega) (Or.inl (by omega)), e1, e2]
      exact v6 k hk
  · obtain ⟨⟨N, n1, n2, n3, n4⟩, _⟩ := M
    obtain ⟨l1, l2, l3, l4, l5, l6⟩ := sl
    obtain ⟨k, k1, k2⟩ := p
    refine ⟨⟨N, n1, ?_, ?_, fun j hj => ?_⟩, ⟨k, k1, ?_, ?_, fun j hj hk => ?_⟩, ?_, ?_, ?_, ?_, ?_⟩
    · rw [i2 322 56 (by omega) (Or.inr rfl)]; exact n2
    · rw [i2 628 80 (by omega) (Or.inl (by omega))]; exact n3
    · rw [a2 57 (by omega) (by omega), a2 115 (by omega) (by omega)]; exact n4 j hj
    · rw [i56, l4]; exact k2
    · rw [i6 631 (by omega)]; exact k2
    · rw [a58, a6 123 (by omega)]
      exact o j hj (by rw [k2, mm_ncl (by omega)]; exact hk)
    · rw [i56, i6 636 (by omega)]; exact l1
    · rw [i56, i6 632 (by omega)]; exact l2
    · rw [i56, i6 629 (by omega)]; exact l3
    · rw [i56, i6 630 (by omega)]; exact l5
    · rw [i56, i6 634 (by omega)]; exact l6
theorem rr_run {ro : mm_Ro} {h : mm_H} {z x y : Int32} (R : rr ro h) : rr_2 ro 9 n_Ga_run n_Mo_run [.int z, .int x, .int y] h := by
  have R' := R
  obtain ⟨nC, nF, nM, qm, P, T, D, U, L, V, M⟩ := R'
  have F := rr_KF T D L
  have ix := rr_IX L M
  obtain ⟨_, _, N, N1, N2, _⟩ := ix
  have ix := rr_IX L M
  have h6 := F.1.2.1
  have h10 := F.1.2.2.2
  refine c_Ga_run (D := 1) T F ix (fun n => ⟨_, rfl, c_Mo_run (D := 4) (g := h) T.1 T.2.2.1 F N2 N1 (fun _ _ => rfl) (fun _ _ _ => rfl) (fun _ => ⟨rfl, rr_nop R⟩) (fun m c a1 a2 a3 a4 a5 => absurd a5 (n m c a1 a2 a3 a4))⟩) (fun m c hm ez hc ec ok h1 s' es ar ce => ⟨_, rfl, ?_⟩)
  have T1 := AR_T ar T
  have ek := AR_kc ar
  have e95 := ar.2.2.2 95 (by omega)
  have e90 := ar.2.2.2 90 (by omega)
  have e85 := ar.2.2.2 85 (by omega)
  have e89 := ar.2.2.2 89 (by omega)
  have e93 := ar.2.2.2 93 (by omega)
  have e87 := ar.2.2.2 87 (by omega)
  have np : lk_np h1 m = lk_np h m := by unfold lk_np; rw [e89]
  have ok1 : cs h1 85 m c := by
    unfold cs
    rw [e95, e90, e85, e93, np]
    exact ok
  have pb' : pb 400 s' := by
    obtain ⟨_, _, a3, a4, _, _, a7, _⟩ := ri1_i (h := h) (m := m) (np := lk_np h m) (x := x) (y := y)
    rw [es]
    exact pb_run F 400 0 _ (by omega) ⟨0, by omega, a3⟩ (fun _ => ty_init F hm hc ec ok)
  refine c_Mo_run (D := 4) (g := h) T1.1 T1.2.2.1 (by rw [ek]; exact F) ((ar.2.2.1 628 80 (Or.inl (by omega))).trans N2) N1 (fun f _ => (ar.2.2.1 f 80 (Or.inl (by omega))).symm) (fun k k1 k2 => (ar.2.2.2 k (by omega)).symm) (fun n => absurd ok1 (n m c hm ez hc (by rw [e87]; exact ec))) (fun m' c' b1 b2 b3 b4 b5 s'' es' => ?_)
  have em : m = m' := mm_nee (by omega) (by omega) (ez.symm.trans b2)
  subst em
  rw [ek, np, ← es] at es'
  subst es'
  refine ⟨fun n5 => ⟨?_, rr_fin R ar ce.2.1 ce.2.2 pb'⟩, fun n5 => ⟨?_, rr_fin R ar ?_ ?_ (pb_si (by omega) pb')⟩⟩
  · rw [if_neg n5]
  · rw [if_pos n5]
  · exact SL_cg (fun _ _ => rfl) (fun f _ _ _ z => mm_i2 (by omega)) ce.2.1
  · intro j hj hp
    rw [mm_i2 (by omega)] at hp
    exact ce.2.2 j hj hp
