/-! add, guard -/
theorem mm_nz {a : Int32} (h : 0 ≤ a.toInt) (h2 : a.toInt < 1000000) : a = nI a.toInt.toNat := Int32.toInt_inj.mp (by rw [mm_nt (by omega)]; omega)
theorem iv_new {g : mm_H} {nC nF nM m i : Nat} {o a : Int32} (e7 : mm_a g 97 (20 * m + i) = o) (e8 : mm_a g 98 (20 * m + i) = a) (ho : 0 ≤ o.toInt ∧ o.toInt ≤ 17) (ha : mm_arg nC nF nM o.toInt a.toInt) (c : nC ≤ 6 ∧ nF ≤ 12 ∧ nM ≤ 10) (MV : ∀ a, a < nM → lk_MV g a) : lx_IV g nC nF nM m i := by
  have eo : lk_o g m i = o.toInt.toNat := by unfold lk_o; rw [e7]
  have ea : lk_a g m i = a.toInt.toNat := by unfold lk_a; rw [e8]
  obtain ⟨a1, a2, a3, a4, a5⟩ := ha
  refine ⟨⟨⟨by clear a1 a2 a3 a4 a5; omega, fun z => ?_, fun z => ⟨?_, ?_⟩, fun z => ?_, fun z => ?_⟩, ?_, fun z => ⟨?_, MV _ ?_⟩, fun z => ?_, fun z => ⟨?_, ?_⟩⟩, fun z => ?_, fun z => ?_, fun z => ?_⟩
  · have w := a1 (by clear a1 a2 a3 a4 a5; omega)
    clear a1 a2 a3 a4 a5
    omega
  · have w := a2 (by clear a1 a2 a3 a4 a5; omega)
    clear a1 a2 a3 a4 a5
    omega
  · have w := a2 (by clear a1 a2 a3 a4 a5; omega)
    clear a1 a2 a3 a4 a5
    rw [e8, ea]; exact mm_nz (by omega) (by omega)
  · have w := a3 (by clear a1 a2 a3 a4 a5; omega)
    clear a1 a2 a3 a4 a5
    omega
  · have w := a4 (by clear a1 a2 a3 a4 a5; omega)
    clear a1 a2 a3 a4 a5
    omega
  · clear a1 a2 a3 a4 a5
    rw [e7, eo]; exact mm_nz (by omega) (by omega)
  · have w := a4 (by clear a1 a2 a3 a4 a5; omega)
    clear a1 a2 a3 a4 a5
    rw [e8, ea]; exact mm_nz (by omega) (by omega)
  · have w := a4 (by clear a1 a2 a3 a4 a5; omega)
    clear a1 a2 a3 a4 a5
    omega
  · rw [e8, ea]
    by_cases q : o.toInt = 2 ∨ o.toInt = 3
    · have w := a1 q
      clear a1 a2 a3 a4 a5
      exact mm_nz (by omega) (by omega)
    · have w := a3 (by clear a1 a2 a3 a4 a5; omega)
      clear a1 a2 a3 a4 a5
      exact mm_nz (by omega) (by omega)
  · have w := a5 (by clear a1 a2 a3 a4 a5; omega)
    clear a1 a2 a3 a4 a5
    rw [e8, ea]; exact mm_nz (by omega) (by omega)
  · have w := a5 (by clear a1 a2 a3 a4 a5; omega)
    clear a1 a2 a3 a4 a5
    omega
  · have w := a2 (by clear a1 a2 a3 a4 a5; omega)
    clear a1 a2 a3 a4 a5
    omega
  · have w := a3 (by clear a1 a2 a3 a4 a5; omega)
    clear a1 a2 a3 a4 a5
    omega
  · have w := a4 (by clear a1 a2 a3 a4 a5; omega)
    clear a1 a2 a3 a4 a5
    omega
theorem rr_XA {ro : mm_Ro} {h : mm_H} {nC nF nM : Nat} {qm nl ng : Nat → Nat} (T : lx_T ro h nC nF nM qm) (A : mm_MA h (lk_np h) nl ng) : mm_XA h nM qm nl ng := by
  intro m hm
  have h10 := T.2.1.2.2.2.2.2.2
  obtain ⟨_, _, ⟨_, _, _, _, _, i6, i7⟩, _⟩ := (T.2.2.2.1.2.2.1.2 m hm).2
  obtain ⟨_, a2, a3⟩ := A m (by omega)
  exact ⟨⟨i6.trans a2.1, a2.2⟩, ⟨i7.trans a3.1, a3.2⟩⟩
/-- the heap after an instruction is added -/
def ad_h (h : mm_H) (q n k : Nat) (o a : Int32) : mm_H := mm_sa (mm_sa (mm_sa (mm_si (mm_sa (mm_sa h (q + 3) n o) (q + 4) n a) 521 q (nI (n + 1))) 97 (20 * k + n) o) 98 (20 * k + n) a) 91 k (nI (n + 1))
theorem ad_A {h : mm_H} {q n k b : Nat} {o a : Int32} (c : ¬ b = q + 3 ∧ ¬ b = q + 4 ∧ ¬ b = 97 ∧ ¬ b = 98 ∧ ¬ b = 91) : mm_a (ad_h h q n k o a) b = mm_a h b := funext (fun i => (mm_a2 (by omega)).trans ((mm_a2 (by omega)).trans ((mm_a2 (by omega)).trans (show mm_a (mm_sa (mm_sa h (q + 3) n o) (q + 4) n a) b i = _ from (mm_a2 (by omega)).trans (mm_a2 (by omega))))))
theorem ad_I {h : mm_H} {q n k b f : Nat} {o a : Int32} (c : ¬ (f = 521 ∧ b = q)) : mm_i (ad_h h q n k o a) f b = mm_i h f b := show mm_i (mm_si (mm_sa (mm_sa h (q + 3) n o) (q + 4) n a) 521 q (nI (n + 1))) f b = _ from (mm_i2 (by omega)).trans rfl
theorem ad_I1 {h : mm_H} {q n k : Nat} {o a : Int32} : mm_i (ad_h h q n k o a) 521 q = nI (n + 1) := show mm_i (mm_si (mm_sa (mm_sa h (q + 3) n o) (q + 4) n a) 521 q (nI (n + 1))) 521 q = _ from mm_i1
theorem ad_91 {h : mm_H} {q n k : Nat} {o a : Int32} : mm_a (ad_h h q n k o a) 91 k = nI (n + 1) := mm_a1
theorem ad_c {h : mm_H} {q n k i : Nat} {o a : Int32} (hq : 124 ≤ q) (hi : ¬ i = n) : (mm_a (ad_h h q n k o a) 97 (20 * k + i) = mm_a h 97 (20 * k + i) ∧ mm_a (ad_h h q n k o a) 98 (20 * k + i) = mm_a h 98 (20 * k + i)) ∧ mm_a (ad_h h q n k o a) (q + 3) i = mm_a h (q + 3) i ∧ mm_a (ad_h h q n k o a) (q + 4) i = mm_a h (q + 4) i := by
  have z : ∀ b, (b = 97 ∨ b = 98 → mm_a (ad_h h q n k o a) b (20 * k + i) = mm_a h b (20 * k + i)) := fun b hb => (mm_a2 (by omega)).trans ((mm_a2 (by omega)).trans ((mm_a2 (by omega)).trans (show mm_a (mm_sa (mm_sa h (q + 3) n o) (q + 4) n a) b (20 * k + i) = _ from (mm_a2 (by omega)).trans (mm_a2 (by omega)))))
  have w : ∀ b, (b = q + 3 ∨ b = q + 4 → mm_a (ad_h h q n k o a) b i = mm_a h b i) := fun b hb => (mm_a2 (by omega)).trans ((mm_a2 (by omega)).trans ((mm_a2 (by omega)).trans (show mm_a (mm_sa (mm_sa h (q + 3) n o) (q + 4) n a) b i = _ from (mm_a2 (by omega)).trans (mm_a2 (by omega)))))
  exact ⟨⟨z 97 (Or.inl rfl), z 98 (Or.inr rfl)⟩, w _ (Or.inl rfl), w _ (Or.inr rfl)⟩
theorem ad_n {h : mm_H} {q n k : Nat} {o a : Int32} (hq : 124 ≤ q) : (mm_a (ad_h h q n k o a) 97 (20 * k + n) = o ∧ mm_a (ad_h h q n k o a) 98 (20 * k + n) = a) ∧ mm_a (ad_h h q n k o a) (q + 3) n = o ∧ mm_a (ad_h h q n k o a) (q + 4) n = a := by
  refine ⟨⟨(mm_a2 (by omega)).trans ((mm_a2 (by omega)).trans mm_a1), (mm_a2 (by omega)).trans mm_a1⟩, (mm_a2 (by omega)).trans ((mm_a2 (by omega)).trans ((mm_a2 (by omega)).trans ?_)), (mm_a2 (by omega)).trans ((mm_a2 (by omega)).trans ((mm_a2 (by omega)).trans ?_))⟩
  · exact (show mm_a (mm_sa (mm_sa h (q + 3) n o) (q + 4) n a) (q + 3) n = _ from (mm_a2 (by omega)).trans mm_a1)
  · exact (show mm_a (mm_sa (mm_sa h (q + 3) n o) (q + 4) n a) (q + 4) n = _ from mm_a1)
theorem rr_add {ro : mm_Ro} {h : mm_H} {m o a : Int32} (R : rr ro h) : rr_2 ro 9 n_Ga_add n_Mo_add [.int m, .int o, .int a] h := by
  have R' := R
  obtain ⟨nC, nF, nM, qm, P, T, D, U, L, V, M⟩ := R'
  obtain ⟨_, _, _, _, h6, h12, h10⟩ := T.2.1
  have E := rr_E T D
  obtain ⟨nl, ng, A⟩ := rr_MA T U
  have bad : ∀ k, k < nM → m = nI k → ¬ (0 ≤ m.toInt ∧ m.toInt < (nM : Int)) → False := fun k hk e z => by rw [e] at z; exact z (mm_nb hk (by omega))
  have un : ∀ k k', k < nM → k' < nM → m = nI k → m = nI k' → k = k' := fun k k' h1 h2 e e' => (nI_eq (by omega) (by omega)).mp (e.symm.trans e')
  refine c_Ga_add (d := 5) T.1 T.2.1 (rr_XM T) (rr_XA T A) (fun z => ⟨_, rfl, c_Mo_add (d := 6) T.1 T.2.2.1 A (fun _ => ⟨rfl, rr_nop R⟩) (fun nf => absurd (L.2.1.mpr nf) z) (fun nf => absurd (L.2.1.mpr nf) z) (fun nf => absurd (L.2.1.mpr nf) z)⟩) (fun fz z => ⟨_, rfl, c_Mo_add (d := 6) T.1 T.2.2.1 A (fun y => absurd y (L.2.1.mp fz)) (fun _ _ => ⟨rfl, rr_nop R⟩) (fun _ k hk e ho ha => (bad k hk e (fun w => z ⟨w, ho, ha⟩)).elim) (fun _ k hk e ho ha => (bad k hk e (fun w => z ⟨w, ho, ha⟩)).elim)⟩) (fun fz k hk e ho ha n20 => ⟨_, rfl, c_Mo_add (d := 6) T.1 T.2.2.1 A (fun y => absurd y (L.2.1.mp fz)) (fun _ z => (bad k hk e (fun w => z ⟨w, ho, ha⟩)).elim) (fun _ k hk e ho ha _ => ⟨rfl, rr_nop R⟩) (fun _ k' hk' e' ho ha n => ?_)⟩) (fun fz k hk e ho ha n20 => ⟨_, rfl, ?_⟩)
  · have := un k k' hk hk' e e'
    subst this
    omega
  · obtain ⟨e1, e2, ⟨i1, i2, i3, i4, i5, i6, i7⟩, e4, e5, e6, e7⟩ := (E k hk).1
    have S1 : st h (mm_si (mm_sa (mm_sa h (qm k + 3) (nl k) o) (qm k + 4) (nl k) a) 521 (qm k) (nI (nl k + 1))) (qm k) (qm k + 8) := st_si (st_sa (st_sa (st_rf T.1) (by omega)) (by omega)) e1 (by omega)
    have A1 : mm_MA (mm_si (mm_sa (mm_sa h (qm k + 3) (nl k) o) (qm k + 4) (nl k) a) 521 (qm k) (nI (nl k + 1))) (lk_np h) nl ng := fun m hm => by
      rw [ra_si, mm_a2 (by omega), mm_a2 (by omega), mm_a2 (by omega), mm_a2 (by omega), mm_a2 (by omega), mm_a2 (by omega)]
      exact A m hm
    refine c_Mo_add (d := 6) S1.1 (st_MN S1 T.2.2.1) A1 (fun z => absurd ((st_fz S1).mp z) (L.2.1.mp fz)) (fun _ z => (bad k hk e (fun w => z ⟨w, ho, ha⟩)).elim) (fun _ k' hk' e' _ _ n => ?_) (fun nf k' hk' e' _ _ _ => ?_)
    · have := un k k' hk hk' e e'
      subst this
      omega
    · have := un k k' hk hk' e e'
      subst this
      refine ⟨rfl, ?_, Nat.le_add_right _ _, Nat.le_add_right _ _⟩
      have S2 : st h (ad_h h (qm k) (nl k) k o a) (qm k) (qm k + 8) := st_sa (a := 91) (j := k) (v := nI (nl k + 1)) (st_sa (a := 98) (j := 20 * k + nl k) (v := a) (st_sa (a := 97) (j := 20 * k + nl k) (v := o) S1 (by omega)) (by omega)) (by omega)
      show rr ro (ad_h h (qm k) (nl k) k o a)
      have RC : ∀ m, m < 10 → ¬ m = k → rc_M h (ad_h h (qm k) (nl k) k o a) m := fun m hm n => rc_sa (rc_sa (rc_sa (rc_sa (rc_sa rc_rf (by omega)) (by omega)) (by omega)) (by omega)) (by omega)
      generalize hg : ad_h h (qm k) (nl k) k o a = g at S2 RC
      have AA : ∀ b, (¬ b = qm k + 3 ∧ ¬ b = qm k + 4 ∧ ¬ b = 97 ∧ ¬ b = 98 ∧ ¬ b = 91) → mm_a g b = mm_a h b := fun b hb => by rw [← hg]; exact ad_A hb
      have II : ∀ f b, ¬ (f = 521 ∧ b = qm k) → mm_i g f b = mm_i h f b := fun f b hb => by rw [← hg]; exact ad_I hb
      have ek : mm_k g = mm_k h := by rw [← hg]; rfl
      have en : mm_n g = mm_n h := by rw [← hg]; rfl
      have er : mm_r g = mm_r h := by rw [← hg]; rfl
      have eqq : mm_q g = mm_q h := by rw [← hg]; rfl
      have et : mm_t g = mm_t h := by rw [← hg]; rfl
      have i521 : mm_i g 521 (qm k) = nI (nl k + 1) := by rw [← hg]; exact ad_I1
      have a91 : mm_a g 91 k = nI (nl k + 1) := by rw [← hg]; exact ad_91
      have ac : ∀ i, ¬ i = nl k → (mm_a g 97 (20 * k + i) = mm_a h 97 (20 * k + i) ∧ mm_a g 98 (20 * k + i) = mm_a h 98 (20 * k + i)) ∧ mm_a g (qm k + 3) i = mm_a h (qm k + 3) i ∧ mm_a g (qm k + 4) i = mm_a h (qm k + 4) i := fun i hi => by rw [← hg]; exact ad_c e1 hi
      have an := ad_n (h := h) (n := nl k) (k := k) (o := o) (a := a) e1
      rw [hg] at an
      obtain ⟨s1, s2, s3, s4, s5, s6, s7, s8⟩ := S2
      have Ej := E k hk
      have np : lk_np g k = lk_np h k := by unfold lk_np; rw [AA 89 (by omega)]
      refine rr_set T D U L V M fz hk s2 s1 s3 s4 s5 s6 s7 s8 RC (fun p hp => ?_) ⟨?_, fun p hp => ?_⟩ ?_ ⟨e1, ?_, ⟨?_, ?_, ?_, ?_, ?_, ?_, ?_⟩, fun p h3 hp => ?_, ?_, fun i hi => ?_, fun i hi => ?_⟩ (fun MV => ?_) (fun p hp => ?_)
      · rw [AA 93 (by omega), AA 94 (by omega), AA 96 (by omega)]; exact rr_svk T hk p hp
      · rw [AA 93 (by omega)]; exact Ej.2.2.1.1
      · rw [AA 93 (by omega)]; rw [np] at hp; exact Ej.2.2.1.2.2 p hp
      · unfold lk_MV; rw [np, AA 93 (by omega), AA 87 (by omega), AA 89 (by omega), AA 95 (by omega)]; exact Ej.2.1
      · unfold mm_ME; rw [ek, en, er]; exact e2
      · rw [II _ _ (by omega), AA 87 (by omega)]; exact i1
      · rw [II _ _ (by omega), AA 88 (by omega)]; exact i2
      · rw [II _ _ (by omega), AA 95 (by omega)]; exact i3
      · rw [II _ _ (by omega), AA 89 (by omega)]; exact i4
      · rw [II _ _ (by omega), AA 90 (by omega)]; exact i5
      · rw [i521, a91]
      · rw [II _ _ (by omega), AA 92 (by omega)]; exact i7
      · rw [AA 89 (by omega)] at hp
        rw [AA 93 (by omega), AA 94 (by omega), AA 96 (by omega), eqq]
        exact pl_cg (e4 p h3 hp) (by rw [ek]) (II _ _ (by omega)) (II _ _ (by omega)) (II _ _ (by omega))
      · rw [AA 93 (by omega), AA 94 (by omega), AA 96 (by omega)]
        exact pl_cg e5 (by rw [ek]) (II _ _ (by omega)) (II _ _ (by omega)) (II _ _ (by omega))
      · by_cases q : i = nl k
        · rw [q, an.1.1, an.1.2, an.2.1, an.2.2]; exact ⟨rfl, rfl⟩
        · obtain ⟨⟨c1, c2⟩, c3, c4⟩ := ac i q
          rw [c1, c2, c3, c4]; exact e6 i hi
      · rw [AA (qm k + 5) (by omega), AA (qm k + 6) (by omega), AA (qm k + 7) (by omega), AA 99 (by omega), AA 100 (by omega), AA 101 (by omega)]
        exact e7 i hi
      · obtain ⟨len, l1, l2, l3, ⟨G, g1, g2⟩, l5, l6, l7⟩ := T.2.2.2.2.2.1 k hk
        have el : len = nl k := (nI_eq (by omega) (by omega)).mp (l2.symm.trans (A k (by omega)).2.1.1)
        refine ⟨nl k + 1, by omega, a91, fun i hi => ?_, ⟨G, g1, by rw [AA 92 (by omega)]; exact g2⟩, fun i => ?_, by rw [AA 90 (by omega)]; exact l6, by rw [AA 88 (by omega)]; exact l7⟩
        · by_cases q : i = nl k
          · rw [q]; exact iv_new an.1.1 an.1.2 ho ha ⟨h6, h12, h10⟩ MV
          · exact rc_IV (ac i q).1.1 (ac i q).1.2 (Nat.le_refl _) (Nat.le_refl _) (Nat.le_refl _) MV (l3 i (by omega))
        · rw [rc_gd (h := h) (by rw [AA 92 (by omega)]) (fun j hj => by rw [AA 99 (by omega), AA 100 (by omega), AA 101 (by omega)]; exact ⟨rfl, rfl, rfl⟩)]
          exact l5 i
      · rw [np] at hp
        rw [eqq, et]; exact Ej.2.2.2.2.1 p hp
