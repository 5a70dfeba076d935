/-! guard -/
theorem rc_si {h g : mm_H} {m f a : Nat} {x : Int32} (c : rc_M h g m) : rc_M h (mm_si g f a x) m := c
theorem rc_sq {h g : mm_H} {m a j x : Nat} (c : rc_M h g m) : rc_M h (mm_sq g a j x) m := c
def gu_h (h : mm_H) (q n k : Nat) (x y z : Int32) : mm_H := mm_sa (mm_sa (mm_sa (mm_sa (mm_si (mm_sa (mm_sa (mm_sa h (q + 5) n x) (q + 6) n y) (q + 7) n z) 525 q (nI (n + 1))) 99 (2 * k + n) x) 100 (2 * k + n) y) 101 (2 * k + n) z) 92 k (nI (n + 1))
theorem gu_0 {h : mm_H} {q n k b i : Nat} {x y z : Int32} (c : ¬ (b = q + 5 ∧ i = n) ∧ ¬ (b = q + 6 ∧ i = n) ∧ ¬ (b = q + 7 ∧ i = n) ∧ ¬ (b = 99 ∧ i = 2 * k + n) ∧ ¬ (b = 100 ∧ i = 2 * k + n) ∧ ¬ (b = 101 ∧ i = 2 * k + n) ∧ ¬ (b = 92 ∧ i = k)) : mm_a (gu_h h q n k x y z) b i = mm_a h b i := (mm_a2 (by omega)).trans ((mm_a2 (by omega)).trans ((mm_a2 (by omega)).trans ((mm_a2 (by omega)).trans ((congrFun (congrFun ra_si b) i).trans ((mm_a2 (by omega)).trans ((mm_a2 (by omega)).trans (mm_a2 (by omega))))))))
theorem gu_A {h : mm_H} {q n k b : Nat} {x y z : Int32} (c : ¬ b = q + 5 ∧ ¬ b = q + 6 ∧ ¬ b = q + 7 ∧ ¬ b = 99 ∧ ¬ b = 100 ∧ ¬ b = 101 ∧ ¬ b = 92) : mm_a (gu_h h q n k x y z) b = mm_a h b := funext (fun i => gu_0 (by omega))
theorem gu_I {h : mm_H} {q n k b f : Nat} {x y z : Int32} (c : ¬ (f = 525 ∧ b = q)) : mm_i (gu_h h q n k x y z) f b = mm_i h f b := show mm_i (mm_si (mm_sa (mm_sa (mm_sa h (q + 5) n x) (q + 6) n y) (q + 7) n z) 525 q (nI (n + 1))) f b = _ from (mm_i2 (by omega)).trans rfl
theorem gu_I1 {h : mm_H} {q n k : Nat} {x y z : Int32} : mm_i (gu_h h q n k x y z) 525 q = nI (n + 1) := show mm_i (mm_si (mm_sa (mm_sa (mm_sa h (q + 5) n x) (q + 6) n y) (q + 7) n z) 525 q (nI (n + 1))) 525 q = _ from mm_i1
theorem gu_92 {h : mm_H} {q n k : Nat} {x y z : Int32} : mm_a (gu_h h q n k x y z) 92 k = nI (n + 1) := mm_a1
theorem gu_c {h : mm_H} {q n k i : Nat} {x y z : Int32} (hq : 124 ≤ q) (hi : ¬ i = n) : (mm_a (gu_h h q n k x y z) 99 (2 * k + i) = mm_a h 99 (2 * k + i) ∧ mm_a (gu_h h q n k x y z) 100 (2 * k + i) = mm_a h 100 (2 * k + i) ∧ mm_a (gu_h h q n k x y z) 101 (2 * k + i) = mm_a h 101 (2 * k + i)) ∧ mm_a (gu_h h q n k x y z) (q + 5) i = mm_a h (q + 5) i ∧ mm_a (gu_h h q n k x y z) (q + 6) i = mm_a h (q + 6) i ∧ mm_a (gu_h h q n k x y z) (q + 7) i = mm_a h (q + 7) i := ⟨⟨gu_0 (by omega), gu_0 (by omega), gu_0 (by omega)⟩, gu_0 (by omega), gu_0 (by omega), gu_0 (by omega)⟩
theorem gu_n {h : mm_H} {q n k : Nat} {x y z : Int32} (hq : 124 ≤ q) : (mm_a (gu_h h q n k x y z) 99 (2 * k + n) = x ∧ mm_a (gu_h h q n k x y z) 100 (2 * k + n) = y ∧ mm_a (gu_h h q n k x y z) 101 (2 * k + n) = z) ∧ mm_a (gu_h h q n k x y z) (q + 5) n = x ∧ mm_a (gu_h h q n k x y z) (q + 6) n = y ∧ mm_a (gu_h h q n k x y z) (q + 7) n = z := by
  refine ⟨⟨(mm_a2 (by omega)).trans ((mm_a2 (by omega)).trans ((mm_a2 (by omega)).trans mm_a1)), (mm_a2 (by omega)).trans ((mm_a2 (by omega)).trans mm_a1), (mm_a2 (by omega)).trans mm_a1⟩, (mm_a2 (by omega)).trans ((mm_a2 (by omega)).trans ((mm_a2 (by omega)).trans ((mm_a2 (by omega)).trans ?_))), (mm_a2 (by omega)).trans ((mm_a2 (by omega)).trans ((mm_a2 (by omega)).trans ((mm_a2 (by omega)).trans ?_))), (mm_a2 (by omega)).trans ((mm_a2 (by omega)).trans ((mm_a2 (by omega)).trans ((mm_a2 (by omega)).trans ?_)))⟩
  · exact (congrFun (congrFun ra_si _) _).trans ((mm_a2 (by omega)).trans ((mm_a2 (by omega)).trans mm_a1))
  · exact (congrFun (congrFun ra_si _) _).trans ((mm_a2 (by omega)).trans mm_a1)
  · exact (congrFun (congrFun ra_si _) _).trans mm_a1
theorem gd_up {h g : mm_H} {k n : Nat} {z : Int32} (hn : n < 2) (e92 : mm_a h 92 k = nI n) (g92 : mm_a g 92 k = nI (n + 1)) (hz : 0 ≤ z.toInt ∧ z.toInt ≤ 19) (old : ∀ j, j < n → mm_a g 99 (2 * k + j) = mm_a h 99 (2 * k + j) ∧ mm_a g 100 (2 * k + j) = mm_a h 100 (2 * k + j) ∧ mm_a g 101 (2 * k + j) = mm_a h 101 (2 * k + j)) (new : mm_a g 101 (2 * k + n) = z) (l5 : ∀ i, -1 ≤ lk_gd h k i ∧ lk_gd h k i < 20) (i : Nat) : -1 ≤ lk_gd g k i ∧ lk_gd g k i < 20 := by
  have w := l5 i
  unfold lk_gd at w ⊢
  rw [g92, mm_nt (by omega)]
  rw [e92, mm_nt (by omega)] at w
  by_cases n0 : n = 0
  · subst n0
    have new' : mm_a g 101 (2 * k) = z := new
    rw [new']
    by_cases q : 0 < ((0 + 1 : Nat) : Int) ∧ lk_hit g (2 * k) i
    · rw [if_pos q]; omega
    · rw [if_neg q, if_neg (by omega)]; omega
  · have n1 : n = 1 := by omega
    subst n1
    obtain ⟨o1, o2, o3⟩ := old 0 (by omega)
    have o3' : mm_a g 101 (2 * k) = mm_a h 101 (2 * k) := o3
    have hh : lk_hit g (2 * k) i ↔ lk_hit h (2 * k) i := by
      have o1' : mm_a g 99 (2 * k) = mm_a h 99 (2 * k) := o1
      have o2' : mm_a g 100 (2 * k) = mm_a h 100 (2 * k) := o2
      unfold lk_hit
      rw [o1', o2']
    by_cases q : lk_hit g (2 * k) i
    · rw [if_pos ⟨by omega, hh.mp q⟩] at w
      rw [if_pos ⟨by omega, q⟩, o3']
      exact w
    · rw [if_neg (fun z => q z.2), new]
      by_cases q2 : 1 < ((1 + 1 : Nat) : Int) ∧ lk_hit g (2 * k + 1) i
      · rw [if_pos q2]; omega
      · rw [if_neg q2]; omega
theorem rr_guard {ro : mm_Ro} {h : mm_H} {m x y z : Int32} (R : rr ro h) : rr_2 ro 9 n_Ga_guard n_Mo_guard [.int m, .int x, .int y, .int z] h := by
  have R' := R
  obtain ⟨nC, nF, nM, qm, P, T, D, U, L, V, M⟩ := R'
  obtain ⟨_, _, _, _, h6, h12, h10⟩ := T.2.1
  have E := rr_E T D
  obtain ⟨nl, ng, A⟩ := rr_MA T U
  have bad : ∀ k, k < nM → m = nI k → ¬ (0 ≤ m.toInt ∧ m.toInt < (nM : Int)) → False := fun k hk e z => by rw [e] at z; exact z (mm_nb hk (by omega))
  have un : ∀ k k', k < nM → k' < nM → m = nI k → m = nI k' → k = k' := fun k k' h1 h2 e e' => (nI_eq (by omega) (by omega)).mp (e.symm.trans e')
  refine c_Ga_guard (d := 6) T.1 T.2.1 (rr_XM T) (rr_XA T A) (fun z => ⟨_, rfl, c_Mo_guard (d := 6) T.1 T.2.2.1 A (fun _ => ⟨rfl, rr_nop R⟩) (fun nf => absurd (L.2.1.mpr nf) z) (fun nf => absurd (L.2.1.mpr nf) z) (fun nf => absurd (L.2.1.mpr nf) z)⟩) (fun fz z => ⟨_, rfl, c_Mo_guard (d := 6) T.1 T.2.2.1 A (fun y => absurd y (L.2.1.mp fz)) (fun _ _ => ⟨rfl, rr_nop R⟩) (fun _ k hk e ho => (bad k hk e (fun w => z ⟨w, ho⟩)).elim) (fun _ k hk e ho => (bad k hk e (fun w => z ⟨w, ho⟩)).elim)⟩) (fun fz k hk e ho n20 => ⟨_, rfl, c_Mo_guard (d := 6) T.1 T.2.2.1 A (fun y => absurd y (L.2.1.mp fz)) (fun _ z => (bad k hk e (fun w => z ⟨w, ho⟩)).elim) (fun _ k hk e ho _ => ⟨rfl, rr_nop R⟩) (fun _ k' hk' e' ho n => ?_)⟩) (fun fz k hk e ho n20 => ⟨_, rfl, ?_⟩)
  · have := un k k' hk hk' e e'
    subst this
    omega
  · obtain ⟨e1, e2, ⟨i1, i2, i3, i4, i5, i6, i7⟩, e4, e5, e6, e7⟩ := (E k hk).1
    have S1 : st h (mm_si (mm_sa (mm_sa (mm_sa h (qm k + 5) (ng k) x) (qm k + 6) (ng k) y) (qm k + 7) (ng k) z) 525 (qm k) (nI (ng k + 1))) (qm k) (qm k + 8) := st_si (st_sa (st_sa (st_sa (st_rf T.1) (by omega)) (by omega)) (by omega)) e1 (by omega)
    have A1 : mm_MA (mm_si (mm_sa (mm_sa (mm_sa h (qm k + 5) (ng k) x) (qm k + 6) (ng k) y) (qm k + 7) (ng k) z) 525 (qm k) (nI (ng k + 1))) (lk_np h) nl ng := fun m hm => by
      rw [ra_si, mm_a2 (by omega), mm_a2 (by omega), mm_a2 (by omega), mm_a2 (by omega), mm_a2 (by omega), mm_a2 (by omega), mm_a2 (by omega), mm_a2 (by omega), mm_a2 (by omega)]
      exact A m hm
    refine c_Mo_guard (d := 6) S1.1 (st_MN S1 T.2.2.1) A1 (fun z => absurd ((st_fz S1).mp z) (L.2.1.mp fz)) (fun _ z => (bad k hk e (fun w => z ⟨w, ho⟩)).elim) (fun _ k' hk' e' _ n => ?_) (fun nf k' hk' e' _ _ => ?_)
    · have := un k k' hk hk' e e'
      subst this
      omega
    · have := un k k' hk hk' e e'
      subst this
      refine ⟨rfl, ?_, Nat.le_add_right _ _, Nat.le_add_right _ _⟩
      have S2 : st h (gu_h h (qm k) (ng k) k x y z) (qm k) (qm k + 8) := st_sa (a := 92) (j := k) (v := nI (ng k + 1)) (st_sa (a := 101) (j := 2 * k + ng k) (v := z) (st_sa (a := 100) (j := 2 * k + ng k) (v := y) (st_sa (a := 99) (j := 2 * k + ng k) (v := x) S1 (by omega)) (by omega)) (by omega)) (by omega)
      show rr ro (gu_h h (qm k) (ng k) k x y z)
      have RC : ∀ m, m < 10 → ¬ m = k → rc_M h (gu_h h (qm k) (ng k) k x y z) m := fun m hm n => rc_sa (rc_sa (rc_sa (rc_sa (rc_si (rc_sa (rc_sa (rc_sa rc_rf (by omega)) (by omega)) (by omega))) (by omega)) (by omega)) (by omega)) (by omega)
      generalize hg : gu_h h (qm k) (ng k) k x y z = g at S2 RC
      have AA : ∀ b, (¬ b = qm k + 5 ∧ ¬ b = qm k + 6 ∧ ¬ b = qm k + 7 ∧ ¬ b = 99 ∧ ¬ b = 100 ∧ ¬ b = 101 ∧ ¬ b = 92) → mm_a g b = mm_a h b := fun b hb => by rw [← hg]; exact gu_A hb
      have II : ∀ f b, ¬ (f = 525 ∧ b = qm k) → mm_i g f b = mm_i h f b := fun f b hb => by rw [← hg]; exact gu_I hb
      have ek : mm_k g = mm_k h := by rw [← hg]; rfl
      have en : mm_n g = mm_n h := by rw [← hg]; rfl
      have er : mm_r g = mm_r h := by rw [← hg]; rfl
      have eqq : mm_q g = mm_q h := by rw [← hg]; rfl
      have et : mm_t g = mm_t h := by rw [← hg]; rfl
      have i525 : mm_i g 525 (qm k) = nI (ng k + 1) := by rw [← hg]; exact gu_I1
      have a92 : mm_a g 92 k = nI (ng k + 1) := by rw [← hg]; exact gu_92
      have ac : ∀ i, ¬ i = ng k → (mm_a g 99 (2 * k + i) = mm_a h 99 (2 * k + i) ∧ mm_a g 100 (2 * k + i) = mm_a h 100 (2 * k + i) ∧ mm_a g 101 (2 * k + i) = mm_a h 101 (2 * k + i)) ∧ mm_a g (qm k + 5) i = mm_a h (qm k + 5) i ∧ mm_a g (qm k + 6) i = mm_a h (qm k + 6) i ∧ mm_a g (qm k + 7) i = mm_a h (qm k + 7) i := fun i hi => by rw [← hg]; exact gu_c e1 hi
      have an := gu_n (h := h) (n := ng k) (k := k) (x := x) (y := y) (z := z) e1
      rw [hg] at an
      obtain ⟨s1, s2, s3, s4, s5, s6, s7, s8⟩ := S2
      have Ej := E k hk
      have np : lk_np g k = lk_np h k := by unfold lk_np; rw [AA 89 (by omega)]
      refine rr_set T D U L V M fz hk s2 s1 s3 s4 s5 s6 s7 s8 RC (fun p hp => ?_) ⟨?_, fun p hp => ?_⟩ ?_ ⟨e1, ?_, ⟨?_, ?_, ?_, ?_, ?_, ?_, ?_⟩, fun p h3 hp => ?_, ?_, fun i hi => ?_, fun i hi => ?_⟩ (fun MV => ?_) (fun p hp => ?_)
      · rw [AA 93 (by omega), AA 94 (by omega), AA 96 (by omega)]; exact rr_svk T hk p hp
      · rw [AA 93 (by omega)]; exact Ej.2.2.1.1
      · rw [AA 93 (by omega)]; rw [np] at hp; exact Ej.2.2.1.2.2 p hp
      · unfold lk_MV; rw [np, AA 93 (by omega), AA 87 (by omega), AA 89 (by omega), AA 95 (by omega)]; exact Ej.2.1
      · unfold mm_ME; rw [ek, en, er]; exact e2
      · rw [II _ _ (by omega), AA 87 (by omega)]; exact i1
      · rw [II _ _ (by omega), AA 88 (by omega)]; exact i2
      · rw [II _ _ (by omega), AA 95 (by omega)]; exact i3
      · rw [II _ _ (by omega), AA 89 (by omega)]; exact i4
      · rw [II _ _ (by omega), AA 90 (by omega)]; exact i5
      · rw [II _ _ (by omega), AA 91 (by omega)]; exact i6
      · rw [i525, a92]
      · rw [AA 89 (by omega)] at hp
        rw [AA 93 (by omega), AA 94 (by omega), AA 96 (by omega), eqq]
        exact pl_cg (e4 p h3 hp) (by rw [ek]) (II _ _ (by omega)) (II _ _ (by omega)) (II _ _ (by omega))
      · rw [AA 93 (by omega), AA 94 (by omega), AA 96 (by omega)]
        exact pl_cg e5 (by rw [ek]) (II _ _ (by omega)) (II _ _ (by omega)) (II _ _ (by omega))
      · rw [AA (qm k + 3) (by omega), AA (qm k + 4) (by omega), AA 97 (by omega), AA 98 (by omega)]
        exact e6 i hi
      · by_cases q : i = ng k
        · rw [q, an.1.1, an.1.2.1, an.1.2.2, an.2.1, an.2.2.1, an.2.2.2]; exact ⟨rfl, rfl, rfl⟩
        · obtain ⟨⟨c1, c2, c3⟩, c4, c5, c6⟩ := ac i q
          rw [c1, c2, c3, c4, c5, c6]; exact e7 i hi
      · obtain ⟨len, l1, l2, l3, _, l5, l6, l7⟩ := T.2.2.2.2.2.1 k hk
        refine ⟨len, l1, by rw [AA 91 (by omega)]; exact l2, fun i hi => ?_, ⟨ng k + 1, by omega, a92⟩, gd_up n20 (A k (by omega)).2.2.1 a92 ho.2.2 (fun j hj => (ac j (by omega)).1) an.1.2.2 l5, by rw [AA 90 (by omega)]; exact l6, by rw [AA 88 (by omega)]; exact l7⟩
        exact rc_IV (by rw [AA 97 (by omega)]) (by rw [AA 98 (by omega)]) (Nat.le_refl _) (Nat.le_refl _) (Nat.le_refl _) MV (l3 i hi)
      · rw [np] at hp
        rw [eqq, et]; exact Ej.2.2.2.2.1 p hp
