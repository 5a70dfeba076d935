/-! param -/
theorem np_a {h : mm_H} {s b w : Int32} {e : Nat} (he : e ≤ mm_t h) : mm_a (lx_np h s b w) e = mm_a h e := (show mm_a (mm_new h 8 3) e = mm_a h e from if_neg (by omega))
theorem np_q {h : mm_H} {s b w : Int32} {e : Nat} (he : e ≤ mm_t h) : mm_q (lx_np h s b w) e = mm_q h e := (show mm_q (mm_new h 8 3) e = mm_q h e from if_neg (by omega))
theorem np_r {h : mm_H} {s b w : Int32} {f e : Nat} (he : e ≤ mm_t h) : mm_r (lx_np h s b w) f e = mm_r h f e := (show mm_r (mm_new h 8 3) f e = mm_r h f e from if_neg (by omega))
theorem np_k {h : mm_H} {s b w : Int32} {e : Nat} (he : e ≤ mm_t h) : mm_k (lx_np h s b w) e = mm_k h e := (show mm_k (mm_new h 8 3) e = mm_k h e from if_neg (by omega))
theorem np_n {h : mm_H} {s b w : Int32} {e : Nat} (he : e ≤ mm_t h) : mm_n (lx_np h s b w) e = mm_n h e := (show mm_n (mm_new h 8 3) e = mm_n h e from if_neg (by omega))
theorem np_i {h : mm_H} {s b w : Int32} {f e : Nat} (he : e ≤ mm_t h) : mm_i (lx_np h s b w) f e = mm_i h f e := (mm_i2 (by omega)).trans ((mm_i2 (by omega)).trans ((mm_i2 (by omega)).trans (show mm_i (mm_new h 8 3) f e = mm_i h f e from if_neg (by omega))))
theorem np_x {h : mm_H} {s b w : Int32} : (mm_i (lx_np h s b w) 448 (mm_t h + 1) = s ∧ mm_i (lx_np h s b w) 449 (mm_t h + 1) = mm_my s b ∧ mm_i (lx_np h s b w) 450 (mm_t h + 1) = w) ∧ mm_k (lx_np h s b w) (mm_t h + 1) = 8 := ⟨⟨(mm_i2 (by omega)).trans ((mm_i2 (by omega)).trans mm_i1), (mm_i2 (by omega)).trans mm_i1, mm_i1⟩, (show mm_k (mm_new h 8 3) (mm_t h + 1) = 8 from if_pos rfl)⟩
theorem np_t {h : mm_H} {s b w : Int32} : mm_t (lx_np h s b w) = mm_t h + 1 ∧ mm_s (lx_np h s b w) = mm_s h + 3 := ⟨rfl, rfl⟩
theorem np_st {h : mm_H} {s b w : Int32} {lo hi : Nat} (ht : 123 ≤ mm_t h) (I : mm_SH h) : st h (lx_np h s b w) lo hi := st_si (st_si (st_si (st_new (st_rf I) ht) (by omega) (by omega)) (by omega) (by omega)) (by omega) (by omega)
theorem np_PL {h : mm_H} {s b w : Int32} (ht : 123 ≤ mm_t h) (hb : b = 0 ∨ b = 1) : lx_PL (lx_np h s b w) (mm_t h + 1) s b w := ⟨by omega, np_x.2, np_x.1.1, np_x.1.2.1.trans (my_eq hb), np_x.1.2.2⟩
theorem np_PLo {h : mm_H} {s b w : Int32} {p : Nat} {s' n' w' : Int32} (hp : p ≤ mm_t h) (E : lx_PL h p s' n' w') : lx_PL (lx_np h s b w) p s' n' w' := pl_cg E (np_k hp) (np_i hp) (np_i hp) (np_i hp)
/-- the heap after a parameter is made, from the one with its Place -/
def pa_h (h : mm_H) (q n k v : Nat) (s b w : Int32) : mm_H := mm_sa (mm_sa (mm_sa (mm_sa (mm_si (mm_sq h (q + 1) n v) 516 q (nI (n + 1))) 93 (4 * k + n) s) 96 (4 * k + n) b) 94 (4 * k + n) w) 89 k (nI (n + 1))
theorem pa_0 {h : mm_H} {q n k v e i : Nat} {s b w : Int32} (o : ¬ ((e = 93 ∨ e = 96 ∨ e = 94) ∧ i = 4 * k + n) ∧ ¬ (e = 89 ∧ i = k)) : mm_a (pa_h h q n k v s b w) e i = mm_a h e i := (mm_a2 (by omega)).trans ((mm_a2 (by omega)).trans ((mm_a2 (by omega)).trans ((mm_a2 (by omega)).trans ((congrFun (congrFun ra_si _) _).trans (congrFun (congrFun ra_sq _) _)))))
theorem pa_A {h : mm_H} {q n k v e : Nat} {s b w : Int32} (o : ¬ (e = 93 ∨ e = 96 ∨ e = 94) ∧ ¬ e = 89) : mm_a (pa_h h q n k v s b w) e = mm_a h e := funext (fun i => pa_0 (by omega))
theorem pa_I {h : mm_H} {q n k v f e : Nat} {s b w : Int32} (o : ¬ (f = 516 ∧ e = q)) : mm_i (pa_h h q n k v s b w) f e = mm_i h f e := (congrFun (congrFun ri_sa _) _).trans ((congrFun (congrFun ri3 _) _).trans ((mm_i2 (by omega)).trans (congrFun (congrFun ri_sq _) _)))
theorem pa_n {h : mm_H} {q n k v : Nat} {s b w : Int32} : mm_i (pa_h h q n k v s b w) 516 q = nI (n + 1) ∧ mm_a (pa_h h q n k v s b w) 93 (4 * k + n) = s ∧ mm_a (pa_h h q n k v s b w) 96 (4 * k + n) = b ∧ mm_a (pa_h h q n k v s b w) 94 (4 * k + n) = w ∧ mm_a (pa_h h q n k v s b w) 89 k = nI (n + 1) := ⟨(congrFun (congrFun ri_sa _) _).trans ((congrFun (congrFun ri3 _) _).trans mm_i1), (mm_a2 (by omega)).trans ((mm_a2 (by omega)).trans ((mm_a2 (by omega)).trans mm_a1)), (mm_a2 (by omega)).trans ((mm_a2 (by omega)).trans mm_a1), (mm_a2 (by omega)).trans mm_a1, mm_a1⟩
theorem pa_q {h : mm_H} {q n k v e i : Nat} {s b w : Int32} (o : ¬ (e = q + 1 ∧ i = n)) : mm_q (pa_h h q n k v s b w) e i = mm_q h e i := (show mm_q (mm_sq h (q + 1) n v) e i = mm_q h e i from if_neg o)
theorem pa_q1 {h : mm_H} {q n k v : Nat} {s b w : Int32} : mm_q (pa_h h q n k v s b w) (q + 1) n = v := (show mm_q (mm_sq h (q + 1) n v) (q + 1) n = v from if_pos ⟨rfl, rfl⟩)
theorem rr_param {ro : mm_Ro} {h : mm_H} {m s b w : Int32} (hb : b = 0 ∨ b = 1) (R : rr ro h) : rr_2 ro 9 n_Ga_param n_Mo_param [.int m, .int s, .int b, .int w] h := by
  have R' := R
  obtain ⟨nC, nF, nM, qm, P, T, D, U, L, V, M⟩ := R'
  obtain ⟨_, _, _, _, h6, h12, h10⟩ := T.2.1
  have E := rr_E T D
  have ht := D.1
  obtain ⟨nl, ng, A⟩ := rr_MA T U
  have bad : ∀ k, k < nM → m = nI k → ¬ (0 ≤ m.toInt ∧ m.toInt < (nM : Int)) → False := fun k hk e z => by rw [e] at z; exact z (mm_nb hk (by omega))
  have un : ∀ k k', k < nM → k' < nM → m = nI k → m = nI k' → k = k' := fun k k' h1 h2 e e' => (nI_eq (by omega) (by omega)).mp (e.symm.trans e')
  refine c_Ga_param (d := 5) (np := lk_np h) T.1 T.2.1 (rr_XM T) (fun k hk => ⟨(E k hk).1.2.2.1.2.2.2.1.trans (A k (by omega)).1.1, (A k (by omega)).1.2⟩) ht (fun k hk => (E k hk).2.2.2.1) (fun z => ⟨_, rfl, c_Mo_param (d := 5) T.1 T.2.2.1 A hb (fun _ => ⟨rfl, rr_nop R⟩) (fun nf => absurd (L.2.1.mpr nf) z) (fun nf => absurd (L.2.1.mpr nf) z) (fun nf => absurd (L.2.1.mpr nf) z)⟩) (fun fz z => ⟨_, rfl, c_Mo_param (d := 5) T.1 T.2.2.1 A hb (fun y => absurd y (L.2.1.mp fz)) (fun _ _ => ⟨rfl, rr_nop R⟩) (fun _ k hk e ho => (bad k hk e (fun w => z ⟨w, ho⟩)).elim) (fun _ k hk e ho => (bad k hk e (fun w => z ⟨w, ho⟩)).elim)⟩) (fun fz k hk e ho n20 => ⟨_, rfl, c_Mo_param (d := 5) T.1 T.2.2.1 A hb (fun y => absurd y (L.2.1.mp fz)) (fun _ z => (bad k hk e (fun w => z ⟨w, ho⟩)).elim) (fun _ k hk e ho _ => ⟨rfl, rr_nop R⟩) (fun _ k' hk' e' ho n => ?_)⟩) (fun fz k hk e ho n20 => ⟨_, rfl, ?_⟩)
  · have := un k k' hk hk' e e'
    subst this
    omega
  · obtain ⟨e1, e2, ⟨i1, i2, i3, i4, i5, i6, i7⟩, e4, e5, e6, e7⟩ := (E k hk).1
    have q7 := (E k hk).2.2.2.1
    have S1 : st h (mm_si (mm_sq (lx_np h s b w) (qm k + 1) (lk_np h k) (mm_t h + 1)) 516 (qm k) (nI (lk_np h k + 1))) (qm k) (qm k + 8) := st_si (st_sq (np_st ht T.1) (by omega) (by omega)) e1 (by omega)
    have A1 : mm_MA (mm_si (mm_sq (lx_np h s b w) (qm k + 1) (lk_np h k) (mm_t h + 1)) 516 (qm k) (nI (lk_np h k + 1))) (lk_np h) nl ng := fun m hm => by
      rw [ra_si, ra_sq, np_a (by omega), np_a (by omega), np_a (by omega)]
      exact A m hm
    refine c_Mo_param (d := 5) S1.1 (st_MN S1 T.2.2.1) A1 hb (fun z => absurd ((st_fz S1).mp z) (L.2.1.mp fz)) (fun _ z => (bad k hk e (fun w => z ⟨w, ho⟩)).elim) (fun _ k' hk' e' _ n => ?_) (fun nf k' hk' e' _ _ => ?_)
    · have := un k k' hk hk' e e'
      subst this
      omega
    · have := un k k' hk hk' e e'
      subst this
      have S2 : st h (pa_h (lx_np h s b w) (qm k) (lk_np h k) k (mm_t h + 1) s b w) (qm k) (qm k + 8) := st_sa (st_sa (st_sa (st_sa S1 (by omega)) (by omega)) (by omega)) (by omega)
      have RC : ∀ m, m < 10 → ¬ m = k → rc_M h (pa_h (lx_np h s b w) (qm k) (lk_np h k) k (mm_t h + 1) s b w) m := fun m hm n => rc_sa (rc_sa (rc_sa (rc_sa (rc_si (rc_sq (rc_si (rc_si (rc_si (rc_new rc_rf ht)))))) (by omega)) (by omega)) (by omega)) (by omega)
      refine ⟨rfl, ?_, ?_, ?_⟩
      · show rr ro (pa_h (lx_np h s b w) (qm k) (lk_np h k) k (mm_t h + 1) s b w)
        generalize hg : pa_h (lx_np h s b w) (qm k) (lk_np h k) k (mm_t h + 1) s b w = g at S2 RC
        have AA : ∀ e, e ≤ mm_t h → (¬ (e = 93 ∨ e = 96 ∨ e = 94) ∧ ¬ e = 89) → mm_a g e = mm_a h e := fun e h1 he => by rw [← hg]; exact (pa_A he).trans (np_a h1)
        have A0 : ∀ e i, e ≤ mm_t h → (¬ ((e = 93 ∨ e = 96 ∨ e = 94) ∧ i = 4 * k + lk_np h k) ∧ ¬ (e = 89 ∧ i = k)) → mm_a g e i = mm_a h e i := fun e i h1 he => by rw [← hg]; exact (pa_0 he).trans (by rw [np_a h1])
        have II : ∀ f e, e ≤ mm_t h → ¬ (f = 516 ∧ e = qm k) → mm_i g f e = mm_i h f e := fun f e h1 he => by rw [← hg]; exact (pa_I he).trans (np_i h1)
        have ek : ∀ e, e ≤ mm_t h → mm_k g e = mm_k h e := fun e he => by rw [← hg]; exact np_k (s := s) (b := b) (w := w) he
        have en : ∀ e, e ≤ mm_t h → mm_n g e = mm_n h e := fun e he => by rw [← hg]; exact np_n (s := s) (b := b) (w := w) he
        have er : ∀ f e, e ≤ mm_t h → mm_r g f e = mm_r h f e := fun f e he => by rw [← hg]; exact np_r (s := s) (b := b) (w := w) he
        have eq0 : ∀ i, ¬ i = lk_np h k → mm_q g (qm k + 1) i = mm_q h (qm k + 1) i := fun i hi => by rw [← hg]; exact (pa_q (by omega)).trans (by rw [np_q (by omega)])
        have eq1 : mm_q g (qm k + 1) (lk_np h k) = mm_t h + 1 := by rw [← hg]; exact pa_q1
        have et : mm_t g = mm_t h + 1 := by rw [← hg]; rfl
        have pl : ∀ p s' n' w', lx_PL (lx_np h s b w) p s' n' w' → lx_PL g p s' n' w' := fun p s' n' w' z => by rw [← hg]; exact pl_cg z rfl (pa_I (by omega)) (pa_I (by omega)) (pa_I (by omega))
        have an := pa_n (h := lx_np h s b w) (q := qm k) (n := lk_np h k) (k := k) (v := mm_t h + 1) (s := s) (b := b) (w := w)
        rw [hg] at an
        obtain ⟨n1, n2, n3, n4, n5⟩ := an
        obtain ⟨s1, s2, s3, s4, s5, s6, s7, s8⟩ := S2
        have Ej := E k hk
        have np : lk_np g k = lk_np h k + 1 := by unfold lk_np; rw [n5, mm_nt (by omega)]; unfold lk_np; omega
        obtain ⟨so, w1, w2⟩ := ho
        have sr : -1 ≤ s.toInt ∧ s.toInt < (nC : Int) := by
          rcases so with z | z
          · omega
          · omega
        refine rr_set T D U L V M fz hk s2 s1 s3 s4 s5 s6 s7 s8 RC (fun p hp => ?_) ⟨?_, fun p hp => ?_⟩ ?_ ⟨e1, ?_, ⟨?_, ?_, ?_, ?_, ?_, ?_, ?_⟩, fun p h3 hp => ?_, ?_, fun i hi => ?_, fun i hi => ?_⟩ (rr_ml (h := h) (by rw [AA 88 (by omega) (by omega)]) ?_ (by rw [AA 91 (by omega) (by omega)]) (by rw [AA 92 (by omega) (by omega)]) (fun i hi => ?_) (fun i hi => ?_) (T.2.2.2.2.2.1 k hk)) (fun p hp => ?_)
        · by_cases q : p = lk_np h k
          · rw [q, n2, n3, n4]; exact ⟨by omega, hb, w1, w2⟩
          · rw [A0 93 _ (by omega) (by omega), A0 94 _ (by omega) (by omega), A0 96 _ (by omega) (by omega)]; exact rr_svk T hk p hp
        · rw [A0 93 _ (by omega) (by omega)]; exact Ej.2.2.1.1
        · rw [np] at hp
          by_cases q : p = lk_np h k
          · rw [q, n2]; exact sr.2
          · rw [A0 93 _ (by omega) (by omega)]; exact Ej.2.2.1.2.2 p (by omega)
        · obtain ⟨f1, f2, f3, f4, f5, f6⟩ := Ej.2.1
          refine ⟨f1, by rw [AA 87 (by omega) (by omega)]; exact f2, by rw [n5, np], by rw [np]; omega, by rw [AA 95 (by omega) (by omega)]; exact f5, fun p hp => ?_⟩
          rw [np] at hp
          by_cases q : p = lk_np h k
          · rw [q, n2]
            intro z
            rw [z] at sr
            exact absurd sr.1 (by decide)
          · rw [A0 93 _ (by omega) (by omega)]; exact f6 p (by omega)
        · exact xc_ME s3 e1 q7 e2
        · rw [II _ _ (by omega) (by omega), AA 87 (by omega) (by omega)]; exact i1
        · rw [II _ _ (by omega) (by omega), AA 88 (by omega) (by omega)]; exact i2
        · rw [II _ _ (by omega) (by omega), AA 95 (by omega) (by omega)]; exact i3
        · rw [n1, n5]
        · rw [II _ _ (by omega) (by omega), AA 90 (by omega) (by omega)]; exact i5
        · rw [II _ _ (by omega) (by omega), AA 91 (by omega) (by omega)]; exact i6
        · rw [II _ _ (by omega) (by omega), AA 92 (by omega) (by omega)]; exact i7
        · have hp' : p < lk_np g k := lk_np_lt h3 hp
          rw [np] at hp'
          by_cases q : p = lk_np h k
          · rw [q, n2, n3, n4, eq1]
            exact pl _ _ _ _ (np_PL ht hb)
          · have z := e4 p h3 (by rw [Ej.2.1.2.2.1, mm_nt (by omega)]; omega)
            rw [A0 93 _ (by omega) (by omega), A0 94 _ (by omega) (by omega), A0 96 _ (by omega) (by omega), eq0 p q]
            exact pl _ _ _ _ (np_PLo (Ej.2.2.2.2.1 p (by omega)).1 z)
        · rw [A0 93 _ (by omega) (by omega), A0 94 _ (by omega) (by omega), A0 96 _ (by omega) (by omega)]
          exact pl _ _ _ _ (np_PLo (by omega) e5)
        · rw [AA (qm k + 3) (by omega) (by omega), AA (qm k + 4) (by omega) (by omega), AA 97 (by omega) (by omega), AA 98 (by omega) (by omega)]
          exact e6 i hi
        · rw [AA (qm k + 5) (by omega) (by omega), AA (qm k + 6) (by omega) (by omega), AA (qm k + 7) (by omega) (by omega), AA 99 (by omega) (by omega), AA 100 (by omega) (by omega), AA 101 (by omega) (by omega)]
          exact e7 i hi
        · rw [AA 90 (by omega) (by omega)]
          obtain ⟨_, l⟩ := T.2.2.2.2.2.1 k hk
          exact l.2.2.2.2.2.1
        · rw [AA 97 (by omega) (by omega), AA 98 (by omega) (by omega)]; exact ⟨rfl, rfl⟩
        · rw [AA 99 (by omega) (by omega), AA 100 (by omega) (by omega), AA 101 (by omega) (by omega)]; exact ⟨rfl, rfl, rfl⟩
        · rw [np] at hp
          rw [et]
          by_cases q : p = lk_np h k
          · rw [q, eq1]
            exact ⟨Nat.le_refl _, fun m' hm' z => by have := (E m' hm').2.2.2.1; omega⟩
          · rw [eq0 p q]
            have z := Ej.2.2.2.2.1 p (by omega)
            exact ⟨by omega, z.2⟩
      · rw [t_sa.1, t_sa.1, t_sa.1, t_sa.1, t_si.1, t_sq.1, np_t.1]; omega
      · rw [t_sa.2, t_sa.2, t_sa.2, t_sa.2, t_si.2, t_sq.2, np_t.2]; omega
