/-! result, param -/
theorem SH_si {h : mm_H} {f a : Nat} {x : Int32} (I : mm_SH h) : mm_SH (mm_si h f a x) := I
theorem SH_sa {h : mm_H} {a j : Nat} {x : Int32} (I : mm_SH h) : mm_SH (mm_sa h a j x) := I
theorem t_si {h : mm_H} {f a : Nat} {x : Int32} : mm_t (mm_si h f a x) = mm_t h ∧ mm_s (mm_si h f a x) = mm_s h := ⟨rfl, rfl⟩
theorem t_sa {h : mm_H} {a j : Nat} {x : Int32} : mm_t (mm_sa h a j x) = mm_t h ∧ mm_s (mm_sa h a j x) = mm_s h := ⟨rfl, rfl⟩
theorem t_sq {h : mm_H} {a j x : Nat} : mm_t (mm_sq h a j x) = mm_t h ∧ mm_s (mm_sq h a j x) = mm_s h := ⟨rfl, rfl⟩
theorem my_eq {s b : Int32} (hb : b = 0 ∨ b = 1) : mm_my s b = (if 0 ≤ s.toInt then b else 0) := by
  unfold mm_my
  by_cases q : 0 ≤ s.toInt
  · rw [if_pos q]
    rcases hb with z | z
    · rw [z]; exact mm_b0.mpr (fun y => y.1 rfl)
    · rw [z]; exact if_pos ⟨by decide, q⟩
  · rw [if_neg q]
    exact mm_b0.mpr (fun y => q y.2)
def re_h (h : mm_H) (q k : Nat) (s c b w : Int32) : mm_H := mm_sa (mm_sa (mm_sa (mm_si (mm_si (mm_si h 448 (q + 2) s) 449 (q + 2) c) 450 (q + 2) w) 93 (4 * k + 3) s) 96 (4 * k + 3) b) 94 (4 * k + 3) w
theorem re_0 {h : mm_H} {q k e i : Nat} {s c b w : Int32} (o : ¬ ((e = 93 ∨ e = 96 ∨ e = 94) ∧ i = 4 * k + 3)) : mm_a (re_h h q k s c b w) e i = mm_a h e i := (mm_a2 (by omega)).trans ((mm_a2 (by omega)).trans ((mm_a2 (by omega)).trans ((congrFun (congrFun ra_si _) _).trans ((congrFun (congrFun ra_si _) _).trans (congrFun (congrFun ra_si _) _)))))
theorem re_A {h : mm_H} {q k e : Nat} {s c b w : Int32} (o : ¬ (e = 93 ∨ e = 96 ∨ e = 94)) : mm_a (re_h h q k s c b w) e = mm_a h e := funext (fun i => re_0 (by omega))
theorem ri3 {h : mm_H} {a j a' j' a'' j'' : Nat} {x x' x'' : Int32} : mm_i (mm_sa (mm_sa (mm_sa h a j x) a' j' x') a'' j'' x'') = mm_i h := rfl
theorem re_I {h : mm_H} {q k f e : Nat} {s c b w : Int32} (o : ¬ e = q + 2 ∨ ¬ (448 ≤ f ∧ f ≤ 450)) : mm_i (re_h h q k s c b w) f e = mm_i h f e := (congrFun (congrFun ri3 _) _).trans ((mm_i2 (by omega)).trans ((mm_i2 (by omega)).trans (mm_i2 (by omega))))
theorem re_n {h : mm_H} {q k : Nat} {s c b w : Int32} : (mm_i (re_h h q k s c b w) 448 (q + 2) = s ∧ mm_i (re_h h q k s c b w) 449 (q + 2) = c ∧ mm_i (re_h h q k s c b w) 450 (q + 2) = w) ∧ mm_a (re_h h q k s c b w) 93 (4 * k + 3) = s ∧ mm_a (re_h h q k s c b w) 96 (4 * k + 3) = b ∧ mm_a (re_h h q k s c b w) 94 (4 * k + 3) = w := by
  refine ⟨⟨(congrFun (congrFun ri3 _) _).trans ((mm_i2 (by omega)).trans ((mm_i2 (by omega)).trans mm_i1)), (congrFun (congrFun ri3 _) _).trans ((mm_i2 (by omega)).trans mm_i1), (congrFun (congrFun ri3 _) _).trans mm_i1⟩, (mm_a2 (by omega)).trans ((mm_a2 (by omega)).trans mm_a1), (mm_a2 (by omega)).trans mm_a1, mm_a1⟩
theorem rr_result {ro : mm_Ro} {h : mm_H} {m s b w : Int32} (hb : b = 0 ∨ b = 1) (R : rr ro h) : rr_2 ro 9 n_Ga_result n_Mo_result [.int m, .int s, .int b, .int w] h := by
  have R' := R
  obtain ⟨nC, nF, nM, qm, P, T, D, U, L, V, M⟩ := R'
  obtain ⟨_, _, _, _, h6, h12, h10⟩ := T.2.1
  have E := rr_E T D
  have un : ∀ k k', k < nM → k' < nM → m = nI k → m = nI k' → k = k' := fun k k' h1 h2 e e' => (nI_eq (by omega) (by omega)).mp (e.symm.trans e')
  refine c_Ga_result (d := 5) T.1 T.2.1 (rr_XM T) (fun z => ⟨_, rfl, c_Mo_result (d := 5) T.1 T.2.2.1 hb (fun _ => ⟨rfl, rr_nop R⟩) (fun nf j hj e k1 k2 => ?_)⟩) (fun fz k hk e k1 k2 => ⟨_, rfl, ?_⟩)
  · rcases z with z | z | z | z
    · exact absurd (L.2.1.mpr nf) z
    · rw [e] at z; exact absurd (mm_nb hj (by omega)) z
    · exact absurd k1 z
    · exact absurd k2 z
  · obtain ⟨e1, e2, ⟨i1, i2, i3, i4, i5, i6, i7⟩, e4, e5, e6, e7⟩ := (E k hk).1
    have S1 : st h (mm_si (mm_si (mm_si h 448 (qm k + 2) s) 449 (qm k + 2) (mm_my s b)) 450 (qm k + 2) w) (qm k) (qm k + 8) := st_si (st_si (st_si (st_rf T.1) (by omega) (by omega)) (by omega) (by omega)) (by omega) (by omega)
    refine c_Mo_result (d := 5) S1.1 (st_MN S1 T.2.2.1) hb (fun z => ?_) (fun nf k' hk' e' _ _ => ?_)
    · rcases z with z | z | z | z
      · exact absurd ((st_fz S1).mp z) (L.2.1.mp fz)
      · rw [e] at z; exact absurd (mm_nb hk (by omega)) z
      · exact absurd k1 z
      · exact absurd k2 z
    · have := un k k' hk hk' e e'
      subst this
      refine ⟨rfl, ?_, Nat.le_add_right _ _, Nat.le_add_right _ _⟩
      have S2 : st h (re_h h (qm k) k s (mm_my s b) b w) (qm k) (qm k + 8) := st_sa (st_sa (st_sa S1 (by omega)) (by omega)) (by omega)
      show rr ro (re_h h (qm k) k s (mm_my s b) b w)
      have RC : ∀ m, m < 10 → ¬ m = k → rc_M h (re_h h (qm k) k s (mm_my s b) b w) m := fun m hm n => rc_sa (rc_sa (rc_sa (rc_si (rc_si (rc_si rc_rf))) (by omega)) (by omega)) (by omega)
      generalize hg : re_h h (qm k) k s (mm_my s b) b w = g at S2 RC
      have AA : ∀ e, ¬ (e = 93 ∨ e = 96 ∨ e = 94) → mm_a g e = mm_a h e := fun e he => by rw [← hg]; exact re_A he
      have A0 : ∀ e i, ¬ i = 4 * k + 3 → mm_a g e i = mm_a h e i := fun e i he => by rw [← hg]; exact re_0 (fun z => he z.2)
      have II : ∀ f e, ¬ e = qm k + 2 ∨ ¬ (448 ≤ f ∧ f ≤ 450) → mm_i g f e = mm_i h f e := fun f e he => by rw [← hg]; exact re_I he
      have ek : mm_k g = mm_k h := by rw [← hg]; rfl
      have en : mm_n g = mm_n h := by rw [← hg]; rfl
      have er : mm_r g = mm_r h := by rw [← hg]; rfl
      have eqq : mm_q g = mm_q h := by rw [← hg]; rfl
      have et : mm_t g = mm_t h := by rw [← hg]; rfl
      have an := re_n (h := h) (q := qm k) (k := k) (s := s) (c := mm_my s b) (b := b) (w := w)
      rw [hg] at an
      obtain ⟨⟨n1, n2, n3⟩, n4, n5, n6⟩ := an
      obtain ⟨s1, s2, s3, s4, s5, s6, s7, s8⟩ := S2
      have Ej := E k hk
      have np : lk_np g k = lk_np h k := by unfold lk_np; rw [AA 89 (by omega)]
      have np3 := Ej.2.1.2.2.2.1
      have sr : -2 ≤ s.toInt ∧ s.toInt < (nC : Int) := by
        rcases k2 with z | ⟨z | z, _⟩
        · omega
        · omega
        · omega
      refine rr_set T D U L V M fz hk s2 s1 s3 s4 s5 s6 s7 s8 RC (fun p hp => ?_) ⟨?_, fun p hp => ?_⟩ ?_ ⟨e1, ?_, ⟨?_, ?_, ?_, ?_, ?_, ?_, ?_⟩, fun p h3 hp => ?_, ?_, fun i hi => ?_, fun i hi => ?_⟩ (rr_ml (h := h) (by rw [AA 88 (by omega)]) ?_ (by rw [AA 91 (by omega)]) (by rw [AA 92 (by omega)]) (fun i hi => ?_) (fun i hi => ?_) (T.2.2.2.2.2.1 k hk)) (fun p hp => ?_)
      · by_cases q : p = 3
        · rw [q, n4, n5, n6]; exact ⟨by omega, hb, k1⟩
        · rw [A0 93 _ (by omega), A0 94 _ (by omega), A0 96 _ (by omega)]; exact rr_svk T hk p hp
      · rw [n4]; exact sr.2
      · rw [np] at hp; rw [A0 93 _ (by omega)]; exact Ej.2.2.1.2.2 p hp
      · obtain ⟨f1, f2, f3, f4, f5, f6⟩ := Ej.2.1
        refine ⟨f1, by rw [AA 87 (by omega)]; exact f2, by rw [AA 89 (by omega), np]; exact f3, by rw [np]; exact f4, by rw [AA 95 (by omega)]; exact f5, fun p hp => ?_⟩
        rw [np] at hp
        rw [A0 93 _ (by omega)]; exact f6 p hp
      · unfold mm_ME; rw [ek, en, er]; exact e2
      · rw [II _ _ (by omega), AA 87 (by omega)]; exact i1
      · rw [II _ _ (by omega), AA 88 (by omega)]; exact i2
      · rw [II _ _ (by omega), AA 95 (by omega)]; exact i3
      · rw [II _ _ (by omega), AA 89 (by omega)]; exact i4
      · rw [II _ _ (by omega), AA 90 (by omega)]; exact i5
      · rw [II _ _ (by omega), AA 91 (by omega)]; exact i6
      · rw [II _ _ (by omega), AA 92 (by omega)]; exact i7
      · rw [AA 89 (by omega)] at hp
        have o := (Ej.2.2.2.2.1 p (lk_np_lt h3 hp)).2 k hk
        rw [A0 93 _ (by omega), A0 94 _ (by omega), A0 96 _ (by omega), eqq]
        exact pl_cg (e4 p h3 hp) (by rw [ek]) (II _ _ (Or.inl o)) (II _ _ (Or.inl o)) (II _ _ (Or.inl o))
      · rw [n4, n5, n6]
        exact ⟨by omega, by rw [ek]; exact e5.2.1, n1, n2.trans (my_eq hb), n3⟩
      · rw [AA (qm k + 3) (by omega), AA (qm k + 4) (by omega), AA 97 (by omega), AA 98 (by omega)]
        exact e6 i hi
      · rw [AA (qm k + 5) (by omega), AA (qm k + 6) (by omega), AA (qm k + 7) (by omega), AA 99 (by omega), AA 100 (by omega), AA 101 (by omega)]
        exact e7 i hi
      · rw [AA 90 (by omega)]
        obtain ⟨_, l⟩ := T.2.2.2.2.2.1 k hk
        exact l.2.2.2.2.2.1
      · rw [AA 97 (by omega), AA 98 (by omega)]; exact ⟨rfl, rfl⟩
      · rw [AA 99 (by omega), AA 100 (by omega), AA 101 (by omega)]; exact ⟨rfl, rfl, rfl⟩
      · rw [np] at hp
        rw [eqq, et]; exact Ej.2.2.2.2.1 p hp
