/-! builtIn, wipe, add, guard, result -/
theorem rc_rf {h : mm_H} {m : Nat} : rc_M h h m := ⟨⟨rfl, rfl, rfl, rfl, rfl, rfl, rfl⟩, fun _ _ => ⟨rfl, rfl, rfl⟩, fun _ _ => ⟨rfl, rfl⟩, fun _ _ => ⟨rfl, rfl, rfl⟩⟩
theorem rc_sa {h g : mm_H} {m a j : Nat} {x : Int32} (c : rc_M h g m) (o : ¬ (87 ≤ a ∧ a ≤ 101) ∨ ((87 ≤ a ∧ a ≤ 92 ∨ a = 95) ∧ ¬ j = m) ∨ ((a = 93 ∨ a = 94 ∨ a = 96) ∧ ¬ j / 4 = m) ∨ ((a = 97 ∨ a = 98) ∧ ¬ j / 20 = m) ∨ ((99 ≤ a ∧ a ≤ 101) ∧ ¬ j / 2 = m)) : rc_M h (mm_sa g a j x) m := by
  obtain ⟨⟨c1, c2, c3, c4, c5, c6, c7⟩, cp, cc, cg⟩ := c
  refine ⟨⟨(mm_a2 (by omega)).trans c1, (mm_a2 (by omega)).trans c2, (mm_a2 (by omega)).trans c3, (mm_a2 (by omega)).trans c4, (mm_a2 (by omega)).trans c5, (mm_a2 (by omega)).trans c6, (mm_a2 (by omega)).trans c7⟩, fun p hp => ⟨(mm_a2 (by omega)).trans (cp p hp).1, (mm_a2 (by omega)).trans (cp p hp).2.1, (mm_a2 (by omega)).trans (cp p hp).2.2⟩, fun i hi => ⟨(mm_a2 (by omega)).trans (cc i hi).1, (mm_a2 (by omega)).trans (cc i hi).2⟩, fun i hi => ⟨(mm_a2 (by omega)).trans (cg i hi).1, (mm_a2 (by omega)).trans (cg i hi).2.1, (mm_a2 (by omega)).trans (cg i hi).2.2⟩⟩
theorem rc_new {h g : mm_H} {m k n : Nat} (c : rc_M h g m) (q : 123 ≤ mm_t g) : rc_M h (mm_new g k n) m := by
  have z : ∀ a j, a ≤ 101 → mm_a (mm_new g k n) a j = mm_a g a j := fun a j ha => congrFun (show mm_a (mm_new g k n) a = mm_a g a from if_neg (by omega)) j
  obtain ⟨⟨c1, c2, c3, c4, c5, c6, c7⟩, cp, cc, cg⟩ := c
  refine ⟨⟨(z _ _ (by omega)).trans c1, (z _ _ (by omega)).trans c2, (z _ _ (by omega)).trans c3, (z _ _ (by omega)).trans c4, (z _ _ (by omega)).trans c5, (z _ _ (by omega)).trans c6, (z _ _ (by omega)).trans c7⟩, fun p hp => ⟨(z _ _ (by omega)).trans (cp p hp).1, (z _ _ (by omega)).trans (cp p hp).2.1, (z _ _ (by omega)).trans (cp p hp).2.2⟩, fun i hi => ⟨(z _ _ (by omega)).trans (cc i hi).1, (z _ _ (by omega)).trans (cc i hi).2⟩, fun i hi => ⟨(z _ _ (by omega)).trans (cg i hi).1, (z _ _ (by omega)).trans (cg i hi).2.1, (z _ _ (by omega)).trans (cg i hi).2.2⟩⟩
/-- all but one Method's cells and the reference's cells of methods stays -/
def st (h g : mm_H) (lo hi : Nat) : Prop := mm_SH g ∧ mm_an h g ∧ xc h g lo hi ∧ (∀ f, mm_i g f 2 = mm_i h f 2) ∧ (mm_q g 7 = mm_q h 7 ∧ mm_q g 8 = mm_q h 8) ∧ (∀ a, a ≤ 8 → mm_a g a = mm_a h a) ∧ (∀ f, f ≤ 578 → mm_i g f 80 = mm_i h f 80) ∧ ∀ a, 81 ≤ a → a ≤ 88 → mm_a g a = mm_a h a
theorem st_rf {h : mm_H} {lo hi : Nat} (I : mm_SH h) : st h h lo hi := ⟨I, an_rf, ⟨Nat.le_refl _, fun _ _ => ⟨rfl, rfl⟩, fun _ _ _ _ => rfl, fun _ _ _ _ => ⟨fun _ => rfl, rfl, rfl⟩⟩, fun _ => rfl, ⟨rfl, rfl⟩, fun _ _ => rfl, fun _ _ => rfl, fun _ _ _ => rfl⟩
theorem st_si {h g : mm_H} {lo hi f a : Nat} {v : Int32} (s : st h g lo hi) (h1 : 124 ≤ a) (h2 : (lo ≤ a ∧ a < hi) ∨ mm_t h < a) : st h (mm_si g f a v) lo hi := by
  obtain ⟨I, an, ⟨x1, x2, x3, x4⟩, l2, lq, l8, l80, l81⟩ := s
  exact ⟨I, an_si an (by omega), ⟨x1, x2, x3, fun b b1 b2 b3 => ⟨fun f' => (mm_i2 (by omega)).trans ((x4 b b1 b2 b3).1 f'), (x4 b b1 b2 b3).2⟩⟩, fun f' => (mm_i2 (by omega)).trans (l2 f'), lq, l8, fun f' hf => (mm_i2 (by omega)).trans (l80 f' hf), l81⟩
theorem st_sa {h g : mm_H} {lo hi a j : Nat} {v : Int32} (s : st h g lo hi) (h1 : (124 ≤ a ∧ ((lo ≤ a ∧ a < hi) ∨ mm_t h < a)) ∨ (89 ≤ a ∧ a ≤ 101)) : st h (mm_sa g a j v) lo hi := by
  obtain ⟨I, an, ⟨x1, x2, x3, x4⟩, l2, lq, l8, l80, l81⟩ := s
  have e : ∀ b, ¬ b = a → mm_a (mm_sa g a j v) b = mm_a g b := fun b hb => funext (fun i => mm_a2 (Or.inl hb))
  exact ⟨I, an_sa an (by omega), ⟨x1, x2, x3, fun b b1 b2 b3 => ⟨(x4 b b1 b2 b3).1, (e b (by omega)).trans (x4 b b1 b2 b3).2.1, (x4 b b1 b2 b3).2.2⟩⟩, l2, lq, fun b hb => (e b (by omega)).trans (l8 b hb), l80, fun b b1 b2 => (e b (by omega)).trans (l81 b b1 b2)⟩
theorem st_sq {h g : mm_H} {lo hi a j v : Nat} (s : st h g lo hi) (h1 : 124 ≤ a) (h2 : (lo ≤ a ∧ a < hi) ∨ mm_t h < a) : st h (mm_sq g a j v) lo hi := by
  obtain ⟨⟨i1, i2, i3, i4, i5⟩, an, ⟨x1, x2, x3, x4⟩, l2, lq, l8, l80, l81⟩ := s
  have e : ∀ b, ¬ b = a → mm_q (mm_sq g a j v) b = mm_q g b := fun b hb => funext (fun i => if_neg (fun z => hb z.1))
  refine ⟨⟨i1, i2, i3, ?_, ?_⟩, an, ⟨x1, x2, x3, fun b b1 b2 b3 => ⟨(x4 b b1 b2 b3).1, (x4 b b1 b2 b3).2.1, (e b (by omega)).trans (x4 b b1 b2 b3).2.2⟩⟩, l2, ⟨(e 7 (by omega)).trans lq.1, (e 8 (by omega)).trans lq.2⟩, l8, l80, l81⟩
  · rw [e 10 (by omega)]; exact i4
  · rw [e 61 (by omega)]; exact i5
theorem st_new {h g : mm_H} {lo hi k n : Nat} (s : st h g lo hi) (ht : 123 ≤ mm_t h) : st h (mm_new g k n) lo hi := by
  obtain ⟨I, an, ⟨x1, x2, x3, x4⟩, l2, lq, l8, l80, l81⟩ := s
  have ea : ∀ b, b ≤ mm_t g → mm_a (mm_new g k n) b = mm_a g b := fun b hb => if_neg (by omega)
  have eq : ∀ b, b ≤ mm_t g → mm_q (mm_new g k n) b = mm_q g b := fun b hb => if_neg (by omega)
  have ei : ∀ f b, b ≤ mm_t g → mm_i (mm_new g k n) f b = mm_i g f b := fun f b hb => if_neg (by omega)
  have er : ∀ f b, b ≤ mm_t g → mm_r (mm_new g k n) f b = mm_r g f b := fun f b hb => if_neg (by omega)
  have ek : ∀ b, b ≤ mm_t g → mm_k (mm_new g k n) b = mm_k g b := fun b hb => if_neg (by omega)
  have en : ∀ b, b ≤ mm_t g → mm_n (mm_new g k n) b = mm_n g b := fun b hb => if_neg (by omega)
  refine ⟨lx_SHn (by omega) I, an_new an (by omega), ⟨Nat.le_succ_of_le x1, fun b hb => ⟨(ek b (by omega)).trans (x2 b hb).1, (en b (by omega)).trans (x2 b hb).2⟩, fun f b b1 b2 => (er f b (by omega)).trans (x3 f b b1 b2), fun b b1 b2 b3 => ⟨fun f => (ei f b (by omega)).trans ((x4 b b1 b2 b3).1 f), (ea b (by omega)).trans (x4 b b1 b2 b3).2.1, (eq b (by omega)).trans (x4 b b1 b2 b3).2.2⟩⟩, fun f => (ei f 2 (by omega)).trans (l2 f), ⟨(eq 7 (by omega)).trans lq.1, (eq 8 (by omega)).trans lq.2⟩, fun b hb => (ea b (by omega)).trans (l8 b hb), fun f hf => (ei f 80 (by omega)).trans (l80 f hf), fun b b1 b2 => (ea b (by omega)).trans (l81 b b1 b2)⟩
theorem st_fz {h g : mm_H} {lo hi : Nat} (s : st h g lo hi) : mm_fz g ↔ mm_fz h := rr_fz (s.2.2.2.2.2.2.2 85 (by omega) (by omega))
theorem st_MN {h g : mm_H} {lo hi nC nF nM : Nat} (s : st h g lo hi) (N : mm_MN h nC nF nM) : mm_MN g nC nF nM := by
  have l := s.2.2.2.2.2.2.1
  unfold mm_MN
  rw [l _ (by omega), l _ (by omega), l _ (by omega)]
  exact N
theorem rr_XM {ro : mm_Ro} {h : mm_H} {nC nF nM : Nat} {qm : Nat → Nat} (T : lx_T ro h nC nF nM qm) : mm_XM h nM qm := fun m hm => ⟨(T.2.2.2.1.2.2.1.2 m hm).1, (T.2.2.2.1.2.2.1.2 m hm).2.2.1⟩
theorem rr_svk {ro : mm_Ro} {h : mm_H} {nC nF nM m : Nat} {qm : Nat → Nat} (T : lx_T ro h nC nF nM qm) (hm : m < nM) : ∀ p, p < 4 → (-2 ≤ (mm_a h 93 (4 * m + p)).toInt ∧ (mm_a h 93 (4 * m + p)).toInt ≤ 5) ∧ (mm_a h 96 (4 * m + p) = 0 ∨ mm_a h 96 (4 * m + p) = 1) ∧ (0 ≤ (mm_a h 94 (4 * m + p)).toInt ∧ (mm_a h 94 (4 * m + p)).toInt ≤ 15) := fun p hp => T.2.2.2.1.2.2.2.2.2.1.2 (4 * m + p) (by have := T.2.1.2.2.2.2.2.2; omega)
/-- the reference's parts of method k that tell of code stay -/
theorem rr_ml {h g : mm_H} {nC nF nM k : Nat} (e88 : mm_a g 88 k = mm_a h 88 k) (e90 : -1 ≤ (mm_a g 90 k).toInt ∧ (mm_a g 90 k).toInt ≤ 2) (e91 : mm_a g 91 k = mm_a h 91 k) (e92 : mm_a g 92 k = mm_a h 92 k) (cc : ∀ i, i < 20 → mm_a g 97 (20 * k + i) = mm_a h 97 (20 * k + i) ∧ mm_a g 98 (20 * k + i) = mm_a h 98 (20 * k + i)) (cg : ∀ j, j < 2 → mm_a g 99 (2 * k + j) = mm_a h 99 (2 * k + j) ∧ mm_a g 100 (2 * k + j) = mm_a h 100 (2 * k + j) ∧ mm_a g 101 (2 * k + j) = mm_a h 101 (2 * k + j)) (E : ∃ len, lx_ML h nC nF nM k len) (MV : ∀ a, a < nM → lk_MV g a) : ∃ len, lx_ML g nC nF nM k len := by
  obtain ⟨len, l1, l2, l3, ⟨G, g1, g2⟩, l5, l6, l7⟩ := E
  exact ⟨len, l1, e91.trans l2, fun i hi => rc_IV (cc i (by omega)).1 (cc i (by omega)).2 (Nat.le_refl _) (Nat.le_refl _) (Nat.le_refl _) MV (l3 i hi), ⟨G, g1, e92.trans g2⟩, fun i => by rw [rc_gd e92 cg]; exact l5 i, e90, by rw [e88]; exact l7⟩
theorem ra_si {h : mm_H} {f a : Nat} {x : Int32} : mm_a (mm_si h f a x) = mm_a h := rfl
theorem ra_sq {h : mm_H} {a j x : Nat} : mm_a (mm_sq h a j x) = mm_a h := rfl
theorem ri_sa {h : mm_H} {a j : Nat} {x : Int32} : mm_i (mm_sa h a j x) = mm_i h := rfl
theorem ri_sq {h : mm_H} {a j x : Nat} : mm_i (mm_sq h a j x) = mm_i h := rfl
theorem rq_sa {h : mm_H} {a j : Nat} {x : Int32} : mm_q (mm_sa h a j x) = mm_q h := rfl
theorem rq_si {h : mm_H} {f a : Nat} {x : Int32} : mm_q (mm_si h f a x) = mm_q h := rfl
theorem pl_cg {h g : mm_H} {p : Nat} {s n w : Int32} (E : lx_PL h p s n w) (k : mm_k g p = mm_k h p) (a : mm_i g 448 p = mm_i h 448 p) (b : mm_i g 449 p = mm_i h 449 p) (c : mm_i g 450 p = mm_i h 450 p) : lx_PL g p s n w := ⟨E.1, k.trans E.2.1, a.trans E.2.2.1, b.trans E.2.2.2.1, c.trans E.2.2.2.2⟩
theorem pl_si {h : mm_H} {p f a : Nat} {s n w x : Int32} (o : ¬ (448 ≤ f ∧ f ≤ 450) ∨ ¬ p = a) (E : lx_PL h p s n w) : lx_PL (mm_si h f a x) p s n w := pl_cg E rfl (mm_i2 (by omega)) (mm_i2 (by omega)) (mm_i2 (by omega))
theorem pl_sa {h : mm_H} {p a j : Nat} {s n w x : Int32} (E : lx_PL h p s n w) : lx_PL (mm_sa h a j x) p s n w := E
theorem pl_sq {h : mm_H} {p a j x : Nat} {s n w : Int32} (E : lx_PL h p s n w) : lx_PL (mm_sq h a j x) p s n w := E
theorem rr_builtIn {ro : mm_Ro} {h : mm_H} {m k : Int32} (R : rr ro h) : rr_2 ro 9 n_Ga_builtIn n_Mo_builtIn [.int m, .int k] h := by
  have R' := R
  obtain ⟨nC, nF, nM, qm, P, T, D, U, L, V, M⟩ := R'
  have h10 := T.2.1.2.2.2.2.2.2
  have E := rr_E T D
  refine c_Ga_builtIn (d := 6) T.1 T.2.1 (rr_XM T) (fun z => ⟨_, rfl, c_Mo_builtIn (d := 6) T.1 T.2.2.1 (fun _ => ⟨rfl, rr_nop R⟩) (fun nf j hj e kk => ?_)⟩) (fun fz j hj e kk => ⟨_, rfl, ?_⟩)
  · rcases z with z | z | z
    · exact absurd (L.2.1.mpr nf) z
    · rw [e] at z; exact absurd (mm_nb hj (by omega)) z
    · exact absurd kk z
  · obtain ⟨e1, e2, ⟨i1, i2, i3, i4, i5, i6, i7⟩, e4, e5, e6, e7⟩ := (E j hj).1
    have S1 : st h (mm_si h 518 (qm j) k) (qm j) (qm j + 8) := st_si (st_rf T.1) e1 (by omega)
    refine c_Mo_builtIn (d := 6) S1.1 (st_MN S1 T.2.2.1) (fun z => ?_) (fun nf j' hj' e' _ => ⟨rfl, ?_, Nat.le_add_right _ _, Nat.le_add_right _ _⟩)
    · rcases z with z | z | z
      · exact absurd ((st_fz S1).mp z) (L.2.1.mp fz)
      · rw [e] at z; exact absurd (mm_nb hj (by omega)) z
      · exact absurd kk z
    · have : j = j' := (nI_eq (by omega) (by omega)).mp (e.symm.trans e')
      subst this
      have S2 : st h (mm_sa (mm_si h 518 (qm j) k) 90 j k) (qm j) (qm j + 8) := st_sa S1 (by omega)
      obtain ⟨s1, s2, s3, s4, s5, s6, s7, s8⟩ := S2
      have Ej := E j hj
      refine rr_set T D U L V M fz hj s2 s1 s3 s4 s5 s6 s7 s8 (fun m hm n => rc_sa rc_rf (by omega)) (by have z := rr_svk T hj; exact z) ⟨Ej.2.2.1.1, Ej.2.2.1.2.2⟩ Ej.2.1 ⟨e1, e2, ⟨?_, ?_, ?_, ?_, ?_, ?_, ?_⟩, fun p h3 hp => ?_, ?_, fun i hi => ?_, fun i hi => ?_⟩ (rr_ml (h := h) rfl (by rw [mm_a1]; exact kk) rfl rfl (fun _ _ => ⟨rfl, rfl⟩) (fun _ _ => ⟨rfl, rfl, rfl⟩) (T.2.2.2.2.2.1 j hj)) Ej.2.2.2.2.1
      · rw [ri_sa, mm_i2 (by omega), mm_a2 (by omega), ra_si]; exact i1
      · rw [ri_sa, mm_i2 (by omega), mm_a2 (by omega), ra_si]; exact i2
      · rw [ri_sa, mm_i2 (by omega), mm_a2 (by omega), ra_si]; exact i3
      · rw [ri_sa, mm_i2 (by omega), mm_a2 (by omega), ra_si]; exact i4
      · rw [ri_sa, mm_i1, mm_a1]
      · rw [ri_sa, mm_i2 (by omega), mm_a2 (by omega), ra_si]; exact i6
      · rw [ri_sa, mm_i2 (by omega), mm_a2 (by omega), ra_si]; exact i7
      · rw [mm_a2 (by omega), ra_si] at hp
        rw [mm_a2 (by omega), mm_a2 (by omega), mm_a2 (by omega), ra_si, rq_sa, rq_si]
        exact pl_sa (pl_si (by omega) (e4 p h3 hp))
      · rw [mm_a2 (by omega), mm_a2 (by omega), mm_a2 (by omega), ra_si]
        exact pl_sa (pl_si (by omega) e5)
      · rw [mm_a2 (by omega), mm_a2 (by omega), mm_a2 (by omega), mm_a2 (by omega), ra_si]
        exact e6 i hi
      · rw [mm_a2 (by omega), mm_a2 (by omega), mm_a2 (by omega), mm_a2 (by omega), mm_a2 (by omega), mm_a2 (by omega), ra_si]
        exact e7 i hi
theorem rr_wipe {ro : mm_Ro} {h : mm_H} {m : Int32} (R : rr ro h) : rr_2 ro 9 n_Ga_wipe n_Mo_wipe [.int m] h := by
  have R' := R
  obtain ⟨nC, nF, nM, qm, P, T, D, U, L, V, M⟩ := R'
  have h10 := T.2.1.2.2.2.2.2.2
  have E := rr_E T D
  refine c_Ga_wipe (d := 6) T.1 T.2.1 (rr_XM T) (fun z => ⟨_, rfl, c_Mo_wipe (d := 6) T.1 T.2.2.1 (fun _ => ⟨rfl, rr_nop R⟩) (fun nf _ => absurd (L.2.1.mpr nf) z) (fun nf _ _ _ => absurd (L.2.1.mpr nf) z)⟩) (fun fz z => ⟨_, rfl, c_Mo_wipe (d := 6) T.1 T.2.2.1 (fun y => absurd y (L.2.1.mp fz)) (fun _ _ => ⟨rfl, rr_nop R⟩) (fun nf j hj e => ?_)⟩) (fun fz j hj e => ⟨_, rfl, ?_⟩)
  · rw [e] at z; exact absurd (mm_nb hj (by omega)) z
  · obtain ⟨e1, e2, ⟨i1, i2, i3, i4, i5, i6, i7⟩, e4, e5, e6, e7⟩ := (E j hj).1
    have S1 : st h (mm_si (mm_si h 521 (qm j) 0) 525 (qm j) 0) (qm j) (qm j + 8) := st_si (st_si (st_rf T.1) e1 (by omega)) e1 (by omega)
    refine c_Mo_wipe (d := 6) S1.1 (st_MN S1 T.2.2.1) (fun z => absurd ((st_fz S1).mp z) (L.2.1.mp fz)) (fun _ z => ?_) (fun nf j' hj' e' => ?_)
    · rw [e] at z; exact absurd (mm_nb hj (by omega)) z
    · have : j = j' := (nI_eq (by omega) (by omega)).mp (e.symm.trans e')
      subst this
      refine ⟨by rw [i6]; rfl, ?_, Nat.le_add_right _ _, Nat.le_add_right _ _⟩
      have S2 : st h (mm_sa (mm_sa (mm_si (mm_si h 521 (qm j) 0) 525 (qm j) 0) 91 j 0) 92 j 0) (qm j) (qm j + 8) := st_sa (st_sa S1 (by omega)) (by omega)
      obtain ⟨s1, s2, s3, s4, s5, s6, s7, s8⟩ := S2
      have Ej := E j hj
      refine rr_set T D U L V M fz hj s2 s1 s3 s4 s5 s6 s7 s8 (fun m hm n => rc_sa (rc_sa rc_rf (by omega)) (by omega)) (by have z := rr_svk T hj; exact z) ⟨Ej.2.2.1.1, Ej.2.2.1.2.2⟩ Ej.2.1 ⟨e1, e2, ⟨?_, ?_, ?_, ?_, ?_, ?_, ?_⟩, fun p h3 hp => ?_, ?_, fun i hi => ?_, fun i hi => ?_⟩ (fun _ => ?_) Ej.2.2.2.2.1
      · rw [ri_sa, ri_sa, mm_i2 (by omega), mm_i2 (by omega), mm_a2 (by omega), mm_a2 (by omega), ra_si, ra_si]; exact i1
      · rw [ri_sa, ri_sa, mm_i2 (by omega), mm_i2 (by omega), mm_a2 (by omega), mm_a2 (by omega), ra_si, ra_si]; exact i2
      · rw [ri_sa, ri_sa, mm_i2 (by omega), mm_i2 (by omega), mm_a2 (by omega), mm_a2 (by omega), ra_si, ra_si]; exact i3
      · rw [ri_sa, ri_sa, mm_i2 (by omega), mm_i2 (by omega), mm_a2 (by omega), mm_a2 (by omega), ra_si, ra_si]; exact i4
      · rw [ri_sa, ri_sa, mm_i2 (by omega), mm_i2 (by omega), mm_a2 (by omega), mm_a2 (by omega), ra_si, ra_si]; exact i5
      · rw [ri_sa, ri_sa, mm_i2 (by omega), mm_i1, mm_a2 (by omega), mm_a1]
      · rw [ri_sa, ri_sa, mm_i1, mm_a1]
      · rw [mm_a2 (by omega), mm_a2 (by omega), ra_si, ra_si] at hp
        exact pl_sa (pl_sa (pl_si (by omega) (pl_si (by omega) (e4 p h3 hp))))
      · exact pl_sa (pl_sa (pl_si (by omega) (pl_si (by omega) e5)))
      · rw [mm_a2 (by omega), mm_a2 (by omega), mm_a2 (by omega), mm_a2 (by omega), mm_a2 (by omega), mm_a2 (by omega), mm_a2 (by omega), mm_a2 (by omega), ra_si, ra_si]
        exact e6 i hi
      · rw [mm_a2 (by omega), mm_a2 (by omega), mm_a2 (by omega), mm_a2 (by omega), mm_a2 (by omega), mm_a2 (by omega), mm_a2 (by omega), mm_a2 (by omega), mm_a2 (by omega), mm_a2 (by omega), mm_a2 (by omega), mm_a2 (by omega), ra_si, ra_si]
        exact e7 i hi
      · obtain ⟨len, l1, l2, l3, l4, l5, l6, l7⟩ := T.2.2.2.2.2.1 j hj
        have e92 : mm_a (mm_sa (mm_sa (mm_si (mm_si h 521 (qm j) 0) 525 (qm j) 0) 91 j 0) 92 j 0) 92 j = 0 := mm_a1
        refine ⟨0, by omega, (mm_a2 (by omega)).trans mm_a1, fun i hi => absurd hi (by omega), ⟨0, by omega, e92⟩, fun i => ?_, l6, l7⟩
        unfold lk_gd
        rw [e92, if_neg (fun z => absurd z.1 (by decide)), if_neg (fun z => absurd z.1 (by decide))]
        decide
