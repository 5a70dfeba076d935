/-! CALLS THAT MAKE OR CHANGE: what stays -/
/-- the reference's cells of method m stay -/
def rc_M (h h' : mm_H) (m : Nat) : Prop := (mm_a h' 87 m = mm_a h 87 m ∧ mm_a h' 88 m = mm_a h 88 m ∧ mm_a h' 89 m = mm_a h 89 m ∧ mm_a h' 90 m = mm_a h 90 m ∧ mm_a h' 91 m = mm_a h 91 m ∧ mm_a h' 92 m = mm_a h 92 m ∧ mm_a h' 95 m = mm_a h 95 m) ∧ (∀ p, p < 4 → mm_a h' 93 (4 * m + p) = mm_a h 93 (4 * m + p) ∧ mm_a h' 94 (4 * m + p) = mm_a h 94 (4 * m + p) ∧ mm_a h' 96 (4 * m + p) = mm_a h 96 (4 * m + p)) ∧ (∀ i, i < 20 → mm_a h' 97 (20 * m + i) = mm_a h 97 (20 * m + i) ∧ mm_a h' 98 (20 * m + i) = mm_a h 98 (20 * m + i)) ∧ ∀ j, j < 2 → mm_a h' 99 (2 * m + j) = mm_a h 99 (2 * m + j) ∧ mm_a h' 100 (2 * m + j) = mm_a h 100 (2 * m + j) ∧ mm_a h' 101 (2 * m + j) = mm_a h 101 (2 * m + j)
/-- the class's cells outside [lo, hi) that were there stay -/
def xc (h h' : mm_H) (lo hi : Nat) : Prop := mm_t h ≤ mm_t h' ∧ (∀ a, a ≤ mm_t h → mm_k h' a = mm_k h a ∧ mm_n h' a = mm_n h a) ∧ (∀ f a, 124 ≤ a → a ≤ mm_t h → mm_r h' f a = mm_r h f a) ∧ ∀ a, 124 ≤ a → a ≤ mm_t h → ¬ (lo ≤ a ∧ a < hi) → (∀ f, mm_i h' f a = mm_i h f a) ∧ mm_a h' a = mm_a h a ∧ mm_q h' a = mm_q h a
theorem xc_PL {h h' : mm_H} {lo hi p : Nat} {s n w : Int32} (x : xc h h' lo hi) (lt : p ≤ mm_t h) (o : ¬ (lo ≤ p ∧ p < hi)) (E : lx_PL h p s n w) : lx_PL h' p s n w := by
  obtain ⟨e1, e2, e3, e4, e5⟩ := E
  obtain ⟨i, _, _⟩ := x.2.2.2 p e1 lt o
  exact ⟨e1, (x.2.1 p lt).1.trans e2, (i _).trans e3, (i _).trans e4, (i _).trans e5⟩
theorem xc_ME {h h' : mm_H} {lo hi q : Nat} (x : xc h h' lo hi) (hq : 124 ≤ q) (lt : q + 7 ≤ mm_t h) (E : mm_ME h q) : mm_ME h' q := by
  obtain ⟨_, k, r, _⟩ := x
  unfold mm_ME at E ⊢
  rw [r _ q hq (by omega), r _ q hq (by omega), r _ q hq (by omega), r _ q hq (by omega), r _ q hq (by omega), r _ q hq (by omega), r _ q hq (by omega), (k q (by omega)).1, (k (q + 1) (by omega)).1, (k (q + 1) (by omega)).2, (k (q + 2) (by omega)).1, (k (q + 3) (by omega)).1, (k (q + 3) (by omega)).2, (k (q + 4) (by omega)).1, (k (q + 4) (by omega)).2, (k (q + 5) (by omega)).1, (k (q + 5) (by omega)).2, (k (q + 6) (by omega)).1, (k (q + 6) (by omega)).2, (k (q + 7) (by omega)).1, (k (q + 7) (by omega)).2]
  exact E
theorem rc_np {h h' : mm_H} {m : Nat} (c : rc_M h h' m) : lk_np h' m = lk_np h m := by unfold lk_np; rw [c.1.2.2.1]
theorem lk_np_lt {h : mm_H} {m p : Nat} (h3 : p < 3) (hp : (p : Int) < (mm_a h 89 m).toInt) : p < lk_np h m := by unfold lk_np; omega
theorem xc_MO {h h' : mm_H} {lo hi q m : Nat} (x : xc h h' lo hi) (c : rc_M h h' m) (lt : q + 7 ≤ mm_t h) (o : ∀ j, j ≤ 7 → ¬ (lo ≤ q + j ∧ q + j < hi)) (op : ∀ p, p < lk_np h m → mm_q h (q + 1) p ≤ mm_t h ∧ ¬ (lo ≤ mm_q h (q + 1) p ∧ mm_q h (q + 1) p < hi)) (E : lx_MO h q m) : lx_MO h' q m := by
  obtain ⟨e1, e2, e3, e4, e5, e6, e7⟩ := E
  obtain ⟨⟨c1, c2, c3, c4, c5, c6, c7⟩, cp, cc, cg⟩ := c
  have y := fun j (hj : j ≤ 7) => x.2.2.2 (q + j) (by omega) (by omega) (o j hj)
  have y0 := (y 0 (by omega)).1
  refine ⟨e1, xc_ME x e1 lt e2, ?_, fun p h3 hp => ?_, ?_, fun t ht => ?_, fun t ht => ?_⟩
  · have z : ∀ f, mm_i h' f q = mm_i h f q := y0
    rw [z, z, z, z, z, z, z, c1, c2, c3, c4, c5, c6, c7]
    exact e3
  · rw [c3] at hp
    obtain ⟨p1, p2, p3⟩ := cp p (by omega)
    obtain ⟨o1, o2⟩ := op p (lk_np_lt h3 hp)
    rw [p1, p2, p3, (y 1 (by omega)).2.2]
    exact xc_PL x o1 o2 (e4 p h3 hp)
  · obtain ⟨p1, p2, p3⟩ := cp 3 (by omega)
    rw [p1, p2, p3]
    exact xc_PL x (by omega) (o 2 (by omega)) e5
  · rw [(cc t ht).1, (cc t ht).2, (y 3 (by omega)).2.1, (y 4 (by omega)).2.1]
    exact e6 t ht
  · obtain ⟨g1, g2, g3⟩ := cg t ht
    rw [g1, g2, g3, (y 5 (by omega)).2.1, (y 6 (by omega)).2.1, (y 7 (by omega)).2.1]
    exact e7 t ht
/-- two Methods lie apart -/
theorem lx_k9 {h : mm_H} {q i : Nat} (E : mm_ME h q) (h1 : 0 < i) (h7 : i ≤ 7) : ¬ mm_k h (q + i) = 9 := by
  obtain ⟨⟨_, _, a, _⟩, ⟨_, b⟩, ⟨_, c, _⟩, ⟨_, d, _⟩, ⟨_, e, _⟩, ⟨_, f, _⟩, ⟨_, g, _⟩⟩ := E
  have : i = 1 ∨ i = 2 ∨ i = 3 ∨ i = 4 ∨ i = 5 ∨ i = 6 ∨ i = 7 := by omega
  rcases this with z | z | z | z | z | z | z <;> rw [z]
  · rw [a]; decide
  · rw [b]; decide
  · rw [c]; decide
  · rw [d]; decide
  · rw [e]; decide
  · rw [f]; decide
  · rw [g]; decide
theorem lx_dj {h : mm_H} {q q' : Nat} (E : mm_ME h q) (E' : mm_ME h q') (n : ¬ q = q') : ∀ j, j ≤ 7 → ¬ (q' ≤ q + j ∧ q + j < q' + 8) := by
  intro j hj z
  by_cases lt : q < q'
  · obtain ⟨i, hi⟩ : ∃ i, q' = q + i := ⟨q' - q, by omega⟩
    refine lx_k9 E (i := i) (by omega) (by omega) ?_
    rw [← hi]
    exact E'.1.1
  · obtain ⟨i, hi⟩ : ∃ i, q = q' + i := ⟨q - q', by omega⟩
    refine lx_k9 E' (i := i) (by omega) (by omega) ?_
    rw [← hi]
    exact E.1.1
theorem lx_dp {h : mm_H} {q p : Nat} (E : mm_ME h q) (k8 : mm_k h p = 8) (n : ¬ p = q + 2) : ¬ (q ≤ p ∧ p < q + 8) := by
  intro z
  obtain ⟨⟨a0, _, a, _⟩, ⟨_, b⟩, ⟨_, c, _⟩, ⟨_, d, _⟩, ⟨_, e, _⟩, ⟨_, f, _⟩, ⟨_, g, _⟩⟩ := E
  have : p = q ∨ p = q + 1 ∨ p = q + 3 ∨ p = q + 4 ∨ p = q + 5 ∨ p = q + 6 ∨ p = q + 7 := by omega
  rcases this with z | z | z | z | z | z | z <;> rw [z] at k8
  · rw [a0] at k8; omega
  · rw [a] at k8; omega
  · rw [c] at k8; omega
  · rw [d] at k8; omega
  · rw [e] at k8; omega
  · rw [f] at k8; omega
  · rw [g] at k8; omega
/-- ranges, of a method that stays -/
theorem rc_MV {h h' : mm_H} {m : Nat} (c : rc_M h h' m) (E : lk_MV h m) : lk_MV h' m := by
  obtain ⟨e1, e2, e3, e4, e5, e6⟩ := E
  have n := rc_np c
  obtain ⟨⟨c1, c2, c3, c4, c5, c6, c7⟩, cp, _⟩ := c
  refine ⟨e1, by rw [c1]; exact e2, by rw [c3, n]; exact e3, by rw [n]; exact e4, by rw [c7]; exact e5, fun p hp => ?_⟩
  rw [n] at hp
  rw [(cp p (by omega)).1]
  exact e6 p hp
theorem rc_IV {h h' : mm_H} {nC nF nM nC' nF' nM' m i : Nat} (e7 : mm_a h' 97 (20 * m + i) = mm_a h 97 (20 * m + i)) (e8 : mm_a h' 98 (20 * m + i) = mm_a h 98 (20 * m + i)) (cC : nC ≤ nC') (cF : nF ≤ nF') (cM : nM ≤ nM') (MV : ∀ a, a < nM' → lk_MV h' a) (E : lx_IV h nC nF nM m i) : lx_IV h' nC' nF' nM' m i := by
  have o : lk_o h' m i = lk_o h m i := by unfold lk_o; rw [e7]
  have a : lk_a h' m i = lk_a h m i := by unfold lk_a; rw [e8]
  obtain ⟨⟨f1, f2, f3, f4, f5⟩, f6, f7, f8⟩ := E
  refine ⟨⟨?_, ?_, ?_, ?_, ?_⟩, ?_, ?_, ?_⟩
  · unfold lk_AV at f1 ⊢
    rw [o, a, e8]
    exact f1
  · rw [o, e7]; exact f2
  · rw [o, a, e8]
    exact fun z => ⟨(f3 z).1, MV _ (by have := f8 z; omega)⟩
  · rw [o, a, e8]; exact f4
  · rw [o, a, e8]; exact f5
  · rw [o, a]; exact fun z => by have := f6 z; omega
  · rw [o, a]; exact fun z => by have := f7 z; omega
  · rw [o, a]; exact fun z => by have := f8 z; omega
theorem rc_gd {h h' : mm_H} {m : Nat} (e2 : mm_a h' 92 m = mm_a h 92 m) (cg : ∀ j, j < 2 → mm_a h' 99 (2 * m + j) = mm_a h 99 (2 * m + j) ∧ mm_a h' 100 (2 * m + j) = mm_a h 100 (2 * m + j) ∧ mm_a h' 101 (2 * m + j) = mm_a h 101 (2 * m + j)) (i : Nat) : lk_gd h' m i = lk_gd h m i := by
  obtain ⟨a1, a2, a3⟩ := cg 0 (by omega)
  obtain ⟨b1, b2, b3⟩ := cg 1 (by omega)
  have h0 : lk_hit h' (2 * m) i = lk_hit h (2 * m) i := by unfold lk_hit; rw [show 2 * m = 2 * m + 0 from rfl, a1, a2]
  have h1 : lk_hit h' (2 * m + 1) i = lk_hit h (2 * m + 1) i := by unfold lk_hit; rw [b1, b2]
  have a3' : mm_a h' 101 (2 * m) = mm_a h 101 (2 * m) := a3
  unfold lk_gd
  rw [h0, h1, e2, a3', b3]
theorem rc_ML {h h' : mm_H} {nC nF nM nC' nF' nM' m len : Nat} (c : rc_M h h' m) (cC : nC ≤ nC') (cF : nF ≤ nF') (cM : nM ≤ nM') (MV : ∀ a, a < nM' → lk_MV h' a) (E : lx_ML h nC nF nM m len) : lx_ML h' nC' nF' nM' m len := by
  obtain ⟨⟨c1, c2, c3, c4, c5, c6, c7⟩, cp, cc, cg⟩ := c
  obtain ⟨l1, l2, l3, l4, l5, l6, l7⟩ := E
  refine ⟨l1, by rw [c5]; exact l2, fun i hi => rc_IV (cc i (by omega)).1 (cc i (by omega)).2 cC cF cM MV (l3 i hi), ?_, fun i => ?_, by rw [c4]; exact l6, by rw [c2]; exact l7⟩
  · obtain ⟨G, g1, g2⟩ := l4
    exact ⟨G, g1, c6.trans g2⟩
  · rw [rc_gd c6 cg]
    exact l5 i
/-- nothing is loaded -/
theorem rr_nl {h : mm_H} {nC nF nM : Nat} (fz : mm_i h 68 2 = 0) (L : rr_L h nC nF nM) : ∀ c, c < 6 → mm_a h 85 c = 0 := by
  intro c hc
  have n := L.2.1.mp fz
  rcases (L.1 c hc).2 with z | z
  · exact z
  · exact absurd ⟨c, hc, by rw [z]; decide⟩ n
theorem rr_L0 {h h' : mm_H} {nC nF nM nC' nF' nM' : Nat} (fz : mm_i h 68 2 = 0) (e68 : mm_i h' 68 2 = mm_i h 68 2) (e5 : mm_a h' 5 = mm_a h 5) (e85 : mm_a h' 85 = mm_a h 85) (h6 : nC' ≤ 6) (L : rr_L h nC nF nM) : rr_L h' nC' nF' nM' := by
  have z := rr_nl fz L
  refine ⟨fun c hc => by rw [e5, e85]; exact L.1 c hc, by rw [e68, rr_fz e85]; exact L.2.1, fun c c1 c2 => by rw [e85]; exact z c c2, fun c c0 c1 y => ?_, fun m c hm hc _ y => ?_⟩
  · rw [e85] at y
    exact absurd (z c (by omega)) y
  · rw [e85] at y
    exact absurd (z c (by omega)) y
/-- one field -/
def rr_Fd (h : mm_H) (nC nM : Nat) (qm : Nat → Nat) (f : Nat) : Prop := lx_PL h (mm_q h 7 f) (mm_a h 83 f) (mm_a h 86 f) (mm_a h 84 f) ∧ mm_a h 6 f = mm_a h 82 f ∧ (mm_a h 83 f).toInt < (nC : Int) ∧ (∃ D, D < nC ∧ mm_a h 82 f = nI D) ∧ mm_q h 7 f ≤ mm_t h ∧ ∀ m', m' < nM → ¬ mm_q h 7 f = qm m' + 2
/-- one method -/
def rr_Md (h : mm_H) (nC nF nM : Nat) (qm : Nat → Nat) (m : Nat) : Prop := lx_MO h (qm m) m ∧ lk_MV h m ∧ ((mm_a h 93 (4 * m + 3)).toInt < (nC : Int) ∧ (mm_a h 87 m).toInt < (nC : Int) ∧ ∀ p, p < lk_np h m → (mm_a h 93 (4 * m + p)).toInt < (nC : Int)) ∧ qm m + 7 ≤ mm_t h ∧ (∀ p, p < lk_np h m → mm_q h (qm m + 1) p ≤ mm_t h ∧ ∀ m', m' < nM → ¬ mm_q h (qm m + 1) p = qm m' + 2) ∧ ∀ m', m' < nM → ¬ m = m' → ¬ qm m = qm m' ∧ ¬ (mm_a h 87 m = mm_a h 87 m' ∧ mm_a h 88 m = mm_a h 88 m')
theorem rr_mk {ro : mm_Ro} {h : mm_H} {nC nF nM : Nat} {qm : Nat → Nat} {P : Nat → mm_F × Int32} (K : lx_RO ro) (I : mm_SH h) (ht : 123 ≤ mm_t h) (XN : mm_XN h nC nF nM) (MN : mm_MN h nC nF nM) (q8 : ∀ m, m < nM → mm_q h 8 m = qm m) (AS : lx_AS h nC) (u1 : mm_upo (mm_up h)) (u2 : mm_upz (mm_up h)) (AB : lx_AB h nC) (SV : lk_SV h) (F : ∀ f, f < nF → rr_Fd h nC nM qm f) (E : ∀ m, m < nM → rr_Md h nC nF nM qm m) (ML : ∀ m, m < nM → ∃ len, lx_ML h nC nF nM m len) (U : rr_U h nM) (L : rr_L h nC nF nM) (V : rr_V h nC P) (M : rr_M h) : rr ro h := by
  have c := XN.2.2.2
  refine ⟨nC, nF, nM, qm, P, ⟨I, XN, MN, ⟨K, ⟨by omega, by omega⟩, ⟨by omega, fun m hm => ⟨q8 m hm, (E m hm).1⟩⟩, ⟨by omega, fun f hf => ⟨(F f hf).1, (F f hf).2.1⟩⟩, ⟨fun a ha => (F a ha).2.2.1, fun m hm => (E m hm).2.2.1⟩, SV, AS, u1, u2, fun m hm => (E m hm).2.1⟩, fun f hf => (F f hf).2.2.2.1, ML, AB⟩, ⟨ht, fun m hm => (E m hm).2.2.2.1, fun m m' hm hm' e => ?_, fun m p hm hp => (E m hm).2.2.2.2.1 p hp, fun f hf => (F f hf).2.2.2.2, fun m m' hm hm' e1 e2 => ?_⟩, U, L, V, M⟩
  · exact Classical.byContradiction (fun n => ((E m hm).2.2.2.2.2 m' hm' n).1 e)
  · exact Classical.byContradiction (fun n => ((E m hm).2.2.2.2.2 m' hm' n).2 ⟨e1, e2⟩)
theorem rr_F {ro : mm_Ro} {h : mm_H} {nC nF nM : Nat} {qm : Nat → Nat} (T : lx_T ro h nC nF nM qm) (D : rr_D h nF nM qm) : ∀ f, f < nF → rr_Fd h nC nM qm f := by
  intro f hf
  obtain ⟨_, _, _, ⟨_, _, _, FD, SC, _⟩, ow, _⟩ := T
  exact ⟨(FD.2 f hf).1, (FD.2 f hf).2, SC.1 f hf, ow f hf, (D.2.2.2.2.1 f hf).1, (D.2.2.2.2.1 f hf).2⟩
theorem rr_E {ro : mm_Ro} {h : mm_H} {nC nF nM : Nat} {qm : Nat → Nat} (T : lx_T ro h nC nF nM qm) (D : rr_D h nF nM qm) : ∀ m, m < nM → rr_Md h nC nF nM qm m := by
  intro m hm
  obtain ⟨_, _, _, ⟨_, _, MS, _, SC, _, _, _, _, MVs⟩, _⟩ := T
  obtain ⟨_, d1, d2, d3, d4, d5⟩ := D
  exact ⟨(MS.2 m hm).2, MVs m hm, SC.2 m hm, d1 m hm, fun p hp => d3 m p hm hp, fun m' hm' n => ⟨fun e => n (d2 m m' hm hm' e), fun e => n (d5 m m' hm hm' e.1 e.2)⟩⟩
/-- a field that stays -/
theorem rr_Fd_x {h h' : mm_H} {nC nC' nM nM' lo hi f : Nat} {qm qm' : Nat → Nat} (x : xc h h' lo hi) (cC : nC ≤ nC') (eq7 : mm_q h' 7 f = mm_q h 7 f) (e6 : mm_a h' 6 f = mm_a h 6 f) (e82 : mm_a h' 82 f = mm_a h 82 f) (e83 : mm_a h' 83 f = mm_a h 83 f) (e84 : mm_a h' 84 f = mm_a h 84 f) (e86 : mm_a h' 86 f = mm_a h 86 f) (o : ¬ (lo ≤ mm_q h 7 f ∧ mm_q h 7 f < hi)) (qq : ∀ m', m' < nM' → (m' < nM ∧ qm' m' = qm m') ∨ mm_t h < qm' m') (E : rr_Fd h nC nM qm f) : rr_Fd h' nC' nM' qm' f := by
  obtain ⟨f1, f2, f3, f4, f5, f6⟩ := E
  unfold rr_Fd
  rw [eq7, e6, e82, e83, e84, e86]
  refine ⟨xc_PL x f5 o f1, f2, by omega, ?_, by have := x.1; omega, fun m' hm' => ?_⟩
  · obtain ⟨D, hD, e⟩ := f4
    exact ⟨D, by omega, e⟩
  · rcases qq m' hm' with ⟨z1, z2⟩ | z
    · rw [z2]; exact f6 m' z1
    · omega
/-- a method that stays -/
theorem rr_Md_x {h h' : mm_H} {nC nC' nF nF' nM nM' lo hi m : Nat} {qm qm' : Nat → Nat} (x : xc h h' lo hi) (cC : nC ≤ nC') (c : rc_M h h' m) (eq : qm' m = qm m) (o : ∀ j, j ≤ 7 → ¬ (lo ≤ qm m + j ∧ qm m + j < hi)) (op : ∀ p, p < lk_np h m → ¬ (lo ≤ mm_q h (qm m + 1) p ∧ mm_q h (qm m + 1) p < hi)) (qq : ∀ m', m' < nM' → (m' < nM ∧ qm' m' = qm m') ∨ mm_t h < qm' m') (nm : ∀ m', m' < nM' → ¬ m = m' → ¬ (mm_a h' 87 m = mm_a h' 87 m' ∧ mm_a h' 88 m = mm_a h' 88 m')) (E : rr_Md h nC nF nM qm m) : rr_Md h' nC' nF' nM' qm' m := by
  obtain ⟨f1, f2, ⟨f3, f4, f5⟩, f6, f7, f8⟩ := E
  have n := rc_np c
  have n3 := f2.2.2.2.1
  unfold rr_Md
  rw [eq, n]
  refine ⟨xc_MO x c f6 o (fun p hp => ⟨(f7 p hp).1, op p hp⟩) f1, rc_MV c f2, ⟨?_, ?_, fun p hp => ?_⟩, by have := x.1; omega, fun p hp => ?_, fun m' hm' z => ⟨?_, nm m' hm' z⟩⟩
  · rw [(c.2.1 3 (by omega)).1]; omega
  · rw [c.1.1]; omega
  · rw [(c.2.1 p (by omega)).1]; have := f5 p hp; omega
  · rw [((x.2.2.2 (qm m + 1) (by have := f1.1; omega) (by omega) (o 1 (by omega)))).2.2]
    refine ⟨by have := (f7 p hp).1; have := x.1; omega, fun m' hm' => ?_⟩
    rcases qq m' hm' with ⟨z1, z2⟩ | z
    · rw [z2]; exact (f7 p hp).2 m' z1
    · have := (f7 p hp).1; omega
  · rcases qq m' hm' with ⟨z1, z2⟩ | z'
    · rw [z2]; exact (f8 m' z1 z).1
    · omega
/-- what changes one method leaves all as it should be -/
theorem rr_set {ro : mm_Ro} {h h' : mm_H} {nC nF nM k : Nat} {qm : Nat → Nat} {P : Nat → mm_F × Int32} (T : lx_T ro h nC nF nM qm) (D : rr_D h nF nM qm) (U : rr_U h nM) (L : rr_L h nC nF nM) (V : rr_V h nC P) (M : rr_M h) (fz : mm_i h 68 2 = 0) (hk : k < nM) (an : mm_an h h') (I : mm_SH h') (x : xc h h' (qm k) (qm k + 8)) (lo2 : ∀ f, mm_i h' f 2 = mm_i h f 2) (lq : mm_q h' 7 = mm_q h 7 ∧ mm_q h' 8 = mm_q h 8) (lo8 : ∀ a, a ≤ 8 → mm_a h' a = mm_a h a) (lo80 : ∀ f, f ≤ 578 → mm_i h' f 80 = mm_i h f 80) (l81 : ∀ a, 81 ≤ a → a ≤ 88 → mm_a h' a = mm_a h a) (rc : ∀ m, m < 10 → ¬ m = k → rc_M h h' m) (sv : ∀ p, p < 4 → (-2 ≤ (mm_a h' 93 (4 * k + p)).toInt ∧ (mm_a h' 93 (4 * k + p)).toInt ≤ 5) ∧ (mm_a h' 96 (4 * k + p) = 0 ∨ mm_a h' 96 (4 * k + p) = 1) ∧ (0 ≤ (mm_a h' 94 (4 * k + p)).toInt ∧ (mm_a h' 94 (4 * k + p)).toInt ≤ 15)) (sc : (mm_a h' 93 (4 * k + 3)).toInt < (nC : Int) ∧ ∀ p, p < lk_np h' k → (mm_a h' 93 (4 * k + p)).toInt < (nC : Int)) (mv : lk_MV h' k) (mo : lx_MO h' (qm k) k) (ml : (∀ a, a < nM → lk_MV h' a) → ∃ len, lx_ML h' nC nF nM k len) (dp : ∀ p, p < lk_np h' k → mm_q h' (qm k + 1) p ≤ mm_t h' ∧ ∀ m', m' < nM → ¬ mm_q h' (qm k + 1) p = qm m' + 2) : rr ro h' := by
  have E := rr_E T D
  have F := rr_F T D
  have ht := D.1
  obtain ⟨_, XN, MN, ⟨K, _, MS, FD, SC, SV, AS, u1, u2, MVs⟩, ow, ML, AB⟩ := T
  have h10 := XN.2.2.2.2.2.2
  have h6 := XN.2.2.2.2.1
  have MEk := (E k hk).1.2.1
  have e81 := l81 81 (by omega) (by omega)
  have eup : mm_up h' = mm_up h := by unfold mm_up; rw [e81]
  have MV' : ∀ a, a < nM → lk_MV h' a := fun a ha => by
    by_cases q : a = k
    · rw [q]; exact mv
    · exact rc_MV (rc a (by omega) q) (MVs a ha)
  have qq : ∀ m', m' < nM → (m' < nM ∧ qm m' = qm m') ∨ mm_t h < qm m' := fun m' hm' => Or.inl ⟨hm', rfl⟩
  have nm : ∀ m, m < nM → ∀ m', m' < nM → ¬ m = m' → ¬ (mm_a h' 87 m = mm_a h' 87 m' ∧ mm_a h' 88 m = mm_a h' 88 m') := fun m hm m' hm' n => by
    rw [l81 87 (by omega) (by omega), l81 88 (by omega) (by omega)]
    exact ((E m hm).2.2.2.2.2 m' hm' n).2
  refine rr_mk (qm := qm) (P := P) (nC := nC) (nF := nF) (nM := nM) K I (by have := x.1; omega) ?_ ?_ ?_ ?_ (by rw [eup]; exact u1) (by rw [eup]; exact u2) ?_ ?_ (fun f hf => ?_) (fun m hm => ?_) (fun m hm => ?_) (fun m h1 h2 => ?_) (rr_L0 fz (lo2 68) (lo8 5 (by omega)) (l81 85 (by omega) (by omega)) h6 L) (rr_V_an an V) (rr_M_an an M)
  · unfold mm_XN; rw [lo2, lo2, lo2]; exact XN
  · unfold mm_MN; rw [lo80 _ (by omega), lo80 _ (by omega), lo80 _ (by omega)]; exact MN
  · rw [lq.2]; exact fun m hm => (MS.2 m hm).1
  · exact ⟨AS.1, by rw [eup, lo8 4 (by omega)]; exact AS.2⟩
  · unfold lx_AB; rw [e81, lo8 3 (by omega)]; exact AB
  · refine ⟨?_, fun p hp => ?_⟩
    · rw [l81 83 (by omega) (by omega), l81 86 (by omega) (by omega), l81 84 (by omega) (by omega)]
      exact SV.1
    · by_cases q : p / 4 = k
      · have e : p = 4 * k + p % 4 := by omega
        rw [e]
        exact sv _ (by omega)
      · have e : p = 4 * (p / 4) + p % 4 := by omega
        obtain ⟨c1, c2, c3⟩ := (rc (p / 4) (by omega) q).2.1 (p % 4) (by omega)
        rw [← e] at c1 c2 c3
        rw [c1, c2, c3]
        exact SV.2 p hp
  · have Ff := F f hf
    exact rr_Fd_x x (Nat.le_refl _) (by rw [lq.1]) (by rw [lo8 6 (by omega)]) (by rw [l81 82 (by omega) (by omega)]) (by rw [l81 83 (by omega) (by omega)]) (by rw [l81 84 (by omega) (by omega)]) (by rw [l81 86 (by omega) (by omega)]) (lx_dp MEk Ff.1.2.1 (Ff.2.2.2.2.2 k hk)) qq Ff
  · by_cases q : m = k
    · rw [q]
      refine ⟨mo, mv, ⟨sc.1, ?_, sc.2⟩, by have := (E k hk).2.2.2.1; have := x.1; omega, dp, fun m' hm' n => ⟨((E k hk).2.2.2.2.2 m' hm' n).1, nm k hk m' hm' n⟩⟩
      rw [l81 87 (by omega) (by omega)]
      exact (E k hk).2.2.1.2.1
    · have Em := E m hm
      refine rr_Md_x (nF := nF) x (Nat.le_refl _) (rc m (by omega) q) rfl (lx_dj Em.1.2.1 MEk (Em.2.2.2.2.2 k hk q).1) (fun p hp => ?_) qq (nm m hm) Em
      have n3 := Em.2.1.2.2.2.1
      have e9 := Em.2.1.2.2.1
      have w := Em.1.2.2.2.1 p (by omega) (by rw [e9, mm_nt (by omega)]; omega)
      exact lx_dp MEk w.2.1 ((Em.2.2.2.2.1 p hp).2 k hk)
  · by_cases q : m = k
    · rw [q]; exact ml MV'
    · obtain ⟨len, z⟩ := ML m hm
      exact ⟨len, rc_ML (rc m (by omega) q) (Nat.le_refl _) (Nat.le_refl _) (Nat.le_refl _) MV' z⟩
  · obtain ⟨⟨c1, c2, c3, c4, c5, c6, c7⟩, cp, cc, cg⟩ := rc m h2 (by omega)
    obtain ⟨⟨y1, y2, y3⟩, ⟨y4, y5⟩, y6, y7⟩ := U m h1 h2
    obtain ⟨_, p2, p3⟩ := cp 3 (by omega)
    refine ⟨⟨c3.trans y1, c5.trans y2, c6.trans y3⟩, ⟨p3.trans y4, p2.trans y5⟩, fun i hi => ⟨(cc i hi).1.trans (y6 i hi).1, (cc i hi).2.trans (y6 i hi).2⟩, fun j hj => ⟨(cg j hj).1.trans (y7 j hj).1, (cg j hj).2.1.trans (y7 j hj).2.1, (cg j hj).2.2.trans (y7 j hj).2.2⟩⟩
/-- a Method whose reference code is the same keeps it -/
theorem rr_MA {ro : mm_Ro} {h : mm_H} {nC nF nM : Nat} {qm : Nat → Nat} (T : lx_T ro h nC nF nM qm) (U : rr_U h nM) : ∃ nl ng : Nat → Nat, mm_MA h (lk_np h) nl ng := by
  have h10 := T.2.1.2.2.2.2.2.2
  have MVs := T.2.2.2.1.2.2.2.2.2.2.2.2.2
  have ML := T.2.2.2.2.2.1
  have z : ∀ m : Nat, ∃ l g : Nat, m < 10 → (mm_a h 89 m = nI (lk_np h m) ∧ lk_np h m ≤ 3) ∧ (mm_a h 91 m = nI l ∧ l ≤ 20) ∧ (mm_a h 92 m = nI g ∧ g ≤ 2) := by
    intro m
    by_cases q : m < nM
    · obtain ⟨len, l1, l2, _, ⟨G, g1, g2⟩, _⟩ := ML m q
      exact ⟨len, G, fun _ => ⟨⟨(MVs m q).2.2.1, (MVs m q).2.2.2.1⟩, ⟨l2, l1⟩, ⟨g2, g1⟩⟩⟩
    · refine ⟨0, 0, fun h1 => ?_⟩
      obtain ⟨⟨y1, y2, y3⟩, _⟩ := U m (by omega) h1
      have n0 : lk_np h m = 0 := by unfold lk_np; rw [y1]; decide
      rw [n0]
      exact ⟨⟨y1.trans rfl, by omega⟩, ⟨y2.trans rfl, by omega⟩, ⟨y3.trans rfl, by omega⟩⟩
  exact ⟨fun m => (z m).choose, fun m => (z m).choose_spec.choose, fun m hm => (z m).choose_spec.choose_spec hm⟩
