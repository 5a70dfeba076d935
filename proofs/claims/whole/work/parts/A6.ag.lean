/-! THE STOCK, for class and reference together; what leaves it as it is -/
def mm_ag (h h' : mm_H) : Prop := mm_k h' = mm_k h ∧ (∀ f a, 124 ≤ a → mm_r h' f a = mm_r h f a) ∧ mm_n h' = mm_n h ∧ mm_q h' = mm_q h ∧ (∀ f a, (a = 2 ∧ ¬ f = 68) ∨ 124 ≤ a → mm_i h' f a = mm_i h f a) ∧ (∀ f, f ≤ 578 → mm_i h' f 80 = mm_i h f 80) ∧ ∀ a, (a ≤ 8 ∧ ¬ a = 5) ∨ (81 ≤ a ∧ a ≤ 101 ∧ ¬ a = 85) ∨ 124 ≤ a → mm_a h' a = mm_a h a
theorem mm_ag_refl {h : mm_H} : mm_ag h h := ⟨rfl, fun _ _ _ => rfl, rfl, rfl, fun _ _ _ => rfl, fun _ _ => rfl, fun _ _ => rfl⟩
theorem mm_ag_trans {h h' h'' : mm_H} (x : mm_ag h h') (y : mm_ag h' h'') : mm_ag h h'' := ⟨y.1.trans x.1, fun f a q => (y.2.1 f a q).trans (x.2.1 f a q), y.2.2.1.trans x.2.2.1, y.2.2.2.1.trans x.2.2.2.1, fun f a q => (y.2.2.2.2.1 f a q).trans (x.2.2.2.2.1 f a q), fun f q => (y.2.2.2.2.2.1 f q).trans (x.2.2.2.2.2.1 f q), fun a q => (y.2.2.2.2.2.2 a q).trans (x.2.2.2.2.2.2 a q)⟩
theorem mm_ag_symm {h h' : mm_H} (x : mm_ag h h') : mm_ag h' h := ⟨x.1.symm, fun f a q => (x.2.1 f a q).symm, x.2.2.1.symm, x.2.2.2.1.symm, fun f a q => (x.2.2.2.2.1 f a q).symm, fun f q => (x.2.2.2.2.2.1 f q).symm, fun a q => (x.2.2.2.2.2.2 a q).symm⟩
theorem mm_ag_sm {h h' : mm_H} (x : mm_ag h h') : lk_sm h h' := fun k k1 k2 k3 => (x.2.2.2.2.2.2 k (Or.inr (Or.inl ⟨k1, k2, k3⟩))).symm
theorem mm_ME_ag {h h' : mm_H} {q : Nat} (x : mm_ag h h') (hq : 124 ≤ q) (E : mm_ME h q) : mm_ME h' q := by
  obtain ⟨k, r, n, _⟩ := x
  unfold mm_ME at E ⊢
  rw [k, n, r _ _ hq, r _ _ hq, r _ _ hq, r _ _ hq, r _ _ hq, r _ _ hq, r _ _ hq]
  exact E
theorem lx_PL_ag {h h' : mm_H} {p : Nat} {s n w : Int32} (x : mm_ag h h') (E : lx_PL h p s n w) : lx_PL h' p s n w := by
  obtain ⟨e1, e2, e3, e4, e5⟩ := E
  obtain ⟨k, r, n, q, i, _⟩ := x
  exact ⟨e1, by rw [k]; exact e2, (i _ _ (Or.inr e1)).trans e3, (i _ _ (Or.inr e1)).trans e4, (i _ _ (Or.inr e1)).trans e5⟩
theorem lx_MO_ag {h h' : mm_H} {q m : Nat} (x : mm_ag h h') (E : lx_MO h q m) : lx_MO h' q m := by
  obtain ⟨e1, e2, e3, e4, e5, e6, e7⟩ := E
  have x' := x
  obtain ⟨k, r, n, qq, i, _, a⟩ := x'
  have s := fun k (k1 : 81 ≤ k) (k2 : k ≤ 101 ∧ ¬ k = 85) => a k (Or.inr (Or.inl ⟨k1, k2.1, k2.2⟩))
  have b := fun k (k1 : 124 ≤ k) => a k (Or.inr (Or.inr k1))
  have j := fun f => i f q (Or.inr e1)
  refine ⟨e1, mm_ME_ag x e1 e2, ?_, fun p h3 hp => ?_, ?_, fun t ht => ?_, fun t ht => ?_⟩
  · rw [j, j, j, j, j, j, j, s 87 (by omega) (by omega), s 88 (by omega) (by omega), s 95 (by omega) (by omega), s 89 (by omega) (by omega), s 90 (by omega) (by omega), s 91 (by omega) (by omega), s 92 (by omega) (by omega)]
    exact e3
  · rw [s 89 (by omega) (by omega)] at hp
    rw [s 93 (by omega) (by omega), s 96 (by omega) (by omega), s 94 (by omega) (by omega), qq]
    exact lx_PL_ag x (e4 p h3 hp)
  · rw [s 93 (by omega) (by omega), s 96 (by omega) (by omega), s 94 (by omega) (by omega)]
    exact lx_PL_ag x e5
  · rw [s 97 (by omega) (by omega), s 98 (by omega) (by omega), b (q + 3) (by omega), b (q + 4) (by omega)]
    exact e6 t ht
  · rw [s 99 (by omega) (by omega), s 100 (by omega) (by omega), s 101 (by omega) (by omega), b (q + 5) (by omega), b (q + 6) (by omega), b (q + 7) (by omega)]
    exact e7 t ht
theorem lx_up_ag {h h' : mm_H} (x : mm_ag h h') : mm_up h' = mm_up h := funext (fun z => by show (mm_a h' 81 z).toInt = (mm_a h 81 z).toInt; rw [x.2.2.2.2.2.2 81 (by omega)])
theorem lk_SV_sm {h h' : mm_H} (s : lk_sm h h') (p : lk_SV h) : lk_SV h' := by
  have q : lk_SV (lk_c h) := p
  rw [lk_c_eq s] at q
  exact q
theorem lk_MV_sm {h h' : mm_H} {m : Nat} (s : lk_sm h h') (p : lk_MV h m) : lk_MV h' m := by
  have q : lk_MV (lk_c h) m := p
  rw [lk_c_eq s] at q
  exact q
theorem lk_GV_sm {h h' : mm_H} {m : Nat} (s : lk_sm h h') (p : lk_GV h m) : lk_GV h' m := by
  have q : lk_GV (lk_c h) m := p
  rw [lk_c_eq s] at q
  exact q
theorem lk_gd_sm {h h' : mm_H} {m i : Nat} (s : lk_sm h h') : lk_gd h m i = lk_gd h' m i := by rw [lk_c_gd, lk_c_eq s, ← lk_c_gd]
theorem lx_SC_sm {h h' : mm_H} {nC nF nM : Nat} (s : lk_sm h h') (p : lx_SC h nC nF nM) : lx_SC h' nC nF nM := by
  have q : lx_SC (lk_c h) nC nF nM := p
  rw [lk_c_eq s] at q
  exact q
theorem lx_IV_sm {h h' : mm_H} {nC nF nM m i : Nat} (s : lk_sm h h') (p : lx_IV h nC nF nM m i) : lx_IV h' nC nF nM m i := by
  have q : lx_IV (lk_c h) nC nF nM m i := p
  rw [lk_c_eq s] at q
  exact q
theorem lk_WM_sm {h h' : mm_H} {m len : Nat} (s : lk_sm h h') (p : lk_WM h m len) : lk_WM h' m len := by
  have q : lk_WM (lk_c h) m len := p
  rw [lk_c_eq s] at q
  exact q
theorem lx_AS_ag {h h' : mm_H} {nC : Nat} (x : mm_ag h h') (p : lx_AS h nC) : lx_AS h' nC := by
  refine ⟨p.1, fun c hc => ?_⟩
  rw [lx_up_ag x, x.2.2.2.2.2.2 4 (by omega)]
  exact p.2 c hc
theorem lx_MS_ag {h h' : mm_H} {nM : Nat} {qm : Nat → Nat} (x : mm_ag h h') (p : lx_MS h nM qm) : lx_MS h' nM qm := by
  refine ⟨p.1, fun m hm => ⟨?_, lx_MO_ag x (p.2 m hm).2⟩⟩
  rw [x.2.2.2.1]
  exact (p.2 m hm).1
theorem lx_FD_ag {h h' : mm_H} {nF : Nat} (x : mm_ag h h') (p : lx_FD h nF) : lx_FD h' nF := by
  refine ⟨p.1, fun f hf => ?_⟩
  have y := x
  obtain ⟨k, r, n, qq, i, _, a⟩ := y
  rw [qq, a 83 (by omega), a 86 (by omega), a 84 (by omega), a 6 (by omega), a 82 (by omega)]
  exact ⟨lx_PL_ag x (p.2 f hf).1, (p.2 f hf).2⟩
theorem lx_W_ag {ro : mm_Ro} {h h' : mm_H} {nC nF nM : Nat} {qm : Nat → Nat} (x : mm_ag h h') (p : lx_W ro h nC nF nM qm) : lx_W ro h' nC nF nM qm := by
  obtain ⟨K, c6, MS, FD, SC, SV, AS, U, Z, MVs⟩ := p
  have s := mm_ag_sm x
  exact ⟨K, c6, lx_MS_ag x MS, lx_FD_ag x FD, lx_SC_sm s SC, lk_SV_sm s SV, lx_AS_ag x AS, by rw [lx_up_ag x]; exact U, by rw [lx_up_ag x]; exact Z, fun m hm => lk_MV_sm s (MVs m hm)⟩
/-- a method of the reference, with its code -/
def lx_ML (h : mm_H) (nC nF nM m : Nat) (len : Nat) : Prop := len ≤ 20 ∧ mm_a h 91 m = nI len ∧ (∀ i, i < len → lx_IV h nC nF nM m i) ∧ lk_GV h m ∧ (∀ i, -1 ≤ lk_gd h m i ∧ lk_gd h m i < 20) ∧ (-1 ≤ (mm_a h 90 m).toInt ∧ (mm_a h 90 m).toInt ≤ 2) ∧ (0 ≤ (mm_a h 88 m).toInt ∧ (mm_a h 88 m).toInt ≤ 5)
theorem lx_ML_sm {h h' : mm_H} {nC nF nM m len : Nat} (s : lk_sm h h') (p : lx_ML h nC nF nM m len) : lx_ML h' nC nF nM m len := by
  have q : lx_ML (lk_c h) nC nF nM m len := p
  rw [lk_c_eq s] at q
  exact q
/-- classes above: of the class and of the reference -/
def lx_AB (h : mm_H) (nC : Nat) : Prop := mm_a h 81 0 = -1 ∧ (∀ c, c < nC → mm_a h 3 c = mm_a h 81 c) ∧ ∀ c, 0 < c → c < nC → ∃ s, s < c ∧ mm_a h 81 c = nI s
def lx_T (ro : mm_Ro) (h : mm_H) (nC nF nM : Nat) (qm : Nat → Nat) : Prop := mm_SH h ∧ mm_XN h nC nF nM ∧ mm_MN h nC nF nM ∧ lx_W ro h nC nF nM qm ∧ (∀ f, f < nF → ∃ D, D < nC ∧ mm_a h 82 f = nI D) ∧ (∀ m, m < nM → ∃ len, lx_ML h nC nF nM m len) ∧ lx_AB h nC
theorem lx_T_ag {ro : mm_Ro} {h h' : mm_H} {nC nF nM : Nat} {qm : Nat → Nat} (x : mm_ag h h') (I : mm_SH h') (p : lx_T ro h nC nF nM qm) : lx_T ro h' nC nF nM qm := by
  obtain ⟨_, XN, MN, W, ow, ML, AB⟩ := p
  have s := mm_ag_sm x
  have y := x
  obtain ⟨k, r, n, qq, i, j, a⟩ := y
  refine ⟨I, ?_, ?_, lx_W_ag x W, fun f hf => ?_, fun m hm => ?_, ?_⟩
  · unfold mm_XN
    rw [i _ _ (Or.inl ⟨rfl, by omega⟩), i _ _ (Or.inl ⟨rfl, by omega⟩), i _ _ (Or.inl ⟨rfl, by omega⟩)]
    exact XN
  · unfold mm_MN
    rw [j _ (by omega), j _ (by omega), j _ (by omega)]
    exact MN
  · rw [a 82 (by omega)]
    exact ow f hf
  · obtain ⟨len, z⟩ := ML m hm
    exact ⟨len, lx_ML_sm s z⟩
  · unfold lx_AB
    rw [a 81 (by omega), a 3 (by omega)]
    exact AB
theorem lx_T_WM {ro : mm_Ro} {h : mm_H} {nC nF nM m len : Nat} {qm : Nat → Nat} (T : lx_T ro h nC nF nM qm) (hm : m < nM) (L : lx_ML h nC nF nM m len) : lk_WM h m len := by
  obtain ⟨_, XN, _, ⟨_, _, _, _, _, SV, _, U, Z, MVs⟩, _⟩ := T
  obtain ⟨l1, l2, l3, l4, l5, _⟩ := L
  exact ⟨(MVs m hm).1, l1, l2, SV, MVs m hm, l4, fun i hi => (l3 i hi).1, l5, U, Z⟩
theorem lx_kd {a : Int32} (h : -1 ≤ a.toInt) : (¬ 0 ≤ a.toInt) ↔ a = -1 := by
  constructor
  · intro z
    refine Int32.toInt_inj.mp ?_
    have e : (-1 : Int32).toInt = -1 := by decide
    omega
  · intro z
    rw [z]
    decide
/-- what looking a method through comes to -/
def lk_ins (h : mm_H) (nF m len : Nat) (X : Nat → mm_F) (v : Int32) (i : Nat) : Prop := (¬ mm_a h 90 m = -1 ∧ (∀ j, j < 20 → (X j).1 = -1) ∧ i = 31 ∧ ((lk_os h m ∧ v = 9) ∨ (¬ lk_os h m ∧ v = 0))) ∨ (mm_a h 90 m = -1 ∧ len = 0 ∧ (∀ j, j < 20 → (X j).1 = -1) ∧ i = 31 ∧ v = 8) ∨ (mm_a h 90 m = -1 ∧ 0 < len ∧ lk_LF h m len X ∧ (∀ j, len ≤ j → j < 20 → (X j).1 = -1) ∧ ((lk_no h nF m len X ∧ i = 31 ∧ v = 0) ∨ (lk_fe h nF m len X i ∧ v = lk_er h nF m len i (X i))))
theorem lk_un20 {X Y : Nat → mm_F} (a : ∀ j, j < 20 → (X j).1 = -1) (b : ∀ j, j < 20 → (Y j).1 = -1) : ∀ j, j < 20 → mm_feq (X j) (Y j) := fun j hj => ⟨(a j hj).trans (b j hj).symm, fun z => by
  rw [a j hj] at z
  exact absurd z (by decide)⟩
theorem lk_ins_uni {h : mm_H} {nF m len i j : Nat} {X Y : Nat → mm_F} {v w : Int32} (W : lk_WM h m len) (a : lk_ins h nF m len X v i) (b : lk_ins h nF m len Y w j) : v = w ∧ i = j ∧ ∀ k, k < 20 → mm_feq (X k) (Y k) := by
  rcases a with ⟨a1, a2, a3, a4⟩ | ⟨a1, a2, a3, a4, a5⟩ | ⟨a1, a2, a3, a4, a5⟩
  · rcases b with ⟨b1, b2, b3, b4⟩ | ⟨b1, _⟩ | ⟨b1, _⟩
    · refine ⟨?_, a3.trans b3.symm, lk_un20 a2 b2⟩
      rcases a4 with ⟨y, e⟩ | ⟨y, e⟩
      · rcases b4 with ⟨_, e'⟩ | ⟨y', _⟩
        · exact e.trans e'.symm
        · exact absurd y y'
      · rcases b4 with ⟨y', _⟩ | ⟨_, e'⟩
        · exact absurd y' y
        · exact e.trans e'.symm
    · exact absurd b1 a1
    · exact absurd b1 a1
  · rcases b with ⟨b1, b2, b3, b4⟩ | ⟨b1, b2, b3, b4, b5⟩ | ⟨b1, b2, _⟩
    · exact absurd a1 b1
    · exact ⟨a5.trans b5.symm, a4.trans b4.symm, lk_un20 a3 b3⟩
    · omega
  · rcases b with ⟨b1, b2, b3, b4⟩ | ⟨b1, b2, b3, b4, b5⟩ | ⟨b1, b2, b3, b4, b5⟩
    · exact absurd a1 b1
    · omega
    · have E := lk_LF_uni W.2.2.2.2.2.2.2.2.1 a3 b3
      have o := fun t ht => (a3.1 t ht).1
      have IV := W.2.2.2.2.2.2.1
      have ff : ∀ k, k < 20 → mm_feq (X k) (Y k) := by
        intro k hk
        by_cases q : k < len
        · exact E k q
        · exact ⟨(a4 k (by omega) hk).trans (b4 k (by omega) hk).symm, fun z => by
            rw [a4 k (by omega) hk] at z
            exact absurd z (by decide)⟩
      rcases a5 with ⟨n, e1, e2⟩ | ⟨f, e⟩
      · rcases b5 with ⟨n', e1', e2'⟩ | ⟨f', e'⟩
        · exact ⟨e2.trans e2'.symm, e1.trans e1'.symm, ff⟩
        · exact absurd (lk_no_eq IV E o n) (fun z => lk_fe_no f' z)
      · rcases b5 with ⟨n', e1', e2'⟩ | ⟨f', e'⟩
        · exact absurd n' (fun z => lk_fe_no (lk_fe_eq IV E o f) z)
        · have ij := lk_fe_uni (lk_fe_eq IV E o f) f'
          refine ⟨?_, ij, ff⟩
          rw [e, e', ← ij, lk_er_eq (IV i f.1) (E i f.1) (o i f.1)]
theorem lk_LF_c {h h' : mm_H} {m len : Nat} {X : Nat → mm_F} (s : lk_sm h h') : lk_LF h m len X ↔ lk_LF h' m len X := ⟨lk_LF_sm s, lk_LF_sm (fun k a b c => (s k a b c).symm)⟩
theorem lk_ins_sm {h h' : mm_H} {nF m len i : Nat} {X : Nat → mm_F} {v : Int32} (s : lk_sm h h') (p : lk_ins h nF m len X v i) : lk_ins h' nF m len X v i := by
  unfold lk_ins at p ⊢
  have n : lk_no h nF m len X ↔ lk_no h' nF m len X := by
    unfold lk_no
    constructor
    · intro z j hj; rw [← lk_er_sm s]; exact z j hj
    · intro z j hj; rw [lk_er_sm s]; exact z j hj
  have f : lk_fe h nF m len X i ↔ lk_fe h' nF m len X i := by
    unfold lk_fe
    constructor
    · rintro ⟨z1, z2, z3, z4⟩
      exact ⟨z1, z2, by rw [← lk_er_sm s]; exact z3, fun j hj => by rw [← lk_er_sm s]; exact z4 j hj⟩
    · rintro ⟨z1, z2, z3, z4⟩
      exact ⟨z1, z2, by rw [lk_er_sm s]; exact z3, fun j hj => by rw [lk_er_sm s]; exact z4 j hj⟩
  rw [← s 90 (by omega) (by omega) (by omega), ← lk_os_sm s, ← propext (lk_LF_c (X := X) (m := m) (len := len) s), ← propext n, ← propext f, ← lk_er_sm s]
  exact p
/-- the error's numbers -/
theorem lk_ins_r {h : mm_H} {nF m len i : Nat} {X : Nat → mm_F} {v : Int32} (p : lk_ins h nF m len X v i) : (v = 0 ∧ i = 31) ∨ (1 ≤ v.toInt ∧ v.toInt ≤ 7 ∧ i < len) ∨ (8 ≤ v.toInt ∧ v.toInt ≤ 9 ∧ i = 31) := by
  rcases p with ⟨_, _, a3, a4⟩ | ⟨_, _, _, a4, a5⟩ | ⟨_, _, _, _, a5⟩
  · rcases a4 with ⟨_, e⟩ | ⟨_, e⟩
    · exact Or.inr (Or.inr ⟨by rw [e]; decide, by rw [e]; decide, a3⟩)
    · exact Or.inl ⟨e, a3⟩
  · exact Or.inr (Or.inr ⟨by rw [a5]; decide, by rw [a5]; decide, a4⟩)
  · rcases a5 with ⟨_, e1, e2⟩ | ⟨f, e⟩
    · exact Or.inl ⟨e2, e1⟩
    · refine Or.inr (Or.inl ?_)
      have n9 := f.2.2.1
      rw [e]
      rcases lk_er_r (h := h) (nF := nF) (m := m) (len := len) (i := i) (φ := X i) with y | y | y | y | y | y | y | y
      case _ => rw [y]; exact ⟨by decide, by decide, f.1⟩
      case _ => rw [y]; exact ⟨by decide, by decide, f.1⟩
      case _ => rw [y]; exact ⟨by decide, by decide, f.1⟩
      case _ => rw [y]; exact ⟨by decide, by decide, f.1⟩
      case _ => rw [y]; exact ⟨by decide, by decide, f.1⟩
      case _ => rw [y]; exact ⟨by decide, by decide, f.1⟩
      case _ => rw [y]; exact ⟨by decide, by decide, f.1⟩
      case _ => exact absurd y n9
