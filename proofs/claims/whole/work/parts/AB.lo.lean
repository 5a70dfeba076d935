/-! load: what it comes to -/
def lk_fine (h : mm_H) (nC nF nM j : Nat) : Prop := ¬ lk_va h nM j ∧ ∃ len Y i, lx_ML h nC nF nM j len ∧ lk_ins h nF j len Y 0 i
def lk_LD (h : mm_H) (nC nF nM c : Nat) (X0 : Nat → mm_F) (m : Nat) (X : Nat → mm_F) : Prop := (∀ j, j < m → mm_a h 87 j = nI c → lk_fine h nC nF nM j) ∧ (((∀ j, j < m → ¬ mm_a h 87 j = nI c) ∧ X = X0) ∨ ∃ j, j < m ∧ mm_a h 87 j = nI c ∧ (∀ i, j < i → i < m → ¬ mm_a h 87 i = nI c) ∧ ∃ len i, lx_ML h nC nF nM j len ∧ lk_ins h nF j len X 0 i)
theorem lk_LD_0 {h : mm_H} {nC nF nM c : Nat} {X0 : Nat → mm_F} : lk_LD h nC nF nM c X0 0 X0 := ⟨fun j hj => by omega, Or.inl ⟨fun j hj => by omega, rfl⟩⟩
theorem lk_LD_skip {h : mm_H} {nC nF nM c m : Nat} {X0 X : Nat → mm_F} (a : lk_LD h nC nF nM c X0 m X) (o : ¬ mm_a h 87 m = nI c) : lk_LD h nC nF nM c X0 (m + 1) X := by
  refine ⟨fun j hj e => ?_, ?_⟩
  · by_cases q : j = m
    · rw [q] at e; exact absurd e o
    · exact a.1 j (by omega) e
  · rcases a.2 with ⟨b1, b2⟩ | ⟨j, j1, j2, j3, j4⟩
    · refine Or.inl ⟨fun j hj => ?_, b2⟩
      by_cases q : j = m
      · rw [q]; exact o
      · exact b1 j (by omega)
    · refine Or.inr ⟨j, by omega, j2, fun i i1 i2 => ?_, j4⟩
      by_cases q : i = m
      · rw [q]; exact o
      · exact j3 i i1 (by omega)
theorem lk_LD_next {h : mm_H} {nC nF nM c m len i : Nat} {X0 X X' : Nat → mm_F} (a : lk_LD h nC nF nM c X0 m X) (o : mm_a h 87 m = nI c) (v : ¬ lk_va h nM m) (L : lx_ML h nC nF nM m len) (n : lk_ins h nF m len X' 0 i) : lk_LD h nC nF nM c X0 (m + 1) X' := by
  refine ⟨fun j hj e => ?_, Or.inr ⟨m, by omega, o, fun i i1 i2 => by omega, len, i, L, n⟩⟩
  by_cases q : j = m
  · rw [q]; exact ⟨v, len, X', i, L, n⟩
  · exact a.1 j (by omega) e
theorem lx_ML_len {h : mm_H} {nC nF nM m len len' : Nat} (a : lx_ML h nC nF nM m len) (b : lx_ML h nC nF nM m len') : len = len' := (nI_eq (by have := a.1; omega) (by have := b.1; omega)).mp (a.2.1.symm.trans b.2.1)
theorem lk_LD_uni {ro : mm_Ro} {h : mm_H} {nC nF nM c m : Nat} {qm : Nat → Nat} {X0 Y0 X Y : Nat → mm_F} (T : lx_T ro h nC nF nM qm) (hm : m ≤ nM) (E : ∀ k, k < 20 → mm_feq (X0 k) (Y0 k)) (a : lk_LD h nC nF nM c X0 m X) (b : lk_LD h nC nF nM c Y0 m Y) : ∀ k, k < 20 → mm_feq (X k) (Y k) := by
  rcases a.2 with ⟨a1, a2⟩ | ⟨j, j1, j2, j3, len, i, L, n⟩
  · rcases b.2 with ⟨_, b2⟩ | ⟨j', j1', j2', _⟩
    · rw [a2, b2]; exact E
    · exact absurd j2' (a1 j' j1')
  · rcases b.2 with ⟨b1, _⟩ | ⟨j', j1', j2', j3', len', i', L', n'⟩
    · exact absurd j2 (b1 j j1)
    · have e : j = j' := by
        rcases Nat.lt_trichotomy j j' with q | q | q
        · exact absurd j2' (j3 j' q j1')
        · exact q
        · exact absurd j2 (j3' j q j1)
      subst e
      have el := lx_ML_len L L'
      subst el
      exact (lk_ins_uni (lx_T_WM T (by omega) L) n n').2.2
def lk_lo (h : mm_H) (nC nF nM c : Nat) (X0 X : Nat → mm_F) (v : Int32) (m i : Nat) : Prop := (v = 0 ∧ lk_LD h nC nF nM c X0 nM X) ∨ (m < nM ∧ mm_a h 87 m = nI c ∧ lk_LD h nC nF nM c X0 m X ∧ lk_va h nM m ∧ v = 10 ∧ i = 31) ∨ (m < nM ∧ mm_a h 87 m = nI c ∧ (∃ X1, lk_LD h nC nF nM c X0 m X1) ∧ ¬ lk_va h nM m ∧ ¬ v = 0 ∧ ∃ len, lx_ML h nC nF nM m len ∧ lk_ins h nF m len X v i)
/-- where load stops, the method is not fine -/
theorem lk_lo_bad {ro : mm_Ro} {h : mm_H} {nC nF nM c m i : Nat} {qm : Nat → Nat} {X0 X : Nat → mm_F} {v : Int32} (T : lx_T ro h nC nF nM qm) (a : lk_lo h nC nF nM c X0 X v m i) (n : ¬ v = 0) : m < nM ∧ mm_a h 87 m = nI c ∧ ¬ lk_fine h nC nF nM m ∧ ∀ j, j < m → mm_a h 87 j = nI c → lk_fine h nC nF nM j := by
  rcases a with ⟨e, _⟩ | ⟨m1, o, ld, va, _⟩ | ⟨m1, o, ⟨X1, ld⟩, va, _, len, L, ins⟩
  · exact absurd e n
  · exact ⟨m1, o, fun f => f.1 va, ld.1⟩
  · refine ⟨m1, o, fun f => ?_, ld.1⟩
    obtain ⟨_, len', Y, i', L', ins'⟩ := f
    have el := lx_ML_len L L'
    subst el
    exact n (lk_ins_uni (lx_T_WM T m1 L) ins ins').1
theorem lk_lo_uni {ro : mm_Ro} {h : mm_H} {nC nF nM c m m' i i' : Nat} {qm : Nat → Nat} {X0 Y0 X Y : Nat → mm_F} {v w : Int32} (T : lx_T ro h nC nF nM qm) (E : ∀ k, k < 20 → mm_feq (X0 k) (Y0 k)) (a : lk_lo h nC nF nM c X0 X v m i) (b : lk_lo h nC nF nM c Y0 Y w m' i') : v = w ∧ lk_pz m v i = lk_pz m' w i' ∧ ∀ k, k < 20 → mm_feq (X k) (Y k) := by
  by_cases v0 : v = 0
  · by_cases w0 : w = 0
    · rcases a with ⟨_, ld⟩ | ⟨_, _, _, _, e, _⟩ | ⟨_, _, _, _, e, _⟩
      · rcases b with ⟨_, ld'⟩ | ⟨_, _, _, _, e, _⟩ | ⟨_, _, _, _, e, _⟩
        · refine ⟨v0.trans w0.symm, ?_, lk_LD_uni T (Nat.le_refl _) E ld ld'⟩
          unfold lk_pz
          rw [if_pos v0, if_pos w0]
        · rw [w0] at e; exact absurd e (by decide)
        · exact absurd w0 e
      · rw [v0] at e; exact absurd e (by decide)
      · exact absurd v0 e
    · obtain ⟨b1, b2, b3, b4⟩ := lk_lo_bad T b w0
      rcases a with ⟨_, ld⟩ | ⟨_, _, _, _, e, _⟩ | ⟨_, _, _, _, e, _⟩
      · exact absurd (ld.1 m' b1 b2) b3
      · rw [v0] at e; exact absurd e (by decide)
      · exact absurd v0 e
  · obtain ⟨a1, a2, a3, a4⟩ := lk_lo_bad T a v0
    by_cases w0 : w = 0
    · rcases b with ⟨_, ld⟩ | ⟨_, _, _, _, e, _⟩ | ⟨_, _, _, _, e, _⟩
      · exact absurd (ld.1 m a1 a2) a3
      · rw [w0] at e; exact absurd e (by decide)
      · exact absurd w0 e
    · obtain ⟨b1, b2, b3, b4⟩ := lk_lo_bad T b w0
      have em : m = m' := by
        rcases Nat.lt_trichotomy m m' with q | q | q
        · exact absurd (b4 m q a2) a3
        · exact q
        · exact absurd (a4 m' q b2) b3
      subst em
      rcases a with ⟨e, _⟩ | ⟨_, _, ld, va, e, ei⟩ | ⟨_, _, ld, va, e, len, L, ins⟩
      · exact absurd e v0
      · rcases b with ⟨e', _⟩ | ⟨_, _, ld', va', e', ei'⟩ | ⟨_, _, ld', va', _⟩
        · exact absurd e' w0
        · have ee : v = w := e.trans e'.symm
          refine ⟨ee, ?_, lk_LD_uni T (by omega) E ld ld'⟩
          rw [ee, ei, ei']
        · exact absurd va va'
      · rcases b with ⟨e', _⟩ | ⟨_, _, ld', va', e', ei'⟩ | ⟨_, _, ld', va', _, len', L', ins'⟩
        · exact absurd e' w0
        · exact absurd va' va
        · have el := lx_ML_len L L'
          subst el
          obtain ⟨u1, u2, u3⟩ := lk_ins_uni (lx_T_WM T a1 L) ins ins'
          exact ⟨u1, by rw [u1, u2], u3⟩
theorem lk_sm_symm {h h' : mm_H} (s : lk_sm h h') : lk_sm h' h := fun k a b c => (s k a b c).symm
theorem lk_fine_sm {h h' : mm_H} {nC nF nM j : Nat} (s : lk_sm h h') (p : lk_fine h nC nF nM j) : lk_fine h' nC nF nM j := by
  obtain ⟨a, len, Y, i, L, n⟩ := p
  exact ⟨fun z => a ((lk_va_sm s).mpr z), len, Y, i, lx_ML_sm s L, lk_ins_sm s n⟩
theorem lk_LD_sm {h h' : mm_H} {nC nF nM c m : Nat} {X0 X : Nat → mm_F} (s : lk_sm h h') (p : lk_LD h nC nF nM c X0 m X) : lk_LD h' nC nF nM c X0 m X := by
  obtain ⟨a, b⟩ := p
  have e := s 87 (by omega) (by omega) (by omega)
  unfold lk_LD
  rw [← e]
  refine ⟨fun j hj o => lk_fine_sm s (a j hj o), ?_⟩
  rcases b with b | ⟨j, j1, j2, j3, len, i, L, n⟩
  · exact Or.inl b
  · exact Or.inr ⟨j, j1, j2, j3, len, i, lx_ML_sm s L, lk_ins_sm s n⟩
theorem lk_lo_sm {h h' : mm_H} {nC nF nM c m i : Nat} {X0 X : Nat → mm_F} {v : Int32} (s : lk_sm h h') (p : lk_lo h nC nF nM c X0 X v m i) : lk_lo h' nC nF nM c X0 X v m i := by
  have e := s 87 (by omega) (by omega) (by omega)
  unfold lk_lo
  rw [← e]
  rcases p with ⟨a, b⟩ | ⟨a1, a2, a3, a4, a5⟩ | ⟨a1, a2, ⟨X1, a3⟩, a4, a5, len, L, n⟩
  · exact Or.inl ⟨a, lk_LD_sm s b⟩
  · exact Or.inr (Or.inl ⟨a1, a2, lk_LD_sm s a3, (lk_va_sm s).mp a4, a5⟩)
  · exact Or.inr (Or.inr ⟨a1, a2, ⟨X1, lk_LD_sm s a3⟩, fun z => a4 ((lk_va_sm s).mpr z), a5, len, lx_ML_sm s L, lk_ins_sm s n⟩)
/-- the reference's frames as they are told -/
def lk_xr (e1 : Int32) (hd : Nat → Int32 × Int32 × Int32) (sv : Nat → mm_V) : Nat → mm_F := if e1.toInt < 0 then (fun _ => (-1, -1, 0, fun _ => (0, -1, 0, 0, -1))) else lk_fr hd sv
theorem lk_xr_n {m : Nat} {hd : Nat → Int32 × Int32 × Int32} {sv : Nat → mm_V} (hm : m < 1000) : lk_xr (nI m) hd sv = lk_fr hd sv := if_neg (by rw [mm_nt (by omega)]; omega)
