/-! WHAT IS KNOWN OF VALUES: the order BELOW, the lowest that two are both BELOW, values and their order -/
theorem mm_anc_add {up : Nat → Int} {x : Int} (k : Nat) : ∀ j, mm_anc up (k + j) x = mm_anc up j (mm_anc up k x) := by
  intro j
  induction j with
  | zero => rfl
  | succ j ih =>
    show (if mm_anc up (k + j) x < 0 then (-1 : Int) else up (mm_anc up (k + j) x).toNat) = (if mm_anc up j (mm_anc up k x) < 0 then (-1 : Int) else up (mm_anc up j (mm_anc up k x)).toNat)
    rw [ih]
theorem mm_anc_le {up : Nat → Int} (U : mm_upo up) {x : Int} (hx : x < 6) : ∀ k, 0 ≤ mm_anc up k x → mm_anc up k x ≤ x - k := by
  intro k
  induction k with
  | zero => intro _; show x ≤ x - (0 : Nat); omega
  | succ k ih =>
    intro h
    have e : mm_anc up (k + 1) x = if mm_anc up k x < 0 then (-1 : Int) else up (mm_anc up k x).toNat := rfl
    rw [e] at h ⊢
    by_cases q : mm_anc up k x < 0
    · rw [if_pos q] at h; omega
    · rw [if_neg q] at h ⊢
      have h1 := ih (by omega)
      have h2 := U (mm_anc up k x).toNat (by omega)
      omega
theorem mm_bel_refl {up : Nat → Int} {x : Int} (hx : 0 ≤ x) : mm_bel up x x := ⟨hx, 0, rfl⟩
theorem mm_bel_trans {up : Nat → Int} {x y z : Int} (h1 : mm_bel up x y) (h2 : mm_bel up y z) : mm_bel up x z := by
  obtain ⟨_, k, hk⟩ := h1
  obtain ⟨hz, j, hj⟩ := h2
  exact ⟨hz, k + j, by rw [mm_anc_add, hk, hj]⟩
theorem mm_bel_le {up : Nat → Int} (U : mm_upo up) {x y : Int} (hx : x < 6) (h : mm_bel up x y) : y ≤ x := by
  obtain ⟨h0, k, hk⟩ := h
  have := mm_anc_le U hx k (by omega)
  omega
theorem mm_bel_anti {up : Nat → Int} (U : mm_upo up) {x y : Int} (hx : x < 6) (hy : y < 6) (h1 : mm_bel up x y) (h2 : mm_bel up y x) : x = y := by
  have := mm_bel_le U hx h1
  have := mm_bel_le U hy h2
  omega
theorem mm_bel_chain {up : Nat → Int} (U : mm_upo up) {x y z : Int} (hx : x < 6) (h1 : mm_bel up x y) (h2 : mm_bel up x z) (hz : z ≤ y) : mm_bel up y z := by
  obtain ⟨hy0, k, hk⟩ := h1
  obtain ⟨hz0, j, hj⟩ := h2
  rcases Nat.le_total k j with q | q
  · obtain ⟨i, rfl⟩ : ∃ i, j = k + i := ⟨j - k, by omega⟩
    exact ⟨hz0, i, by rw [← hk, ← mm_anc_add, hj]⟩
  · obtain ⟨i, rfl⟩ : ∃ i, k = j + i := ⟨k - j, by omega⟩
    have hb : mm_bel up z y := ⟨hy0, i, by rw [← hj, ← mm_anc_add, hk]⟩
    have hzx : z ≤ x := mm_bel_le U hx ⟨hz0, j, hj⟩
    have := mm_bel_le U (by omega) hb
    have e : y = z := by omega
    rw [e]
    exact mm_bel_refl hz0
/-- all but the first have one above -/
def mm_upz (up : Nat → Int) : Prop := ∀ z, 0 < z → z < 6 → 0 ≤ up z
theorem mm_bel_zero {up : Nat → Int} (U : mm_upo up) (Z : mm_upz up) : ∀ (n : Nat) (x : Int), 0 ≤ x → x < 6 → x ≤ n → mm_bel up x 0 := by
  intro n
  induction n with
  | zero => intro x h0 h6 hn; rw [show x = 0 by omega]; exact mm_bel_refl (by omega)
  | succ n ih =>
    intro x h0 h6 hn
    by_cases q : x = 0
    · rw [q]; exact mm_bel_refl (by omega)
    · have h1 := U x.toNat (by omega)
      have h2 := Z x.toNat (by omega) (by omega)
      refine mm_bel_trans ⟨h2, 1, ?_⟩ (ih (up x.toNat) h2 (by omega) (by omega))
      show (if x < 0 then (-1 : Int) else up x.toNat) = up x.toNat
      rw [if_neg (by omega)]
/-- the lowest that both are BELOW: the highest number -/
def mm_lca (up : Nat → Int) (x y e : Int) : Prop := mm_bel up x e ∧ mm_bel up y e ∧ ∀ z, mm_bel up x z → mm_bel up y z → z ≤ e
theorem mm_lca_bel {up : Nat → Int} (U : mm_upo up) {x y e z : Int} (hx : x < 6) (h : mm_lca up x y e) (h1 : mm_bel up x z) (h2 : mm_bel up y z) : mm_bel up e z := mm_bel_chain U hx h.1 h1 (h.2.2 z h1 h2)
theorem mm_lca_uni {up : Nat → Int} {x y e e' : Int} (h : mm_lca up x y e) (h' : mm_lca up x y e') : e = e' := by
  have := h.2.2 e' h'.1 h'.2.1
  have := h'.2.2 e h.1 h.2.1
  omega
/-- a value: kind, its C, may be null, marks, origin -/
abbrev mm_V : Type := Int32 × Int32 × Int32 × Int32 × Int32
def mm_vr (x : mm_V) : Prop := (0 ≤ x.1.toInt ∧ x.1.toInt ≤ 4) ∧ (x.1.toInt < 3 → x.2.1 = -1) ∧ (3 ≤ x.1.toInt → 0 ≤ x.2.1.toInt ∧ x.2.1.toInt ≤ 5) ∧ (x.2.2.1 = 0 ∨ x.2.2.1 = 1) ∧ (0 ≤ x.2.2.2.1.toInt ∧ x.2.2.2.1.toInt ≤ 15) ∧ (-1 ≤ x.2.2.2.2.toInt ∧ x.2.2.2.2.toInt ≤ 5)
/-- kinds -/
def mm_kle (up : Nat → Int) (k c k' c' : Int32) : Prop := k' = 0 ∨ (k = k' ∧ c = c') ∨ (k = 2 ∧ k' = 3) ∨ (k = 3 ∧ k' = 3 ∧ mm_bel up c.toInt c'.toInt)
def mm_vle (up : Nat → Int) (x y : mm_V) : Prop := mm_kle up x.1 x.2.1 y.1 y.2.1 ∧ (x.2.2.1 = y.2.2.1 ∨ (x.2.2.1 = 0 ∧ y.2.2.1 = 1)) ∧ (x.2.2.2.1 ||| y.2.2.2.1 = y.2.2.2.1) ∧ (y.2.2.2.2 = -1 ∨ x.2.2.2.2 = y.2.2.2.2)
theorem mm_kle_refl {up : Nat → Int} {k c : Int32} : mm_kle up k c k c := Or.inr (Or.inl ⟨rfl, rfl⟩)
theorem mm_vle_refl {up : Nat → Int} {x : mm_V} : mm_vle up x x := ⟨mm_kle_refl, Or.inl rfl, Int32.or_self, Or.inr rfl⟩
theorem mm_d03 : ¬ (0 : Int32) = 3 := by decide
theorem mm_d23 : ¬ (2 : Int32) = 3 := by decide
theorem mm_d20 : ¬ (2 : Int32) = 0 := by decide
theorem mm_kle_trans {up : Nat → Int} {k c k' c' k'' c'' : Int32} (h1 : mm_kle up k c k' c') (h2 : mm_kle up k' c' k'' c'') : mm_kle up k c k'' c'' := by
  rcases h2 with h2 | ⟨rfl, rfl⟩ | ⟨rfl, rfl⟩ | ⟨rfl, rfl, hb⟩
  · exact Or.inl h2
  · exact h1
  · rcases h1 with h1 | ⟨rfl, rfl⟩ | ⟨_, h1⟩ | ⟨_, h1, _⟩
    · exact absurd h1 (by decide)
    · exact Or.inr (Or.inr (Or.inl ⟨rfl, rfl⟩))
    · exact absurd h1 (by decide)
    · exact absurd h1 (by decide)
  · rcases h1 with h1 | ⟨rfl, rfl⟩ | ⟨h1, _⟩ | ⟨h1, _, hb1⟩
    · exact absurd h1 (by decide)
    · exact Or.inr (Or.inr (Or.inr ⟨rfl, rfl, hb⟩))
    · exact Or.inr (Or.inr (Or.inl ⟨h1, rfl⟩))
    · exact Or.inr (Or.inr (Or.inr ⟨h1, rfl, mm_bel_trans hb1 hb⟩))
theorem mm_or_tr {a b c : Int32} (h1 : a ||| b = b) (h2 : b ||| c = c) : a ||| c = c := by rw [← h2, ← Int32.or_assoc, h1]
theorem mm_and_tr {a b c : Int32} (h1 : a &&& b = b) (h2 : b &&& c = c) : a &&& c = c := by rw [← h2, ← Int32.and_assoc, h1]
theorem mm_vle_trans {up : Nat → Int} {x y z : mm_V} (h1 : mm_vle up x y) (h2 : mm_vle up y z) : mm_vle up x z := by
  refine ⟨mm_kle_trans h1.1 h2.1, ?_, mm_or_tr h1.2.2.1 h2.2.2.1, ?_⟩
  · rcases h1.2.1 with a | ⟨a, b⟩
    · rw [a]; exact h2.2.1
    · rcases h2.2.1 with c | ⟨c, d⟩
      · exact Or.inr ⟨a, by rw [← c]; exact b⟩
      · exact Or.inr ⟨a, d⟩
  · rcases h2.2.2.2 with a | a
    · exact Or.inl a
    · rcases h1.2.2.2 with b | b
      · exact Or.inl (by rw [← a]; exact b)
      · exact Or.inr (b.trans a)
theorem mm_kle_anti {up : Nat → Int} (U : mm_upo up) {k c k' c' : Int32} (hc : k.toInt < 3 → c = -1) (hc' : k'.toInt < 3 → c' = -1) (h6 : c.toInt ≤ 5) (h6' : c'.toInt ≤ 5) (h1 : mm_kle up k c k' c') (h2 : mm_kle up k' c' k c) : k = k' ∧ c = c' := by
  have z : (0 : Int32).toInt = 0 := rfl
  rcases h1 with rfl | h1 | ⟨rfl, rfl⟩ | ⟨rfl, rfl, hb⟩
  · rcases h2 with rfl | ⟨rfl, rfl⟩ | ⟨h2, _⟩ | ⟨h2, _⟩
    · exact ⟨rfl, by rw [hc (by decide), hc' (by decide)]⟩
    · exact ⟨rfl, rfl⟩
    · exact absurd h2 (by decide)
    · exact absurd h2 (by decide)
  · exact h1
  · rcases h2 with h2 | ⟨h2, _⟩ | ⟨h2, _⟩ | ⟨_, h2, _⟩ <;> exact absurd h2 (by decide)
  · rcases h2 with h2 | ⟨_, h2⟩ | ⟨h2, _⟩ | ⟨_, _, h2⟩
    · exact absurd h2 (by decide)
    · exact ⟨rfl, h2.symm⟩
    · exact absurd h2 (by decide)
    · exact ⟨rfl, Int32.toInt_inj.mp (mm_bel_anti U (by omega) (by omega) hb h2)⟩
theorem mm_vr_c {x : mm_V} (h : mm_vr x) : x.2.1.toInt ≤ 5 := by
  by_cases q : x.1.toInt < 3
  · rw [h.2.1 q]; decide
  · exact (h.2.2.1 (by omega)).2
theorem mm_vle_anti {up : Nat → Int} (U : mm_upo up) {x y : mm_V} (hx : mm_vr x) (hy : mm_vr y) (h1 : mm_vle up x y) (h2 : mm_vle up y x) : x = y := by
  obtain ⟨e1, e2⟩ := mm_kle_anti U hx.2.1 hy.2.1 (mm_vr_c hx) (mm_vr_c hy) h1.1 h2.1
  have e3 : x.2.2.1 = y.2.2.1 := by
    rcases h1.2.1 with a | ⟨a, b⟩
    · exact a
    · rcases h2.2.1 with c | ⟨c, d⟩
      · exact c.symm
      · exact absurd (b.symm.trans c) (by decide)
  have e4 : x.2.2.2.1 = y.2.2.2.1 := by
    rw [← h1.2.2.1, Int32.or_comm, h2.2.2.1]
  have e5 : x.2.2.2.2 = y.2.2.2.2 := by
    rcases h1.2.2.2 with a | a
    · rcases h2.2.2.2 with b | b
      · rw [a, b]
      · exact b.symm
    · exact a
  obtain ⟨a, b, c, d, e⟩ := x
  obtain ⟨a', b', c', d', e'⟩ := y
  exact Prod.ext e1 (Prod.ext e2 (Prod.ext e3 (Prod.ext e4 e5)))
/-- joined: kinds -/
def mm_kj (up : Nat → Int) (k c l e r z : Int32) : Prop := (k = 3 ∧ l = 3 ∧ r = 3 ∧ mm_lca up c.toInt e.toInt z.toInt) ∨ (k = l ∧ ¬ k = 3 ∧ r = k ∧ z = c) ∨ (k = 2 ∧ l = 3 ∧ r = 3 ∧ z = e) ∨ (k = 3 ∧ l = 2 ∧ r = 3 ∧ z = c) ∨ (¬ k = l ∧ ¬ (k = 2 ∧ l = 3) ∧ ¬ (k = 3 ∧ l = 2) ∧ r = 0 ∧ z = -1)
def mm_vj (up : Nat → Int) (x y r : mm_V) : Prop := mm_kj up x.1 x.2.1 y.1 y.2.1 r.1 r.2.1 ∧ (r.2.2.1 = x.2.2.1 ||| y.2.2.1) ∧ (r.2.2.2.1 = x.2.2.2.1 ||| y.2.2.2.1) ∧ ((x.2.2.2.2 = y.2.2.2.2 ∧ r.2.2.2.2 = x.2.2.2.2) ∨ (¬ x.2.2.2.2 = y.2.2.2.2 ∧ r.2.2.2.2 = -1))
/-- of both the same kind, the same C (RAW) -/
def mm_raw (x y : mm_V) : Prop := x.1 = y.1 → ¬ x.1 = 3 → x.2.1 = y.2.1
theorem mm_kj_up {up : Nat → Int} {k c l e r z : Int32} (hr : k = l → ¬ k = 3 → c = e) (h : mm_kj up k c l e r z) : mm_kle up k c r z ∧ mm_kle up l e r z := by
  rcases h with ⟨rfl, rfl, rfl, hl⟩ | ⟨rfl, h3, rfl, rfl⟩ | ⟨rfl, rfl, rfl, rfl⟩ | ⟨rfl, rfl, rfl, rfl⟩ | ⟨_, _, _, rfl, rfl⟩
  · exact ⟨Or.inr (Or.inr (Or.inr ⟨rfl, rfl, hl.1⟩)), Or.inr (Or.inr (Or.inr ⟨rfl, rfl, hl.2.1⟩))⟩
  · exact ⟨mm_kle_refl, Or.inr (Or.inl ⟨rfl, (hr rfl h3).symm⟩)⟩
  · exact ⟨Or.inr (Or.inr (Or.inl ⟨rfl, rfl⟩)), mm_kle_refl⟩
  · exact ⟨mm_kle_refl, Or.inr (Or.inr (Or.inl ⟨rfl, rfl⟩))⟩
  · exact ⟨Or.inl rfl, Or.inl rfl⟩
theorem mm_kj_least {up : Nat → Int} (U : mm_upo up) {k c l e r z k' c' : Int32} (h6 : c.toInt ≤ 5) (h : mm_kj up k c l e r z) (h1 : mm_kle up k c k' c') (h2 : mm_kle up l e k' c') : mm_kle up r z k' c' := by
  rcases h with ⟨rfl, rfl, rfl, hl⟩ | ⟨rfl, _, rfl, rfl⟩ | ⟨rfl, rfl, rfl, rfl⟩ | ⟨rfl, rfl, rfl, rfl⟩ | ⟨n1, n2, n3, rfl, rfl⟩
  · have hc0 : 0 ≤ c.toInt := by
      have q1 := hl.1.1
      have q2 := mm_bel_le U (by omega) hl.1
      omega
    rcases h1 with h1 | ⟨rfl, rfl⟩ | ⟨h1, _⟩ | ⟨_, rfl, hb⟩
    · exact Or.inl h1
    · rcases h2 with h2 | ⟨_, h2⟩ | ⟨h2, _⟩ | ⟨_, _, hb2⟩
      · exact absurd h2 (by decide)
      · rw [h2] at hl
        exact Or.inr (Or.inr (Or.inr ⟨rfl, rfl, mm_lca_bel U (by omega) hl (mm_bel_refl hc0) (mm_bel_refl hc0)⟩))
      · exact absurd h2 (by decide)
      · exact Or.inr (Or.inr (Or.inr ⟨rfl, rfl, mm_lca_bel U (by omega) hl (mm_bel_refl hc0) hb2⟩))
    · exact absurd h1 (by decide)
    · rcases h2 with h2 | ⟨_, h2⟩ | ⟨h2, _⟩ | ⟨_, _, hb2⟩
      · exact absurd h2 (by decide)
      · rw [← h2] at hb ⊢
        have he : 0 ≤ e.toInt := hb.1
        exact Or.inr (Or.inr (Or.inr ⟨rfl, rfl, mm_lca_bel U (by omega) hl hb (mm_bel_refl he)⟩))
      · exact absurd h2 (by decide)
      · exact Or.inr (Or.inr (Or.inr ⟨rfl, rfl, mm_lca_bel U (by omega) hl hb hb2⟩))
  · exact h1
  · exact h2
  · exact h1
  · rcases h1 with h1 | ⟨rfl, rfl⟩ | ⟨rfl, rfl⟩ | ⟨rfl, rfl, hb⟩
    · exact Or.inl h1
    · rcases h2 with h2 | ⟨rfl, rfl⟩ | ⟨rfl, rfl⟩ | ⟨rfl, rfl, hb2⟩
      · exact Or.inl h2
      · exact absurd rfl n1
      · exact absurd ⟨rfl, rfl⟩ n3
      · exact absurd rfl n1
    · rcases h2 with h2 | ⟨rfl, rfl⟩ | ⟨rfl, _⟩ | ⟨rfl, _, hb2⟩
      · exact absurd h2 (by decide)
      · exact absurd ⟨rfl, rfl⟩ n2
      · exact absurd rfl n1
      · exact absurd ⟨rfl, rfl⟩ n2
    · rcases h2 with h2 | ⟨rfl, rfl⟩ | ⟨rfl, _⟩ | ⟨rfl, _, hb2⟩
      · exact absurd h2 (by decide)
      · exact absurd rfl n1
      · exact absurd ⟨rfl, rfl⟩ n3
      · exact absurd rfl n1
theorem mm_n01 {a b : Int32} (ha : a = 0 ∨ a = 1) (hb : b = 0 ∨ b = 1) : a ||| b = 0 ∨ a ||| b = 1 := by
  rcases ha with rfl | rfl <;> rcases hb with rfl | rfl <;> decide
theorem mm_vj_up {up : Nat → Int} {x y r : mm_V} (hx : mm_vr x) (hy : mm_vr y) (hr : mm_raw x y) (h : mm_vj up x y r) : mm_vle up x r ∧ mm_vle up y r := by
  obtain ⟨k1, k2⟩ := mm_kj_up hr h.1
  have n1 : ∀ a b : Int32, (a = 0 ∨ a = 1) → (b = 0 ∨ b = 1) → (a = a ||| b ∨ (a = 0 ∧ a ||| b = 1)) ∧ (b = a ||| b ∨ (b = 0 ∧ a ||| b = 1)) := by
    intro a b ha hb
    rcases ha with rfl | rfl <;> rcases hb with rfl | rfl <;> decide
  have n2 := n1 _ _ hx.2.2.2.1 hy.2.2.2.1
  refine ⟨⟨k1, by rw [h.2.1]; exact n2.1, by rw [h.2.2.1, ← Int32.or_assoc, Int32.or_self], ?_⟩, ⟨k2, by rw [h.2.1]; exact n2.2, by rw [h.2.2.1, Int32.or_comm x.2.2.2.1, ← Int32.or_assoc, Int32.or_self], ?_⟩⟩
  · rcases h.2.2.2 with ⟨_, a⟩ | ⟨_, a⟩
    · exact Or.inr a.symm
    · exact Or.inl a
  · rcases h.2.2.2 with ⟨b, a⟩ | ⟨_, a⟩
    · exact Or.inr (by rw [a, b])
    · exact Or.inl a
theorem mm_vj_least {up : Nat → Int} (U : mm_upo up) {x y r z : mm_V} (hx : mm_vr x) (hy : mm_vr y) (h : mm_vj up x y r) (h1 : mm_vle up x z) (h2 : mm_vle up y z) : mm_vle up r z := by
  refine ⟨mm_kj_least U (mm_vr_c hx) h.1 h1.1 h2.1, ?_, ?_, ?_⟩
  · rw [h.2.1]
    rcases h1.2.1 with a | ⟨a, b⟩
    · rcases h2.2.1 with c | ⟨c, d⟩
      · rw [a, c, Int32.or_self]; exact Or.inl rfl
      · rw [a, c, d]; exact Or.inl (by decide)
    · rcases h2.2.1 with c | ⟨c, d⟩
      · rw [a, c, b]; exact Or.inl (by decide)
      · rw [a, c, d]; exact Or.inr (by decide)
  · rw [h.2.2.1, Int32.or_assoc, h2.2.2.1, h1.2.2.1]
  · rcases h.2.2.2 with ⟨b, a⟩ | ⟨b, a⟩
    · rw [a]; exact h1.2.2.2
    · rcases h1.2.2.2 with c | c
      · exact Or.inl c
      · rcases h2.2.2.2 with e | e
        · exact Or.inl e
        · exact absurd (c.trans e.symm) b
