/-! RUNNING: what is known of values, while looked-through code runs -/
def rt (K : mm_H) (nC : Nat) (s : mm_H) (n : Nat) (C : Int) (x : Int32) : Prop := x = 0 ∨ ∃ o c, 0 < o ∧ o ≤ n ∧ x = nI o ∧ c < nC ∧ mm_a s 116 o = nI c ∧ mm_bel (mm_up K) (c : Int) C
def vt (K : mm_H) (nC : Nat) (s : mm_H) (n : Nat) (φ : mm_V) (x : Int32) : Prop := (φ.1 = 2 → x = 0) ∧ ((φ.1 = 3 ∨ φ.1 = 4) → rt K nC s n φ.2.1.toInt x)
def ftb (K : mm_H) (nC : Nat) (s : mm_H) (n : Nat) (g : Nat → mm_V) (B : Nat) (L S : Nat → Int32) : Prop := (∀ v, v < 6 → vt K nC s n (g v) (L v)) ∧ ∀ j, j < B → vt K nC s n (g (6 + j)) (S j) ∧ (¬ (g (6 + j)).2.2.2.2 = -1 → S j = L (g (6 + j)).2.2.2.2.toInt.toNat)
def sg (s : mm_H) (n : Nat) (s' : mm_H) (n' : Nat) : Prop := n ≤ n' ∧ ∀ o, 0 < o → o ≤ n → mm_a s' 116 o = mm_a s 116 o
theorem rt_bel {K s : mm_H} {nC n : Nat} {C D : Int} {x : Int32} (b : mm_bel (mm_up K) C D) (h : rt K nC s n C x) : rt K nC s n D x := by
  rcases h with z | ⟨o, c, z1, z2, z3, z4, z5, z6⟩
  · exact Or.inl z
  · exact Or.inr ⟨o, c, z1, z2, z3, z4, z5, mm_bel_trans z6 b⟩
theorem rt_sg {K s s' : mm_H} {nC n n' : Nat} {C : Int} {x : Int32} (g : sg s n s' n') (h : rt K nC s n C x) : rt K nC s' n' C x := by
  rcases h with z | ⟨o, c, z1, z2, z3, z4, z5, z6⟩
  · exact Or.inl z
  · exact Or.inr ⟨o, c, z1, by have := g.1; omega, z3, z4, (g.2 o z1 z2).trans z5, z6⟩
theorem rt_ob {K s : mm_H} {nC n : Nat} {C : Int} {x : Int32} (h6 : nC ≤ 6) (h : rt K nC s n C x) : rs_ob s n x := by
  rcases h with z | ⟨o, c, z1, z2, z3, z4, z5, z6⟩
  · exact Or.inl z
  · exact Or.inr ⟨o, c, z1, z2, z3, by omega, z5⟩
theorem vt_sg {K s s' : mm_H} {nC n n' : Nat} {φ : mm_V} {x : Int32} (g : sg s n s' n') (h : vt K nC s n φ x) : vt K nC s' n' φ x := ⟨h.1, fun z => rt_sg g (h.2 z)⟩
theorem vt_le {K s : mm_H} {nC n : Nat} {φ ψ : mm_V} {x : Int32} (l : mm_vle (mm_up K) φ ψ) (h : vt K nC s n φ x) : vt K nC s n ψ x := by
  rcases l.1 with z | ⟨z1, z2⟩ | ⟨z1, z2⟩ | ⟨z1, z2, z3⟩
  · exact ⟨fun y => absurd (z.symm.trans y) (by decide), fun y => by rcases y with y | y <;> exact absurd (z.symm.trans y) (by decide)⟩
  · unfold vt
    rw [← z1, ← z2]
    exact h
  · exact ⟨fun y => h.1 z1, fun _ => Or.inl (h.1 z1)⟩
  · exact ⟨fun y => absurd (z2.symm.trans y) (by decide), fun _ => rt_bel z3 (h.2 (Or.inl z1))⟩
theorem vt_any {K s : mm_H} {nC n : Nat} {φ : mm_V} {x : Int32} (h : φ.1 = 0 ∨ φ.1 = 1) : vt K nC s n φ x := by
  refine ⟨fun y => ?_, fun y => ?_⟩
  · rcases h with z | z <;> exact absurd (z.symm.trans y) (by decide)
  · rcases h with z | z <;> rcases y with y | y <;> exact absurd (z.symm.trans y) (by decide)
theorem vt_ref {K s : mm_H} {nC n : Nat} {φ : mm_V} {x : Int32} (k : φ.1 = 3 ∨ φ.1 = 4) (h : rt K nC s n φ.2.1.toInt x) : vt K nC s n φ x := by
  refine ⟨fun y => ?_, fun _ => h⟩
  rcases k with z | z <;> exact absurd (z.symm.trans y) (by decide)
theorem vt_nul {K s : mm_H} {nC n : Nat} {φ : mm_V} : vt K nC s n φ 0 := ⟨fun _ => rfl, fun _ => Or.inl rfl⟩
/-- a place's sort -/
theorem vt_sv {K s : mm_H} {nC n : Nat} {r q w x : Int32} (h : 0 ≤ r.toInt → rt K nC s n r.toInt x) (r1 : -1 ≤ r.toInt) : vt K nC s n (lk_sv r q w) x := by
  unfold lk_sv
  by_cases z : r = -1
  · rw [if_pos z]; exact vt_any (Or.inr rfl)
  · rw [if_neg z]
    have : ¬ r.toInt = -1 := fun y => z (Int32.toInt_inj.mp (by rw [y]; decide))
    exact vt_ref (Or.inl rfl) (h (by omega))
/-- a value that may stand for a reference -/
theorem vt_ir {K s : mm_H} {nC n : Nat} {φ : mm_V} {x : Int32} {C : Int} (r : mm_vr φ) (i : lk_ir (mm_up K) φ C) (h : vt K nC s n φ x) : rt K nC s n C x := by
  rcases i with z | ⟨z1, z2⟩
  · exact Or.inl (h.1 z)
  · refine rt_bel z2 (h.2 ?_)
    have r4 := r.1
    by_cases q : φ.1.toInt = 3
    · exact Or.inl (Int32.toInt_inj.mp (by rw [q]; decide))
    · exact Or.inr (Int32.toInt_inj.mp (by rw [show φ.1.toInt = 4 by omega]; decide))
theorem ftb_le {K s : mm_H} {nC n B : Nat} {g g' : Nat → mm_V} {L S : Nat → Int32} (l : ∀ v, v < 6 + B → mm_vle (mm_up K) (g v) (g' v)) (h : ftb K nC s n g B L S) : ftb K nC s n g' B L S := by
  refine ⟨fun v hv => vt_le (l v (by omega)) (h.1 v hv), fun j hj => ⟨vt_le (l (6 + j) (by omega)) (h.2 j hj).1, fun z => ?_⟩⟩
  rcases (l (6 + j) (by omega)).2.2.2 with y | y
  · exact absurd y z
  · rw [← y] at z ⊢
    exact (h.2 j hj).2 z
theorem ftb_dn {K s : mm_H} {nC n B B' : Nat} {g : Nat → mm_V} {L S : Nat → Int32} (le : B' ≤ B) (h : ftb K nC s n g B L S) : ftb K nC s n g B' L S := ⟨h.1, fun j hj => h.2 j (by omega)⟩
theorem ftb_cg {K s s' : mm_H} {nC n n' B : Nat} {g : Nat → mm_V} {L S L' S' : Nat → Int32} (q : sg s n s' n') (eL : ∀ v, v < 6 → L' v = L v) (eS : ∀ j, j < B → S' j = S j) (r : ∀ j, j < B → mm_vr (g (6 + j))) (h : ftb K nC s n g B L S) : ftb K nC s' n' g B L' S' := by
  refine ⟨fun v hv => by rw [eL v hv]; exact vt_sg q (h.1 v hv), fun j hj => ⟨by rw [eS j hj]; exact vt_sg q (h.2 j hj).1, fun z => ?_⟩⟩
  have w := r j hj
  rw [eS j hj, eL _ (by have := w.2.2.2.2.2; omega)]
  exact (h.2 j hj).2 z
theorem ftb_push {K s : mm_H} {nC n B : Nat} {g : Nat → mm_V} {L S : Nat → Int32} {y : mm_V} (v : vt K nC s n y (S B)) (o : ¬ y.2.2.2.2 = -1 → S B = L y.2.2.2.2.toInt.toNat) (h : ftb K nC s n g B L S) : ftb K nC s n (lk_up g (6 + B) y) (B + 1) L S := by
  refine ⟨fun u hu => by rw [lk_up_f (by omega)]; exact h.1 u hu, fun j hj => ?_⟩
  by_cases q : j = B
  · rw [q, lk_up_t]; exact ⟨v, o⟩
  · rw [lk_up_f (by omega)]; exact h.2 j (by omega)
theorem ftb_loc {K s : mm_H} {nC n B u : Nat} {g : Nat → mm_V} {L S : Nat → Int32} {y : mm_V} (hu : u < 6) (v : vt K nC s n y (L u)) (h : ftb K nC s n g B L S) : ftb K nC s n (lk_up g u y) B L S := by
  refine ⟨fun t ht => ?_, fun j hj => by rw [lk_up_f (by omega)]; exact h.2 j hj⟩
  by_cases q : t = u
  · rw [q, lk_up_t]; exact v
  · rw [lk_up_f q]; exact h.1 t ht
theorem ftb_map {K s : mm_H} {nC n B : Nat} {g g' : Nat → mm_V} {L S : Nat → Int32} (l : ∀ v x, v < 6 + B → vt K nC s n (g v) x → vt K nC s n (g' v) x) (o : ∀ v, v < 6 + B → (g' v).2.2.2.2 = (g v).2.2.2.2) (h : ftb K nC s n g B L S) : ftb K nC s n g' B L S := by
  refine ⟨fun v hv => l v _ (by omega) (h.1 v hv), fun j hj => ⟨l (6 + j) _ (by omega) (h.2 j hj).1, fun z => ?_⟩⟩
  rw [o _ (by omega)] at z ⊢
  exact (h.2 j hj).2 z
theorem vt_dr {K s : mm_H} {nC n : Nat} {φ : mm_V} {x : Int32} (h : vt K nC s n φ x) : vt K nC s n (mm_dr φ) x ∧ (mm_dr φ).2.2.2.2 = φ.2.2.2.2 := by
  unfold mm_dr
  by_cases q : φ.1 = 4
  · rw [if_pos q]; exact ⟨vt_any (Or.inl rfl), rfl⟩
  · rw [if_neg q]; exact ⟨h, rfl⟩
theorem vt_rf {K s : mm_H} {nC n : Nat} {φ : mm_V} {x : Int32} (h : vt K nC s n φ x) : vt K nC s n (lk_rf φ) x ∧ (lk_rf φ).2.2.2.2 = φ.2.2.2.2 := by
  unfold lk_rf
  by_cases q : φ.1 = 4
  · rw [if_pos q]; exact ⟨vt_ref (Or.inl rfl) (h.2 (Or.inr q)), rfl⟩
  · rw [if_neg q]; exact ⟨h, rfl⟩
theorem ftb_st {K s : mm_H} {nC n B a : Nat} {g : Nat → mm_V} {L S L' : Nat → Int32} (ha : a < 6) (r : ∀ j, j < B → mm_vr (g (6 + j))) (x : Int32) (y : mm_V) (vy : vt K nC s n y x) (e1 : L' a = x) (e2 : ∀ v, ¬ v = a → L' v = L v) (h : ftb K nC s n g B L S) : ftb K nC s n (lk_st g a y) B L' S := by
  refine ⟨fun v hv => ?_, fun j hj => ?_⟩
  · unfold lk_st
    by_cases q : v = a
    · rw [if_pos q, q, e1]; exact vy
    · rw [if_neg q, if_neg (by omega), e2 v q]; exact h.1 v hv
  · obtain ⟨h1, h2⟩ := h.2 j hj
    unfold lk_st
    rw [if_neg (by omega)]
    by_cases q : 6 ≤ 6 + j ∧ (g (6 + j)).2.2.2.2 = nI a
    · rw [if_pos q]; exact ⟨h1, fun z => absurd rfl z⟩
    · rw [if_neg q]
      refine ⟨h1, fun z => ?_⟩
      have w := (r j hj).2.2.2.2.2
      have m1 : (-1 : Int32).toInt = -1 := by decide
      have n1 : ¬ (g (6 + j)).2.2.2.2.toInt = -1 := fun y => z (Int32.toInt_inj.mp (by rw [y, m1]))
      rw [e2 _ (fun y => q ⟨by omega, ?_⟩)]
      · exact h2 z
      · rw [← y]; exact mm_nz (by omega) (by omega)
