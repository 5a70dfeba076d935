/-! words for contracts -/
noncomputable def mm_b (P : Prop) : Int32 := @ite _ P (Classical.propDecidable P) 1 0
theorem mm_b_t {P : Prop} (p : P) : mm_b P = 1 := if_pos p
theorem mm_b_f {P : Prop} (p : ¬ P) : mm_b P = 0 := if_neg p
theorem mm_b01 (P : Prop) : mm_b P = 0 ∨ mm_b P = 1 := by
  by_cases p : P
  · exact Or.inr (mm_b_t p)
  · exact Or.inl (mm_b_f p)
theorem mm_b0 {P : Prop} : mm_b P = 0 ↔ ¬ P := by
  by_cases p : P
  · rw [mm_b_t p]; exact ⟨fun q => absurd q (by decide), fun q => absurd p q⟩
  · exact ⟨fun _ => p, fun _ => mm_b_f p⟩
theorem mm_b_iff {P R : Prop} (e : P ↔ R) : mm_b P = mm_b R := by rw [propext e]
/-- what is given is what is owed -/
theorem mm_qe {Q : Value → mm_H → Prop} {x y : Int32} {h : mm_H} (hQ : Q (.int x) h) (e : x = y) : Q (.int y) h := e ▸ hQ
theorem c_Mo_within {ro : mm_Ro} {d : Nat} {x y z : Int32} {h : mm_H} {Q : Value → mm_H → Prop} (I : mm_SH h) (hQ : Q (.int (mm_b (y.toInt ≤ x.toInt ∧ x.toInt ≤ z.toInt))) h) : mm_ev ro (d + 1) n_Mo_within [.int x, .int y, .int z] h Q := by
  refine mm_ev_in (Z := mm_m_Mo_within) rfl rfl (Nat.le_of_ble_eq_true rfl) rfl ?_
  refine And.intro (fun c_2 => mm_go_from (mm_hM n_Mo_within rfl) ?_) (fun c_2 => ?_)
  · exact ⟨Or.inl rfl, mm_qe hQ (mm_b_f (fun q => by have : x.toInt < y.toInt := c_2; omega))⟩
  · refine And.intro (fun c_7 => mm_go_from (mm_hM n_Mo_within rfl) ?_) (fun c_7 => mm_go_from (mm_hM n_Mo_within rfl) ?_)
    · exact ⟨Or.inl rfl, mm_qe hQ (mm_b_f (fun q => by have : z.toInt < x.toInt := c_7; omega))⟩
    · exact ⟨Or.inr rfl, mm_qe hQ (mm_b_t ⟨by have : ¬ x.toInt < y.toInt := c_2; omega, by have : ¬ z.toInt < x.toInt := c_7; omega⟩)⟩
theorem c_Ga_within {ro : mm_Ro} {d : Nat} {x y : Int32} {h : mm_H} {Q : Value → mm_H → Prop} (I : mm_SH h) (hQ : Q (.int (mm_b (0 ≤ x.toInt ∧ x.toInt < y.toInt))) h) : mm_ev ro (d + 1) n_Ga_within [.int x, .int y] h Q := by
  refine mm_ev_in (Z := mm_m_Ga_within) rfl rfl (Nat.le_of_ble_eq_true rfl) rfl ?_
  refine And.intro (fun c_1 => mm_go_from (mm_hM n_Ga_within rfl) ?_) (fun c_1 => ?_)
  · exact ⟨Or.inl rfl, mm_qe hQ (mm_b_f (fun q => by have : x.toInt < 0 := c_1; omega))⟩
  · refine And.intro (fun c_7 => mm_go_from (mm_hM n_Ga_within rfl) ?_) (fun c_7 => mm_go_from (mm_hM n_Ga_within rfl) ?_)
    · exact ⟨Or.inl rfl, mm_qe hQ (mm_b_f (fun q => by have : y.toInt ≤ x.toInt := c_7; omega))⟩
    · exact ⟨Or.inr rfl, mm_qe hQ (mm_b_t ⟨by have : ¬ x.toInt < 0 := c_1; omega, by have : ¬ y.toInt ≤ x.toInt := c_7; omega⟩)⟩
theorem c_Mo_isClass {ro : mm_Ro} {d : Nat} {x : Int32} {h : mm_H} {Q : Value → mm_H → Prop} (I : mm_SH h) (hQ : Q (.int (mm_b ((0 : Int32).toInt ≤ x.toInt ∧ x.toInt ≤ (mm_i h 576 80 - 1).toInt))) h) : mm_ev ro (d + 2) n_Mo_isClass [.ref 80, .int x] h Q := by
  refine mm_ev_in (Z := mm_m_Mo_isClass) rfl rfl (Nat.le_of_ble_eq_true rfl) rfl ?_
  refine And.intro (I.k 80 (by decide)) (mm_rf rfl (And.intro ⟨rfl, trivial⟩ (c_Mo_within I (?_))))
  exact ⟨mm_b01 _, hQ⟩
theorem mm_i1 {h : mm_H} {f a : Nat} {x : Int32} : mm_i (mm_si h f a x) f a = x := if_pos ⟨rfl, rfl⟩
theorem mm_i2 {h : mm_H} {f a g b : Nat} {x : Int32} (hn : g ≠ f ∨ b ≠ a) : mm_i (mm_si h f a x) g b = mm_i h g b := if_neg (fun q => hn.elim (fun z => z q.1) (fun z => z q.2))
theorem mm_a1 {h : mm_H} {a j : Nat} {x : Int32} : mm_a (mm_sa h a j x) a j = x := if_pos ⟨rfl, rfl⟩
theorem mm_a2 {h : mm_H} {a j b i : Nat} {x : Int32} (hn : b ≠ a ∨ i ≠ j) : mm_a (mm_sa h a j x) b i = mm_a h b i := if_neg (fun q => hn.elim (fun z => z q.1) (fun z => z q.2))
theorem mm_r1 {h : mm_H} {f a x : Nat} : mm_r (mm_sr h f a x) f a = x := if_pos ⟨rfl, rfl⟩
theorem mm_r2 {h : mm_H} {f a g b x : Nat} (hn : g ≠ f ∨ b ≠ a) : mm_r (mm_sr h f a x) g b = mm_r h g b := if_neg (fun q => hn.elim (fun z => z q.1) (fun z => z q.2))
theorem mm_q1 {h : mm_H} {a j x : Nat} : mm_q (mm_sq h a j x) a j = x := if_pos ⟨rfl, rfl⟩
theorem mm_q2 {h : mm_H} {a j b i x : Nat} (hn : b ≠ a ∨ i ≠ j) : mm_q (mm_sq h a j x) b i = mm_q h b i := if_neg (fun q => hn.elim (fun z => z q.1) (fun z => z q.2))
theorem mm_nn {P : Prop} (h : ¬ mm_b P = 0) : P := Classical.not_not.mp (fun z => h (mm_b0.mpr z))
theorem mm_nb0 {P : Prop} (h : ¬ ¬ mm_b P = 0) : ¬ P := mm_b0.mp (Classical.not_not.mp h)
