/-! WHAT IS WRONG AT AN INSTRUCTION (9: nothing); the reference: isRef, wrongFor, wrongObject, least, lacks, wrongCall -/
def lk_ir (up : Nat → Int) (x : mm_V) (c : Int) : Prop := x.1 = 2 ∨ (3 ≤ x.1.toInt ∧ mm_bel up x.2.1.toInt c)
noncomputable def lk_e5 (A B C D : Prop) : Int32 := @ite _ A (Classical.propDecidable _) 4 (@ite _ B (Classical.propDecidable _) 5 (@ite _ C (Classical.propDecidable _) 6 (@ite _ D (Classical.propDecidable _) 7 9)))
theorem lk_e4 {A B C D : Prop} (a : A) : lk_e5 A B C D = 4 := if_pos a
theorem lk_e55 {A B C D : Prop} (a : ¬ A) (b : B) : lk_e5 A B C D = 5 := (if_neg a).trans (if_pos b)
theorem lk_e6 {A B C D : Prop} (a : ¬ A) (b : ¬ B) (c : C) : lk_e5 A B C D = 6 := (if_neg a).trans ((if_neg b).trans (if_pos c))
theorem lk_e7 {A B C D : Prop} (a : ¬ A) (b : ¬ B) (c : ¬ C) (d : D) : lk_e5 A B C D = 7 := (if_neg a).trans ((if_neg b).trans ((if_neg c).trans (if_pos d)))
theorem lk_e9 {A B C D : Prop} (a : ¬ A) (b : ¬ B) (c : ¬ C) (d : ¬ D) : lk_e5 A B C D = 9 := (if_neg a).trans ((if_neg b).trans ((if_neg c).trans (if_neg d)))
theorem lk_e5_r {A B C D : Prop} : lk_e5 A B C D = 4 ∨ lk_e5 A B C D = 5 ∨ lk_e5 A B C D = 6 ∨ lk_e5 A B C D = 7 ∨ lk_e5 A B C D = 9 := by
  by_cases a : A
  · exact Or.inl (lk_e4 a)
  · by_cases b : B
    · exact Or.inr (Or.inl (lk_e55 a b))
    · by_cases c : C
      · exact Or.inr (Or.inr (Or.inl (lk_e6 a b c)))
      · by_cases d : D
        · exact Or.inr (Or.inr (Or.inr (Or.inl (lk_e7 a b c d))))
        · exact Or.inr (Or.inr (Or.inr (Or.inr (lk_e9 a b c d))))
/-- a value for a place; a value as an object -/
noncomputable def lk_wf (up : Nat → Int) (x : mm_V) (s n w : Int32) : Int32 := lk_e5 ((s = -1 ∧ ¬ x.1 = 1) ∨ (0 ≤ s.toInt ∧ ¬ lk_ir up x s.toInt)) (0 ≤ s.toInt ∧ x.1 = 4) (0 ≤ s.toInt ∧ ¬ x.2.2.1 = 0 ∧ n = 0) (¬ x.2.2.2.1 &&& (w ^^^ (-1)) = 0)
noncomputable def lk_wb (up : Nat → Int) (x : mm_V) (c raw there clean : Int32) : Int32 := lk_e5 (¬ lk_ir up x c.toInt) (raw = 0 ∧ x.1 = 4) (¬ there = 0 ∧ ¬ x.2.2.1 = 0) (¬ clean = 0 ∧ ¬ x.2.2.2.1 = 0)
theorem c_Mo_isRef {ro : mm_Ro} {d V : Nat} {h0 : mm_H} {e : Int32 × Int32 × Int32} {c : mm_F} {hd : Nat → Int32 × Int32 × Int32} {sv : Nat → mm_V} {x : Int32} {Q : Value → mm_H → Prop} (I : mm_SH h0) (U : mm_upo (mm_up h0)) (hV : V < 10) (vr : mm_vr (c.2.2.2 V)) (hQ : Q (.int (mm_b (lk_ir (mm_up h0) (c.2.2.2 V) x.toInt))) (lk_L h0 e c hd sv)) : mm_ev ro (d + 2) n_Mo_isRef [.ref 80, .int (nI V), .int x] (lk_L h0 e c hd sv) Q := by
  have J : mm_SH (lk_L h0 e c hd sv) := I
  have hB : 0 ≤ (nI V).toInt ∧ (nI V).toInt < ((10 : Nat) : Int) := mm_nb hV (by omega)
  have hc : (nI V).toNatClampNeg = V := mm_ncl (by omega)
  refine mm_ev_in (Z := mm_m_Mo_isRef) rfl rfl (Nat.le_of_ble_eq_true rfl) rfl ?_
  refine And.intro (k_80 J) (mm_rf (r_614 J) (And.intro ⟨k_110 J, mm_inb 10 (n_110 J) hB⟩ (mm_rf (b := (c.2.2.2 V).1) (by rw [hc]; rfl) (And.intro (fun c_7 => mm_go_from (mm_hM n_Mo_isRef rfl) (mm_go_from (mm_hM n_Mo_isRef rfl) ⟨Or.inr rfl, mm_qe hQ (mm_b_t (Or.inl c_7))⟩)) (fun c_7 => ?_)))))
  refine And.intro (k_80 J) (mm_rf (r_614 J) (And.intro ⟨k_110 J, mm_inb 10 (n_110 J) hB⟩ (mm_rf (b := (c.2.2.2 V).1) (by rw [hc]; rfl) (And.intro (fun c_17 => mm_go_from (mm_hM n_Mo_isRef rfl) ⟨Or.inl rfl, mm_qe hQ (mm_b_f ?_)⟩) (fun c_17 => ?_)))))
  · have z : (c.2.2.2 V).1.toInt < 3 := c_17
    rintro (y | y)
    · exact c_7 y
    · omega
  · have z : ¬ (c.2.2.2 V).1.toInt < 3 := c_17
    have rc := vr.2.2.1 (by omega)
    refine And.intro (k_80 J) (mm_rf (r_615 J) (And.intro ⟨k_111 J, mm_inb 10 (n_111 J) hB⟩ (mm_rf (b := (c.2.2.2 V).2.1) (by rw [hc]; rfl) (And.intro ⟨rfl, k_80 J⟩ (c_Mo_isBelow J U (by omega) (And.intro (fun c_31 => mm_go_from (mm_hM n_Mo_isRef rfl) ⟨Or.inl rfl, mm_qe hQ (mm_b_f ?_)⟩) (fun c_31 => mm_go_from (mm_hM n_Mo_isRef rfl) ⟨Or.inr rfl, mm_qe hQ (mm_b_t (Or.inr ⟨by omega, mm_nn c_31⟩))⟩)))))))
    rintro (y | y)
    · exact c_7 y
    · exact mm_b0.mp c_31 y.2
theorem c_Mo_least {ro : mm_Ro} {d : Nat} {h : mm_H} {a b : Int32} {Q : Value → mm_H → Prop} (hQ : Q (.int (if a.toInt < b.toInt then a else b)) h) : mm_ev ro (d + 1) n_Mo_least [.int a, .int b] h Q := by
  refine mm_ev_in (Z := mm_m_Mo_least) rfl rfl (Nat.le_of_ble_eq_true rfl) rfl ?_
  refine And.intro (fun c_2 => mm_go_from (mm_hM n_Mo_least rfl) ?_) (fun c_2 => mm_go_from (mm_hM n_Mo_least rfl) ?_)
  · have z : b.toInt ≤ a.toInt := c_2
    rw [if_neg (by omega)] at hQ
    exact hQ
  · have z : ¬ b.toInt ≤ a.toInt := c_2
    rw [if_pos (by omega)] at hQ
    exact hQ
theorem c_Mo_wrongFor {ro : mm_Ro} {d V : Nat} {h0 : mm_H} {e : Int32 × Int32 × Int32} {c : mm_F} {hd : Nat → Int32 × Int32 × Int32} {sv : Nat → mm_V} {s n w : Int32} {Q : Value → mm_H → Prop} (I : mm_SH h0) (U : mm_upo (mm_up h0)) (hV : V < 10) (vr : mm_vr (c.2.2.2 V)) (hQ : Q (.int (lk_wf (mm_up h0) (c.2.2.2 V) s n w)) (lk_L h0 e c hd sv)) : mm_ev ro (d + 3) n_Mo_wrongFor [.ref 80, .int (nI V), .int s, .int n, .int w] (lk_L h0 e c hd sv) Q := by
  have J : mm_SH (lk_L h0 e c hd sv) := I
  have hB : 0 ≤ (nI V).toInt ∧ (nI V).toInt < ((10 : Nat) : Int) := mm_nb hV (by omega)
  have hc : (nI V).toNatClampNeg = V := mm_ncl (by omega)
  have G := mm_hM n_Mo_wrongFor rfl
  have m1 : (-1 : Int32).toInt = -1 := by decide
  have g66 : ¬ ((s = -1 ∧ ¬ (c.2.2.2 V).1 = 1) ∨ (0 ≤ s.toInt ∧ ¬ lk_ir (mm_up h0) (c.2.2.2 V) s.toInt)) → ¬ (0 ≤ s.toInt ∧ (c.2.2.2 V).1 = 4) → ¬ (0 ≤ s.toInt ∧ ¬ (c.2.2.2 V).2.2.1 = 0 ∧ n = 0) → mm_go ro (d + 2) mm_m_Mo_wrongFor 66 [.ref 80, .int (nI V), .int s, .int n, .int w] [] (lk_L h0 e c hd sv) Q := by
    intro a b c'
    refine mm_go_from G (And.intro (k_80 J) (mm_rf (r_616 J) (And.intro ⟨k_112 J, mm_inb 10 (n_112 J) hB⟩ (mm_rf (b := (c.2.2.2 V).2.2.2.1) (by rw [hc]; rfl) (And.intro (fun c_77 => mm_go_from G (mm_qe hQ (lk_e9 a b c' (fun y => y c_77)))) (fun c_77 => mm_go_from G (mm_qe hQ (lk_e7 a b c' c_77))))))))
  have g46 : ¬ ((s = -1 ∧ ¬ (c.2.2.2 V).1 = 1) ∨ (0 ≤ s.toInt ∧ ¬ lk_ir (mm_up h0) (c.2.2.2 V) s.toInt)) → ¬ (0 ≤ s.toInt ∧ (c.2.2.2 V).1 = 4) → mm_go ro (d + 2) mm_m_Mo_wrongFor 46 [.ref 80, .int (nI V), .int s, .int n, .int w] [] (lk_L h0 e c hd sv) Q := by
    intro a b
    refine mm_go_at 66 G (And.intro (fun c_47 => g66 a b (fun y => ?_)) (fun c_47 => And.intro (k_80 J) (mm_rf (r_618 J) (And.intro ⟨k_114 J, mm_inb 10 (n_114 J) hB⟩ (mm_rf (b := (c.2.2.2 V).2.2.1) (by rw [hc]; rfl) (And.intro (fun c_56 => g66 a b (fun y => y.2.1 c_56)) (fun c_56 => And.intro (fun c_60 => g66 a b (fun y => c_60 y.2.2)) (fun c_60 => mm_qe hQ (lk_e6 a b ⟨?_, c_56, mm_no c_60⟩)))))))))
    · have z : s.toInt < 0 := c_47
      omega
    · have z : ¬ s.toInt < 0 := c_47
      omega
  have g30 : ¬ ((s = -1 ∧ ¬ (c.2.2.2 V).1 = 1) ∨ (0 ≤ s.toInt ∧ ¬ lk_ir (mm_up h0) (c.2.2.2 V) s.toInt)) → mm_go ro (d + 2) mm_m_Mo_wrongFor 30 [.ref 80, .int (nI V), .int s, .int n, .int w] [] (lk_L h0 e c hd sv) Q := by
    intro a
    refine mm_go_at 46 G (And.intro (fun c_31 => g46 a (fun y => ?_)) (fun c_31 => And.intro (k_80 J) (mm_rf (r_614 J) (And.intro ⟨k_110 J, mm_inb 10 (n_110 J) hB⟩ (mm_rf (b := (c.2.2.2 V).1) (by rw [hc]; rfl) (And.intro (fun c_41 => g46 a (fun y => c_41 y.2)) (fun c_41 => mm_qe hQ (lk_e55 a ⟨?_, mm_no c_41⟩))))))))
    · have z : s.toInt < 0 := c_31
      omega
    · have z : ¬ s.toInt < 0 := c_31
      omega
  have g28 : ((s = -1 ∧ ¬ (c.2.2.2 V).1 = 1) ∨ (0 ≤ s.toInt ∧ ¬ lk_ir (mm_up h0) (c.2.2.2 V) s.toInt)) → mm_go ro (d + 2) mm_m_Mo_wrongFor 28 [.ref 80, .int (nI V), .int s, .int n, .int w] [] (lk_L h0 e c hd sv) Q := fun a => mm_go_from G (mm_qe hQ (lk_e4 a))
  have g15 : (s = -1 → (c.2.2.2 V).1 = 1) → mm_go ro (d + 2) mm_m_Mo_wrongFor 15 [.ref 80, .int (nI V), .int s, .int n, .int w] [] (lk_L h0 e c hd sv) Q := by
    intro k
    refine mm_go_at 28 G (And.intro (fun c_16 => g30 ?_) (fun c_16 => And.intro ⟨rfl, k_80 J⟩ (c_Mo_isRef I U hV vr (And.intro (fun c_25 => g30 ?_) (fun c_25 => g28 (Or.inr ⟨?_, mm_nb0 c_25⟩))))))
    · have z : s.toInt < 0 := c_16
      rintro (y | y)
      · exact y.2 (k y.1)
      · omega
    · rintro (y | y)
      · exact y.2 (k y.1)
      · exact y.2 (mm_nn c_25)
    · have z : ¬ s.toInt < 0 := c_16
      omega
  refine mm_ev_at 15 (Z := mm_m_Mo_wrongFor) rfl rfl (Nat.le_of_ble_eq_true rfl) rfl ?_
  refine And.intro (fun c_2 => g15 (fun y => absurd y c_2)) (fun c_2 => ?_)
  refine And.intro (k_80 J) (mm_rf (r_614 J) (And.intro ⟨k_110 J, mm_inb 10 (n_110 J) hB⟩ (mm_rf (b := (c.2.2.2 V).1) (by rw [hc]; rfl) (And.intro (fun c_12 => g28 (Or.inl ⟨mm_no c_2, c_12⟩)) (fun c_12 => g15 (fun _ => mm_no c_12))))))
theorem c_Mo_wrongObject {ro : mm_Ro} {d V : Nat} {h0 : mm_H} {e : Int32 × Int32 × Int32} {c : mm_F} {hd : Nat → Int32 × Int32 × Int32} {sv : Nat → mm_V} {x raw there clean : Int32} {Q : Value → mm_H → Prop} (I : mm_SH h0) (U : mm_upo (mm_up h0)) (hV : V < 10) (vr : mm_vr (c.2.2.2 V)) (hQ : Q (.int (lk_wb (mm_up h0) (c.2.2.2 V) x raw there clean)) (lk_L h0 e c hd sv)) : mm_ev ro (d + 3) n_Mo_wrongObject [.ref 80, .int (nI V), .int x, .int raw, .int there, .int clean] (lk_L h0 e c hd sv) Q := by
  have J : mm_SH (lk_L h0 e c hd sv) := I
  have hB : 0 ≤ (nI V).toInt ∧ (nI V).toInt < ((10 : Nat) : Int) := mm_nb hV (by omega)
  have hc : (nI V).toNatClampNeg = V := mm_ncl (by omega)
  have G := mm_hM n_Mo_wrongObject rfl
  have g44 : ¬ ¬ lk_ir (mm_up h0) (c.2.2.2 V) x.toInt → ¬ (raw = 0 ∧ (c.2.2.2 V).1 = 4) → ¬ (¬ there = 0 ∧ ¬ (c.2.2.2 V).2.2.1 = 0) → mm_go ro (d + 2) mm_m_Mo_wrongObject 44 [.ref 80, .int (nI V), .int x, .int raw, .int there, .int clean] [] (lk_L h0 e c hd sv) Q := by
    intro a b c'
    refine mm_go_from G (And.intro (fun c_46 => mm_go_from G (mm_qe hQ (lk_e9 a b c' (fun y => y.1 c_46)))) (fun c_46 => And.intro (k_80 J) (mm_rf (r_616 J) (And.intro ⟨k_112 J, mm_inb 10 (n_112 J) hB⟩ (mm_rf (b := (c.2.2.2 V).2.2.2.1) (by rw [hc]; rfl) (And.intro (fun c_55 => mm_go_from G (mm_qe hQ (lk_e9 a b c' (fun y => y.2 c_55)))) (fun c_55 => mm_go_from G (mm_qe hQ (lk_e7 a b c' ⟨c_46, c_55⟩)))))))))
  have g27 : ¬ ¬ lk_ir (mm_up h0) (c.2.2.2 V) x.toInt → ¬ (raw = 0 ∧ (c.2.2.2 V).1 = 4) → mm_go ro (d + 2) mm_m_Mo_wrongObject 27 [.ref 80, .int (nI V), .int x, .int raw, .int there, .int clean] [] (lk_L h0 e c hd sv) Q := by
    intro a b
    exact mm_go_at 44 G (And.intro (fun c_29 => g44 a b (fun y => y.1 c_29)) (fun c_29 => And.intro (k_80 J) (mm_rf (r_618 J) (And.intro ⟨k_114 J, mm_inb 10 (n_114 J) hB⟩ (mm_rf (b := (c.2.2.2 V).2.2.1) (by rw [hc]; rfl) (And.intro (fun c_38 => g44 a b (fun y => y.2 c_38)) (fun c_38 => mm_qe hQ (lk_e6 a b ⟨c_29, c_38⟩))))))))
  refine mm_ev_at 27 (Z := mm_m_Mo_wrongObject) rfl rfl (Nat.le_of_ble_eq_true rfl) rfl ?_
  refine And.intro ⟨rfl, k_80 J⟩ (c_Mo_isRef I U hV vr (And.intro (fun c_6 => mm_go_at 27 G ?_) (fun c_6 => mm_qe hQ (lk_e4 (mm_nb0 c_6)))))
  have a : ¬ ¬ lk_ir (mm_up h0) (c.2.2.2 V) x.toInt := fun y => y (mm_nn c_6)
  exact And.intro (fun c_12 => g27 a (fun y => c_12 y.1)) (fun c_12 => And.intro (k_80 J) (mm_rf (r_614 J) (And.intro ⟨k_110 J, mm_inb 10 (n_110 J) hB⟩ (mm_rf (b := (c.2.2.2 V).1) (by rw [hc]; rfl) (And.intro (fun c_22 => g27 a (fun y => c_22 y.2)) (fun c_22 => mm_qe hQ (lk_e55 a ⟨mm_no c_12, mm_no c_22⟩)))))))
/-- a field that must be set is not -/
def lk_la (h : mm_H) (f : Int32) (x : Int) (g : Nat) : Prop := mm_bel (mm_up h) x (mm_a h 82 g).toInt ∧ 0 ≤ (mm_a h 83 g).toInt ∧ mm_a h 86 g = 0 ∧ lk_bt f g
theorem l_Mo_lacks {ro : mm_Ro} {d nF : Nat} {h0 : mm_H} {e : Int32 × Int32 × Int32} {c : mm_F} {hd : Nat → Int32 × Int32 × Int32} {sv : Nat → mm_V} {x : Int32} {Q : Value → mm_H → Prop} (I : mm_SH h0) (U : mm_upo (mm_up h0)) (hF : nF ≤ 12) (eF : mm_i h0 577 80 = nI nF) (hx : x.toInt < 6) (hQ : Q (.int (mm_b (∃ g, g < nF ∧ lk_la h0 c.2.2.1 x.toInt g))) (lk_L h0 e c hd sv)) : ∀ (n g : Nat), g + n = nF → (∀ j, j < g → ¬ lk_la h0 c.2.2.1 x.toInt j) → mm_go ro (d + 1) mm_m_Mo_lacks 2 [.ref 80, .int x, .int (nI g)] [] (lk_L h0 e c hd sv) Q := by
  intro n
  have J : mm_SH (lk_L h0 e c hd sv) := I
  have G := mm_hM n_Mo_lacks rfl
  induction n with
  | zero =>
    intro g hg hj
    refine mm_go_from G (And.intro (k_80 J) (mm_rf (show mm_i (lk_L h0 e c hd sv) 577 80 = nI nF from eF) (And.intro (fun c_7 => mm_go_from G ⟨Or.inl rfl, mm_qe hQ (mm_b_f ?_)⟩) (fun c_7 => ?_))))
    · rintro ⟨j, h1, h2⟩
      exact hj j (by omega) h2
    · have z : ¬ (nI nF).toInt ≤ (nI g).toInt := c_7
      rw [mm_nt (by omega), mm_nt (by omega)] at z
      omega
  | succ n ih =>
    intro g hg hj
    have hB : 0 ≤ (nI g).toInt ∧ (nI g).toInt < ((12 : Nat) : Int) := mm_nb (by omega) (by omega)
    have hc : (nI g).toNatClampNeg = g := mm_ncl (by omega)
    have nx : ¬ lk_la h0 c.2.2.1 x.toInt g → mm_go ro (d + 1) mm_m_Mo_lacks 55 [.ref 80, .int x, .int (nI g)] [] (lk_L h0 e c hd sv) Q := by
      intro ng
      have w := ih (g + 1) (by omega) (fun j h1 => by
        by_cases q : j = g
        · rw [q]; exact ng
        · exact hj j (by omega))
      rw [nI_succ] at w
      exact mm_go_from G w
    refine mm_go_from G (And.intro (k_80 J) (mm_rf (show mm_i (lk_L h0 e c hd sv) 577 80 = nI nF from eF) (And.intro (fun c_7 => ?_) (fun c_7 => ?_))))
    · have z : (nI nF).toInt ≤ (nI g).toInt := c_7
      rw [mm_nt (by omega), mm_nt (by omega)] at z
      omega
    · refine And.intro (k_80 J) (mm_rf (r_580 J) (And.intro ⟨k_82 J, mm_inb 12 (n_82 J) hB⟩ (mm_rf (b := mm_a h0 82 g) (by rw [hc]; rfl) (And.intro ⟨rfl, k_80 J⟩ (c_Mo_isBelow J U hx (And.intro (fun c_21 => nx (fun y => mm_b0.mp c_21 y.1)) (fun c_21 => ?_)))))))
      refine And.intro (k_80 J) (mm_rf (r_581 J) (And.intro ⟨k_83 J, mm_inb 12 (n_83 J) hB⟩ (mm_rf (b := mm_a h0 83 g) (by rw [hc]; rfl) (And.intro (fun c_30 => nx (fun y => ?_)) (fun c_30 => ?_)))))
      · have z : (mm_a h0 83 g).toInt < 0 := c_30
        have := y.2.1
        omega
      · have z : ¬ (mm_a h0 83 g).toInt < 0 := c_30
        refine And.intro (k_80 J) (mm_rf (r_584 J) (And.intro ⟨k_86 J, mm_inb 12 (n_86 J) hB⟩ (mm_rf (b := mm_a h0 86 g) (by rw [hc]; rfl) (And.intro (fun c_39 => nx (fun y => c_39 y.2.2.1)) (fun c_39 => ?_)))))
        refine And.intro (k_80 J) (mm_rf (show mm_i (lk_L h0 e c hd sv) 613 80 = c.2.2.1 from rfl) (And.intro (fun c_50 => nx (fun y => c_50 y.2.2.2)) (fun c_50 => ⟨Or.inr rfl, mm_qe hQ (mm_b_t ⟨g, by omega, mm_nn c_21, by omega, mm_no c_39, mm_no c_50⟩)⟩)))
theorem c_Mo_lacks {ro : mm_Ro} {d nF : Nat} {h0 : mm_H} {e : Int32 × Int32 × Int32} {c : mm_F} {hd : Nat → Int32 × Int32 × Int32} {sv : Nat → mm_V} {x : Int32} {Q : Value → mm_H → Prop} (I : mm_SH h0) (U : mm_upo (mm_up h0)) (hF : nF ≤ 12) (eF : mm_i h0 577 80 = nI nF) (hx : x.toInt < 6) (hQ : Q (.int (mm_b (∃ g, g < nF ∧ lk_la h0 c.2.2.1 x.toInt g))) (lk_L h0 e c hd sv)) : mm_ev ro (d + 2) n_Mo_lacks [.ref 80, .int x] (lk_L h0 e c hd sv) Q := mm_ev_at 2 (Z := mm_m_Mo_lacks) rfl rfl (Nat.le_of_ble_eq_true rfl) rfl (l_Mo_lacks I U hF eF hx hQ nF 0 (by omega) (fun j hj => by omega))
