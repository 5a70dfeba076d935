theorem mm_prd {n : Nat} (h : n < 1000000) : (nI n - 1).toInt = (n : Int) - 1 := by
  cases n with
  | zero => decide
  | succ n => rw [nI_pred, mm_nt (by omega)]; omega
/-- which numbers are there: classes, fields, methods of the reference -/
def mm_MN (h : mm_H) (nC nF nM : Nat) : Prop := mm_i h 576 80 = nI nC ∧ mm_i h 577 80 = nI nF ∧ mm_i h 578 80 = nI nM ∧ 1 ≤ nC ∧ nC ≤ 6 ∧ nF ≤ 12 ∧ nM ≤ 10
theorem c_Mo_isC {ro : mm_Ro} {d nC nF nM : Nat} {x : Int32} {h : mm_H} {Q : Value → mm_H → Prop} (I : mm_SH h) (V : mm_MN h nC nF nM) (hQ : Q (.int (mm_b (0 ≤ x.toInt ∧ x.toInt < (nC : Int)))) h) : mm_ev ro (d + 2) n_Mo_isClass [.ref 80, .int x] h Q := by
  refine c_Mo_isClass I (mm_qe hQ (mm_b_iff ?_))
  rw [V.1, mm_prd (by have := V.2.2.2.2.1; omega)]
  show _ ↔ (0 : Int) ≤ _ ∧ _
  omega
theorem c_Mo_isM {ro : mm_Ro} {d nC nF nM : Nat} {x : Int32} {h : mm_H} {Q : Value → mm_H → Prop} (I : mm_SH h) (V : mm_MN h nC nF nM) (hQ : Q (.int (mm_b (0 ≤ x.toInt ∧ x.toInt < (nM : Int)))) h) : mm_ev ro (d + 2) n_Mo_isMethod [.ref 80, .int x] h Q := by
  refine mm_ev_in (Z := mm_m_Mo_isMethod) rfl rfl (Nat.le_of_ble_eq_true rfl) rfl ?_
  refine And.intro (k_80 I) (mm_rf V.2.2.1 (And.intro ⟨rfl, trivial⟩ (c_Mo_within I ?_)))
  refine ⟨mm_b01 _, mm_qe hQ (mm_b_iff ?_)⟩
  show _ ↔ (0 : Int) ≤ _ ∧ _ ≤ (nI nM - 1).toInt
  rw [mm_prd (by have := V.2.2.2.2.2.2; omega)]
  omega
/-- a sort and marks of a place for values -/
def mm_sm (nC : Nat) (s w : Int32) : Prop := (s.toInt = -1 ∨ 0 ≤ s.toInt ∧ s.toInt < (nC : Int)) ∧ 0 ≤ w.toInt ∧ w.toInt ≤ 15
theorem mm_m1 {s : Int32} : s = Int32.ofInt (-1) ↔ s.toInt = -1 := by
  constructor
  · intro e; rw [e]; decide
  · intro e; exact Int32.toInt_inj.mp (e.trans (by decide))
theorem c_Mo_says {ro : mm_Ro} {d nC nF nM : Nat} {s w : Int32} {h : mm_H} {Q : Value → mm_H → Prop} (I : mm_SH h) (V : mm_MN h nC nF nM) (hQ : Q (.int (mm_b (mm_sm nC s w))) h) : mm_ev ro (d + 3) n_Mo_says [.ref 80, .int s, .int w] h Q := by
  refine mm_ev_in (Z := mm_m_Mo_says) rfl rfl (Nat.le_of_ble_eq_true rfl) rfl ?_
  have fin : (s.toInt = -1 ∨ 0 ≤ s.toInt ∧ s.toInt < (nC : Int)) → mm_go ro (d + 2) mm_m_Mo_says 13 [.ref 80, .int s, .int w] [] h Q := by
    intro hs
    refine mm_go_from (mm_hM n_Mo_says rfl) (And.intro ⟨rfl, trivial⟩ (c_Mo_within I (And.intro (fun c_20 => mm_go_from (mm_hM n_Mo_says rfl) ?_) (fun c_20 => mm_go_from (mm_hM n_Mo_says rfl) ?_))))
    · have c := mm_b0.mp c_20
      exact ⟨Or.inl rfl, mm_qe hQ (mm_b_f (fun q => c q.2))⟩
    · have c := Classical.not_not.mp (fun z => c_20 (mm_b0.mpr z))
      exact ⟨Or.inr rfl, mm_qe hQ (mm_b_t ⟨hs, c⟩)⟩
  refine And.intro (fun c_2 => fin (Or.inl (mm_m1.mp c_2))) (fun c_2 => ?_)
  refine And.intro ⟨rfl, k_80 I⟩ (c_Mo_isC I V (And.intro (fun c_10 => mm_go_from (mm_hM n_Mo_says rfl) ?_) (fun c_10 => ?_)))
  · have c := mm_b0.mp c_10
    refine ⟨Or.inl rfl, mm_qe hQ (mm_b_f (fun q => ?_))⟩
    rcases q.1 with q1 | q1
    · exact c_2 (mm_m1.mpr q1)
    · exact c q1
  · have c := Classical.not_not.mp (fun z => c_10 (mm_b0.mpr z))
    refine And.intro ⟨rfl, trivial⟩ (c_Mo_within I (And.intro (fun c_20 => mm_go_from (mm_hM n_Mo_says rfl) ?_) (fun c_20 => mm_go_from (mm_hM n_Mo_says rfl) ?_)))
    · have c := mm_b0.mp c_20
      exact ⟨Or.inl rfl, mm_qe hQ (mm_b_f (fun q => c q.2))⟩
    · have c2 := Classical.not_not.mp (fun z => c_20 (mm_b0.mpr z))
      exact ⟨Or.inr rfl, mm_qe hQ (mm_b_t ⟨Or.inr c, c2⟩)⟩
theorem c_Mo_say {ro : mm_Ro} {d p : Nat} {s b w : Int32} {h : mm_H} {Q : Value → mm_H → Prop} (I : mm_SH h) (hp : p < 40) (hb : b = 0 ∨ b = 1) (hQ : Q .null (mm_sa (mm_sa (mm_sa h 93 p s) 96 p b) 94 p w)) : mm_ev ro (d + 1) n_Mo_say [.ref 80, .int (nI p), .int s, .int b, .int w] h Q := by
  refine mm_ev_in (Z := mm_m_Mo_say) rfl rfl (Nat.le_of_ble_eq_true rfl) rfl ?_
  refine And.intro (k_80 I) (mm_rf (r_591 I) (And.intro ⟨k_93 I, mm_inb 40 (n_93 I) (mm_nb hp (by omega))⟩ (And.intro (k_80 I) (mm_rf (r_594 I) (And.intro ⟨k_96 I, mm_inb 40 (n_96 I) (mm_nb hp (by omega)), hb⟩ (And.intro (k_80 I) (mm_rf (r_592 I) (And.intro ⟨k_94 I, mm_inb 40 (n_94 I) (mm_nb hp (by omega))⟩ ?_))))))))
  have e := mm_ncl (n := p) (by omega)
  show Q .null (mm_sa (mm_sa (mm_sa h 93 (nI p).toNatClampNeg s) 96 (nI p).toNatClampNeg b) 94 (nI p).toNatClampNeg w)
  rw [e]
  exact hQ
/-- cls(x) -/
theorem c_Mo_cls {ro : mm_Ro} {d nC nF nM : Nat} {x : Int32} {h : mm_H} {Q : Value → mm_H → Prop} (I : mm_SH h) (V : mm_MN h nC nF nM)
    (q1 : mm_fz h → Q (.int (-3)) h) (q2 : ¬ mm_fz h → ¬ (0 ≤ x.toInt ∧ x.toInt < (nC : Int)) → Q (.int (-1)) h) (q3 : ¬ mm_fz h → (0 ≤ x.toInt ∧ x.toInt < (nC : Int)) → nC = 6 → Q (.int (-2)) h)
    (q4 : ¬ mm_fz h → (0 ≤ x.toInt ∧ x.toInt < (nC : Int)) → nC < 6 → Q (.int (nI nC)) (mm_si (mm_sa h 81 nC x) 576 80 (nI (nC + 1)))) : mm_ev ro (d + 3) n_Mo_cls [.ref 80, .int x] h Q := by
  refine mm_ev_in (Z := mm_m_Mo_cls) rfl rfl (Nat.le_of_ble_eq_true rfl) rfl ?_
  refine And.intro ⟨rfl, k_80 I⟩ (c_Mo_frozen I (And.intro (fun c_4 => mm_go_from (mm_hM n_Mo_cls rfl) ?_) (fun c_4 => q1 (Classical.not_not.mp (fun z => c_4 (mm_b0.mpr z))))))
  have f := mm_b0.mp c_4
  refine And.intro ⟨rfl, k_80 I⟩ (c_Mo_isC I V (And.intro (fun c_15 => mm_go_from (mm_hM n_Mo_cls rfl) ?_) (fun c_15 => ?_)))
  · have b := Classical.not_not.mp (fun z => c_15 (mm_b0.mpr z))
    refine And.intro (k_80 I) (mm_rf V.1 (And.intro (fun c_26 => mm_go_from (mm_hM n_Mo_cls rfl) ?_) (fun c_26 => ?_)))
    · have hn : nC < 6 := by
        rcases Nat.lt_or_ge nC 6 with q | q
        · exact q
        · exact absurd (congrArg nI (show nC = 6 by have := V.2.2.2.2.1; omega)) c_26
      refine And.intro (k_80 I) (mm_rf (r_579 I) (And.intro (k_80 I) (mm_rf V.1 (And.intro ⟨k_81 I, mm_inb 6 (n_81 I) (mm_nb hn (by omega))⟩ (And.intro (k_80 I) (mm_rf V.1 (And.intro (k_80 I) (And.intro (k_80 I) (mm_rf mm_i1 ?_)))))))))
      refine mm_qq (q4 f b hn) ?_ ?_
      · show Value.int (nI nC + 1 - 1) = _
        rw [← nI_succ, nI_pred]
      · show mm_si (mm_sa h 81 (nI nC).toNatClampNeg x) 576 80 (nI nC + 1) = _
        rw [mm_ncl (by omega), ← nI_succ]
    · have c : nI nC = nI 6 := Classical.not_not.mp c_26
      exact q3 f b ((nI_eq (by have := V.2.2.2.2.1; omega) (by omega)).mp c)
  · exact q2 f (mm_b0.mp (Classical.not_not.mp c_15))
