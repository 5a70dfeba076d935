theorem c_Ga_isLoaded {ro : mm_Ro} {d nC nF nM : Nat} {c : Int32} {h : mm_H} {Q : Value → mm_H → Prop} (I : mm_SH h) (V : mm_XN h nC nF nM) (hQ : Q (.int (mm_b (∃ m, m < nC ∧ c = nI m ∧ mm_a h 5 m ≠ 0))) h) : mm_ev ro (d + 3) n_Ga_isLoaded [.ref 1, .int c] h Q := by
  refine mm_ev_in (Z := mm_m_Ga_isLoaded) rfl rfl (Nat.le_of_ble_eq_true rfl) rfl ?_
  have hC := V.2.2.2.2.1
  refine And.intro (k_1 I) (mm_rf (r_0 I) (And.intro ⟨rfl, k_2 I⟩ (c_St_isClass I V (And.intro (fun c_5 => mm_go_from (mm_hM n_Ga_isLoaded rfl) ?_) (fun c_5 => ?_)))))
  · refine ⟨Or.inl rfl, mm_qe hQ (mm_b_f ?_)⟩
    rintro ⟨m, hm, rfl, -⟩
    exact mm_b0.mp c_5 (mm_nb hm (by omega))
  · obtain ⟨m, hm, rfl⟩ := mm_of (mm_nn c_5)
    have hc : (nI m).toNatClampNeg = m := mm_ncl (by omega)
    refine And.intro (k_1 I) (mm_rf (r_0 I) (And.intro (k_2 I) (mm_rf (r_67 I) (And.intro ⟨k_5 I, mm_inb 6 (n_5 I) (mm_nb (by omega) (by omega))⟩ (mm_rf (congrArg _ hc) (And.intro (fun c_14 => mm_go_from (mm_hM n_Ga_isLoaded rfl) ?_) (fun c_14 => mm_go_from (mm_hM n_Ga_isLoaded rfl) ?_)))))))
    · refine ⟨Or.inl rfl, mm_qe hQ (mm_b_f ?_)⟩
      rintro ⟨m', hm', e, hl⟩
      have e2 := (nI_eq (by omega) (by omega)).mp e
      subst e2
      exact hl c_14
    · exact ⟨Or.inr rfl, mm_qe hQ (mm_b_t ⟨m, hm, rfl, c_14⟩)⟩
theorem c_Ga_input {ro : mm_Ro} {d n : Nat} {v : Int32} {h : mm_H} {Q : Value → mm_H → Prop} (I : mm_SH h) (hn : mm_i h 322 56 = nI n) (h8 : n ≤ 8) (q1 : n = 8 → Q (.int (-2)) h) (q2 : n < 8 → Q (.int (nI (n + 1))) (mm_si (mm_sa h 57 n v) 322 56 (nI (n + 1)))) : mm_ev ro (d + 2) n_Ga_input [.ref 1, .int v] h Q := by
  refine mm_ev_in (Z := mm_m_Ga_input) rfl rfl (Nat.le_of_ble_eq_true rfl) rfl ?_
  refine And.intro (k_1 I) (mm_rf (r_2 I) (And.intro (k_56 I) (mm_rf hn (And.intro (fun c_9 => mm_go_from (mm_hM n_Ga_input rfl) ?_) (fun c_9 => mm_go_from (mm_hM n_Ga_input rfl) (q1 (mm_nee (by omega) (by omega) (mm_no c_9))))))))
  have hlt : n < 8 := mm_nel h8 (by omega) c_9
  refine And.intro (k_1 I) (mm_rf (r_2 I) (And.intro ⟨rfl, k_56 I⟩ ?_))
  refine mm_ev_in (Z := mm_m_Ma_addInput) rfl rfl (Nat.le_of_ble_eq_true rfl) rfl ?_
  refine And.intro (k_56 I) (mm_rf (r_321 I) (And.intro (k_56 I) (mm_rf hn (And.intro ⟨k_57 I, mm_inb 8 (n_57 I) (mm_nb hlt (by omega))⟩ (And.intro (k_56 I) (mm_rf hn (And.intro (k_56 I) (And.intro (k_56 I) (mm_rf mm_i1 ?_)))))))))
  show Q (.int (nI n + 1)) (mm_si (mm_sa h 57 (nI n).toNatClampNeg v) 322 56 (nI n + 1))
  rw [mm_ncl (by omega), ← nI_succ]
  exact q2 hlt
theorem c_Ga_output {ro : mm_Ro} {d n : Nat} {k : Int32} {h : mm_H} {Q : Value → mm_H → Prop} (I : mm_SH h) (hn : mm_i h 327 56 = nI n) (hn2 : n < 1000) (q1 : ∀ j, j < 16 → j < n → k = nI j → Q (.int (mm_a h 58 j)) h) (q2 : ¬ (0 ≤ k.toInt ∧ k.toInt ≤ 15 ∧ k.toInt < (n : Int)) → Q (.int 0) h) : mm_ev ro (d + 2) n_Ga_output [.ref 1, .int k] h Q := by
  refine mm_ev_in (Z := mm_m_Ga_output) rfl rfl (Nat.le_of_ble_eq_true rfl) rfl ?_
  have em : (if Int32.ofInt 16 < nI n then Int32.ofInt 16 else nI n).toInt = if 16 < n then 16 else (n : Int) := by
    have h16 : (Int32.ofInt 16).toInt = 16 := by decide
    by_cases q : 16 < n
    · rw [if_pos (Int32.lt_iff_toInt_lt.mpr (by rw [h16, mm_nt (by omega)]; omega)), if_pos q, h16]
    · rw [if_neg (fun z => by have := Int32.lt_iff_toInt_lt.mp z; rw [h16, mm_nt (by omega)] at this; omega), if_neg q, mm_nt (by omega)]
  refine And.intro (k_1 I) (mm_rf (r_2 I) (And.intro (k_56 I) (mm_rf hn (And.intro (Nat.le_of_ble_eq_true rfl) (And.intro ⟨rfl, trivial⟩ (c_Ga_within I (And.intro (fun c_16 => mm_go_from (mm_hM n_Ga_output rfl) (q2 (fun q => mm_b0.mp c_16 ⟨q.1, ?_⟩))) (fun c_16 => ?_))))))))
  · show k.toInt < (if Int32.ofInt 16 < nI n then Int32.ofInt 16 else nI n).toInt
    rw [em]
    have := q.2
    split <;> omega
  · have b : 0 ≤ k.toInt ∧ k.toInt < (if Int32.ofInt 16 < nI n then Int32.ofInt 16 else nI n).toInt := mm_nn c_16
    rw [em] at b
    have b2 : k.toInt < 16 ∧ k.toInt < (n : Int) := by
      have := b.2
      split at this <;> omega
    obtain ⟨j, hj, rfl⟩ := mm_of (x := k) (N := 16) ⟨b.1, by omega⟩
    have hc : (nI j).toNatClampNeg = j := mm_ncl (by omega)
    have hjn : j < n := by have := b2.2; rw [mm_nt (by omega)] at this; omega
    exact And.intro (k_1 I) (mm_rf (r_2 I) (And.intro (k_56 I) (mm_rf (r_323 I) (And.intro ⟨k_58 I, mm_inb 16 (n_58 I) (mm_nb hj (by omega))⟩ (mm_rf (congrArg _ hc) (mm_go_from (mm_hM n_Ga_output rfl) (q1 j hj hjn rfl)))))))
theorem c_St_isArgument {ro : mm_Ro} {d nC nF nM : Nat} {o a : Int32} {h : mm_H} {Q : Value → mm_H → Prop} (I : mm_SH h) (V : mm_XN h nC nF nM) (ho : 0 ≤ o.toInt ∧ o.toInt ≤ 17) (hQ : Q (.int (mm_b (mm_arg nC nF nM o.toInt a.toInt))) h) : mm_ev ro (d + 3) n_St_isArgument [.ref 2, .int o, .int a] h Q := by
  refine mm_ev_in (Z := mm_m_St_isArgument) rfl rfl (Nat.le_of_ble_eq_true rfl) rfl ?_
  have hC := V.2.2.2.2.1
  have hF := V.2.2.2.2.2.1
  have hM := V.2.2.2.2.2.2
  have ok : ¬ (o.toInt = 2 ∨ o.toInt = 3 ∨ o.toInt = 7 ∨ o.toInt = 12 ∨ o.toInt = 9 ∨ o.toInt = 10 ∨ o.toInt = 11 ∨ (13 ≤ o.toInt ∧ o.toInt ≤ 15)) → mm_go ro (d + 2) mm_m_St_isArgument 107 [.ref 2, .int o, .int a] [] h Q := fun hq => mm_go_from (mm_hM n_St_isArgument rfl) ⟨Or.inr rfl, mm_qe hQ (mm_b_t (by unfold mm_arg; omega))⟩
  have l6 : (o.toInt = 2 ∨ o.toInt = 3) → mm_go ro (d + 2) mm_m_St_isArgument 72 [.ref 2, .int o, .int a] [] h Q := fun hq => mm_go_from (mm_hM n_St_isArgument rfl) (And.intro ⟨rfl, trivial⟩ (c_Ga_within I ⟨mm_b01 _, mm_qe hQ (mm_b_iff (by rw [show ((Int8.ofInt 6).toInt32).toInt = 6 by decide]; unfold mm_arg; omega))⟩))
  have l7 : (o.toInt = 7 ∨ o.toInt = 12) → mm_go ro (d + 2) mm_m_St_isArgument 79 [.ref 2, .int o, .int a] [] h Q := fun hq => mm_go_from (mm_hM n_St_isArgument rfl) (And.intro ⟨rfl, k_2 I⟩ (c_St_isClass I V ⟨mm_b01 _, mm_qe hQ (mm_b_iff (by unfold mm_arg; omega))⟩))
  have l9 : (o.toInt = 9 ∨ o.toInt = 10) → mm_go ro (d + 2) mm_m_St_isArgument 85 [.ref 2, .int o, .int a] [] h Q := fun hq => mm_go_from (mm_hM n_St_isArgument rfl) (And.intro (k_2 I) (mm_rf V.2.1 (And.intro ⟨rfl, trivial⟩ (c_Ga_within I ⟨mm_b01 _, mm_qe hQ (mm_b_iff (by rw [mm_nt (by omega)]; unfold mm_arg; omega))⟩))))
  have l11 : o.toInt = 11 → mm_go ro (d + 2) mm_m_St_isArgument 94 [.ref 2, .int o, .int a] [] h Q := fun hq => mm_go_from (mm_hM n_St_isArgument rfl) (And.intro ⟨rfl, k_2 I⟩ (c_St_isMethod I V ⟨mm_b01 _, mm_qe hQ (mm_b_iff (by unfold mm_arg; omega))⟩))
  have l20 : (13 ≤ o.toInt ∧ o.toInt ≤ 15) → mm_go ro (d + 2) mm_m_St_isArgument 100 [.ref 2, .int o, .int a] [] h Q := fun hq => mm_go_from (mm_hM n_St_isArgument rfl) (And.intro ⟨rfl, trivial⟩ (c_Ga_within I ⟨mm_b01 _, mm_qe hQ (mm_b_iff (by rw [show ((Int8.ofInt 20).toInt32).toInt = 20 by decide]; unfold mm_arg; omega))⟩))
  refine And.intro (fun c => ok (by omega)) (And.intro (Nat.le_of_ble_eq_true rfl) ?_)
  exact ⟨fun c => l6 (Or.inl c), fun c => l6 (Or.inr c), fun c => ok (by have c : o.toInt = 4 := c; omega), fun c => ok (by have c : o.toInt = 5 := c; omega), fun c => ok (by have c : o.toInt = 6 := c; omega), fun c => l7 (Or.inl c), fun c => ok (by have c : o.toInt = 8 := c; omega), fun c => l9 (Or.inl c), fun c => l9 (Or.inr c), fun c => l11 c, fun c => l7 (Or.inr c), fun c => l20 (by have c : o.toInt = 13 := c; omega), fun c => l20 (by have c : o.toInt = 14 := c; omega), fun c => l20 (by have c : o.toInt = 15 := c; omega), trivial⟩
/-- how many instructions and guards methods of the class have -/
def mm_XA (h : mm_H) (nM : Nat) (qm nl ng : Nat → Nat) : Prop := ∀ m, m < nM → (mm_i h 521 (qm m) = nI (nl m) ∧ nl m ≤ 20) ∧ (mm_i h 525 (qm m) = nI (ng m) ∧ ng m ≤ 2)
theorem c_Ga_add {ro : mm_Ro} {d nC nF nM : Nat} {qm nl ng : Nat → Nat} {m o a : Int32} {h : mm_H} {Q : Value → mm_H → Prop} (I : mm_SH h) (V : mm_XN h nC nF nM) (E : mm_XM h nM qm) (A : mm_XA h nM qm nl ng)
    (q1 : ¬ mm_i h 68 2 = 0 → Q (.int (-3)) h) (q2 : mm_i h 68 2 = 0 → ¬ ((0 ≤ m.toInt ∧ m.toInt < (nM : Int)) ∧ (0 ≤ o.toInt ∧ o.toInt ≤ 17) ∧ mm_arg nC nF nM o.toInt a.toInt) → Q (.int (-1)) h)
    (q3 : mm_i h 68 2 = 0 → ∀ k, k < nM → m = nI k → (0 ≤ o.toInt ∧ o.toInt ≤ 17) → mm_arg nC nF nM o.toInt a.toInt → nl k = 20 → Q (.int (-2)) h)
    (q4 : mm_i h 68 2 = 0 → ∀ k, k < nM → m = nI k → (0 ≤ o.toInt ∧ o.toInt ≤ 17) → mm_arg nC nF nM o.toInt a.toInt → nl k < 20 → Q (.int (nI (nl k + 1))) (mm_si (mm_sa (mm_sa h (qm k + 3) (nl k) o) (qm k + 4) (nl k) a) 521 (qm k) (nI (nl k + 1)))) : mm_ev ro (d + 4) n_Ga_add [.ref 1, .int m, .int o, .int a] h Q := by
  refine mm_ev_in (Z := mm_m_Ga_add) rfl rfl (Nat.le_of_ble_eq_true rfl) rfl ?_
  have e18 : ∀ z : Int32, (0 ≤ z.toInt ∧ z.toInt < ((Int8.ofInt 18).toInt32).toInt) ↔ (0 ≤ z.toInt ∧ z.toInt ≤ 17) := by
    intro z
    rw [show ((Int8.ofInt 18).toInt32).toInt = 18 by decide]
    omega
  refine And.intro (k_1 I) (mm_rf (r_0 I) (And.intro (k_2 I) (mm_rf rfl (And.intro (fun c_7 => mm_go_from (mm_hM n_Ga_add rfl) ?_) (fun c_7 => q1 c_7)))))
  refine And.intro (k_1 I) (mm_rf (r_0 I) (And.intro ⟨rfl, k_2 I⟩ (c_St_isMethod I V (And.intro (fun c_21 => mm_go_from (mm_hM n_Ga_add rfl) (q2 c_7 (fun q => mm_b0.mp c_21 q.1))) (fun c_21 => ?_)))))
  refine And.intro ⟨rfl, trivial⟩ (c_Ga_within I (And.intro (fun c_30 => mm_go_from (mm_hM n_Ga_add rfl) (q2 c_7 (fun q => mm_b0.mp c_30 ((e18 o).mpr q.2.1)))) (fun c_30 => ?_)))
  have ho := (e18 o).mp (mm_nn c_30)
  refine And.intro (k_1 I) (mm_rf (r_0 I) (And.intro ⟨rfl, k_2 I⟩ (c_St_isArgument I V ho (And.intro (fun c_42 => mm_go_from (mm_hM n_Ga_add rfl) ?_) (fun c_42 => q2 c_7 (fun q => mm_nb0 c_42 q.2.2))))))
  obtain ⟨k, hk, rfl⟩ := mm_of (mm_nn c_21)
  have ha := mm_nn c_42
  obtain ⟨a1, a2, a3⟩ := mm_mth I E V.2.2.2.2.2.2 hk
  have hA := (A k hk).1
  refine And.intro (k_1 I) (mm_rf (r_0 I) (And.intro (k_2 I) (mm_rf (r_73 I) (And.intro a1 (mm_rf a2 (And.intro a3.1.1 (mm_rf hA.1 (And.intro (fun c_65 => mm_go_from (mm_hM n_Ga_add rfl) ?_) (fun c_65 => mm_go_from (mm_hM n_Ga_add rfl) (q3 c_7 k hk rfl ho ha (mm_nee (by omega) (by omega) (mm_no c_65))))))))))))
  have hl : nl k < 20 := mm_nel hA.2 (by omega) c_65
  exact And.intro ⟨rfl, a3.1.1⟩ (c_Me_addInstruction a3 hA.1 hl (q4 c_7 k hk rfl ho ha hl))
