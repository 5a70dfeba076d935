/-- how many parameters, instructions and guards methods have -/
def mm_MA (h : mm_H) (np nl ng : Nat → Nat) : Prop := ∀ m, m < 10 → (mm_a h 89 m = nI (np m) ∧ np m ≤ 3) ∧ (mm_a h 91 m = nI (nl m) ∧ nl m ≤ 20) ∧ (mm_a h 92 m = nI (ng m) ∧ ng m ≤ 2)
theorem mm_lin (k m j : Nat) : nI k * nI m + nI j = nI (k * m + j) := by rw [pk_mul, nI_add]
theorem c_Mo_param {ro : mm_Ro} {d nC nF nM : Nat} {np nl ng : Nat → Nat} {m s b w : Int32} {h : mm_H} {Q : Value → mm_H → Prop} (I : mm_SH h) (V : mm_MN h nC nF nM) (A : mm_MA h np nl ng) (hb : b = 0 ∨ b = 1)
    (q1 : mm_fz h → Q (.int (-3)) h) (q2 : ¬ mm_fz h → ¬ ((0 ≤ m.toInt ∧ m.toInt < (nM : Int)) ∧ mm_sm nC s w) → Q (.int (-1)) h) (q3 : ¬ mm_fz h → ∀ k, k < nM → m = nI k → mm_sm nC s w → np k = 3 → Q (.int (-2)) h)
    (q4 : ¬ mm_fz h → ∀ k, k < nM → m = nI k → mm_sm nC s w → np k < 3 → Q (.int (nI (np k + 1))) (mm_sa (mm_sa (mm_sa (mm_sa h 93 (4 * k + np k) s) 96 (4 * k + np k) b) 94 (4 * k + np k) w) 89 k (nI (np k + 1)))) : mm_ev ro (d + 4) n_Mo_param [.ref 80, .int m, .int s, .int b, .int w] h Q := by
  refine mm_ev_in (Z := mm_m_Mo_param) rfl rfl (Nat.le_of_ble_eq_true rfl) rfl ?_
  have hM := V.2.2.2.2.2.2
  refine And.intro ⟨rfl, k_80 I⟩ (c_Mo_frozen I (And.intro (fun c_4 => mm_go_from (mm_hM n_Mo_param rfl) ?_) (fun c_4 => q1 (mm_nn c_4))))
  have f := mm_b0.mp c_4
  refine And.intro ⟨rfl, k_80 I⟩ (c_Mo_isM I V (And.intro (fun c_15 => mm_go_from (mm_hM n_Mo_param rfl) (q2 f (fun q => mm_b0.mp c_15 q.1))) (fun c_15 => ?_)))
  refine And.intro ⟨rfl, k_80 I⟩ (c_Mo_says I V (And.intro (fun c_25 => mm_go_from (mm_hM n_Mo_param rfl) ?_) (fun c_25 => q2 f (fun q => mm_nb0 c_25 q.2))))
  obtain ⟨k, hk, rfl⟩ := mm_of (mm_nn c_15)
  have h2 := mm_nn c_25
  have hk10 : k < 10 := by omega
  have hc : (nI k).toNatClampNeg = k := mm_ncl (by omega)
  have hB : 0 ≤ (nI k).toInt ∧ (nI k).toInt < ((10 : Nat) : Int) := mm_nb hk10 (by omega)
  have e0 : mm_a h 89 (nI k).toNatClampNeg = nI (np k) := by rw [hc]; exact (A k hk10).1.1
  refine And.intro (k_80 I) (mm_rf (r_587 I) (And.intro ⟨k_89 I, mm_inb 10 (n_89 I) hB⟩ (mm_rf e0 (And.intro (fun c_37 => mm_go_from (mm_hM n_Mo_param rfl) ?_) (fun c_37 => q3 f k hk rfl h2 (mm_nee (by have := (A k hk10).1.2; omega) (by omega) (mm_no c_37)))))))
  have hp : np k < 3 := mm_nel (A k hk10).1.2 (by omega) c_37
  refine And.intro (k_80 I) (mm_rf (r_587 I) (And.intro ⟨k_89 I, mm_inb 10 (n_89 I) hB⟩ (mm_rf e0 (And.intro ⟨rfl, k_80 I⟩ ?_))))
  show mm_ev ro _ n_Mo_say [.ref 80, .int (nI 4 * nI k + nI (np k)), .int s, .int b, .int w] h _
  rw [mm_lin]
  refine c_Mo_say I (by omega) hb (And.intro (k_80 I) (mm_rf (r_587 I) (And.intro ⟨k_89 I, mm_inb 10 (n_89 I) hB⟩ (mm_rf e0 (And.intro ⟨k_89 I, mm_inb 10 (n_89 I) hB⟩ (And.intro (k_80 I) (mm_rf (r_587 I) (And.intro ⟨k_89 I, mm_inb 10 (n_89 I) hB⟩ (mm_rf mm_a1 ?_)))))))))
  refine mm_qq (q4 f k hk rfl h2 hp) ?_ ?_
  · show Value.int (nI (np k) + 1) = _
    rw [← nI_succ]
  · show mm_sa (mm_sa (mm_sa (mm_sa h 93 (4 * k + np k) s) 96 (4 * k + np k) b) 94 (4 * k + np k) w) 89 (nI k).toNatClampNeg (nI (np k) + 1) = _
    rw [hc, ← nI_succ]
theorem mm_m2 {s : Int32} : s = Int32.ofInt (-2) ↔ s.toInt = -2 := by
  constructor
  · intro e; rw [e]; decide
  · intro e; exact Int32.toInt_inj.mp (e.trans (by decide))
theorem c_Mo_result {ro : mm_Ro} {d nC nF nM : Nat} {m s b w : Int32} {h : mm_H} {Q : Value → mm_H → Prop} (I : mm_SH h) (V : mm_MN h nC nF nM) (hb : b = 0 ∨ b = 1)
    (q1 : (mm_fz h ∨ ¬ (0 ≤ m.toInt ∧ m.toInt < (nM : Int)) ∨ ¬ (0 ≤ w.toInt ∧ w.toInt ≤ 15) ∨ ¬ (s.toInt = -2 ∨ mm_sm nC s w)) → Q (.int 0) h)
    (q2 : ¬ mm_fz h → ∀ k, k < nM → m = nI k → (0 ≤ w.toInt ∧ w.toInt ≤ 15) → (s.toInt = -2 ∨ mm_sm nC s w) → Q (.int 1) (mm_sa (mm_sa (mm_sa h 93 (4 * k + 3) s) 96 (4 * k + 3) b) 94 (4 * k + 3) w)) : mm_ev ro (d + 4) n_Mo_result [.ref 80, .int m, .int s, .int b, .int w] h Q := by
  refine mm_ev_in (Z := mm_m_Mo_result) rfl rfl (Nat.le_of_ble_eq_true rfl) rfl ?_
  have hM := V.2.2.2.2.2.2
  refine And.intro ⟨rfl, k_80 I⟩ (c_Mo_frozen I (And.intro (fun c_4 => mm_go_from (mm_hM n_Mo_result rfl) ⟨Or.inl rfl, q1 (Or.inl (mm_nn c_4))⟩) (fun c_4 => ?_)))
  have f := mm_nb0 c_4
  refine And.intro ⟨rfl, k_80 I⟩ (c_Mo_isM I V (And.intro (fun c_12 => mm_go_from (mm_hM n_Mo_result rfl) ⟨Or.inl rfl, q1 (Or.inr (Or.inl (mm_b0.mp c_12)))⟩) (fun c_12 => ?_)))
  refine And.intro ⟨rfl, trivial⟩ (c_Mo_within I (And.intro (fun c_23 => mm_go_from (mm_hM n_Mo_result rfl) ⟨Or.inl rfl, q1 (Or.inr (Or.inr (Or.inl (mm_b0.mp c_23))))⟩) (fun c_23 => ?_)))
  obtain ⟨k, hk, rfl⟩ := mm_of (mm_nn c_12)
  have hw := mm_nn c_23
  have fin : (s.toInt = -2 ∨ mm_sm nC s w) → mm_go ro (d + 3) mm_m_Mo_result 44 [.ref 80, .int (nI k), .int s, .int b, .int w] [] h Q := by
    intro hs
    refine mm_go_from (mm_hM n_Mo_result rfl) (And.intro ⟨rfl, k_80 I⟩ ?_)
    show mm_ev ro _ n_Mo_say [.ref 80, .int (nI 4 * nI k + nI 3), .int s, .int b, .int w] h _
    rw [mm_lin]
    exact c_Mo_say I (by omega) hb ⟨Or.inr rfl, q2 f k hk rfl hw hs⟩
  refine And.intro (fun c_29 => fin (Or.inl (mm_m2.mp c_29))) (fun c_29 => ?_)
  refine And.intro ⟨rfl, k_80 I⟩ (c_Mo_says I V (And.intro (fun c_39 => fin (Or.inr (mm_nn c_39))) (fun c_39 => ⟨Or.inl rfl, q1 (Or.inr (Or.inr (Or.inr (fun q => ?_))))⟩)))
  rcases q with q | q
  · exact c_29 (mm_m2.mpr q)
  · exact mm_nb0 c_39 q
theorem c_Mo_guard {ro : mm_Ro} {d nC nF nM : Nat} {np nl ng : Nat → Nat} {m x y z : Int32} {h : mm_H} {Q : Value → mm_H → Prop} (I : mm_SH h) (V : mm_MN h nC nF nM) (A : mm_MA h np nl ng)
    (q1 : mm_fz h → Q (.int (-3)) h) (q2 : ¬ mm_fz h → ¬ ((0 ≤ m.toInt ∧ m.toInt < (nM : Int)) ∧ (0 ≤ x.toInt ∧ x.toInt ≤ 19) ∧ (x.toInt ≤ y.toInt ∧ y.toInt ≤ 19) ∧ (0 ≤ z.toInt ∧ z.toInt ≤ 19)) → Q (.int (-1)) h)
    (q3 : ¬ mm_fz h → ∀ k, k < nM → m = nI k → ((0 ≤ x.toInt ∧ x.toInt ≤ 19) ∧ (x.toInt ≤ y.toInt ∧ y.toInt ≤ 19) ∧ (0 ≤ z.toInt ∧ z.toInt ≤ 19)) → ng k = 2 → Q (.int (-2)) h)
    (q4 : ¬ mm_fz h → ∀ k, k < nM → m = nI k → ((0 ≤ x.toInt ∧ x.toInt ≤ 19) ∧ (x.toInt ≤ y.toInt ∧ y.toInt ≤ 19) ∧ (0 ≤ z.toInt ∧ z.toInt ≤ 19)) → ng k < 2 → Q (.int (nI (ng k + 1))) (mm_sa (mm_sa (mm_sa (mm_sa h 99 (2 * k + ng k) x) 100 (2 * k + ng k) y) 101 (2 * k + ng k) z) 92 k (nI (ng k + 1)))) : mm_ev ro (d + 3) n_Mo_guard [.ref 80, .int m, .int x, .int y, .int z] h Q := by
  refine mm_ev_in (Z := mm_m_Mo_guard) rfl rfl (Nat.le_of_ble_eq_true rfl) rfl ?_
  have hM := V.2.2.2.2.2.2
  refine And.intro ⟨rfl, k_80 I⟩ (c_Mo_frozen I (And.intro (fun c_4 => mm_go_from (mm_hM n_Mo_guard rfl) ?_) (fun c_4 => q1 (mm_nn c_4))))
  have f := mm_b0.mp c_4
  refine And.intro ⟨rfl, k_80 I⟩ (c_Mo_isM I V (And.intro (fun c_15 => mm_go_from (mm_hM n_Mo_guard rfl) (q2 f (fun q => mm_b0.mp c_15 q.1))) (fun c_15 => ?_)))
  refine And.intro ⟨rfl, trivial⟩ (c_Mo_within I (And.intro (fun c_25 => mm_go_from (mm_hM n_Mo_guard rfl) (q2 f (fun q => mm_b0.mp c_25 q.2.1))) (fun c_25 => ?_)))
  refine And.intro ⟨rfl, trivial⟩ (c_Mo_within I (And.intro (fun c_35 => mm_go_from (mm_hM n_Mo_guard rfl) (q2 f (fun q => mm_b0.mp c_35 q.2.2.1))) (fun c_35 => ?_)))
  refine And.intro ⟨rfl, trivial⟩ (c_Mo_within I (And.intro (fun c_46 => mm_go_from (mm_hM n_Mo_guard rfl) ?_) (fun c_46 => q2 f (fun q => mm_nb0 c_46 q.2.2.2))))
  obtain ⟨k, hk, rfl⟩ := mm_of (mm_nn c_15)
  have hall : (0 ≤ x.toInt ∧ x.toInt ≤ 19) ∧ (x.toInt ≤ y.toInt ∧ y.toInt ≤ 19) ∧ (0 ≤ z.toInt ∧ z.toInt ≤ 19) := ⟨mm_nn c_25, mm_nn c_35, mm_nn c_46⟩
  have hk10 : k < 10 := by omega
  have hc : (nI k).toNatClampNeg = k := mm_ncl (by omega)
  have hB : 0 ≤ (nI k).toInt ∧ (nI k).toInt < ((10 : Nat) : Int) := mm_nb hk10 (by omega)
  have e0 : mm_a h 92 (nI k).toNatClampNeg = nI (ng k) := by rw [hc]; exact (A k hk10).2.2.1
  refine And.intro (k_80 I) (mm_rf (r_590 I) (And.intro ⟨k_92 I, mm_inb 10 (n_92 I) hB⟩ (mm_rf e0 (And.intro (fun c_58 => mm_go_from (mm_hM n_Mo_guard rfl) ?_) (fun c_58 => q3 f k hk rfl hall (mm_nee (by have := (A k hk10).2.2.2; omega) (by omega) (mm_no c_58)))))))
  have hg : ng k < 2 := mm_nel (A k hk10).2.2.2 (by omega) c_58
  have eg : (2 : Int32) * nI k + nI (ng k) = nI (2 * k + ng k) := mm_lin 2 k (ng k)
  have hcg : ((2 : Int32) * nI k + nI (ng k)).toNatClampNeg = 2 * k + ng k := by rw [eg]; exact mm_ncl (by omega)
  have hBg : 0 ≤ ((2 : Int32) * nI k + nI (ng k)).toInt ∧ ((2 : Int32) * nI k + nI (ng k)).toInt < ((20 : Nat) : Int) := by rw [eg]; exact mm_nb (by omega) (by omega)
  refine And.intro (k_80 I) (mm_rf (r_590 I) (And.intro ⟨k_92 I, mm_inb 10 (n_92 I) hB⟩ (mm_rf e0 (And.intro (k_80 I) (mm_rf (r_597 I) (And.intro ⟨k_99 I, mm_inb 20 (n_99 I) hBg⟩ (And.intro (k_80 I) (mm_rf (r_598 I) (And.intro ⟨k_100 I, mm_inb 20 (n_100 I) hBg⟩ (And.intro (k_80 I) (mm_rf (r_599 I) (And.intro ⟨k_101 I, mm_inb 20 (n_101 I) hBg⟩ (And.intro (k_80 I) (mm_rf (r_590 I) (And.intro ⟨k_92 I, mm_inb 10 (n_92 I) hB⟩ (mm_rf e0 (And.intro ⟨k_92 I, mm_inb 10 (n_92 I) hB⟩ (And.intro (k_80 I) (mm_rf (r_590 I) (And.intro ⟨k_92 I, mm_inb 10 (n_92 I) hB⟩ (mm_rf mm_a1 ?_)))))))))))))))))))))
  refine mm_qq (q4 f k hk rfl hall hg) ?_ ?_
  · show Value.int (nI (ng k) + 1) = _
    rw [← nI_succ]
  · show mm_sa (mm_sa (mm_sa (mm_sa h 99 ((2 : Int32) * nI k + nI (ng k)).toNatClampNeg x) 100 ((2 : Int32) * nI k + nI (ng k)).toNatClampNeg y) 101 ((2 : Int32) * nI k + nI (ng k)).toNatClampNeg z) 92 (nI k).toNatClampNeg (nI (ng k) + 1) = _
    rw [hc, hcg, ← nI_succ]
