theorem mm_nel {n N : Nat} (hN : n ≤ N) (h1 : N < 1000000) (c : ¬ nI n = nI N) : n < N := by
  rcases Nat.lt_or_ge n N with q | q
  · exact q
  · exact absurd (congrArg nI (show n = N by omega)) c
theorem mm_nee {n N : Nat} (hn : n < 1000000) (h1 : N < 1000000) (c : nI n = nI N) : n = N := (nI_eq (by omega) (by omega)).mp c
theorem c_Mo_field {ro : mm_Ro} {d nC nF nM : Nat} {c s b w : Int32} {h : mm_H} {Q : Value → mm_H → Prop} (I : mm_SH h) (V : mm_MN h nC nF nM) (hb : b = 0 ∨ b = 1)
    (q1 : mm_fz h → Q (.int (-3)) h) (q2 : ¬ mm_fz h → ¬ ((0 ≤ c.toInt ∧ c.toInt < (nC : Int)) ∧ mm_sm nC s w) → Q (.int (-1)) h) (q3 : ¬ mm_fz h → (0 ≤ c.toInt ∧ c.toInt < (nC : Int)) → mm_sm nC s w → nF = 12 → Q (.int (-2)) h)
    (q4 : ¬ mm_fz h → (0 ≤ c.toInt ∧ c.toInt < (nC : Int)) → mm_sm nC s w → nF < 12 → Q (.int (nI nF)) (mm_si (mm_sa (mm_sa (mm_sa (mm_sa h 82 nF c) 83 nF s) 86 nF b) 84 nF w) 577 80 (nI (nF + 1)))) : mm_ev ro (d + 4) n_Mo_field [.ref 80, .int c, .int s, .int b, .int w] h Q := by
  refine mm_ev_in (Z := mm_m_Mo_field) rfl rfl (Nat.le_of_ble_eq_true rfl) rfl ?_
  refine And.intro ⟨rfl, k_80 I⟩ (c_Mo_frozen I (And.intro (fun c_4 => mm_go_from (mm_hM n_Mo_field rfl) ?_) (fun c_4 => q1 (mm_nn c_4))))
  have f := mm_b0.mp c_4
  refine And.intro ⟨rfl, k_80 I⟩ (c_Mo_isC I V (And.intro (fun c_15 => mm_go_from (mm_hM n_Mo_field rfl) (q2 f (fun q => mm_b0.mp c_15 q.1))) (fun c_15 => ?_)))
  refine And.intro ⟨rfl, k_80 I⟩ (c_Mo_says I V (And.intro (fun c_25 => mm_go_from (mm_hM n_Mo_field rfl) ?_) (fun c_25 => q2 f (fun q => mm_nb0 c_25 q.2))))
  have h1 := mm_nn c_15
  have h2 := mm_nn c_25
  refine And.intro (k_80 I) (mm_rf V.2.1 (And.intro (fun c_36 => mm_go_from (mm_hM n_Mo_field rfl) ?_) (fun c_36 => q3 f h1 h2 (mm_nee (by have := V.2.2.2.2.2.1; omega) (by omega) (mm_no c_36)))))
  have hn : nF < 12 := mm_nel V.2.2.2.2.2.1 (by omega) c_36
  have hB : 0 ≤ (nI nF).toInt ∧ (nI nF).toInt < ((12 : Nat) : Int) := mm_nb hn (by omega)
  refine And.intro (k_80 I) (mm_rf (r_580 I) (And.intro (k_80 I) (mm_rf V.2.1 (And.intro ⟨k_82 I, mm_inb 12 (n_82 I) hB⟩ (And.intro (k_80 I) (mm_rf (r_581 I) (And.intro (k_80 I) (mm_rf V.2.1 (And.intro ⟨k_83 I, mm_inb 12 (n_83 I) hB⟩ (And.intro (k_80 I) (mm_rf (r_584 I) (And.intro (k_80 I) (mm_rf V.2.1 (And.intro ⟨k_86 I, mm_inb 12 (n_86 I) hB, hb⟩ (And.intro (k_80 I) (mm_rf (r_582 I) (And.intro (k_80 I) (mm_rf V.2.1 (And.intro ⟨k_84 I, mm_inb 12 (n_84 I) hB⟩ (And.intro (k_80 I) (mm_rf V.2.1 (And.intro (k_80 I) (And.intro (k_80 I) (mm_rf mm_i1 ?_))))))))))))))))))))))))
  refine mm_qq (q4 f h1 h2 hn) ?_ ?_
  · show Value.int (nI nF + 1 - 1) = _
    rw [← nI_succ, nI_pred]
  · show mm_si (mm_sa (mm_sa (mm_sa (mm_sa h 82 (nI nF).toNatClampNeg c) 83 (nI nF).toNatClampNeg s) 86 (nI nF).toNatClampNeg b) 84 (nI nF).toNatClampNeg w) 577 80 (nI nF + 1) = _
    rw [mm_ncl (by omega), ← nI_succ]
theorem c_Mo_wipe {ro : mm_Ro} {d nC nF nM : Nat} {m : Int32} {h : mm_H} {Q : Value → mm_H → Prop} (I : mm_SH h) (V : mm_MN h nC nF nM)
    (q1 : mm_fz h → Q (.int (-3)) h) (q2 : ¬ mm_fz h → ¬ (0 ≤ m.toInt ∧ m.toInt < (nM : Int)) → Q (.int (-1)) h) (q3 : ¬ mm_fz h → ∀ k, k < nM → m = nI k → Q (.int (mm_a h 91 k)) (mm_sa (mm_sa h 91 k 0) 92 k 0)) : mm_ev ro (d + 3) n_Mo_wipe [.ref 80, .int m] h Q := by
  refine mm_ev_in (Z := mm_m_Mo_wipe) rfl rfl (Nat.le_of_ble_eq_true rfl) rfl ?_
  refine And.intro ⟨rfl, k_80 I⟩ (c_Mo_frozen I (And.intro (fun c_4 => mm_go_from (mm_hM n_Mo_wipe rfl) ?_) (fun c_4 => q1 (mm_nn c_4))))
  have f := mm_b0.mp c_4
  refine And.intro ⟨rfl, k_80 I⟩ (c_Mo_isM I V (And.intro (fun c_15 => mm_go_from (mm_hM n_Mo_wipe rfl) ?_) (fun c_15 => q2 f (mm_nb0 c_15))))
  obtain ⟨k, hk, rfl⟩ := mm_of (mm_nn c_15)
  have hM := V.2.2.2.2.2.2
  have hB : 0 ≤ (nI k).toInt ∧ (nI k).toInt < ((10 : Nat) : Int) := mm_nb (by omega) (by omega)
  have hc : (nI k).toNatClampNeg = k := mm_ncl (by omega)
  refine And.intro (k_80 I) (mm_rf (r_589 I) (And.intro ⟨k_91 I, mm_inb 10 (n_91 I) hB⟩ (mm_rf (congrArg _ hc) (And.intro (k_80 I) (mm_rf (r_589 I) (And.intro ⟨k_91 I, mm_inb 10 (n_91 I) hB⟩ (And.intro (k_80 I) (mm_rf (r_590 I) (And.intro ⟨k_92 I, mm_inb 10 (n_92 I) hB⟩ ?_)))))))))
  refine mm_qq (q3 f k hk rfl) rfl ?_
  show mm_sa (mm_sa h 91 (nI k).toNatClampNeg 0) 92 (nI k).toNatClampNeg 0 = _
  rw [hc]
theorem c_Mo_builtIn {ro : mm_Ro} {d nC nF nM : Nat} {m k : Int32} {h : mm_H} {Q : Value → mm_H → Prop} (I : mm_SH h) (V : mm_MN h nC nF nM)
    (q1 : (mm_fz h ∨ ¬ (0 ≤ m.toInt ∧ m.toInt < (nM : Int)) ∨ ¬ (-1 ≤ k.toInt ∧ k.toInt ≤ 2)) → Q (.int 0) h) (q2 : ¬ mm_fz h → ∀ j, j < nM → m = nI j → (-1 ≤ k.toInt ∧ k.toInt ≤ 2) → Q (.int 1) (mm_sa h 90 j k)) : mm_ev ro (d + 3) n_Mo_builtIn [.ref 80, .int m, .int k] h Q := by
  refine mm_ev_in (Z := mm_m_Mo_builtIn) rfl rfl (Nat.le_of_ble_eq_true rfl) rfl ?_
  refine And.intro ⟨rfl, k_80 I⟩ (c_Mo_frozen I (And.intro (fun c_4 => mm_go_from (mm_hM n_Mo_builtIn rfl) ⟨Or.inl rfl, q1 (Or.inl (mm_nn c_4))⟩) (fun c_4 => ?_)))
  have f := mm_nb0 c_4
  refine And.intro ⟨rfl, k_80 I⟩ (c_Mo_isM I V (And.intro (fun c_12 => mm_go_from (mm_hM n_Mo_builtIn rfl) ⟨Or.inl rfl, q1 (Or.inr (Or.inl (mm_b0.mp c_12)))⟩) (fun c_12 => ?_)))
  refine And.intro ⟨rfl, trivial⟩ (c_Mo_within I (And.intro (fun c_21 => mm_go_from (mm_hM n_Mo_builtIn rfl) ?_) (fun c_21 => ⟨Or.inl rfl, q1 (Or.inr (Or.inr (mm_nb0 c_21)))⟩)))
  obtain ⟨j, hj, rfl⟩ := mm_of (mm_nn c_12)
  have hM := V.2.2.2.2.2.2
  have hc : (nI j).toNatClampNeg = j := mm_ncl (by omega)
  refine And.intro (k_80 I) (mm_rf (r_588 I) (And.intro ⟨k_90 I, mm_inb 10 (n_90 I) (mm_nb (by omega) (by omega))⟩ ⟨Or.inr rfl, ?_⟩))
  refine mm_qq (q2 f j hj rfl (mm_nn c_21)) rfl ?_
  show mm_sa h 90 (nI j).toNatClampNeg k = _
  rw [hc]
theorem c_Mo_told {ro : mm_Ro} {d : Nat} {w : Int32} {h : mm_H} {Q : Value → mm_H → Prop} (I : mm_SH h) (q0 : w.toInt = 0 → Q (.int (mm_i h 632 80)) h) (q1 : w.toInt = 1 → Q (.int (mm_i h 629 80)) h) (q2 : w.toInt = 2 → Q (.int (mm_i h 631 80)) h) (q3 : w.toInt = 3 → Q (.int (mm_i h 630 80)) h) (q4 : w.toInt = 4 → Q (.int (mm_i h 634 80)) h) (q5 : (w.toInt < 0 ∨ 4 < w.toInt) → Q (.int (-1)) h) : mm_ev ro (d + 1) n_Mo_told [.ref 80, .int w] h Q := by
  refine mm_ev_in (Z := mm_m_Mo_told) rfl rfl (Nat.le_of_ble_eq_true rfl) rfl ?_
  refine And.intro (fun c => mm_go_from (mm_hM n_Mo_told rfl) (q5 c)) (And.intro (Nat.le_of_ble_eq_true rfl) ?_)
  exact ⟨fun c => mm_go_from (mm_hM n_Mo_told rfl) (And.intro (k_80 I) (mm_rf rfl (q0 c))), fun c => mm_go_from (mm_hM n_Mo_told rfl) (And.intro (k_80 I) (mm_rf rfl (q1 c))), fun c => mm_go_from (mm_hM n_Mo_told rfl) (And.intro (k_80 I) (mm_rf rfl (q2 c))), fun c => mm_go_from (mm_hM n_Mo_told rfl) (And.intro (k_80 I) (mm_rf rfl (q3 c))), fun c => mm_go_from (mm_hM n_Mo_told rfl) (And.intro (k_80 I) (mm_rf rfl (q4 c))), trivial⟩
theorem c_Mo_method {ro : mm_Ro} {d nC nF nM : Nat} {c n b : Int32} {h : mm_H} {Q : Value → mm_H → Prop} (I : mm_SH h) (V : mm_MN h nC nF nM) (hb : b = 0 ∨ b = 1)
    (q1 : mm_fz h → Q (.int (-3)) h) (q2 : ¬ mm_fz h → (¬ (0 ≤ c.toInt ∧ c.toInt < (nC : Int)) ∨ ¬ (0 ≤ n.toInt ∧ n.toInt ≤ 5) ∨ ∃ j, j < nM ∧ mm_hit h c n j) → Q (.int (-1)) h)
    (q3 : ¬ mm_fz h → (0 ≤ c.toInt ∧ c.toInt < (nC : Int)) → (0 ≤ n.toInt ∧ n.toInt ≤ 5) → (∀ j, j < nM → ¬ mm_hit h c n j) → nM = 10 → Q (.int (-2)) h)
    (q4 : ¬ mm_fz h → (0 ≤ c.toInt ∧ c.toInt < (nC : Int)) → (0 ≤ n.toInt ∧ n.toInt ≤ 5) → (∀ j, j < nM → ¬ mm_hit h c n j) → nM < 10 → Q (.int (nI nM)) (mm_si (mm_sa (mm_sa (mm_sa (mm_sa (mm_sa h 87 nM c) 88 nM n) 95 nM b) 90 nM (-1)) 93 (4 * nM + 3) (-2)) 578 80 (nI (nM + 1)))) : mm_ev ro (d + 3) n_Mo_method [.ref 80, .int c, .int n, .int b] h Q := by
  refine mm_ev_in (Z := mm_m_Mo_method) rfl rfl (Nat.le_of_ble_eq_true rfl) rfl ?_
  have hM := V.2.2.2.2.2.2
  refine And.intro ⟨rfl, k_80 I⟩ (c_Mo_frozen I (And.intro (fun c_4 => mm_go_from (mm_hM n_Mo_method rfl) ?_) (fun c_4 => q1 (mm_nn c_4))))
  have f := mm_b0.mp c_4
  refine And.intro ⟨rfl, k_80 I⟩ (c_Mo_isC I V (And.intro (fun c_15 => mm_go_from (mm_hM n_Mo_method rfl) (q2 f (Or.inl (mm_b0.mp c_15)))) (fun c_15 => ?_)))
  refine And.intro ⟨rfl, trivial⟩ (c_Mo_within I (And.intro (fun c_24 => mm_go_from (mm_hM n_Mo_method rfl) (q2 f (Or.inr (Or.inl (mm_b0.mp c_24))))) (fun c_24 => ?_)))
  have h1 := mm_nn c_15
  have h2 := mm_nn c_24
  refine And.intro ⟨rfl, k_80 I⟩ (c_Mo_own I V (fun m hm ht _ => And.intro (fun c_33 => ?_) (fun c_33 => q2 f (Or.inr (Or.inr ⟨m, hm, ht⟩)))) (fun hno => And.intro (fun c_33 => mm_go_from (mm_hM n_Mo_method rfl) ?_) (fun c_33 => absurd (show ((-1 : Int32)).toInt < (0 : Int32).toInt by decide) c_33)))
  · have c : (nI m).toInt < (0 : Int32).toInt := c_33
    rw [mm_nt (by omega)] at c
    exact absurd c (by show ¬ (m : Int) < 0; omega)
  · refine And.intro (k_80 I) (mm_rf V.2.2.1 (And.intro (fun c_44 => mm_go_from (mm_hM n_Mo_method rfl) ?_) (fun c_44 => q3 f h1 h2 hno (mm_nee (by omega) (by omega) (mm_no c_44)))))
    have hn : nM < 10 := mm_nel hM (by omega) c_44
    have hB : 0 ≤ (nI nM).toInt ∧ (nI nM).toInt < ((10 : Nat) : Int) := mm_nb hn (by omega)
    have e4 : (4 : Int32) * nI nM + 3 = nI (4 * nM + 3) := by
      rw [show (4 : Int32) = nI 4 from rfl, show (3 : Int32) = nI 3 from rfl, pk_mul, nI_add]
    have hB4 : 0 ≤ ((4 : Int32) * nI nM + 3).toInt ∧ ((4 : Int32) * nI nM + 3).toInt < ((40 : Nat) : Int) := by rw [e4]; exact mm_nb (by omega) (by omega)
    refine And.intro (k_80 I) (mm_rf (r_585 I) (And.intro (k_80 I) (mm_rf V.2.2.1 (And.intro ⟨k_87 I, mm_inb 10 (n_87 I) hB⟩ (And.intro (k_80 I) (mm_rf (r_586 I) (And.intro (k_80 I) (mm_rf V.2.2.1 (And.intro ⟨k_88 I, mm_inb 10 (n_88 I) hB⟩ (And.intro (k_80 I) (mm_rf (r_593 I) (And.intro (k_80 I) (mm_rf V.2.2.1 (And.intro ⟨k_95 I, mm_inb 10 (n_95 I) hB, hb⟩ (And.intro (k_80 I) (mm_rf (r_588 I) (And.intro (k_80 I) (mm_rf V.2.2.1 (And.intro ⟨k_90 I, mm_inb 10 (n_90 I) hB⟩ (And.intro (k_80 I) (mm_rf (r_591 I) (And.intro (k_80 I) (mm_rf V.2.2.1 (And.intro ⟨k_93 I, mm_inb 40 (n_93 I) hB4⟩ (And.intro (k_80 I) (mm_rf V.2.2.1 (And.intro (k_80 I) (And.intro (k_80 I) (mm_rf mm_i1 ?_)))))))))))))))))))))))))))))
    refine mm_qq (q4 f h1 h2 hno hn) ?_ ?_
    · show Value.int (nI nM + 1 - 1) = _
      rw [← nI_succ, nI_pred]
    · show mm_si (mm_sa (mm_sa (mm_sa (mm_sa (mm_sa h 87 (nI nM).toNatClampNeg c) 88 (nI nM).toNatClampNeg n) 95 (nI nM).toNatClampNeg b) 90 (nI nM).toNatClampNeg (-1)) 93 ((4 : Int32) * nI nM + 3).toNatClampNeg (-2)) 578 80 (nI nM + 1) = _
      rw [e4, mm_ncl (by omega), mm_ncl (by omega), ← nI_succ]
