theorem mm_of {x : Int32} {N : Nat} (h : 0 ≤ x.toInt ∧ x.toInt < (N : Int)) : ∃ m, m < N ∧ x = nI m := by
  refine ⟨x.toInt.toNat, by omega, Int32.toInt_inj.mp ?_⟩
  have hx : x.toInt < 2147483648 := by have := Int32.toInt_lt x; omega
  rw [nI_toInt (by omega)]
  omega
theorem mm_no {h : Prop} (x : ¬ ¬ h) : h := Classical.not_not.mp x
/-- the reference's own(x, n): the first method of this class and name -/
def mm_hit (h : mm_H) (x n : Int32) (j : Nat) : Prop := mm_a h 87 j = x ∧ mm_a h 88 j = n
theorem l_Mo_own {ro : mm_Ro} {d nC nF nM : Nat} {x n : Int32} {h : mm_H} {Q : Value → mm_H → Prop} (I : mm_SH h) (V : mm_MN h nC nF nM) (q1 : ∀ m, m < nM → mm_hit h x n m → (∀ j, j < m → ¬ mm_hit h x n j) → Q (.int (nI m)) h) (q2 : (∀ j, j < nM → ¬ mm_hit h x n j) → Q (.int (-1)) h) : ∀ (k m : Nat), m + k = nM → (∀ j, j < m → ¬ mm_hit h x n j) → mm_go ro d mm_m_Mo_own 2 [.ref 80, .int x, .int n, .int (nI m)] [] h Q := by
  intro k
  have hM := V.2.2.2.2.2.2
  induction k with
  | zero =>
    intro m hm hj
    refine mm_go_from (mm_hM n_Mo_own rfl) (And.intro (k_80 I) (mm_rf V.2.2.1 (And.intro (fun c_7 => mm_go_from (mm_hM n_Mo_own rfl) ?_) (fun c_7 => ?_))))
    · exact q2 (fun j hjm => hj j (by omega))
    · exact absurd (show (nI nM).toInt ≤ (nI m).toInt by rw [mm_nt (by omega), mm_nt (by omega)]; omega) c_7
  | succ k ih =>
    intro m hm hj
    have nxt : ¬ mm_hit h x n m → mm_go ro d mm_m_Mo_own 2 [.ref 80, .int x, .int n, .int (nI m + 1)] [] h Q := by
      intro hn
      have := ih (m + 1) (by omega) (fun j hjm => by
        rcases Nat.lt_or_ge j m with q | q
        · exact hj j q
        · rw [show j = m by omega]; exact hn)
      rw [nI_succ] at this
      exact this
    have hb : 0 ≤ (nI m).toInt ∧ (nI m).toInt < ((10 : Nat) : Int) := mm_nb (by omega) (by omega)
    have hc : (nI m).toNatClampNeg = m := mm_ncl (by omega)
    refine mm_go_from (mm_hM n_Mo_own rfl) (And.intro (k_80 I) (mm_rf V.2.2.1 (And.intro (fun c_7 => ?_) (fun c_7 => ?_))))
    · have c : (nI nM).toInt ≤ (nI m).toInt := c_7
      rw [mm_nt (by omega), mm_nt (by omega)] at c
      omega
    · refine And.intro (k_80 I) (mm_rf (r_585 I) (And.intro ⟨k_87 I, mm_inb 10 (n_87 I) hb⟩ (mm_rf (congrArg _ hc) (And.intro (fun c_17 => mm_go_from (mm_hM n_Mo_own rfl) ?_) (fun c_17 => ?_)))))
      · exact nxt (fun q => c_17 q.1)
      · refine And.intro (k_80 I) (mm_rf (r_586 I) (And.intro ⟨k_88 I, mm_inb 10 (n_88 I) hb⟩ (mm_rf (congrArg _ hc) (And.intro (fun c_27 => mm_go_from (mm_hM n_Mo_own rfl) ?_) (fun c_27 => ?_)))))
        · exact nxt (fun q => c_27 q.2)
        · exact q1 m (by omega) ⟨mm_no c_17, mm_no c_27⟩ hj
theorem c_Mo_own {ro : mm_Ro} {d nC nF nM : Nat} {x n : Int32} {h : mm_H} {Q : Value → mm_H → Prop} (I : mm_SH h) (V : mm_MN h nC nF nM) (q1 : ∀ m, m < nM → mm_hit h x n m → (∀ j, j < m → ¬ mm_hit h x n j) → Q (.int (nI m)) h) (q2 : (∀ j, j < nM → ¬ mm_hit h x n j) → Q (.int (-1)) h) : mm_ev ro (d + 1) n_Mo_own [.ref 80, .int x, .int n] h Q := by
  refine mm_ev_at 2 (Z := mm_m_Mo_own) rfl rfl (Nat.le_of_ble_eq_true rfl) rfl ?_
  exact l_Mo_own (ro := ro) (d := d) I V q1 q2 nM 0 (Nat.zero_add _) (fun j hj => absurd hj (Nat.not_lt_zero j))
theorem c_Mo_isLoaded {ro : mm_Ro} {d nC nF nM : Nat} {c : Int32} {h : mm_H} {Q : Value → mm_H → Prop} (I : mm_SH h) (V : mm_MN h nC nF nM) (hQ : Q (.int (mm_b (∃ m, m < nC ∧ c = nI m ∧ mm_a h 85 m ≠ 0))) h) : mm_ev ro (d + 3) n_Mo_isLoaded [.ref 80, .int c] h Q := by
  refine mm_ev_in (Z := mm_m_Mo_isLoaded) rfl rfl (Nat.le_of_ble_eq_true rfl) rfl ?_
  have hC := V.2.2.2.2.1
  refine And.intro ⟨rfl, k_80 I⟩ (c_Mo_isC I V (And.intro (fun c_5 => mm_go_from (mm_hM n_Mo_isLoaded rfl) ?_) (fun c_5 => ?_)))
  · refine ⟨Or.inl rfl, mm_qe hQ (mm_b_f ?_)⟩
    rintro ⟨m, hm, rfl, -⟩
    exact mm_b0.mp c_5 (mm_nb hm (by omega))
  · obtain ⟨m, hm, rfl⟩ := mm_of (mm_nn c_5)
    have hc : (nI m).toNatClampNeg = m := mm_ncl (by omega)
    refine And.intro (k_80 I) (mm_rf (r_583 I) (And.intro ⟨k_85 I, mm_inb 6 (n_85 I) (mm_nb (by omega) (by omega))⟩ (mm_rf (congrArg _ hc) (And.intro (fun c_14 => mm_go_from (mm_hM n_Mo_isLoaded rfl) ?_) (fun c_14 => mm_go_from (mm_hM n_Mo_isLoaded rfl) ?_)))))
    · refine ⟨Or.inl rfl, mm_qe hQ (mm_b_f ?_)⟩
      rintro ⟨m', hm', e, hl⟩
      have e2 := (nI_eq (by omega) (by omega)).mp e
      subst e2
      exact hl c_14
    · exact ⟨Or.inr rfl, mm_qe hQ (mm_b_t ⟨m, hm, rfl, c_14⟩)⟩
theorem c_Mo_place {ro : mm_Ro} {d : Nat} {h : mm_H} {Q : Value → mm_H → Prop} (I : mm_SH h) (hQ : Q (.int (mm_i h 609 80)) h) : mm_ev ro (d + 1) n_Mo_place [.ref 80] h Q := by
  refine mm_ev_in (Z := mm_m_Mo_place) rfl rfl (Nat.le_of_ble_eq_true rfl) rfl ?_
  exact And.intro (k_80 I) (mm_rf rfl hQ)
theorem c_Mo_value {ro : mm_Ro} {d : Nat} {h : mm_H} {Q : Value → mm_H → Prop} (I : mm_SH h) (hQ : Q (.int (mm_i h 636 80)) h) : mm_ev ro (d + 1) n_Mo_value [.ref 80] h Q := by
  refine mm_ev_in (Z := mm_m_Mo_value) rfl rfl (Nat.le_of_ble_eq_true rfl) rfl ?_
  exact And.intro (k_80 I) (mm_rf rfl hQ)
theorem c_Mo_input {ro : mm_Ro} {d n : Nat} {v : Int32} {h : mm_H} {Q : Value → mm_H → Prop} (I : mm_SH h) (hn : mm_i h 628 80 = nI n) (h8 : n ≤ 8) (q1 : n = 8 → Q (.int (-2)) h) (q2 : n < 8 → Q (.int (nI (n + 1))) (mm_si (mm_sa h 115 n v) 628 80 (nI (n + 1)))) : mm_ev ro (d + 1) n_Mo_input [.ref 80, .int v] h Q := by
  refine mm_ev_in (Z := mm_m_Mo_input) rfl rfl (Nat.le_of_ble_eq_true rfl) rfl ?_
  refine And.intro (k_80 I) (mm_rf hn (And.intro (fun c_6 => mm_go_from (mm_hM n_Mo_input rfl) ?_) (fun c_6 => ?_)))
  · have hlt : n < 8 := by
      rcases Nat.lt_or_ge n 8 with q | q
      · exact q
      · exact absurd (congrArg nI (show n = 8 by omega)) c_6
    refine And.intro (k_80 I) (mm_rf (r_619 I) (And.intro (k_80 I) (mm_rf hn (And.intro ⟨k_115 I, mm_inb 8 (n_115 I) (mm_nb hlt (by omega))⟩ (And.intro (k_80 I) (mm_rf hn (And.intro (k_80 I) (And.intro (k_80 I) (mm_rf mm_i1 ?_)))))))))
    refine mm_qq (q2 hlt) ?_ ?_
    · show Value.int (nI n + 1) = _
      rw [← nI_succ]
    · show mm_si (mm_sa h 115 (nI n).toNatClampNeg v) 628 80 (nI n + 1) = _
      rw [mm_ncl (by omega), ← nI_succ]
  · exact q1 ((nI_eq (by omega) (by omega)).mp (mm_no c_6))
/-- output(k): what was put out, of the first sixteen -/
theorem c_Mo_output {ro : mm_Ro} {d n : Nat} {k : Int32} {h : mm_H} {Q : Value → mm_H → Prop} (I : mm_SH h) (hn : mm_i h 631 80 = nI n) (hn2 : n < 1000) (q1 : ∀ j, j < 16 → j < n → k = nI j → Q (.int (mm_a h 123 j)) h) (q2 : ¬ (0 ≤ k.toInt ∧ k.toInt ≤ 15 ∧ k.toInt < (n : Int)) → Q (.int 0) h) : mm_ev ro (d + 2) n_Mo_output [.ref 80, .int k] h Q := by
  refine mm_ev_in (Z := mm_m_Mo_output) rfl rfl (Nat.le_of_ble_eq_true rfl) rfl ?_
  refine And.intro ⟨rfl, trivial⟩ (c_Mo_within I (And.intro (fun c_7 => mm_go_from (mm_hM n_Mo_output rfl) ?_) (fun c_7 => ?_)))
  · exact q2 (fun q => mm_b0.mp c_7 ⟨q.1, q.2.1⟩)
  · have b : 0 ≤ k.toInt ∧ k.toInt ≤ 15 := mm_nn c_7
    obtain ⟨j, hj, rfl⟩ := mm_of (x := k) (N := 16) ⟨b.1, by omega⟩
    refine And.intro (k_80 I) (mm_rf hn (And.intro (fun c_15 => mm_go_from (mm_hM n_Mo_output rfl) ?_) (fun c_15 => ?_)))
    · have c : (nI n).toInt ≤ (nI j).toInt := c_15
      rw [mm_nt (by omega), mm_nt (by omega)] at c
      exact q2 (fun q => by have := q.2.2; rw [mm_nt (by omega)] at this; omega)
    · have c : ¬ (nI n).toInt ≤ (nI j).toInt := c_15
      rw [mm_nt (by omega), mm_nt (by omega)] at c
      have hc : (nI j).toNatClampNeg = j := mm_ncl (by omega)
      exact And.intro (k_80 I) (mm_rf (r_627 I) (And.intro ⟨k_123 I, mm_inb 16 (n_123 I) (mm_nb hj (by omega))⟩ (mm_rf (congrArg _ hc) (mm_go_from (mm_hM n_Mo_output rfl) (q1 j hj (by omega) rfl)))))
