/-! THE CLASS: its stock -/
def mm_XN (h : mm_H) (nC nF nM : Nat) : Prop := mm_i h 64 2 = nI nC ∧ mm_i h 69 2 = nI nF ∧ mm_i h 72 2 = nI nM ∧ 1 ≤ nC ∧ nC ≤ 6 ∧ nF ≤ 12 ∧ nM ≤ 10
/-- a Method with its parts -/
def mm_ME (h : mm_H) (q : Nat) : Prop := (mm_k h q = 9 ∧ mm_r h 515 q = q + 1 ∧ mm_k h (q + 1) = 22 ∧ mm_n h (q + 1) = 3) ∧ (mm_r h 517 q = q + 2 ∧ mm_k h (q + 2) = 8) ∧ (mm_r h 519 q = q + 3 ∧ mm_k h (q + 3) = 20 ∧ mm_n h (q + 3) = 20) ∧ (mm_r h 520 q = q + 4 ∧ mm_k h (q + 4) = 20 ∧ mm_n h (q + 4) = 20) ∧ (mm_r h 522 q = q + 5 ∧ mm_k h (q + 5) = 20 ∧ mm_n h (q + 5) = 2) ∧ (mm_r h 523 q = q + 6 ∧ mm_k h (q + 6) = 20 ∧ mm_n h (q + 6) = 2) ∧ (mm_r h 524 q = q + 7 ∧ mm_k h (q + 7) = 20 ∧ mm_n h (q + 7) = 2)
def mm_XM (h : mm_H) (nM : Nat) (qm : Nat → Nat) : Prop := ∀ m, m < nM → mm_q h 8 m = qm m ∧ mm_ME h (qm m)
theorem c_St_isClass {ro : mm_Ro} {d nC nF nM : Nat} {x : Int32} {h : mm_H} {Q : Value → mm_H → Prop} (I : mm_SH h) (V : mm_XN h nC nF nM) (hQ : Q (.int (mm_b (0 ≤ x.toInt ∧ x.toInt < (nC : Int)))) h) : mm_ev ro (d + 2) n_St_isClass [.ref 2, .int x] h Q := by
  refine mm_ev_in (Z := mm_m_St_isClass) rfl rfl (Nat.le_of_ble_eq_true rfl) rfl ?_
  refine And.intro (k_2 I) (mm_rf V.1 (And.intro ⟨rfl, trivial⟩ (c_Ga_within I ⟨mm_b01 _, mm_qe hQ (mm_b_iff ?_)⟩)))
  rw [mm_nt (by have := V.2.2.2.2.1; omega)]
theorem c_St_isMethod {ro : mm_Ro} {d nC nF nM : Nat} {x : Int32} {h : mm_H} {Q : Value → mm_H → Prop} (I : mm_SH h) (V : mm_XN h nC nF nM) (hQ : Q (.int (mm_b (0 ≤ x.toInt ∧ x.toInt < (nM : Int)))) h) : mm_ev ro (d + 2) n_St_isMethod [.ref 2, .int x] h Q := by
  refine mm_ev_in (Z := mm_m_St_isMethod) rfl rfl (Nat.le_of_ble_eq_true rfl) rfl ?_
  refine And.intro (k_2 I) (mm_rf V.2.2.1 (And.intro ⟨rfl, trivial⟩ (c_Ga_within I ⟨mm_b01 _, mm_qe hQ (mm_b_iff ?_)⟩)))
  rw [mm_nt (by have := V.2.2.2.2.2.2; omega)]
theorem c_St_isPlace {ro : mm_Ro} {d nC nF nM : Nat} {s w : Int32} {h : mm_H} {Q : Value → mm_H → Prop} (I : mm_SH h) (V : mm_XN h nC nF nM) (hQ : Q (.int (mm_b (mm_sm nC s w))) h) : mm_ev ro (d + 3) n_St_isPlace [.ref 2, .int s, .int w] h Q := by
  refine mm_ev_in (Z := mm_m_St_isPlace) rfl rfl (Nat.le_of_ble_eq_true rfl) rfl ?_
  have w16 : ∀ z : Int32, (0 ≤ z.toInt ∧ z.toInt < ((Int8.ofInt 16).toInt32).toInt) ↔ (0 ≤ z.toInt ∧ z.toInt ≤ 15) := by
    intro z
    rw [show ((Int8.ofInt 16).toInt32).toInt = 16 by decide]
    omega
  have fin : (s.toInt = -1 ∨ 0 ≤ s.toInt ∧ s.toInt < (nC : Int)) → mm_go ro (d + 2) mm_m_St_isPlace 13 [.ref 2, .int s, .int w] [] h Q := by
    intro hs
    refine mm_go_from (mm_hM n_St_isPlace rfl) (And.intro ⟨rfl, trivial⟩ (c_Ga_within I (And.intro (fun c_19 => mm_go_from (mm_hM n_St_isPlace rfl) ⟨Or.inl rfl, mm_qe hQ (mm_b_f (fun q => mm_b0.mp c_19 ((w16 w).mpr q.2)))⟩) (fun c_19 => mm_go_from (mm_hM n_St_isPlace rfl) ⟨Or.inr rfl, mm_qe hQ (mm_b_t ⟨hs, (w16 w).mp (mm_nn c_19)⟩)⟩))))
  refine And.intro (fun c_2 => fin (Or.inl (mm_m1.mp c_2))) (fun c_2 => ?_)
  refine And.intro ⟨rfl, k_2 I⟩ (c_St_isClass I V (And.intro (fun c_10 => mm_go_from (mm_hM n_St_isPlace rfl) ⟨Or.inl rfl, mm_qe hQ (mm_b_f (fun q => ?_))⟩) (fun c_10 => ?_)))
  · rcases q.1 with q1 | q1
    · exact c_2 (mm_m1.mpr q1)
    · exact mm_b0.mp c_10 q1
  · refine And.intro ⟨rfl, trivial⟩ (c_Ga_within I (And.intro (fun c_19 => mm_go_from (mm_hM n_St_isPlace rfl) ⟨Or.inl rfl, mm_qe hQ (mm_b_f (fun q => mm_b0.mp c_19 ((w16 w).mpr q.2)))⟩) (fun c_19 => mm_go_from (mm_hM n_St_isPlace rfl) ⟨Or.inr rfl, mm_qe hQ (mm_b_t ⟨Or.inr (mm_nn c_10), (w16 w).mp (mm_nn c_19)⟩)⟩)))
/-- method m of the class, as an object, is of this class and name -/
def mm_hix (h : mm_H) (qm : Nat → Nat) (x n : Int32) (j : Nat) : Prop := mm_i h 512 (qm j) = x ∧ mm_i h 513 (qm j) = n
theorem l_St_own {ro : mm_Ro} {d nC nF nM : Nat} {qm : Nat → Nat} {x n : Int32} {h : mm_H} {Q : Value → mm_H → Prop} (I : mm_SH h) (V : mm_XN h nC nF nM) (E : mm_XM h nM qm) (q1 : ∀ m, m < nM → mm_hix h qm x n m → (∀ j, j < m → ¬ mm_hix h qm x n j) → Q (.ref (qm m)) h) (q2 : (∀ j, j < nM → ¬ mm_hix h qm x n j) → Q (.ref 0) h) : ∀ (k m : Nat), m + k = nM → (∀ j, j < m → ¬ mm_hix h qm x n j) → mm_go ro d mm_m_St_own 2 [.ref 2, .int x, .int n, .int (nI m)] [] h Q := by
  intro k
  have hM := V.2.2.2.2.2.2
  induction k with
  | zero =>
    intro m hm hj
    refine mm_go_from (mm_hM n_St_own rfl) (And.intro (k_2 I) (mm_rf V.2.2.1 (And.intro (fun c_7 => mm_go_from (mm_hM n_St_own rfl) ?_) (fun c_7 => ?_))))
    · exact q2 (fun j hjm => hj j (by omega))
    · exact absurd (show (nI nM).toInt ≤ (nI m).toInt by rw [mm_nt (by omega), mm_nt (by omega)]; omega) c_7
  | succ k ih =>
    intro m hm hj
    have nxt : ¬ mm_hix h qm x n m → mm_go ro d mm_m_St_own 2 [.ref 2, .int x, .int n, .int (nI m + 1)] [] h Q := by
      intro hn
      have := ih (m + 1) (by omega) (fun j hjm => by
        rcases Nat.lt_or_ge j m with q | q
        · exact hj j q
        · rw [show j = m by omega]; exact hn)
      rw [nI_succ] at this
      exact this
    have hb : 0 ≤ (nI m).toInt ∧ (nI m).toInt < ((10 : Nat) : Int) := mm_nb (by omega) (by omega)
    have hc : (nI m).toNatClampNeg = m := mm_ncl (by omega)
    have hq : mm_q h 8 (nI m).toNatClampNeg = qm m := by rw [hc]; exact (E m (by omega)).1
    have hme := (E m (by omega)).2
    have k8 : 22 ≤ mm_k h 8 ∧ mm_k h 8 < 26 := by rw [k_8 I]; decide
    refine mm_go_from (mm_hM n_St_own rfl) (And.intro (k_2 I) (mm_rf V.2.2.1 (And.intro (fun c_7 => ?_) (fun c_7 => ?_))))
    · have c : (nI nM).toInt ≤ (nI m).toInt := c_7
      rw [mm_nt (by omega), mm_nt (by omega)] at c
      omega
    · refine And.intro (k_2 I) (mm_rf (r_73 I) (And.intro ⟨k8, mm_inb 10 (n_8 I) hb⟩ (mm_rf hq (And.intro hme.1.1 (mm_rf rfl (And.intro (fun c_20 => mm_go_from (mm_hM n_St_own rfl) (nxt (fun q => c_20 q.1))) (fun c_20 => ?_)))))))
      refine And.intro (k_2 I) (mm_rf (r_73 I) (And.intro ⟨k8, mm_inb 10 (n_8 I) hb⟩ (mm_rf hq (And.intro hme.1.1 (mm_rf rfl (And.intro (fun c_33 => mm_go_from (mm_hM n_St_own rfl) (nxt (fun q => c_33 q.2))) (fun c_33 => ?_)))))))
      exact And.intro (k_2 I) (mm_rf (r_73 I) (And.intro ⟨k8, mm_inb 10 (n_8 I) hb⟩ (mm_rf hq (q1 m (by omega) ⟨mm_no c_20, mm_no c_33⟩ hj))))
theorem c_St_own {ro : mm_Ro} {d nC nF nM : Nat} {qm : Nat → Nat} {x n : Int32} {h : mm_H} {Q : Value → mm_H → Prop} (I : mm_SH h) (V : mm_XN h nC nF nM) (E : mm_XM h nM qm) (q1 : ∀ m, m < nM → mm_hix h qm x n m → (∀ j, j < m → ¬ mm_hix h qm x n j) → Q (.ref (qm m)) h) (q2 : (∀ j, j < nM → ¬ mm_hix h qm x n j) → Q (.ref 0) h) : mm_ev ro (d + 1) n_St_own [.ref 2, .int x, .int n] h Q := by
  refine mm_ev_at 2 (Z := mm_m_St_own) rfl rfl (Nat.le_of_ble_eq_true rfl) rfl ?_
  exact l_St_own (ro := ro) (d := d) I V E q1 q2 nM 0 (Nat.zero_add _) (fun j hj => absurd hj (Nat.not_lt_zero j))
theorem c_Me_addInstruction {ro : mm_Ro} {d q c : Nat} {o a : Int32} {h : mm_H} {Q : Value → mm_H → Prop} (E : mm_ME h q) (hc : mm_i h 521 q = nI c) (hl : c < 20) (hQ : Q (.int (nI (c + 1))) (mm_si (mm_sa (mm_sa h (q + 3) c o) (q + 4) c a) 521 q (nI (c + 1)))) : mm_ev ro (d + 1) n_Me_addInstruction [.ref q, .int o, .int a] h Q := by
  refine mm_ev_in (Z := mm_m_Me_addInstruction) rfl rfl (Nat.le_of_ble_eq_true rfl) rfl ?_
  have hB : 0 ≤ (nI c).toInt ∧ (nI c).toInt < ((20 : Nat) : Int) := mm_nb hl (by omega)
  refine And.intro E.1.1 (mm_rf E.2.2.1.1 (And.intro E.1.1 (mm_rf hc (And.intro ⟨E.2.2.1.2.1, mm_inb 20 E.2.2.1.2.2 hB⟩ (And.intro E.1.1 (mm_rf E.2.2.2.1.1 (And.intro E.1.1 (mm_rf hc (And.intro ⟨E.2.2.2.1.2.1, mm_inb 20 E.2.2.2.1.2.2 hB⟩ (And.intro E.1.1 (mm_rf hc (And.intro E.1.1 (And.intro E.1.1 (mm_rf mm_i1 ?_))))))))))))))
  refine mm_qq hQ ?_ ?_
  · show Value.int (nI c + 1) = _
    rw [← nI_succ]
  · show mm_si (mm_sa (mm_sa h (q + 3) (nI c).toNatClampNeg o) (q + 4) (nI c).toNatClampNeg a) 521 q (nI c + 1) = _
    rw [mm_ncl (by omega), ← nI_succ]
theorem c_Me_addGuard {ro : mm_Ro} {d q c : Nat} {x y z : Int32} {h : mm_H} {Q : Value → mm_H → Prop} (E : mm_ME h q) (hc : mm_i h 525 q = nI c) (hl : c < 2) (hQ : Q (.int (nI (c + 1))) (mm_si (mm_sa (mm_sa (mm_sa h (q + 5) c x) (q + 6) c y) (q + 7) c z) 525 q (nI (c + 1)))) : mm_ev ro (d + 1) n_Me_addGuard [.ref q, .int x, .int y, .int z] h Q := by
  refine mm_ev_in (Z := mm_m_Me_addGuard) rfl rfl (Nat.le_of_ble_eq_true rfl) rfl ?_
  have hB : 0 ≤ (nI c).toInt ∧ (nI c).toInt < ((2 : Nat) : Int) := mm_nb hl (by omega)
  have E5 := E.2.2.2.2.1
  have E6 := E.2.2.2.2.2.1
  have E7 := E.2.2.2.2.2.2
  refine And.intro E.1.1 (mm_rf E5.1 (And.intro E.1.1 (mm_rf hc (And.intro ⟨E5.2.1, mm_inb 2 E5.2.2 hB⟩ (And.intro E.1.1 (mm_rf E6.1 (And.intro E.1.1 (mm_rf hc (And.intro ⟨E6.2.1, mm_inb 2 E6.2.2 hB⟩ (And.intro E.1.1 (mm_rf E7.1 (And.intro E.1.1 (mm_rf hc (And.intro ⟨E7.2.1, mm_inb 2 E7.2.2 hB⟩ (And.intro E.1.1 (mm_rf hc (And.intro E.1.1 (And.intro E.1.1 (mm_rf mm_i1 ?_)))))))))))))))))))
  refine mm_qq hQ ?_ ?_
  · show Value.int (nI c + 1) = _
    rw [← nI_succ]
  · show mm_si (mm_sa (mm_sa (mm_sa h (q + 5) (nI c).toNatClampNeg x) (q + 6) (nI c).toNatClampNeg y) (q + 7) (nI c).toNatClampNeg z) 525 q (nI c + 1) = _
    rw [mm_ncl (by omega), ← nI_succ]
theorem c_Me_clear {ro : mm_Ro} {d q : Nat} {h : mm_H} {Q : Value → mm_H → Prop} (E : mm_ME h q) (hQ : Q (.int (mm_i h 521 q)) (mm_si (mm_si h 521 q 0) 525 q 0)) : mm_ev ro (d + 1) n_Me_clear [.ref q] h Q := by
  refine mm_ev_in (Z := mm_m_Me_clear) rfl rfl (Nat.le_of_ble_eq_true rfl) rfl ?_
  exact And.intro E.1.1 (mm_rf rfl (And.intro E.1.1 (And.intro E.1.1 hQ)))
