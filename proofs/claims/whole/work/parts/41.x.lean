theorem c_St_makeClass {ro : mm_Ro} {d nC nF nM s : Nat} {h : mm_H} {Q : Value → mm_H → Prop} (I : mm_SH h) (V : mm_XN h nC nF nM) (hn : nC < 6) (hs : s < nC) (hQ : Q (.int (nI nC)) (mm_si (mm_sa (mm_sa h 3 nC (nI s)) 4 nC (mm_a h 4 s ||| (1 <<< (nI nC &&& 31)))) 64 2 (nI (nC + 1)))) : mm_ev ro (d + 1) n_St_makeClass [.ref 2, .int (nI s)] h Q := by
  refine mm_ev_in (Z := mm_m_St_makeClass) rfl rfl (Nat.le_of_ble_eq_true rfl) rfl ?_
  have hB : 0 ≤ (nI nC).toInt ∧ (nI nC).toInt < ((6 : Nat) : Int) := mm_nb hn (by omega)
  have hBs : 0 ≤ (nI s).toInt ∧ (nI s).toInt < ((6 : Nat) : Int) := mm_nb (by omega) (by omega)
  have hc : (nI nC).toNatClampNeg = nC := mm_ncl (by omega)
  have hcs : (nI s).toNatClampNeg = s := mm_ncl (by omega)
  have e1 : mm_a (mm_sa h 3 (nI nC).toNatClampNeg (nI s)) 4 (nI s).toNatClampNeg = mm_a h 4 s := by rw [hcs]; exact mm_a2 (Or.inl (by decide))
  refine And.intro (k_2 I) (mm_rf V.1 (And.intro (k_2 I) (mm_rf (r_65 I) (And.intro ⟨k_3 I, mm_inb 6 (n_3 I) hB⟩ (And.intro (k_2 I) (mm_rf (r_66 I) (And.intro (k_2 I) (mm_rf (r_66 I) (And.intro ⟨k_4 I, mm_inb 6 (n_4 I) hBs⟩ (mm_rf e1 (And.intro ⟨k_4 I, mm_inb 6 (n_4 I) hB⟩ (And.intro (k_2 I) (mm_rf V.1 (And.intro (k_2 I) ?_))))))))))))))
  refine mm_qq hQ rfl ?_
  show mm_si (mm_sa (mm_sa h 3 (nI nC).toNatClampNeg (nI s)) 4 (nI nC).toNatClampNeg (mm_a h 4 s ||| (1 <<< (nI nC &&& 31)))) 64 2 (nI nC + 1) = _
  rw [hc, ← nI_succ]
theorem c_Ga_cls {ro : mm_Ro} {d nC nF nM : Nat} {x : Int32} {h : mm_H} {Q : Value → mm_H → Prop} (I : mm_SH h) (V : mm_XN h nC nF nM)
    (q1 : ¬ mm_i h 68 2 = 0 → Q (.int (-3)) h) (q2 : mm_i h 68 2 = 0 → ¬ (0 ≤ x.toInt ∧ x.toInt < (nC : Int)) → Q (.int (-1)) h) (q3 : mm_i h 68 2 = 0 → (0 ≤ x.toInt ∧ x.toInt < (nC : Int)) → nC = 6 → Q (.int (-2)) h)
    (q4 : mm_i h 68 2 = 0 → ∀ s, s < nC → x = nI s → nC < 6 → Q (.int (nI nC)) (mm_si (mm_sa (mm_sa h 3 nC (nI s)) 4 nC (mm_a h 4 s ||| (1 <<< (nI nC &&& 31)))) 64 2 (nI (nC + 1)))) : mm_ev ro (d + 3) n_Ga_cls [.ref 1, .int x] h Q := by
  refine mm_ev_in (Z := mm_m_Ga_cls) rfl rfl (Nat.le_of_ble_eq_true rfl) rfl ?_
  refine And.intro (k_1 I) (mm_rf (r_0 I) (And.intro (k_2 I) (mm_rf rfl (And.intro (fun c_7 => mm_go_from (mm_hM n_Ga_cls rfl) ?_) (fun c_7 => q1 c_7)))))
  refine And.intro (k_1 I) (mm_rf (r_0 I) (And.intro ⟨rfl, k_2 I⟩ (c_St_isClass I V (And.intro (fun c_21 => mm_go_from (mm_hM n_Ga_cls rfl) ?_) (fun c_21 => q2 c_7 (mm_nb0 c_21))))))
  have h1 := mm_nn c_21
  refine And.intro (k_1 I) (mm_rf (r_0 I) (And.intro (k_2 I) (mm_rf V.1 (And.intro (fun c_35 => mm_go_from (mm_hM n_Ga_cls rfl) ?_) (fun c_35 => mm_go_from (mm_hM n_Ga_cls rfl) (q3 c_7 h1 (mm_nee (by have := V.2.2.2.2.1; omega) (by omega) (mm_no c_35))))))))
  obtain ⟨s, hs, rfl⟩ := mm_of h1
  have hn : nC < 6 := mm_nel V.2.2.2.2.1 (by omega) c_35
  exact And.intro (k_1 I) (mm_rf (r_0 I) (And.intro ⟨rfl, k_2 I⟩ (c_St_makeClass I V hn hs (q4 c_7 s hs rfl hn))))
/-- methods[m] of the stock -/
theorem mm_mth {h : mm_H} {nM : Nat} {qm : Nat → Nat} (I : mm_SH h) (E : mm_XM h nM qm) (hM : nM ≤ 10) {k : Nat} (hk : k < nM) : ((22 ≤ mm_k h 8 ∧ mm_k h 8 < 26) ∧ mm_in (nI k) (mm_n h 8)) ∧ mm_q h 8 (nI k).toNatClampNeg = qm k ∧ mm_ME h (qm k) := by
  refine ⟨⟨by rw [k_8 I]; decide, mm_inb 10 (n_8 I) (mm_nb (by omega) (by omega))⟩, ?_, (E k hk).2⟩
  rw [mm_ncl (by omega)]
  exact (E k hk).1
theorem c_Ga_wipe {ro : mm_Ro} {d nC nF nM : Nat} {qm : Nat → Nat} {m : Int32} {h : mm_H} {Q : Value → mm_H → Prop} (I : mm_SH h) (V : mm_XN h nC nF nM) (E : mm_XM h nM qm)
    (q1 : ¬ mm_i h 68 2 = 0 → Q (.int (-3)) h) (q2 : mm_i h 68 2 = 0 → ¬ (0 ≤ m.toInt ∧ m.toInt < (nM : Int)) → Q (.int (-1)) h) (q3 : mm_i h 68 2 = 0 → ∀ k, k < nM → m = nI k → Q (.int (mm_i h 521 (qm k))) (mm_si (mm_si h 521 (qm k) 0) 525 (qm k) 0)) : mm_ev ro (d + 3) n_Ga_wipe [.ref 1, .int m] h Q := by
  refine mm_ev_in (Z := mm_m_Ga_wipe) rfl rfl (Nat.le_of_ble_eq_true rfl) rfl ?_
  refine And.intro (k_1 I) (mm_rf (r_0 I) (And.intro (k_2 I) (mm_rf rfl (And.intro (fun c_7 => mm_go_from (mm_hM n_Ga_wipe rfl) ?_) (fun c_7 => q1 c_7)))))
  refine And.intro (k_1 I) (mm_rf (r_0 I) (And.intro ⟨rfl, k_2 I⟩ (c_St_isMethod I V (And.intro (fun c_21 => mm_go_from (mm_hM n_Ga_wipe rfl) (q2 c_7 (mm_b0.mp c_21))) (fun c_21 => ?_)))))
  obtain ⟨k, hk, rfl⟩ := mm_of (mm_nn c_21)
  obtain ⟨a1, a2, a3⟩ := mm_mth I E V.2.2.2.2.2.2 hk
  exact And.intro (k_1 I) (mm_rf (r_0 I) (And.intro (k_2 I) (mm_rf (r_73 I) (And.intro a1 (mm_rf a2 (And.intro ⟨rfl, a3.1.1⟩ (c_Me_clear a3 (mm_go_from (mm_hM n_Ga_wipe rfl) (q3 c_7 k hk rfl)))))))))
theorem c_Ga_builtIn {ro : mm_Ro} {d nC nF nM : Nat} {qm : Nat → Nat} {m k : Int32} {h : mm_H} {Q : Value → mm_H → Prop} (I : mm_SH h) (V : mm_XN h nC nF nM) (E : mm_XM h nM qm)
    (q1 : (¬ mm_i h 68 2 = 0 ∨ ¬ (0 ≤ m.toInt ∧ m.toInt < (nM : Int)) ∨ ¬ (-1 ≤ k.toInt ∧ k.toInt ≤ 2)) → Q (.int 0) h) (q2 : mm_i h 68 2 = 0 → ∀ j, j < nM → m = nI j → (-1 ≤ k.toInt ∧ k.toInt ≤ 2) → Q (.int 1) (mm_si h 518 (qm j) k)) : mm_ev ro (d + 3) n_Ga_builtIn [.ref 1, .int m, .int k] h Q := by
  refine mm_ev_in (Z := mm_m_Ga_builtIn) rfl rfl (Nat.le_of_ble_eq_true rfl) rfl ?_
  refine And.intro (k_1 I) (mm_rf (r_0 I) (And.intro (k_2 I) (mm_rf rfl (And.intro (fun c_7 => mm_go_from (mm_hM n_Ga_builtIn rfl) ⟨Or.inl rfl, q1 (Or.inl c_7)⟩) (fun c_7 => ?_)))))
  refine And.intro (k_1 I) (mm_rf (r_0 I) (And.intro ⟨rfl, k_2 I⟩ (c_St_isMethod I V (And.intro (fun c_18 => mm_go_from (mm_hM n_Ga_builtIn rfl) ⟨Or.inl rfl, q1 (Or.inr (Or.inl (mm_b0.mp c_18)))⟩) (fun c_18 => ?_)))))
  obtain ⟨j, hj, rfl⟩ := mm_of (mm_nn c_18)
  obtain ⟨a1, a2, a3⟩ := mm_mth I E V.2.2.2.2.2.2 hj
  refine And.intro (fun c_23 => mm_go_from (mm_hM n_Ga_builtIn rfl) ⟨Or.inl rfl, q1 (Or.inr (Or.inr (fun q => ?_)))⟩) (fun c_23 => ?_)
  · have c : k.toInt < -1 := c_23
    omega
  · have c : ¬ k.toInt < -1 := c_23
    refine And.intro (fun c_28 => mm_go_from (mm_hM n_Ga_builtIn rfl) ?_) (fun c_28 => ⟨Or.inl rfl, q1 (Or.inr (Or.inr (fun q => ?_)))⟩)
    · have c2 : k.toInt ≤ 2 := c_28
      exact And.intro (k_1 I) (mm_rf (r_0 I) (And.intro (k_2 I) (mm_rf (r_73 I) (And.intro a1 (mm_rf a2 (And.intro a3.1.1 ⟨Or.inr rfl, q2 (mm_no c_7) j hj rfl ⟨by omega, c2⟩⟩))))))
    · exact c_28 q.2
/-- what a place for values keeps of 'may' -/
noncomputable def mm_my (s b : Int32) : Int32 := mm_b (¬ b = 0 ∧ 0 ≤ s.toInt)
theorem c_Pl_become {ro : mm_Ro} {d p : Nat} {s b w : Int32} {h : mm_H} {Q : Value → mm_H → Prop} (hk : mm_k h p = 8) (hQ : Q .null (mm_si (mm_si (mm_si h 448 p s) 449 p (mm_my s b)) 450 p w)) : mm_ev ro (d + 1) n_Pl_become [.ref p, .int s, .int b, .int w] h Q := by
  refine mm_ev_in (Z := mm_m_Pl_become) rfl rfl (Nat.le_of_ble_eq_true rfl) rfl ?_
  have hq0 : mm_my s b = 0 → Q .null (mm_si (mm_si (mm_si h 448 p s) 449 p 0) 450 p w) := fun e => by rw [e] at hQ; exact hQ
  have hq1 : mm_my s b = 1 → Q .null (mm_si (mm_si (mm_si h 448 p s) 449 p 1) 450 p w) := fun e => by rw [e] at hQ; exact hQ
  refine And.intro hk (And.intro (fun c_7 => mm_go_from (mm_hM n_Pl_become rfl) ?_) (fun c_7 => ?_))
  · exact And.intro hk (And.intro (Or.inl rfl) (And.intro hk (hq0 (mm_b_f (fun q => q.1 c_7)))))
  · refine And.intro (fun c_11 => mm_go_from (mm_hM n_Pl_become rfl) ?_) (fun c_11 => mm_go_from (mm_hM n_Pl_become rfl) ?_)
    · exact And.intro hk (And.intro (Or.inl rfl) (And.intro hk (hq0 (mm_b_f (fun q => by have c : s.toInt < 0 := c_11; omega)))))
    · exact And.intro hk (And.intro (Or.inr rfl) (And.intro hk (hq1 (mm_b_t ⟨c_7, by have c : ¬ s.toInt < 0 := c_11; omega⟩))))
theorem c_Ga_place {ro : mm_Ro} {d : Nat} {h : mm_H} {Q : Value → mm_H → Prop} (I : mm_SH h) (hQ : Q (.int (mm_i h 3 1)) h) : mm_ev ro (d + 1) n_Ga_place [.ref 1] h Q := by
  refine mm_ev_in (Z := mm_m_Ga_place) rfl rfl (Nat.le_of_ble_eq_true rfl) rfl ?_
  exact And.intro (k_1 I) (mm_rf rfl hQ)
theorem c_Ga_value {ro : mm_Ro} {d : Nat} {h : mm_H} {Q : Value → mm_H → Prop} (I : mm_SH h) (hQ : Q (.int (mm_i h 324 56)) h) : mm_ev ro (d + 1) n_Ga_value [.ref 1] h Q := by
  refine mm_ev_in (Z := mm_m_Ga_value) rfl rfl (Nat.le_of_ble_eq_true rfl) rfl ?_
  exact And.intro (k_1 I) (mm_rf (r_2 I) (And.intro (k_56 I) (mm_rf rfl hQ)))
theorem c_Ga_told {ro : mm_Ro} {d : Nat} {w : Int32} {h : mm_H} {Q : Value → mm_H → Prop} (I : mm_SH h) (q0 : w.toInt = 0 → Q (.int (mm_i h 325 56)) h) (q1 : w.toInt = 1 → Q (.int (mm_i h 326 56)) h) (q2 : w.toInt = 2 → Q (.int (mm_i h 327 56)) h) (q3 : w.toInt = 3 → Q (.int (mm_i h 328 56)) h) (q4 : w.toInt = 4 → Q (.int (mm_i h 329 56)) h) (q5 : (w.toInt < 0 ∨ 4 < w.toInt) → Q (.int (-1)) h) : mm_ev ro (d + 1) n_Ga_told [.ref 1, .int w] h Q := by
  refine mm_ev_in (Z := mm_m_Ga_told) rfl rfl (Nat.le_of_ble_eq_true rfl) rfl ?_
  refine And.intro (fun c => mm_go_from (mm_hM n_Ga_told rfl) (q5 c)) (And.intro (Nat.le_of_ble_eq_true rfl) ?_)
  have g : ∀ {P : Int32 → Prop} {f : Nat}, P (mm_i h f 56) → ∀ x, x = mm_i h f 56 → P x := fun hp x e => by rw [e]; exact hp
  exact ⟨fun c => mm_go_from (mm_hM n_Ga_told rfl) (And.intro (k_1 I) (mm_rf (r_2 I) (And.intro (k_56 I) (mm_rf rfl (q0 c))))), fun c => mm_go_from (mm_hM n_Ga_told rfl) (And.intro (k_1 I) (mm_rf (r_2 I) (And.intro (k_56 I) (mm_rf rfl (q1 c))))), fun c => mm_go_from (mm_hM n_Ga_told rfl) (And.intro (k_1 I) (mm_rf (r_2 I) (And.intro (k_56 I) (mm_rf rfl (q2 c))))), fun c => mm_go_from (mm_hM n_Ga_told rfl) (And.intro (k_1 I) (mm_rf (r_2 I) (And.intro (k_56 I) (mm_rf rfl (q3 c))))), fun c => mm_go_from (mm_hM n_Ga_told rfl) (And.intro (k_1 I) (mm_rf (r_2 I) (And.intro (k_56 I) (mm_rf rfl (q4 c))))), trivial⟩
