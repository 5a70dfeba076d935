/-! the class: guard, result, field, param -/
theorem c_Ga_guard {ro : mm_Ro} {d nC nF nM : Nat} {qm nl ng : Nat → Nat} {m x y z : Int32} {h : mm_H} {Q : Value → mm_H → Prop} (I : mm_SH h) (V : mm_XN h nC nF nM) (E : mm_XM h nM qm) (A : mm_XA h nM qm nl ng)
    (q1 : ¬ mm_i h 68 2 = 0 → Q (.int (-3)) h) (q2 : mm_i h 68 2 = 0 → ¬ ((0 ≤ m.toInt ∧ m.toInt < (nM : Int)) ∧ (0 ≤ x.toInt ∧ x.toInt ≤ 19) ∧ (x.toInt ≤ y.toInt ∧ y.toInt ≤ 19) ∧ (0 ≤ z.toInt ∧ z.toInt ≤ 19)) → Q (.int (-1)) h)
    (q3 : mm_i h 68 2 = 0 → ∀ k, k < nM → m = nI k → ((0 ≤ x.toInt ∧ x.toInt ≤ 19) ∧ (x.toInt ≤ y.toInt ∧ y.toInt ≤ 19) ∧ (0 ≤ z.toInt ∧ z.toInt ≤ 19)) → ng k = 2 → Q (.int (-2)) h)
    (q4 : mm_i h 68 2 = 0 → ∀ k, k < nM → m = nI k → ((0 ≤ x.toInt ∧ x.toInt ≤ 19) ∧ (x.toInt ≤ y.toInt ∧ y.toInt ≤ 19) ∧ (0 ≤ z.toInt ∧ z.toInt ≤ 19)) → ng k < 2 → Q (.int (nI (ng k + 1))) (mm_si (mm_sa (mm_sa (mm_sa h (qm k + 5) (ng k) x) (qm k + 6) (ng k) y) (qm k + 7) (ng k) z) 525 (qm k) (nI (ng k + 1)))) : mm_ev ro (d + 3) n_Ga_guard [.ref 1, .int m, .int x, .int y, .int z] h Q := by
  have G := mm_hM n_Ga_guard rfl
  have t20 : ((Int8.ofInt 20).toInt32).toInt = 20 := by decide
  refine mm_ev_at 46 (Z := mm_m_Ga_guard) rfl rfl (Nat.le_of_ble_eq_true rfl) rfl ?_
  refine And.intro (k_1 I) (mm_rf (r_0 I) (And.intro (k_2 I) (mm_rf rfl (And.intro (fun c_7 => mm_go_at 46 G ?_) (fun c_7 => q1 c_7)))))
  have f0 : mm_i h 68 2 = 0 := c_7
  have bad : ¬ ((0 ≤ m.toInt ∧ m.toInt < (nM : Int)) ∧ (0 ≤ x.toInt ∧ x.toInt ≤ 19) ∧ (x.toInt ≤ y.toInt ∧ y.toInt ≤ 19) ∧ (0 ≤ z.toInt ∧ z.toInt ≤ 19)) → ∀ b, mm_go ro (d + 2) mm_m_Ga_guard 69 [.ref 1, .int m, .int x, .int y, .int z, b, .null] [] h Q := fun n b => mm_go_from G (q2 f0 n)
  have g46 : ∀ v : Int32, (v = 0 → ¬ ((0 ≤ x.toInt ∧ x.toInt < 20) ∧ (0 ≤ y.toInt ∧ y.toInt < 20) ∧ (0 ≤ z.toInt ∧ z.toInt < 20))) → (¬ v = 0 → ((0 ≤ x.toInt ∧ x.toInt < 20) ∧ (0 ≤ y.toInt ∧ y.toInt < 20) ∧ (0 ≤ z.toInt ∧ z.toInt < 20))) → mm_go ro (d + 2) mm_m_Ga_guard 46 [.ref 1, .int m, .int x, .int y, .int z, .null, .null] [.int v] h Q := by
    intro v v0 v1
    refine mm_go_at 69 G (And.intro (k_1 I) (mm_rf (r_0 I) (And.intro ⟨rfl, k_2 I⟩ (c_St_isMethod I V (And.intro (fun c_56 => bad (fun q => mm_b0.mp c_56 q.1) _) (fun c_56 => And.intro (fun c_61 => bad (fun q => v0 c_61 (by omega)) _) (fun c_61 => And.intro (fun c_66 => mm_go_from G ?_) (fun c_66 => ?_))))))))
    · have n1 := v1 c_61
      have le : x.toInt ≤ y.toInt := c_66
      obtain ⟨k, hk, rfl⟩ := mm_of (mm_nn c_56)
      obtain ⟨a1, a2, a3⟩ := mm_mth I E V.2.2.2.2.2.2 hk
      have ok : (0 ≤ x.toInt ∧ x.toInt ≤ 19) ∧ (x.toInt ≤ y.toInt ∧ y.toInt ≤ 19) ∧ (0 ≤ z.toInt ∧ z.toInt ≤ 19) := by omega
      have g2 := (A k hk).2.2
      refine And.intro (k_1 I) (mm_rf (r_0 I) (And.intro (k_2 I) (mm_rf (r_73 I) (And.intro a1 (mm_rf a2 (And.intro a3.1.1 (mm_rf (A k hk).2.1 (And.intro (fun c_88 => mm_go_from G ?_) (fun c_88 => mm_go_from G (q3 f0 k hk rfl ok (mm_nee (by omega) (by omega) (mm_no c_88))))))))))))
      have hlt : ng k < 2 := mm_nel g2 (by omega) c_88
      exact And.intro ⟨rfl, a3.1.1⟩ (c_Me_addGuard a3 (A k hk).2.1 hlt (q4 f0 k hk rfl ok hlt))
    · have nle : ¬ x.toInt ≤ y.toInt := c_66
      exact bad (fun q => nle q.2.2.1.1) _
  refine And.intro ⟨rfl, trivial⟩ (c_Ga_within I ?_)
  rw [t20]
  refine And.intro (fun c_19 => mm_go_at 46 G ?_) (fun c_19 => ?_)
  · exact g46 0 (fun _ q => mm_b0.mp c_19 q.1) (fun n => absurd rfl n)
  refine And.intro ⟨rfl, trivial⟩ (c_Ga_within I ?_)
  rw [t20]
  refine And.intro (fun c_28 => mm_go_at 46 G ?_) (fun c_28 => ?_)
  · exact g46 0 (fun _ q => mm_b0.mp c_28 q.2.1) (fun n => absurd rfl n)
  refine And.intro ⟨rfl, trivial⟩ (c_Ga_within I ?_)
  rw [t20]
  refine And.intro (fun c_38 => mm_go_at 46 G ?_) (fun c_38 => ?_)
  · exact g46 0 (fun _ q => mm_b0.mp c_38 q.2.2) (fun n => absurd rfl n)
  · exact g46 1 (fun e => absurd e (by decide)) (fun _ => ⟨mm_nn c_19, mm_nn c_28, mm_nn c_38⟩)
theorem c_Ga_result {ro : mm_Ro} {d nC nF nM : Nat} {qm : Nat → Nat} {m s b w : Int32} {h : mm_H} {Q : Value → mm_H → Prop} (I : mm_SH h) (V : mm_XN h nC nF nM) (E : mm_XM h nM qm)
    (q1 : (¬ mm_i h 68 2 = 0 ∨ ¬ (0 ≤ m.toInt ∧ m.toInt < (nM : Int)) ∨ ¬ (0 ≤ w.toInt ∧ w.toInt ≤ 15) ∨ ¬ (s.toInt = -2 ∨ mm_sm nC s w)) → Q (.int 0) h)
    (q2 : mm_i h 68 2 = 0 → ∀ k, k < nM → m = nI k → (0 ≤ w.toInt ∧ w.toInt ≤ 15) → (s.toInt = -2 ∨ mm_sm nC s w) → Q (.int 1) (mm_si (mm_si (mm_si h 448 (qm k + 2) s) 449 (qm k + 2) (mm_my s b)) 450 (qm k + 2) w)) : mm_ev ro (d + 4) n_Ga_result [.ref 1, .int m, .int s, .int b, .int w] h Q := by
  have G := mm_hM n_Ga_result rfl
  have t16 : ((Int8.ofInt 16).toInt32).toInt = 16 := by decide
  have t2 : ((Int8.ofInt (-2)).toInt32).toInt = -2 := by decide
  have g26 : ∀ v : Int32, (v = 0 → ¬ ((0 ≤ w.toInt ∧ w.toInt ≤ 15) ∧ (s.toInt = -2 ∨ mm_sm nC s w))) → (¬ v = 0 → (0 ≤ w.toInt ∧ w.toInt ≤ 15) ∧ (s.toInt = -2 ∨ mm_sm nC s w)) → mm_go ro (d + 3) mm_m_Ga_result 26 [.ref 1, .int m, .int s, .int b, .int w, .null] [.int v] h Q := by
    intro v v0 v1
    have bad : (¬ mm_i h 68 2 = 0 ∨ ¬ (0 ≤ m.toInt ∧ m.toInt < (nM : Int)) ∨ v = 0) → mm_go ro (d + 3) mm_m_Ga_result 54 [.ref 1, .int m, .int s, .int b, .int w, .int v] [] h Q := by
      intro n
      refine mm_go_from G ⟨Or.inl rfl, q1 ?_⟩
      rcases n with n | n | n
      · exact Or.inl n
      · exact Or.inr (Or.inl n)
      · have := v0 n
        by_cases q : 0 ≤ w.toInt ∧ w.toInt ≤ 15
        · exact Or.inr (Or.inr (Or.inr (fun y => this ⟨q, y⟩)))
        · exact Or.inr (Or.inr (Or.inl q))
    refine mm_go_at 54 G (And.intro (k_1 I) (mm_rf (r_0 I) (And.intro (k_2 I) (mm_rf rfl (And.intro (fun c_35 => bad (Or.inl c_35)) (fun c_35 => And.intro (k_1 I) (mm_rf (r_0 I) (And.intro ⟨rfl, k_2 I⟩ (c_St_isMethod I V (And.intro (fun c_46 => bad (Or.inr (Or.inl (mm_b0.mp c_46)))) (fun c_46 => And.intro (fun c_51 => mm_go_from G ?_) (fun c_51 => bad (Or.inr (Or.inr (mm_no c_51)))))))))))))))
    obtain ⟨k, hk, rfl⟩ := mm_of (mm_nn c_46)
    obtain ⟨a1, a2, a3⟩ := mm_mth I E V.2.2.2.2.2.2 hk
    have ok := v1 c_51
    exact And.intro (k_1 I) (mm_rf (r_0 I) (And.intro (k_2 I) (mm_rf (r_73 I) (And.intro a1 (mm_rf a2 (And.intro a3.1.1 (mm_rf a3.2.1.1 (And.intro ⟨rfl, a3.2.1.2⟩ (c_Pl_become a3.2.1.2 ⟨Or.inr rfl, q2 (mm_no c_35) k hk rfl ok.1 ok.2⟩)))))))))
  refine mm_ev_at 26 (Z := mm_m_Ga_result) rfl rfl (Nat.le_of_ble_eq_true rfl) rfl ?_
  refine And.intro (fun c_3 => mm_go_at 26 G ?_) (fun c_3 => ?_)
  · have ns : ¬ s.toInt = -2 := fun y => c_3 (Int32.toInt_inj.mp (y.trans t2.symm))
    refine And.intro (k_1 I) (mm_rf (r_0 I) (And.intro ⟨rfl, k_2 I⟩ (c_St_isPlace I V ?_)))
    refine g26 _ (fun e q => ?_) (fun n => ?_)
    · rcases q.2 with y | y
      · exact ns y
      · exact mm_b0.mp e y
    · have y := mm_nn n
      exact ⟨y.2, Or.inr y⟩
  · have es : s.toInt = -2 := by
      have y : s = (Int8.ofInt (-2)).toInt32 := mm_no c_3
      rw [y, t2]
    refine And.intro ⟨rfl, trivial⟩ (c_Ga_within I ?_)
    rw [t16]
    refine g26 _ (fun e q => mm_b0.mp e (by omega)) (fun n => ?_)
    have y := mm_nn n
    exact ⟨by omega, Or.inl es⟩
theorem c_Pl_init {ro : mm_Ro} {d p : Nat} {s b w : Int32} {h : mm_H} {Q : Value → mm_H → Prop} (hk : mm_k h p = 8) (hQ : Q .null (mm_si (mm_si (mm_si h 448 p s) 449 p (mm_my s b)) 450 p w)) : mm_ev ro (d + 2) n_Pl_init [.ref p, .int s, .int b, .int w] h Q := by
  refine mm_ev_in (Z := mm_m_Pl_init) rfl rfl (Nat.le_of_ble_eq_true rfl) rfl ?_
  exact And.intro ⟨rfl, by rw [hk]; decide, by rw [hk]; decide⟩ (And.intro ⟨rfl, hk⟩ (c_Pl_become hk hQ))
theorem mm_sh_lt : ∀ t ∈ sh_r, t.2.1 < 124 := by decide
theorem lx_SHn {h : mm_H} {k n : Nat} (ht : 123 ≤ mm_t h) (I : mm_SH h) : mm_SH (mm_new h k n) := by
  obtain ⟨a, b, c, d, e⟩ := I
  refine ⟨fun x hx => (if_neg (by omega)).trans (a x hx), fun x hx => (if_neg (by omega)).trans (b x hx), fun t ht' => ?_, fun i hi => ?_, fun i hi => ?_⟩
  · have z := mm_sh_lt t ht'
    exact (if_neg (by omega)).trans (c t ht')
  · have z : mm_q (mm_new h k n) 10 = mm_q h 10 := if_neg (by omega)
    rw [z]; exact d i hi
  · have z : mm_q (mm_new h k n) 61 = mm_q h 61 := if_neg (by omega)
    rw [z]; exact e i hi

/-- a new Place -/
noncomputable def lx_np (h : mm_H) (s b w : Int32) : mm_H := mm_si (mm_si (mm_si (mm_new h 8 3) 448 (mm_t h + 1) s) 449 (mm_t h + 1) (mm_my s b)) 450 (mm_t h + 1) w
theorem c_St_makeField {ro : mm_Ro} {d p n : Nat} {c : Int32} {h : mm_H} {Q : Value → mm_H → Prop} (I : mm_SH h) (en : mm_i h 69 2 = nI n) (hn : n < 12) (kp : mm_k h p = 8) (hQ : Q (.int (nI n)) (mm_si (mm_sq (mm_sa h 6 n c) 7 n p) 69 2 (nI (n + 1)))) : mm_ev ro (d + 1) n_St_makeField [.ref 2, .int c, .ref p] h Q := by
  have hB : 0 ≤ (nI n).toInt ∧ (nI n).toInt < ((12 : Nat) : Int) := mm_nb hn (by omega)
  have cn : (nI n).toNatClampNeg = n := mm_ncl (by omega)
  refine mm_ev_in (Z := mm_m_St_makeField) rfl rfl (Nat.le_of_ble_eq_true rfl) rfl ?_
  refine And.intro (k_2 I) (mm_rf (r_70 I) (And.intro (k_2 I) (mm_rf en (And.intro ⟨k_6 I, mm_inb 12 (n_6 I) hB⟩ (And.intro (k_2 I) (mm_rf (r_71 I) (And.intro (k_2 I) (mm_rf en (And.intro ⟨⟨by rw [show mm_k (mm_sa h 6 (nI n).toNatClampNeg c) 7 = 22 from k_7 I]; decide, by rw [show mm_k (mm_sa h 6 (nI n).toNatClampNeg c) 7 = 22 from k_7 I]; decide⟩, mm_inb 12 (n_7 I) hB, ?_⟩ (And.intro (k_2 I) (mm_rf en (And.intro (k_2 I) (And.intro (k_2 I) (mm_rf mm_i1 ?_))))))))))))))
  · show mm_k h p = mm_ac.getD (mm_k h 7 - 20) 0 + 1
    rw [kp, k_7 I]
    decide
  · refine mm_qq hQ ?_ ?_
    · show Value.int (nI n + 1 - 1) = _
      rw [Int32.add_sub_cancel]
    · rw [cn, nI_succ]
      rfl
theorem c_Ga_field {ro : mm_Ro} {d nC nF nM : Nat} {c s b w : Int32} {h : mm_H} {Q : Value → mm_H → Prop} (I : mm_SH h) (V : mm_XN h nC nF nM) (ht : 123 ≤ mm_t h)
    (q1 : ¬ mm_i h 68 2 = 0 → Q (.int (-3)) h) (q2 : mm_i h 68 2 = 0 → ¬ ((0 ≤ c.toInt ∧ c.toInt < (nC : Int)) ∧ mm_sm nC s w) → Q (.int (-1)) h) (q3 : mm_i h 68 2 = 0 → (0 ≤ c.toInt ∧ c.toInt < (nC : Int)) → mm_sm nC s w → nF = 12 → Q (.int (-2)) h)
    (q4 : mm_i h 68 2 = 0 → (0 ≤ c.toInt ∧ c.toInt < (nC : Int)) → mm_sm nC s w → nF < 12 → Q (.int (nI nF)) (mm_si (mm_sq (mm_sa (lx_np h s b w) 6 nF c) 7 nF (mm_t h + 1)) 69 2 (nI (nF + 1)))) : mm_ev ro (d + 4) n_Ga_field [.ref 1, .int c, .int s, .int b, .int w] h Q := by
  have G := mm_hM n_Ga_field rfl
  have h12 := V.2.2.2.2.2.1
  refine mm_ev_in (Z := mm_m_Ga_field) rfl rfl (Nat.le_of_ble_eq_true rfl) rfl ?_
  refine And.intro (k_1 I) (mm_rf (r_0 I) (And.intro (k_2 I) (mm_rf rfl (And.intro (fun c_7 => mm_go_from G ?_) (fun c_7 => q1 c_7)))))
  refine And.intro (k_1 I) (mm_rf (r_0 I) (And.intro ⟨rfl, k_2 I⟩ (c_St_isClass I V (And.intro (fun c_21 => mm_go_from G (q2 c_7 (fun q => mm_b0.mp c_21 q.1))) (fun c_21 => ?_)))))
  refine And.intro (k_1 I) (mm_rf (r_0 I) (And.intro ⟨rfl, k_2 I⟩ (c_St_isPlace I V (And.intro (fun c_34 => mm_go_from G ?_) (fun c_34 => q2 c_7 (fun q => mm_nb0 c_34 q.2))))))
  refine And.intro (k_1 I) (mm_rf (r_0 I) (And.intro (k_2 I) (mm_rf V.2.1 (And.intro (fun c_48 => mm_go_from G ?_) (fun c_48 => mm_go_from G (q3 c_7 (mm_nn c_21) (mm_nn c_34) (mm_nee (by omega) (by omega) (mm_no c_48))))))))
  have hlt : nF < 12 := mm_nel h12 (by omega) c_48
  have kp : mm_k (mm_new h 8 3) (mm_t h + 1) = 8 := if_pos rfl
  have J : mm_SH (lx_np h s b w) := lx_SHn (k := 8) (n := 3) ht I
  have en : mm_i (lx_np h s b w) 69 2 = nI nF := by
    have z : mm_i (mm_new h 8 3) 69 2 = mm_i h 69 2 := if_neg (by omega)
    exact z.trans V.2.1
  refine And.intro (k_1 I) (mm_rf (r_0 I) (And.intro (by decide) (And.intro ⟨rfl, kp⟩ (c_Pl_init (h := mm_new h 8 3) kp ?_))))
  refine And.intro ⟨rfl, k_2 J⟩ (c_St_makeField (h := lx_np h s b w) J en hlt kp (q4 c_7 (mm_nn c_21) (mm_nn c_34) hlt))
theorem c_Me_addParam {ro : mm_Ro} {d q p n : Nat} {h : mm_H} {Q : Value → mm_H → Prop} (E : mm_ME h q) (en : mm_i h 516 q = nI n) (hn : n < 3) (kp : mm_k h p = 8) (hQ : Q (.int (nI (n + 1))) (mm_si (mm_sq h (q + 1) n p) 516 q (nI (n + 1)))) : mm_ev ro (d + 1) n_Me_addParam [.ref q, .ref p] h Q := by
  have hB : 0 ≤ (nI n).toInt ∧ (nI n).toInt < ((3 : Nat) : Int) := mm_nb hn (by omega)
  have cn : (nI n).toNatClampNeg = n := mm_ncl (by omega)
  refine mm_ev_in (Z := mm_m_Me_addParam) rfl rfl (Nat.le_of_ble_eq_true rfl) rfl ?_
  refine And.intro E.1.1 (mm_rf E.1.2.1 (And.intro E.1.1 (mm_rf en (And.intro ⟨⟨by rw [E.1.2.2.1]; decide, by rw [E.1.2.2.1]; decide⟩, mm_inb 3 E.1.2.2.2 hB, ?_⟩ (And.intro E.1.1 (mm_rf en (And.intro E.1.1 (And.intro E.1.1 (mm_rf mm_i1 ?_)))))))))
  · rw [kp, E.1.2.2.1]
    decide
  · refine mm_qq hQ ?_ ?_
    · show Value.int (nI n + 1) = _
      rw [← nI_succ]
    · rw [cn, nI_succ]
      rfl
theorem c_Ga_param {ro : mm_Ro} {d nC nF nM : Nat} {qm np : Nat → Nat} {m s b w : Int32} {h : mm_H} {Q : Value → mm_H → Prop} (I : mm_SH h) (V : mm_XN h nC nF nM) (E : mm_XM h nM qm) (A : ∀ k, k < nM → mm_i h 516 (qm k) = nI (np k) ∧ np k ≤ 3) (ht : 123 ≤ mm_t h) (qt : ∀ k, k < nM → qm k + 7 ≤ mm_t h)
    (q1 : ¬ mm_i h 68 2 = 0 → Q (.int (-3)) h) (q2 : mm_i h 68 2 = 0 → ¬ ((0 ≤ m.toInt ∧ m.toInt < (nM : Int)) ∧ mm_sm nC s w) → Q (.int (-1)) h) (q3 : mm_i h 68 2 = 0 → ∀ k, k < nM → m = nI k → mm_sm nC s w → np k = 3 → Q (.int (-2)) h)
    (q4 : mm_i h 68 2 = 0 → ∀ k, k < nM → m = nI k → mm_sm nC s w → np k < 3 → Q (.int (nI (np k + 1))) (mm_si (mm_sq (lx_np h s b w) (qm k + 1) (np k) (mm_t h + 1)) 516 (qm k) (nI (np k + 1)))) : mm_ev ro (d + 4) n_Ga_param [.ref 1, .int m, .int s, .int b, .int w] h Q := by
  have G := mm_hM n_Ga_param rfl
  refine mm_ev_in (Z := mm_m_Ga_param) rfl rfl (Nat.le_of_ble_eq_true rfl) rfl ?_
  refine And.intro (k_1 I) (mm_rf (r_0 I) (And.intro (k_2 I) (mm_rf rfl (And.intro (fun c_7 => mm_go_from G ?_) (fun c_7 => q1 c_7)))))
  refine And.intro (k_1 I) (mm_rf (r_0 I) (And.intro ⟨rfl, k_2 I⟩ (c_St_isMethod I V (And.intro (fun c_21 => mm_go_from G (q2 c_7 (fun q => mm_b0.mp c_21 q.1))) (fun c_21 => ?_)))))
  refine And.intro (k_1 I) (mm_rf (r_0 I) (And.intro ⟨rfl, k_2 I⟩ (c_St_isPlace I V (And.intro (fun c_34 => mm_go_from G ?_) (fun c_34 => q2 c_7 (fun q => mm_nb0 c_34 q.2))))))
  obtain ⟨k, hk, rfl⟩ := mm_of (mm_nn c_21)
  obtain ⟨a1, a2, a3⟩ := mm_mth I E V.2.2.2.2.2.2 hk
  obtain ⟨en, n3⟩ := A k hk
  have qk := qt k hk
  refine And.intro (k_1 I) (mm_rf (r_0 I) (And.intro (k_2 I) (mm_rf (r_73 I) (And.intro a1 (mm_rf a2 (And.intro a3.1.1 (mm_rf en (And.intro (fun c_56 => mm_go_from G ?_) (fun c_56 => mm_go_from G (q3 c_7 k hk rfl (mm_nn c_34) (mm_nee (by omega) (by omega) (mm_no c_56))))))))))))
  have hlt : np k < 3 := mm_nel n3 (by omega) c_56
  have kp : mm_k (mm_new h 8 3) (mm_t h + 1) = 8 := if_pos rfl
  have J : mm_SH (lx_np h s b w) := lx_SHn (k := 8) (n := 3) ht I
  have kx : ∀ x, x ≤ mm_t h → mm_k (lx_np h s b w) x = mm_k h x := fun x hx => if_neg (by omega)
  have nx : ∀ x, x ≤ mm_t h → mm_n (lx_np h s b w) x = mm_n h x := fun x hx => if_neg (by omega)
  have rx : ∀ f x, x ≤ mm_t h → mm_r (lx_np h s b w) f x = mm_r h f x := fun f x hx => if_neg (by omega)
  have en' : mm_i (lx_np h s b w) 516 (qm k) = nI (np k) := by
    have z : mm_i (mm_new h 8 3) 516 (qm k) = mm_i h 516 (qm k) := if_neg (by omega)
    have y : mm_i (lx_np h s b w) 516 (qm k) = mm_i (mm_new h 8 3) 516 (qm k) := (mm_i2 (Or.inl (by omega))).trans ((mm_i2 (Or.inl (by omega))).trans (mm_i2 (Or.inl (by omega))))
    exact y.trans (z.trans en)
  have E' : mm_ME (lx_np h s b w) (qm k) := by
    unfold mm_ME at a3 ⊢
    rw [kx _ (by omega), kx _ (by omega), kx _ (by omega), kx _ (by omega), kx _ (by omega), kx _ (by omega), kx _ (by omega), kx _ (by omega), nx _ (by omega), nx _ (by omega), nx _ (by omega), nx _ (by omega), nx _ (by omega), nx _ (by omega), rx _ _ (by omega), rx _ _ (by omega), rx _ _ (by omega), rx _ _ (by omega), rx _ _ (by omega), rx _ _ (by omega), rx _ _ (by omega)]
    exact a3
  refine And.intro (by decide) (And.intro ⟨rfl, kp⟩ (c_Pl_init (h := mm_new h 8 3) kp ?_))
  exact And.intro ⟨rfl, E'.1.1⟩ (c_Me_addParam (h := lx_np h s b w) E' en' hlt kp (q4 c_7 k hk rfl (mm_nn c_34) hlt))
