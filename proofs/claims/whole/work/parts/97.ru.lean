/-! THE CLASS: what is wrong (0: nothing) -/
def lx_cv (a : Int32) : Int32 := if a = 9 then 0 else a
theorem lk_e5_iff {A B C D A' B' C' D' : Prop} (a : A ↔ A') (b : B ↔ B') (c : C ↔ C') (d : D ↔ D') : lk_e5 A B C D = lk_e5 A' B' C' D' := by rw [propext a, propext b, propext c, propext d]
theorem c_Ru_isReference {ro : mm_Ro} {d nC D : Nat} {h : mm_H} {x : mm_V} {Q : Value → mm_H → Prop} (I : mm_SH h) (A : lx_AS h nC) (vx : lx_vr nC x) (hD : D < 6) (hQ : Q (.int (mm_b (lk_ir (mm_up h) x (D : Int)))) h) : mm_ev ro (d + 2) n_Ru_isReference [.ref 15, .int (lx_pk x), .int (nI D)] h Q := by
  have G := mm_hM n_Ru_isReference rfl
  have t3 : (3 : Int32).toInt = 3 := by decide
  have t4 : (4 : Int32).toInt = 4 := by decide
  have yes : lk_ir (mm_up h) x (D : Int) → mm_go ro (d + 1) mm_m_Ru_isReference 35 [.ref 15, .int (lx_pk x), .int (nI D), .int x.1] [] h Q := fun y => mm_go_from G (mm_go_from G ⟨Or.inr rfl, mm_qe hQ (mm_b_t y)⟩)
  have no : ¬ lk_ir (mm_up h) x (D : Int) → mm_go ro (d + 1) mm_m_Ru_isReference 39 [.ref 15, .int (lx_pk x), .int (nI D), .int x.1] [] h Q := fun y => mm_go_from G ⟨Or.inl rfl, mm_qe hQ (mm_b_f y)⟩
  have g20 : ¬ x.1 = 2 → (x.1 = 3 ∨ x.1 = 4) → mm_go ro (d + 1) mm_m_Ru_isReference 20 [.ref 15, .int (lx_pk x), .int (nI D), .int x.1] [] h Q := by
    intro n2 k34
    have k3 : 3 ≤ x.1.toInt := by rcases k34 with z | z <;> rw [z] <;> decide
    have rc := vx.1.2.2.1 k3
    obtain ⟨c, hc, ec⟩ := mm_of (N := nC) (x := x.2.1) ⟨rc.1, vx.2⟩
    have tc : (nI c).toInt = (c : Int) := mm_nt (by have := A.1; omega)
    refine mm_go_at 35 G (And.intro (k_15 I) (mm_rf (r_256 I) (And.intro ⟨rfl, trivial⟩ (c_Va_classOf vx.1 (And.intro ⟨rfl, k_2 I⟩ ?_)))))
    rw [ec]
    refine c_St_below I A hc hD (And.intro (fun c_32 => no ?_) (fun c_32 => yes (Or.inr ⟨k3, ?_⟩)))
    · rintro (y | y)
      · exact n2 y
      · rw [ec, tc] at y
        exact mm_b0.mp c_32 y.2
    · rw [ec, tc]
      exact mm_nn c_32
  refine mm_ev_at 20 (Z := mm_m_Ru_isReference) rfl rfl (Nat.le_of_ble_eq_true rfl) rfl ?_
  refine And.intro ⟨rfl, trivial⟩ (c_Va_kind vx.1 (And.intro (fun c_7 => yes (Or.inl c_7)) (fun c_7 => And.intro (fun c_12 => g20 c_7 (Or.inl c_12)) (fun c_12 => And.intro (fun c_17 => no ?_) (fun c_17 => g20 c_7 (Or.inr (mm_no c_17)))))))
  rintro (y | y)
  · exact c_7 y
  · have := lk_t3 c_12 c_17 vx.1.1
    omega
theorem c_Ru_referenceError {ro : mm_Ro} {d nC D : Nat} {h : mm_H} {x : mm_V} {c0 n w : Int32} {Q : Value → mm_H → Prop} (I : mm_SH h) (ec : c0 = nI D) (A : lx_AS h nC) (vx : lx_vr nC x) (hD : D < 6) (hQ : Q (.int (lx_cv (lk_e5 (¬ lk_ir (mm_up h) x (D : Int)) (x.1 = 4) (¬ x.2.2.1 = 0 ∧ n = 0) (¬ x.2.2.2.1 &&& (w ^^^ (-1)) = 0)))) h) : mm_ev ro (d + 3) n_Ru_referenceError [.ref 15, .int (lx_pk x), .int c0, .int n, .int w] h Q := by
  subst ec
  have G := mm_hM n_Ru_referenceError rfl
  have fin : ∀ v u : Int32, lk_e5 (¬ lk_ir (mm_up h) x (D : Int)) (x.1 = 4) (¬ x.2.2.1 = 0 ∧ n = 0) (¬ x.2.2.2.1 &&& (w ^^^ (-1)) = 0) = v → lx_cv v = u → Q (.int u) h := fun v u e1 e2 => by
    rw [e1, e2] at hQ
    exact hQ
  have g35 : ¬ ¬ lk_ir (mm_up h) x (D : Int) → ¬ x.1 = 4 → ¬ (¬ x.2.2.1 = 0 ∧ n = 0) → mm_go ro (d + 2) mm_m_Ru_referenceError 35 [.ref 15, .int (lx_pk x), .int (nI D), .int n, .int w] [] h Q := by
    intro a b c
    refine mm_go_from G (And.intro ⟨rfl, trivial⟩ (c_Va_marks vx.1 (And.intro (fun c_44 => mm_go_from G ?_) (fun c_44 => mm_go_from G ?_))))
    · exact fin 9 _ (lk_e9 a b c (fun y => y c_44)) (by decide)
    · exact fin 7 _ (lk_e7 a b c c_44) (by decide)
  refine mm_ev_at 35 (Z := mm_m_Ru_referenceError) rfl rfl (Nat.le_of_ble_eq_true rfl) rfl ?_
  refine And.intro ⟨rfl, k_15 I⟩ (c_Ru_isReference I A vx hD (And.intro (fun c_6 => mm_go_at 35 G ?_) (fun c_6 => ?_)))
  · have a : ¬ ¬ lk_ir (mm_up h) x (D : Int) := fun y => y (mm_nn c_6)
    refine And.intro ⟨rfl, trivial⟩ (c_Va_kind vx.1 (And.intro (fun c_16 => mm_go_at 35 G ?_) (fun c_16 => ?_)))
    · refine And.intro ⟨rfl, trivial⟩ (c_Va_may vx.1 (And.intro (fun c_25 => g35 a c_16 (fun y => y.1 c_25)) (fun c_25 => And.intro (fun c_29 => g35 a c_16 (fun y => c_29 y.2)) (fun c_29 => ?_))))
      exact fin 6 _ (lk_e6 a c_16 ⟨c_25, mm_no c_29⟩) (by decide)
    · exact fin 5 _ (lk_e55 a (mm_no c_16)) (by decide)
  · exact fin 4 _ (lk_e4 (mm_nb0 c_6)) (by decide)
theorem c_Ru_holderError {ro : mm_Ro} {d nC D : Nat} {h : mm_H} {x : mm_V} {Q : Value → mm_H → Prop} (I : mm_SH h) (A : lx_AS h nC) (vx : lx_vr nC x) (hD : D < 6) (hQ : Q (.int (lx_cv (lk_wb (mm_up h) x (nI D) 1 1 0))) h) : mm_ev ro (d + 3) n_Ru_holderError [.ref 15, .int (lx_pk x), .int (nI D)] h Q := by
  have G := mm_hM n_Ru_holderError rfl
  have tD : (nI D).toInt = (D : Int) := mm_nt (by omega)
  unfold lk_wb at hQ
  rw [tD] at hQ
  have fin : ∀ v u : Int32, lk_e5 (¬ lk_ir (mm_up h) x (D : Int)) ((1 : Int32) = 0 ∧ x.1 = 4) (¬ (1 : Int32) = 0 ∧ ¬ x.2.2.1 = 0) (¬ (0 : Int32) = 0 ∧ ¬ x.2.2.2.1 = 0) = v → lx_cv v = u → Q (.int u) h := fun v u e1 e2 => by
    rw [e1, e2] at hQ
    exact hQ
  have nb : ¬ ((1 : Int32) = 0 ∧ x.1 = 4) := fun y => absurd y.1 (by decide)
  have nd : ¬ (¬ (0 : Int32) = 0 ∧ ¬ x.2.2.2.1 = 0) := fun y => y.1 rfl
  refine mm_ev_in (Z := mm_m_Ru_holderError) rfl rfl (Nat.le_of_ble_eq_true rfl) rfl ?_
  refine And.intro ⟨rfl, k_15 I⟩ (c_Ru_isReference I A vx hD (And.intro (fun c_6 => mm_go_from G ?_) (fun c_6 => ?_)))
  · have a : ¬ ¬ lk_ir (mm_up h) x (D : Int) := fun y => y (mm_nn c_6)
    refine And.intro ⟨rfl, trivial⟩ (c_Va_may vx.1 (And.intro (fun c_15 => mm_go_from G ?_) (fun c_15 => mm_go_from G ?_)))
    · exact fin 9 _ (lk_e9 a nb (fun y => y.2 c_15) nd) (by decide)
    · exact fin 6 _ (lk_e6 a nb ⟨by decide, c_15⟩) (by decide)
  · exact fin 4 _ (lk_e4 (mm_nb0 c_6)) (by decide)
theorem c_Ru_comingError {ro : mm_Ro} {d nC p : Nat} {h : mm_H} {x : mm_V} {s n w : Int32} {Q : Value → mm_H → Prop} (I : mm_SH h) (A : lx_AS h nC) (vx : lx_vr nC x) (L : lx_PL h p s n w) (hs : -1 ≤ s.toInt ∧ s.toInt ≤ 5) (hQ : Q (.int (lx_cv (lk_wf (mm_up h) x s n w))) h) : mm_ev ro (d + 4) n_Ru_comingError [.ref 15, .int (lx_pk x), .ref p] h Q := by
  have G := mm_hM n_Ru_comingError rfl
  obtain ⟨l1, l2, l3, l4, l5⟩ := L
  refine mm_ev_in (Z := mm_m_Ru_comingError) rfl rfl (Nat.le_of_ble_eq_true rfl) rfl ?_
  refine And.intro l2 (mm_rf l3 (And.intro (fun c_5 => mm_go_from G ?_) (fun c_5 => ?_)))
  · have z : s = -1 := c_5
    have zi : s.toInt = -1 := by rw [z]; decide
    have n0 : ¬ 0 ≤ s.toInt := by omega
    refine And.intro ⟨rfl, trivial⟩ (c_Va_kind vx.1 (And.intro (fun c_31 => mm_go_from G ?_) (fun c_31 => ?_)))
    · have k1 : x.1 = 1 := c_31
      have a : ¬ ((s = -1 ∧ ¬ x.1 = 1) ∨ (0 ≤ s.toInt ∧ ¬ lk_ir (mm_up h) x s.toInt)) := by
        rintro (y | y)
        · exact y.2 k1
        · exact n0 y.1
      refine And.intro ⟨rfl, trivial⟩ (c_Va_marks vx.1 (And.intro l2 (mm_rf l5 (And.intro (fun c_47 => mm_go_from G ?_) (fun c_47 => mm_go_from G ?_)))))
      · have e : lk_wf (mm_up h) x s n w = 9 := lk_e9 a (fun y => n0 y.1) (fun y => n0 y.1) (fun y => y c_47)
        rw [e] at hQ
        exact hQ
      · have e : lk_wf (mm_up h) x s n w = 7 := lk_e7 a (fun y => n0 y.1) (fun y => n0 y.1) c_47
        rw [e] at hQ
        exact hQ
    · have k1 : ¬ x.1 = 1 := c_31
      have e : lk_wf (mm_up h) x s n w = 4 := lk_e4 (Or.inl ⟨z, k1⟩)
      rw [e] at hQ
      exact hQ
  · have z : ¬ s = -1 := c_5
    have zi : ¬ s.toInt = -1 := lk_nn (n := -1) z (by decide)
    have s0 : 0 ≤ s.toInt := by omega
    obtain ⟨D, hD, eD⟩ := mm_of (N := 6) (x := s) (by omega)
    have tD : (nI D).toInt = (D : Int) := mm_nt (by omega)
    refine And.intro l2 (mm_rf l3 (And.intro l2 (mm_rf l4 (And.intro l2 (mm_rf l5 (And.intro ⟨rfl, k_15 I⟩ ?_))))))
    have e : lk_wf (mm_up h) x s n w = lk_e5 (¬ lk_ir (mm_up h) x (D : Int)) (x.1 = 4) (¬ x.2.2.1 = 0 ∧ (if 0 ≤ s.toInt then n else 0) = 0) (¬ x.2.2.2.1 &&& (w ^^^ (-1)) = 0) := by
      rw [if_pos s0]
      refine lk_e5_iff ⟨fun y => ?_, fun y => Or.inr ⟨s0, ?_⟩⟩ ⟨fun y => y.2, fun y => ⟨s0, y⟩⟩ ⟨fun y => y.2, fun y => ⟨s0, y⟩⟩ Iff.rfl
      · rcases y with y | y
        · exact absurd y.1 z
        · rw [eD, tD] at y
          exact y.2
      · rw [eD, tD]; exact y
    rw [e] at hQ
    exact c_Ru_referenceError I eD A vx hD hQ
def lx_e (a : Int32) : Prop := a = 4 ∨ a = 5 ∨ a = 6 ∨ a = 7 ∨ a = 9
theorem lx_wf_e {up : Nat → Int} {x : mm_V} {s n w : Int32} : lx_e (lk_wf up x s n w) := lk_e5_r
theorem lx_wb_e {up : Nat → Int} {x : mm_V} {c r t k : Int32} : lx_e (lk_wb up x c r t k) := lk_e5_r
theorem lx_mn_e {a b : Int32} (ha : lx_e a) (hb : lx_e b) : lx_e (lk_mn a b) := by
  unfold lk_mn
  split
  · exact ha
  · exact hb
theorem c_Ru_first {ro : mm_Ro} {d : Nat} {h : mm_H} {a b : Int32} {Q : Value → mm_H → Prop} (ha : lx_e a) (hb : lx_e b) (hQ : Q (.int (lx_cv (lk_mn a b))) h) : mm_ev ro (d + 1) n_Ru_first [.int (lx_cv a), .int (lx_cv b)] h Q := by
  have run : ∀ v : Int32, mm_run0 (d + 1) 20 n_Ru_first [.int (lx_cv a), .int (lx_cv b)] h = some (.int v, h) → lx_cv (lk_mn a b) = v → mm_ev ro (d + 1) n_Ru_first [.int (lx_cv a), .int (lx_cv b)] h Q := by
    intro v e1 e2
    refine mm_ev0 20 (by rw [e1]; rfl) (fun r h' e => ?_)
    rw [e1] at e
    cases e
    rw [← e2]
    exact hQ
  clear hQ
  rcases ha with rfl | rfl | rfl | rfl | rfl <;> rcases hb with rfl | rfl | rfl | rfl | rfl
  case _ => exact run 4 rfl (by decide)
  case _ => exact run 4 rfl (by decide)
  case _ => exact run 4 rfl (by decide)
  case _ => exact run 4 rfl (by decide)
  case _ => exact run 4 rfl (by decide)
  case _ => exact run 4 rfl (by decide)
  case _ => exact run 5 rfl (by decide)
  case _ => exact run 5 rfl (by decide)
  case _ => exact run 5 rfl (by decide)
  case _ => exact run 5 rfl (by decide)
  case _ => exact run 4 rfl (by decide)
  case _ => exact run 5 rfl (by decide)
  case _ => exact run 6 rfl (by decide)
  case _ => exact run 6 rfl (by decide)
  case _ => exact run 6 rfl (by decide)
  case _ => exact run 4 rfl (by decide)
  case _ => exact run 5 rfl (by decide)
  case _ => exact run 6 rfl (by decide)
  case _ => exact run 7 rfl (by decide)
  case _ => exact run 7 rfl (by decide)
  case _ => exact run 4 rfl (by decide)
  case _ => exact run 5 rfl (by decide)
  case _ => exact run 6 rfl (by decide)
  case _ => exact run 7 rfl (by decide)
  case _ => exact run 0 rfl (by decide)
theorem lx_15 : ∀ w, w < 16 → nI w &&& ((15 : Int32) ^^^ (-1)) = 0 := by decide
theorem c_Ru_intError {ro : mm_Ro} {d : Nat} {h : mm_H} {x : mm_V} {Q : Value → mm_H → Prop} (vx : mm_vr x) (hQ : Q (.int (lx_cv (lk_wf (mm_up h) x (-1) 1 15))) h) : mm_ev ro (d + 2) n_Ru_intError [.int (lx_pk x)] h Q := by
  have G := mm_hM n_Ru_intError rfl
  have n0 : ¬ 0 ≤ (-1 : Int32).toInt := by decide
  obtain ⟨w, hw, ew⟩ := mm_of (N := 16) (x := x.2.2.2.1) (by have := vx.2.2.2.2.1; omega)
  refine mm_ev_in (Z := mm_m_Ru_intError) rfl rfl (Nat.le_of_ble_eq_true rfl) rfl ?_
  refine And.intro ⟨rfl, trivial⟩ (c_Va_kind vx (And.intro (fun c_5 => mm_go_from G ?_) (fun c_5 => mm_go_from G ?_)))
  · have e : lk_wf (mm_up h) x (-1) 1 15 = 4 := lk_e4 (Or.inl ⟨rfl, c_5⟩)
    rw [e] at hQ
    exact hQ
  · have k1 : x.1 = 1 := mm_no c_5
    have e : lk_wf (mm_up h) x (-1) 1 15 = 9 := lk_e9 (by
      rintro (y | y)
      · exact y.2 k1
      · exact n0 y.1) (fun y => n0 y.1) (fun y => n0 y.1) (fun y => y (by rw [ew]; exact lx_15 w hw))
    rw [e] at hQ
    exact hQ
theorem l_Ru_builtError {ro : mm_Ro} {d nC nF c : Nat} {h : mm_H} {x : mm_V} {f : Int32} {Q : Value → mm_H → Prop} (I : mm_SH h) (A : lx_AS h nC) (FD : lx_FD h nF) (SV : lk_SV h) (eF : mm_i h 69 2 = nI nF) (ow : ∀ j, j < nF → ∃ D, D < 6 ∧ mm_a h 82 j = nI D) (vx : lx_vr nC x) (hc : c < nC) (ec : x.2.1 = nI c) (hQ1 : (∃ j, j < nF ∧ lk_la h f x.2.1.toInt j) → Q (.int 5) h) (hQ0 : ¬ (∃ j, j < nF ∧ lk_la h f x.2.1.toInt j) → Q (.int 0) h) : ∀ (n j : Nat) (v4 v5 : Value), j + n = nF → (∀ k, k < j → ¬ lk_la h f x.2.1.toInt k) → mm_go ro (d + 1) mm_m_Ru_builtError 12 [.ref 15, .int (lx_pk x), .int f, .int (nI j), v4, v5] [] h Q := by
  intro n
  have G := mm_hM n_Ru_builtError rfl
  have f12 := FD.1
  have tc : (nI c).toInt = (c : Int) := mm_nt (by have := A.1; omega)
  induction n with
  | zero =>
    intro j v4 v5 hj hk
    refine mm_go_from G (And.intro (k_15 I) (mm_rf (r_256 I) (And.intro (k_2 I) (mm_rf eF (And.intro (fun c_20 => mm_go_from G (hQ0 ?_)) (fun c_20 => ?_))))))
    · rintro ⟨k, h1, h2⟩
      exact hk k (by omega) h2
    · have z : ¬ (nI nF).toInt ≤ (nI j).toInt := c_20
      rw [mm_nt (by omega), mm_nt (by omega)] at z
      omega
  | succ n ih =>
    intro j v4 v5 hj hk
    have hjF : j < nF := by omega
    obtain ⟨PL, eo⟩ := FD.2 j hjF
    obtain ⟨D, hD, eD⟩ := ow j hjF
    obtain ⟨s1, s2, s3⟩ := SV.1 j (by omega)
    have hB : 0 ≤ (nI j).toInt ∧ (nI j).toInt < ((12 : Nat) : Int) := mm_nb (by omega) (by omega)
    have hcj : (nI j).toNatClampNeg = j := mm_ncl (by omega)
    have tD : (nI D).toInt = (D : Int) := mm_nt (by omega)
    have nx : ∀ v5 : Value, ¬ lk_la h f x.2.1.toInt j → mm_go ro (d + 1) mm_m_Ru_builtError 96 [.ref 15, .int (lx_pk x), .int f, .int (nI j), .ref (mm_q h 7 j), v5] [] h Q := by
      intro v5 nl
      have w := ih (j + 1) (.ref (mm_q h 7 j)) v5 (by omega) (fun k hk' => by
        by_cases q : k = j
        · rw [q]; exact nl
        · exact hk k (by omega))
      rw [nI_succ] at w
      exact mm_go_from G w
    have g64 : ∀ b : Int32, (¬ b = 0 ↔ (¬ mm_a h 83 j = -1 ∧ mm_a h 86 j = 0 ∧ lk_bt f j)) → mm_go ro (d + 1) mm_m_Ru_builtError 64 [.ref 15, .int (lx_pk x), .int f, .int (nI j), .ref (mm_q h 7 j), v5] [.int b] h Q := by
      intro b hb
      refine mm_go_at 96 G (And.intro (fun c_68 => nx _ (fun y => ?_)) (fun c_68 => ?_))
      · refine hb.mpr ⟨fun z => ?_, y.2.2.1, y.2.2.2⟩ c_68
        have := y.2.1
        rw [z] at this
        exact absurd this (by decide)
      · obtain ⟨b1, b2, b3⟩ := hb.mp c_68
        have s0 : 0 ≤ (mm_a h 83 j).toInt := by
          have : ¬ (mm_a h 83 j).toInt = -1 := lk_nn (n := -1) b1 (by decide)
          omega
        refine And.intro (k_15 I) (mm_rf (r_256 I) (And.intro ⟨rfl, trivial⟩ (c_Va_classOf vx.1 (And.intro (k_15 I) (mm_rf (r_256 I) (And.intro (k_2 I) (mm_rf (r_70 I) (And.intro ⟨k_6 I, mm_inb 12 (n_6 I) hB⟩ (mm_rf (b := nI D) (by rw [hcj, eo]; exact eD) (And.intro ⟨rfl, k_2 I⟩ ?_))))))))))
        rw [ec]
        refine c_St_below I A hc hD (And.intro (fun c_91 => nx _ (fun y => ?_)) (fun c_91 => hQ1 ⟨j, hjF, ?_⟩))
        · have y1 := y.1
          rw [ec, tc, eD, tD] at y1
          exact mm_b0.mp c_91 y1
        · have y1 := mm_nn c_91
          refine ⟨?_, s0, b2, b3⟩
          rw [ec, tc, eD, tD]
          exact y1
    refine mm_go_at 64 G (And.intro (k_15 I) (mm_rf (r_256 I) (And.intro (k_2 I) (mm_rf eF (And.intro (fun c_20 => ?_) (fun c_20 => ?_))))))
    · have z : (nI nF).toInt ≤ (nI j).toInt := c_20
      rw [mm_nt (by omega), mm_nt (by omega)] at z
      omega
    · refine And.intro (k_15 I) (mm_rf (r_256 I) (And.intro (k_2 I) (mm_rf (r_71 I) (And.intro ⟨⟨by rw [k_7 I]; decide, by rw [k_7 I]; decide⟩, mm_inb 12 (n_7 I) hB⟩ (mm_rf (b := mm_q h 7 j) (by rw [hcj]) (And.intro PL.2.1 (mm_rf PL.2.2.1 (And.intro (fun c_40 => mm_go_at 64 G (g64 0 ⟨fun y => absurd rfl y, fun y => absurd c_40 y.1⟩)) (fun c_40 => ?_)))))))))
      have s0 : 0 ≤ (mm_a h 83 j).toInt := by
        have : ¬ (mm_a h 83 j).toInt = -1 := lk_nn (n := -1) c_40 (by decide)
        omega
      refine And.intro PL.2.1 (mm_rf (b := mm_a h 86 j) (PL.2.2.2.1.trans (if_pos s0)) (And.intro (fun c_48 => mm_go_at 64 G (g64 0 ⟨fun y => absurd rfl y, fun y => absurd y.2.1 c_48⟩)) (fun c_48 => And.intro (fun c_56 => mm_go_at 64 G (g64 0 ⟨fun y => absurd rfl y, fun y => absurd y.2.2 c_56⟩)) (fun c_56 => g64 1 ⟨fun _ => ⟨c_40, mm_no c_48, mm_no c_56⟩, fun _ => by decide⟩))))
theorem c_Ru_builtError {ro : mm_Ro} {d nC nF : Nat} {h : mm_H} {x : mm_V} {f : Int32} {Q : Value → mm_H → Prop} (I : mm_SH h) (A : lx_AS h nC) (FD : lx_FD h nF) (SV : lk_SV h) (eF : mm_i h 69 2 = nI nF) (ow : ∀ j, j < nF → ∃ D, D < 6 ∧ mm_a h 82 j = nI D) (vx : lx_vr nC x) (hQ : Q (.int (lx_cv (if ¬ x.1 = 4 then 4 else @ite _ (∃ j, j < nF ∧ lk_la h f x.2.1.toInt j) (Classical.propDecidable _) 5 9))) h) : mm_ev ro (d + 2) n_Ru_builtError [.ref 15, .int (lx_pk x), .int f] h Q := by
  have G := mm_hM n_Ru_builtError rfl
  refine mm_ev_at 12 (Z := mm_m_Ru_builtError) rfl rfl (Nat.le_of_ble_eq_true rfl) rfl ?_
  refine And.intro ⟨rfl, trivial⟩ (c_Va_kind vx.1 (And.intro (fun c_5 => mm_go_at 12 G ?_) (fun c_5 => ?_)))
  · have k4 : x.1 = 4 := c_5
    have rc := vx.1.2.2.1 (by rw [k4]; decide)
    obtain ⟨c, hc, ec⟩ := mm_of (N := nC) (x := x.2.1) ⟨rc.1, vx.2⟩
    rw [if_neg (fun y => y k4)] at hQ
    refine l_Ru_builtError I A FD SV eF ow vx hc ec (fun y => ?_) (fun y => ?_) nF 0 .null .null (by omega) (fun k hk => by omega)
    · rw [if_pos y] at hQ
      exact hQ
    · rw [if_neg y] at hQ
      exact hQ
  · have k4 : ¬ x.1 = 4 := c_5
    rw [if_pos k4] at hQ
    exact hQ
