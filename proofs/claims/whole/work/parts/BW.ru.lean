/-! RUNNING: the reference's loop -/
def sgn (s : mm_H) : Prop := mm_i s 635 80 = -1 ∨ 0 ≤ (mm_i s 635 80).toInt
theorem sgn_si {s : mm_H} {f : Nat} {x : Int32} (o : ¬ f = 635) (h : sgn s) : sgn (mm_si s f 80 x) := by
  unfold sgn
  rw [mm_i2 (by omega)]
  exact h
theorem sgn_v {s : mm_H} {x : Int32} (h : 0 ≤ x.toInt) : sgn (mm_si s 635 80 x) := by
  unfold sgn
  rw [mm_i1]
  exact Or.inr h
theorem sgn_raise {K : mm_H} {x : Int32} : ∀ (D : Nat) (s : mm_H), sgn s → sgn (rs_raise K x D s) := by
  intro D
  induction D with
  | zero =>
    intro s h
    unfold rs_raise
    exact sgn_si (by omega) (sgn_v (by decide))
  | succ D ih =>
    intro s h
    unfold rs_raise
    split
    · exact h
    · exact ih _ (sgn_si (by omega) h)
theorem sgn_enter {s : mm_H} {d : Nat} {m : Int32} (h : sgn s) : sgn (rs_enter s d m) := by
  unfold rs_enter
  split
  · exact sgn_si (by omega) (show sgn (mm_si (rs_fill (mm_sa (mm_sa (mm_sa s 122 d m) 121 d 0) 120 d 0) 118 (6 * d) 6 (fun _ => 0)) 633 80 (nI (d + 1))) from sgn_si (by omega) h)
  · exact (show sgn (mm_si (rs_fill (mm_sa (mm_sa (mm_sa s 122 d m) 121 d 0) 120 d 0) 118 (6 * d) 6 (fun _ => 0)) 633 80 (nI (d + 1))) from sgn_si (by omega) h)
theorem sgn_out {K s : mm_H} {w H j : Nat} {x : Int32} (h : sgn s) : sgn (rs_out K s w H j x) := by
  unfold rs_out
  split
  · exact sgn_si (by omega) h
  · split
    · refine sgn_si (by omega) ?_
      split
      · exact h
      · exact h
    · exact h
theorem sgn_do {K s : mm_H} {w H a B j : Nat} (h : sgn s) : sgn (rs_do K s w H a B j) := by
  unfold rs_do
  split
  · exact sgn_v (by decide)
  · split
    · exact sgn_out h
    · split
      · exact sgn_v (by decide)
      · exact sgn_enter (s := mm_sa s 120 w (nI B)) h
theorem sgn_call {K s : mm_H} {nM w H a : Nat} (h : sgn s) : sgn (rs_call K nM s w H a) := by
  unfold rs_call
  split
  · exact sgn_do h
  · split
    · exact sgn_v (by decide)
    · exact sgn_do h
theorem sgn_gv {K s s1 : mm_H} {w H m : Nat} {x : Int32} (h : sgn s1) : sgn (rs_gv K s w H m x s1) := by
  unfold rs_gv
  split
  · exact sgn_si (by omega) (sgn_v (by decide))
  · split
    · exact sgn_si (by omega) h
    · exact sgn_si (s := s1) (f := 633) (x := nI w) (by omega) h
theorem sgn_op {K s : mm_H} {nM w H m i : Nat} (h : sgn s) : ∀ o, o < 18 → sgn (rs_op K nM s w H m i o) := by
  intro o ho
  have c18 : o = 0 ∨ o = 1 ∨ o = 2 ∨ o = 3 ∨ o = 4 ∨ o = 5 ∨ o = 6 ∨ o = 7 ∨ o = 8 ∨ o = 9 ∨ o = 10 ∨ o = 11 ∨ o = 12 ∨ o = 13 ∨ o = 14 ∨ o = 15 ∨ o = 16 ∨ o = 17 := by omega
  rcases c18 with q | q | q | q | q | q | q | q | q | q | q | q | q | q | q | q | q | q <;> subst q
  · exact h
  · exact h
  · exact h
  · exact h
  · exact h
  · exact h
  · exact h
  · show sgn (rs_make K s w H (mm_i s 629 80).toNatClampNeg (lk_a K m i))
    unfold rs_make
    split
    · exact sgn_v (by decide)
    · split
      · exact sgn_v (by decide)
      · exact sgn_si (s := s) (f := 629) (x := nI ((mm_i s 629 80).toNatClampNeg + 1)) (by omega) h
  · exact h
  · show sgn (if rs_tp s w H = 0 then mm_si (rs_pop s w H) 635 80 6 else rs_lay (rs_pop s w H) w (H - 1) (mm_a s 117 (12 * ((rs_tp s w H).toNatClampNeg - 1) + lk_a K m i)))
    split
    · exact sgn_v (by decide)
    · exact h
  · show sgn (if mm_a s 119 (4 * w + (H - 2)) = 0 then mm_si (rs_pop (rs_pop s w H) w (H - 1)) 635 80 6 else mm_sa (rs_pop (rs_pop s w H) w (H - 1)) 117 (12 * ((mm_a s 119 (4 * w + (H - 2))).toNatClampNeg - 1) + lk_a K m i) (rs_tp s w H))
    split
    · exact sgn_v (by decide)
    · exact h
  · exact sgn_call h
  · show sgn (@ite _ (rs_tp s w H = 0 ∨ mm_bel (mm_up K) (mm_a s 116 (rs_tp s w H).toNatClampNeg).toInt (lk_a K m i : Int)) (Classical.propDecidable _) (rs_lay (rs_pop s w H) w (H - 1) (rs_tp s w H)) (rs_raise K (rs_tp s w H) (w + 1) (rs_pop s w H)))
    split
    · exact h
    · exact sgn_raise _ _ h
  · exact h
  · show sgn (if rs_tp s w H = 0 then mm_sa (rs_pop s w H) 121 w (mm_a K 98 (20 * m + i)) else rs_pop s w H)
    split
    · exact h
    · exact h
  · show sgn (if rs_tp s w H = 0 then mm_sa (rs_pop s w H) 121 w (mm_a K 98 (20 * m + i)) else rs_pop s w H)
    split
    · exact h
    · exact h
  · show sgn (rs_give K s w H m)
    unfold rs_give
    split
    · exact sgn_gv h
    · exact sgn_gv h
  · show sgn (if rs_tp s w H = 0 then mm_si (rs_pop s w H) 635 80 6 else rs_raise K (rs_tp s w H) (w + 1) (rs_pop s w H))
    split
    · exact sgn_v (by decide)
    · exact sgn_raise _ _ h
def k632 (v : Int32) (s : mm_H) : Prop := mm_i s 632 80 = v
theorem k632_si {v : Int32} {s : mm_H} {f : Nat} {x : Int32} (o : ¬ f = 632) (h : k632 v s) : k632 v (mm_si s f 80 x) := (mm_i2 (by omega)).trans h
theorem k632_raise {v : Int32} {K : mm_H} {x : Int32} : ∀ (D : Nat) (s : mm_H), k632 v s → k632 v (rs_raise K x D s) := by
  intro D
  induction D with
  | zero =>
    intro s h
    unfold rs_raise
    exact k632_si (by omega) (k632_si (by omega) h)
  | succ D ih =>
    intro s h
    unfold rs_raise
    split
    · exact h
    · exact ih _ (k632_si (by omega) h)
theorem k632_enter {v : Int32} {s : mm_H} {d : Nat} {m : Int32} (h : k632 v s) : k632 v (rs_enter s d m) := by
  unfold rs_enter
  split
  · exact k632_si (by omega) (show k632 v (mm_si (rs_fill (mm_sa (mm_sa (mm_sa s 122 d m) 121 d 0) 120 d 0) 118 (6 * d) 6 (fun _ => 0)) 633 80 (nI (d + 1))) from k632_si (by omega) h)
  · exact (show k632 v (mm_si (rs_fill (mm_sa (mm_sa (mm_sa s 122 d m) 121 d 0) 120 d 0) 118 (6 * d) 6 (fun _ => 0)) 633 80 (nI (d + 1))) from k632_si (by omega) h)
theorem k632_out {v : Int32} {K s : mm_H} {w H j : Nat} {x : Int32} (h : k632 v s) : k632 v (rs_out K s w H j x) := by
  unfold rs_out
  split
  · exact k632_si (by omega) h
  · split
    · refine k632_si (by omega) ?_
      split
      · exact h
      · exact h
    · exact h
theorem k632_do {v : Int32} {K s : mm_H} {w H a B j : Nat} (h : k632 v s) : k632 v (rs_do K s w H a B j) := by
  unfold rs_do
  split
  · exact k632_si (by omega) h
  · split
    · exact k632_out h
    · split
      · exact k632_si (by omega) h
      · exact k632_enter (s := mm_sa s 120 w (nI B)) h
theorem k632_call {v : Int32} {K s : mm_H} {nM w H a : Nat} (h : k632 v s) : k632 v (rs_call K nM s w H a) := by
  unfold rs_call
  split
  · exact k632_do h
  · split
    · exact k632_si (by omega) h
    · exact k632_do h
theorem k632_gv {v : Int32} {K s s1 : mm_H} {w H m : Nat} {x : Int32} (h : k632 v s1) : k632 v (rs_gv K s w H m x s1) := by
  unfold rs_gv
  split
  · exact k632_si (by omega) (k632_si (by omega) h)
  · split
    · exact k632_si (by omega) h
    · exact k632_si (s := s1) (f := 633) (x := nI w) (by omega) h
theorem k632_op {v : Int32} {K s : mm_H} {nM w H m i : Nat} (h : k632 v s) : ∀ o, o < 18 → k632 v (rs_op K nM s w H m i o) := by
  intro o ho
  have c18 : o = 0 ∨ o = 1 ∨ o = 2 ∨ o = 3 ∨ o = 4 ∨ o = 5 ∨ o = 6 ∨ o = 7 ∨ o = 8 ∨ o = 9 ∨ o = 10 ∨ o = 11 ∨ o = 12 ∨ o = 13 ∨ o = 14 ∨ o = 15 ∨ o = 16 ∨ o = 17 := by omega
  rcases c18 with q | q | q | q | q | q | q | q | q | q | q | q | q | q | q | q | q | q <;> subst q
  · exact h
  · exact h
  · exact h
  · exact h
  · exact h
  · exact h
  · exact h
  · show k632 v (rs_make K s w H (mm_i s 629 80).toNatClampNeg (lk_a K m i))
    unfold rs_make
    split
    · exact k632_si (by omega) h
    · split
      · exact k632_si (by omega) h
      · exact k632_si (s := s) (f := 629) (x := nI ((mm_i s 629 80).toNatClampNeg + 1)) (by omega) h
  · exact h
  · show k632 v (if rs_tp s w H = 0 then mm_si (rs_pop s w H) 635 80 6 else rs_lay (rs_pop s w H) w (H - 1) (mm_a s 117 (12 * ((rs_tp s w H).toNatClampNeg - 1) + lk_a K m i)))
    split
    · exact k632_si (by omega) h
    · exact h
  · show k632 v (if mm_a s 119 (4 * w + (H - 2)) = 0 then mm_si (rs_pop (rs_pop s w H) w (H - 1)) 635 80 6 else mm_sa (rs_pop (rs_pop s w H) w (H - 1)) 117 (12 * ((mm_a s 119 (4 * w + (H - 2))).toNatClampNeg - 1) + lk_a K m i) (rs_tp s w H))
    split
    · exact k632_si (by omega) h
    · exact h
  · exact k632_call h
  · show k632 v (@ite _ (rs_tp s w H = 0 ∨ mm_bel (mm_up K) (mm_a s 116 (rs_tp s w H).toNatClampNeg).toInt (lk_a K m i : Int)) (Classical.propDecidable _) (rs_lay (rs_pop s w H) w (H - 1) (rs_tp s w H)) (rs_raise K (rs_tp s w H) (w + 1) (rs_pop s w H)))
    split
    · exact h
    · exact k632_raise _ _ h
  · exact h
  · show k632 v (if rs_tp s w H = 0 then mm_sa (rs_pop s w H) 121 w (mm_a K 98 (20 * m + i)) else rs_pop s w H)
    split
    · exact h
    · exact h
  · show k632 v (if rs_tp s w H = 0 then mm_sa (rs_pop s w H) 121 w (mm_a K 98 (20 * m + i)) else rs_pop s w H)
    split
    · exact h
    · exact h
  · show k632 v (rs_give K s w H m)
    unfold rs_give
    split
    · exact k632_gv h
    · exact k632_gv h
  · show k632 v (if rs_tp s w H = 0 then mm_si (rs_pop s w H) 635 80 6 else rs_raise K (rs_tp s w H) (w + 1) (rs_pop s w H))
    split
    · exact k632_si (by omega) h
    · exact k632_raise _ _ h
theorem kc_rv {h s : mm_H} : kc (rv h s) = kc h := by
  have e : (fun k j => if (81 ≤ k ∧ k ≤ 101) ∨ k = 115 then mm_a (rv h s) k j else (0 : Int32)) = (fun k j => if (81 ≤ k ∧ k ≤ 101) ∨ k = 115 then mm_a h k j else 0) := funext (fun k => funext (fun j => by
    by_cases q : (81 ≤ k ∧ k ≤ 101) ∨ k = 115
    · rw [if_pos q, if_pos q]
      exact if_neg (by omega)
    · rw [if_neg q, if_neg q]))
  unfold kc
  rw [e]
  rfl
theorem TY_632 {K s : mm_H} {nC nF nM k : Nat} {v : Int32} (h : TY K nC nF nM s k) : TY K nC nF nM (mm_si s 632 80 v) k := by
  obtain ⟨d, n, m, len, X, i, H, ⟨c1, c2, c3, ⟨T, P, t1, t2, t3, t4⟩, e, e1, e2, e3⟩, ob, tw, sws⟩ := h
  obtain ⟨W, hi, a2, a1, a0, h4, eX, f⟩ := tw
  exact ⟨d, n, m, len, X, i, H, ⟨c1, c2, c3, ⟨T, P, t1, t2, t3, t4⟩, e, e1, e2, e3⟩, OB_si (by omega) ob, ⟨W, hi, a2, a1, a0, h4, eX, ftb_cg (s := s) (sg_rf rfl) (fun _ _ => rfl) (fun _ _ => rfl) (fun j hj => WM_vr W hi eX h4 (by omega)) f⟩, SWs_si sws⟩
theorem l_Mo_run {ro : mm_Ro} {D nC nF nM N : Nat} {v1 v2 v3 v4 : Value} {h : mm_H} {Q : Value → mm_H → Prop} (I : mm_SH h) (MN : mm_MN h nC nF nM) (F : KF (kc h) nC nF nM) (eN : mm_i h 628 80 = nI N) (hN : N ≤ 8) : ∀ (r k : Nat) (s : mm_H), r + k = 400 → mm_i s 632 80 = nI k → sgn s → (mm_i s 635 80 = -1 → TY (kc h) nC nF nM s k) → (∀ s', s' = rs_run (kc h) nM r s → (¬ mm_i s' 635 80 = -1 → Q (.int (mm_i s' 635 80)) (rv h s')) ∧ (mm_i s' 635 80 = -1 → Q (.int 4) (rv h (mm_si s' 635 80 4)))) → mm_go ro (D + 4) mm_m_Mo_run 169 [.ref 80, v1, v2, v3, v4] [] (rv h s) Q := by
  have G := mm_hM n_Mo_run rfl
  have z0 : (0 : Int32).toInt = 0 := by decide
  intro r
  induction r with
  | zero =>
    intro k s hk e2 sg ty hQ
    have J : mm_SH (rv h s) := I
    have e5 : mm_i (rv h s) 635 80 = mm_i s 635 80 := rfl
    have hq := hQ s rfl
    refine mm_go_from G (And.intro (k_80 J) (mm_rf e5 (And.intro (fun c => mm_go_from G ?_) (fun c => ?_))))
    · have c' : (0 : Int32).toInt ≤ (mm_i s 635 80).toInt := c
      have n5 : ¬ mm_i s 635 80 = -1 := fun z => by rw [z] at c'; exact absurd c' (by decide)
      exact And.intro (k_80 J) (mm_rf e5 (hq.1 n5))
    · have c' : ¬ (0 : Int32).toInt ≤ (mm_i s 635 80).toInt := c
      rw [z0] at c'
      have n5 : mm_i s 635 80 = -1 := sg.elim id (fun z => absurd z c')
      have k4 : k = 400 := by omega
      refine And.intro (k_80 J) (mm_rf (show mm_i (rv h s) 632 80 = nI k from e2) (And.intro (fun c2 => ?_) (fun c2 => ?_)))
      · have c3 : ¬ nI k = nI 400 := c2
        exact absurd (by rw [k4]) c3
      · refine And.intro (k_80 J) (mm_go_from G ?_)
        have e4 : mm_si (rv h s) 635 80 4 = rv h (mm_si s 635 80 4) := rv_si (by omega)
        have J4 : mm_SH (rv h (mm_si s 635 80 4)) := I
        show mm_wp ro (D + 4) mm_m_Mo_run Q 99999 (mm_from mm_m_Mo_run 169) [.ref 80, v1, v2, v3, v4] [] (mm_si (rv h s) 635 80 4)
        rw [e4]
        exact And.intro (k_80 J4) (mm_rf (show mm_i (rv h (mm_si s 635 80 4)) 635 80 = 4 from (rv_i (by omega)).trans mm_i1) (And.intro (fun _ => mm_go_from G (And.intro (k_80 J4) (mm_rf (show mm_i (rv h (mm_si s 635 80 4)) 635 80 = 4 from (rv_i (by omega)).trans mm_i1) (hq.2 n5)))) (fun c4 => absurd (show (0 : Int32).toInt ≤ (4 : Int32).toInt by decide) c4)))
  | succ r ih =>
    intro k s hk e2 sg ty hQ
    have J : mm_SH (rv h s) := I
    have e5 : mm_i (rv h s) 635 80 = mm_i s 635 80 := rfl
    unfold rs_run at hQ
    refine mm_go_from G (And.intro (k_80 J) (mm_rf e5 (And.intro (fun c => mm_go_from G ?_) (fun c => ?_))))
    · have c' : (0 : Int32).toInt ≤ (mm_i s 635 80).toInt := c
      have n5 : ¬ mm_i s 635 80 = -1 := fun z => by rw [z] at c'; exact absurd c' (by decide)
      rw [if_neg n5] at hQ
      exact And.intro (k_80 J) (mm_rf e5 ((hQ s rfl).1 n5))
    · have c' : ¬ (0 : Int32).toInt ≤ (mm_i s 635 80).toInt := c
      rw [z0] at c'
      have n5 : mm_i s 635 80 = -1 := sg.elim id (fun z => absurd z c')
      rw [if_pos n5, e2, ← nI_succ] at hQ
      refine And.intro (k_80 J) (mm_rf (show mm_i (rv h s) 632 80 = nI k from e2) (And.intro (fun c2 => mm_go_from G ?_) (fun c2 => ?_)))
      · refine And.intro (k_80 J) (mm_rf (show mm_i (rv h s) 632 80 = nI k from e2) (And.intro (k_80 J) ?_))
        have e4 : mm_si (rv h s) 632 80 (nI k + 1) = rv h (mm_si s 632 80 (nI (k + 1))) := by rw [← nI_succ]; exact rv_si (by omega)
        show _ ∧ mm_ev ro (D + 4) n_Mo_step [.ref 80] (mm_si (rv h s) 632 80 (nI k + 1)) _
        rw [e4]
        have J1 : mm_SH (rv h (mm_si s 632 80 (nI (k + 1)))) := I
        obtain ⟨n, w, H, m, i, gs, hm, IV, ML, oc, xl, rz, ok, nx⟩ := step_ok F (by omega) (TY_632 (v := nI (k + 1)) (ty n5))
        have ho := IV.1.1.1
        have h10 := F.1.2.2.2
        have r2 : -2 ≤ (mm_a h 93 (4 * m + 3)).toInt := (F.2.2.2.1.2 (4 * m + 3) (by omega)).1.1
        refine And.intro ⟨rfl, k_80 J1⟩ (c_Mo_step (d := D) (n := n) (w := w) (H := H) (m := m) (i := i) (N := N) J1 MN F.2.1 gs IV.1 r2 eN hN rz ?_ ?_)
        · exact ok
        · rw [kc_rv, rv_sa (by omega)]
          show mm_go ro (D + 4) mm_m_Mo_run 169 [.ref 80, v1, v2, v3, v4] [] (rs_op (kc h) nM (rv h (mm_sa (mm_si s 632 80 (nI (k + 1))) 121 w (nI (i + 1)))) w H m i (lk_o (kc h) m i)) Q
          rw [rv_op _ ho]
          rw [st_eq gs] at hQ
          have sg1 : sgn (rs_op (kc h) nM (mm_sa (mm_si s 632 80 (nI (k + 1))) 121 w (nI (i + 1))) w H m i (lk_o (kc h) m i)) := sgn_op (s := mm_sa (mm_si s 632 80 (nI (k + 1))) 121 w (nI (i + 1))) (show sgn (mm_si s 632 80 (nI (k + 1))) from sgn_si (by omega) sg) _ ho
          exact ih (k + 1) _ (by omega) (k632_op (v := nI (k + 1)) (s := mm_sa (mm_si s 632 80 (nI (k + 1))) 121 w (nI (i + 1))) (show mm_i (mm_si s 632 80 (nI (k + 1))) 632 80 = nI (k + 1) from mm_i1) _ ho) sg1 nx hQ
      · have c3 : nI k = nI 400 := mm_no c2
        have := mm_nee (by omega) (by omega) c3
        omega
