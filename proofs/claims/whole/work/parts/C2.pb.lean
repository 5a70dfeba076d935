/-! RUNNING: how much is put out -/
def pb (k : Nat) (s : mm_H) : Prop := ∃ P, P ≤ k ∧ mm_i s 631 80 = nI P
theorem pb_up {k : Nat} {s : mm_H} (h : pb k s) : pb (k + 1) s := by
  obtain ⟨P, p1, p2⟩ := h
  exact ⟨P, by omega, p2⟩
theorem pb_si {k : Nat} {s : mm_H} {f : Nat} {x : Int32} (o : ¬ f = 631) (h : pb k s) : pb k (mm_si s f 80 x) := by
  obtain ⟨P, p1, p2⟩ := h
  exact ⟨P, p1, (mm_i2 (by omega)).trans p2⟩
theorem pb_raise {k : Nat} {K : mm_H} {x : Int32} : ∀ (D : Nat) (s : mm_H), pb k s → pb k (rs_raise K x D s) := by
  intro D
  induction D with
  | zero =>
    intro s h
    unfold rs_raise
    exact pb_si (by omega) (pb_si (by omega) h)
  | succ D ih =>
    intro s h
    unfold rs_raise
    split
    · exact h
    · exact ih _ (pb_si (by omega) h)
theorem pb_enter {k : Nat} {s : mm_H} {d : Nat} {m : Int32} (h : pb k s) : pb k (rs_enter s d m) := by
  unfold rs_enter
  split
  · exact pb_si (by omega) (show pb k (mm_si (rs_fill (mm_sa (mm_sa (mm_sa s 122 d m) 121 d 0) 120 d 0) 118 (6 * d) 6 (fun _ => 0)) 633 80 (nI (d + 1))) from pb_si (by omega) h)
  · exact (show pb k (mm_si (rs_fill (mm_sa (mm_sa (mm_sa s 122 d m) 121 d 0) 120 d 0) 118 (6 * d) 6 (fun _ => 0)) 633 80 (nI (d + 1))) from pb_si (by omega) h)
theorem pb_out {k : Nat} {K s : mm_H} {w H j : Nat} {x : Int32} (hk : k < 1000) (h : pb k s) : pb (k + 1) (rs_out K s w H j x) := by
  unfold rs_out
  split
  · exact pb_up (pb_si (by omega) h)
  · split
    · obtain ⟨P, p1, p2⟩ := h
      refine ⟨P + 1, by omega, ?_⟩
      rw [mm_i1, p2, nI_succ]
    · exact pb_up h
theorem pb_do {k : Nat} {K s : mm_H} {w H a B j : Nat} (hk : k < 1000) (h : pb k s) : pb (k + 1) (rs_do K s w H a B j) := by
  unfold rs_do
  split
  · exact pb_up (pb_si (by omega) h)
  · split
    · exact pb_out hk h
    · split
      · exact pb_up (pb_si (by omega) h)
      · exact pb_up (pb_enter (s := mm_sa s 120 w (nI B)) h)
theorem pb_call {k : Nat} {K s : mm_H} {nM w H a : Nat} (hk : k < 1000) (h : pb k s) : pb (k + 1) (rs_call K nM s w H a) := by
  unfold rs_call
  split
  · exact pb_do hk h
  · split
    · exact pb_up (pb_si (by omega) h)
    · exact pb_do hk h
theorem pb_gv {k : Nat} {K s s1 : mm_H} {w H m : Nat} {x : Int32} (h : pb k s1) : pb k (rs_gv K s w H m x s1) := by
  unfold rs_gv
  split
  · exact pb_si (by omega) (pb_si (by omega) h)
  · split
    · exact pb_si (by omega) h
    · exact pb_si (s := s1) (f := 633) (x := nI w) (by omega) h
theorem pb_op {k : Nat} {K s : mm_H} {nM w H m i : Nat} (hk : k < 1000) (h : pb k s) : ∀ o, o < 18 → pb (k + 1) (rs_op K nM s w H m i o) := by
  intro o ho
  have c18 : o = 0 ∨ o = 1 ∨ o = 2 ∨ o = 3 ∨ o = 4 ∨ o = 5 ∨ o = 6 ∨ o = 7 ∨ o = 8 ∨ o = 9 ∨ o = 10 ∨ o = 11 ∨ o = 12 ∨ o = 13 ∨ o = 14 ∨ o = 15 ∨ o = 16 ∨ o = 17 := by omega
  rcases c18 with q | q | q | q | q | q | q | q | q | q | q | q | q | q | q | q | q | q <;> subst q
  · exact pb_up h
  · exact pb_up h
  · exact pb_up h
  · exact pb_up h
  · exact pb_up h
  · exact pb_up h
  · exact pb_up h
  · show pb (k + 1) (rs_make K s w H (mm_i s 629 80).toNatClampNeg (lk_a K m i))
    unfold rs_make
    split
    · exact pb_up (pb_si (by omega) h)
    · split
      · exact pb_up (pb_si (by omega) h)
      · exact pb_up (pb_si (s := s) (f := 629) (x := nI ((mm_i s 629 80).toNatClampNeg + 1)) (by omega) h)
  · exact pb_up h
  · show pb (k + 1) (if rs_tp s w H = 0 then mm_si (rs_pop s w H) 635 80 6 else rs_lay (rs_pop s w H) w (H - 1) (mm_a s 117 (12 * ((rs_tp s w H).toNatClampNeg - 1) + lk_a K m i)))
    split
    · exact pb_up (pb_si (by omega) h)
    · exact pb_up h
  · show pb (k + 1) (if mm_a s 119 (4 * w + (H - 2)) = 0 then mm_si (rs_pop (rs_pop s w H) w (H - 1)) 635 80 6 else mm_sa (rs_pop (rs_pop s w H) w (H - 1)) 117 (12 * ((mm_a s 119 (4 * w + (H - 2))).toNatClampNeg - 1) + lk_a K m i) (rs_tp s w H))
    split
    · exact pb_up (pb_si (by omega) h)
    · exact pb_up h
  · exact pb_call hk h
  · show pb (k + 1) (@ite _ (rs_tp s w H = 0 ∨ mm_bel (mm_up K) (mm_a s 116 (rs_tp s w H).toNatClampNeg).toInt (lk_a K m i : Int)) (Classical.propDecidable _) (rs_lay (rs_pop s w H) w (H - 1) (rs_tp s w H)) (rs_raise K (rs_tp s w H) (w + 1) (rs_pop s w H)))
    split
    · exact pb_up h
    · exact pb_up (pb_raise _ _ h)
  · exact pb_up h
  · show pb (k + 1) (if rs_tp s w H = 0 then mm_sa (rs_pop s w H) 121 w (mm_a K 98 (20 * m + i)) else rs_pop s w H)
    split
    · exact pb_up h
    · exact pb_up h
  · show pb (k + 1) (if rs_tp s w H = 0 then mm_sa (rs_pop s w H) 121 w (mm_a K 98 (20 * m + i)) else rs_pop s w H)
    split
    · exact pb_up h
    · exact pb_up h
  · show pb (k + 1) (rs_give K s w H m)
    unfold rs_give
    split
    · exact pb_up (pb_gv h)
    · exact pb_up (pb_gv h)
  · show pb (k + 1) (if rs_tp s w H = 0 then mm_si (rs_pop s w H) 635 80 6 else rs_raise K (rs_tp s w H) (w + 1) (rs_pop s w H))
    split
    · exact pb_up (pb_si (by omega) h)
    · exact pb_up (pb_raise _ _ h)
theorem pb_run {K : mm_H} {nC nF nM : Nat} (F : KF K nC nF nM) : ∀ (r k : Nat) (s : mm_H), r + k ≤ 400 → pb k s → (mm_i s 635 80 = -1 → TY K nC nF nM s k) → pb 400 (rs_run K nM r s) := by
  intro r
  induction r with
  | zero =>
    intro k s hk h ty
    obtain ⟨P, p1, p2⟩ := h
    exact ⟨P, by omega, p2⟩
  | succ r ih =>
    intro k s hk h ty
    unfold rs_run
    by_cases n5 : mm_i s 635 80 = -1
    · rw [if_pos n5]
      generalize mm_i s 632 80 + 1 = v
      obtain ⟨n, w, H, m, i, gs, hm, IV, ML, oc, xl, rz, ok, nx⟩ := step_ok F (by omega) (TY_632 (v := v) (ty n5))
      rw [st_eq gs]
      exact ih (k + 1) _ (by omega) (pb_op (k := k) (s := mm_sa (mm_si s 632 80 v) 121 w (nI (i + 1))) (by omega) (show pb k (mm_si s 632 80 v) from pb_si (by omega) h) _ IV.1.1.1) nx
    · rw [if_neg n5]
      obtain ⟨P, p1, p2⟩ := h
      exact ⟨P, by omega, p2⟩
