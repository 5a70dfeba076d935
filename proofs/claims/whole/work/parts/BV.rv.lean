/-! RUNNING: the reference's cells of a run over another heap -/
def rv (h s : mm_H) : mm_H := (mm_k h, fun f a => if a = 80 ∧ 629 ≤ f then mm_i s f 80 else mm_i h f a, mm_r h, mm_n h, fun b j => if 116 ≤ b ∧ b ≤ 123 then mm_a s b j else mm_a h b j, mm_q h, mm_t h, mm_s h)
theorem rv_ext {h : mm_H} {I J : Nat → Nat → Int32} {A B : Nat → Nat → Int32} (a : ∀ f x, I f x = J f x) (b : ∀ k j, A k j = B k j) : ((mm_k h, I, mm_r h, mm_n h, A, mm_q h, mm_t h, mm_s h) : mm_H) = (mm_k h, J, mm_r h, mm_n h, B, mm_q h, mm_t h, mm_s h) := by
  rw [show I = J from funext (fun f => funext (fun x => a f x)), show A = B from funext (fun k => funext (fun j => b k j))]
theorem rv_sa {h s : mm_H} {b j : Nat} {x : Int32} (o : 116 ≤ b ∧ b ≤ 123) : mm_sa (rv h s) b j x = rv h (mm_sa s b j x) := by
  refine rv_ext (h := h) (fun f a => rfl) (fun k i => ?_)
  show (if k = b ∧ i = j then x else (if 116 ≤ k ∧ k ≤ 123 then mm_a s k i else mm_a h k i)) = (if 116 ≤ k ∧ k ≤ 123 then (if k = b ∧ i = j then x else mm_a s k i) else mm_a h k i)
  by_cases q : k = b ∧ i = j
  · rw [if_pos q, if_pos (by omega), if_pos q]
  · rw [if_neg q]
    by_cases z : 116 ≤ k ∧ k ≤ 123
    · rw [if_pos z, if_pos z, if_neg q]
    · rw [if_neg z, if_neg z]
theorem rv_si {h s : mm_H} {f : Nat} {x : Int32} (o : 629 ≤ f) : mm_si (rv h s) f 80 x = rv h (mm_si s f 80 x) := by
  refine rv_ext (h := h) (fun g a => ?_) (fun k i => rfl)
  show (if g = f ∧ a = 80 then x else (if a = 80 ∧ 629 ≤ g then mm_i s g 80 else mm_i h g a)) = (if a = 80 ∧ 629 ≤ g then (if g = f ∧ 80 = 80 then x else mm_i s g 80) else mm_i h g a)
  by_cases q : g = f ∧ a = 80
  · rw [if_pos q, if_pos (by omega), if_pos (by omega)]
  · rw [if_neg q]
    by_cases z : a = 80 ∧ 629 ≤ g
    · rw [if_pos z, if_pos z, if_neg (by omega)]
    · rw [if_neg z, if_neg z]
theorem rv_fill {h s : mm_H} {b lo p : Nat} {F : Nat → Int32} (o : 116 ≤ b ∧ b ≤ 123) : rs_fill (rv h s) b lo p F = rv h (rs_fill s b lo p F) := by
  refine rv_ext (h := h) (fun f a => rfl) (fun k i => ?_)
  show (if k = b ∧ lo ≤ i ∧ i < lo + p then F (i - lo) else (if 116 ≤ k ∧ k ≤ 123 then mm_a s k i else mm_a h k i)) = (if 116 ≤ k ∧ k ≤ 123 then (if k = b ∧ lo ≤ i ∧ i < lo + p then F (i - lo) else mm_a s k i) else mm_a h k i)
  by_cases q : k = b ∧ lo ≤ i ∧ i < lo + p
  · rw [if_pos q, if_pos (by omega), if_pos q]
  · rw [if_neg q]
    by_cases z : 116 ≤ k ∧ k ≤ 123
    · rw [if_pos z, if_pos z, if_neg q]
    · rw [if_neg z, if_neg z]
theorem rv_a {h s : mm_H} {b : Nat} (o : 116 ≤ b ∧ b ≤ 123) : mm_a (rv h s) b = mm_a s b := funext (fun j => if_pos o)
theorem rv_i {h s : mm_H} {f : Nat} (o : 629 ≤ f) : mm_i (rv h s) f 80 = mm_i s f 80 := if_pos ⟨rfl, o⟩
theorem rv_lay {h s : mm_H} {w H : Nat} {x : Int32} : rs_lay (rv h s) w H x = rv h (rs_lay s w H x) := by
  unfold rs_lay
  rw [rv_sa (by omega), rv_sa (by omega)]
theorem rv_pop {h s : mm_H} {w H : Nat} : rs_pop (rv h s) w H = rv h (rs_pop s w H) := rv_sa (by omega)
theorem rv_enter {h s : mm_H} {d : Nat} {m : Int32} : rs_enter (rv h s) d m = rv h (rs_enter s d m) := by
  have z : rs_ent0 (rv h s) d m = rv h (rs_ent0 s d m) := by
    unfold rs_ent0
    rw [rv_sa (by omega), rv_sa (by omega), rv_sa (by omega), rv_fill (by omega), rv_si (by omega)]
  unfold rs_enter
  rw [rv_i (by omega), z]
  split
  · exact rv_si (by omega)
  · rfl
theorem rv_make {K h s : mm_H} {w H n a : Nat} : rs_make K (rv h s) w H n a = rv h (rs_make K s w H n a) := by
  unfold rs_make
  split
  · exact rv_si (by omega)
  · split
    · exact rv_si (by omega)
    · rw [rv_si (by omega), rv_sa (by omega), rv_fill (by omega), rv_lay]
theorem rv_out {K h s : mm_H} {w H j : Nat} {x : Int32} : rs_out K (rv h s) w H j x = rv h (rs_out K s w H j x) := by
  unfold rs_out
  rw [rv_i (f := 630) (by omega), rv_i (f := 631) (by omega)]
  split
  · rw [rv_lay, rv_si (by omega)]
  · split
    · split
      · rw [rv_sa (by omega), rv_si (by omega)]
      · rw [rv_si (by omega)]
    · exact rv_lay
theorem rv_do {K h s : mm_H} {w H a B j : Nat} : rs_do K (rv h s) w H a B j = rv h (rs_do K s w H a B j) := by
  unfold rs_do
  rw [rv_a (b := 119) (by omega)]
  split
  · exact rv_si (by omega)
  · split
    · rw [rv_sa (by omega), rv_out]
    · split
      · exact rv_si (by omega)
      · rw [rv_sa (by omega), rv_enter, rv_fill (by omega)]
theorem rv_call {K h s : mm_H} {nM w H a : Nat} : rs_call K nM (rv h s) w H a = rv h (rs_call K nM s w H a) := by
  unfold rs_call
  rw [rv_a (b := 119) (by omega), rv_a (b := 116) (by omega)]
  split
  · exact rv_do
  · split
    · exact rv_si (by omega)
    · exact rv_do
theorem rv_gv {K h s s1 : mm_H} {w H m : Nat} {x : Int32} : rs_gv K (rv h s) w H m x (rv h s1) = rv h (rs_gv K s w H m x s1) := by
  unfold rs_gv
  rw [rv_a (b := 120) (by omega), rv_a (b := 116) (by omega)]
  split
  · rw [rv_si (by omega), rv_si (by omega), rv_si (by omega)]
  · split
    · exact rv_si (by omega)
    · rw [rv_si (by omega), rv_lay]
theorem rv_tp {h s : mm_H} {w H : Nat} : rs_tp (rv h s) w H = rs_tp s w H := by
  unfold rs_tp
  rw [rv_a (by omega)]
theorem rv_give {K h s : mm_H} {w H m : Nat} : rs_give K (rv h s) w H m = rv h (rs_give K s w H m) := by
  unfold rs_give
  rw [rv_tp, rv_pop]
  split
  · exact rv_gv
  · exact rv_gv
theorem rv_raise {K h : mm_H} {x : Int32} : ∀ (D : Nat) (s : mm_H), rs_raise K x D (rv h s) = rv h (rs_raise K x D s) := by
  intro D
  induction D with
  | zero =>
    intro s
    unfold rs_raise
    rw [rv_a (b := 116) (by omega), rv_si (by omega), rv_si (by omega)]
  | succ D ih =>
    intro s
    unfold rs_raise
    rw [rv_a (b := 122) (by omega), rv_a (b := 121) (by omega)]
    split
    · rw [rv_sa (by omega), rv_lay, rv_sa (by omega)]
    · rw [rv_si (by omega), ih]
theorem rv_op {K h s : mm_H} {nM w H m i : Nat} : ∀ o, o < 18 → rs_op K nM (rv h s) w H m i o = rv h (rs_op K nM s w H m i o) := by
  intro o ho
  have c18 : o = 0 ∨ o = 1 ∨ o = 2 ∨ o = 3 ∨ o = 4 ∨ o = 5 ∨ o = 6 ∨ o = 7 ∨ o = 8 ∨ o = 9 ∨ o = 10 ∨ o = 11 ∨ o = 12 ∨ o = 13 ∨ o = 14 ∨ o = 15 ∨ o = 16 ∨ o = 17 := by omega
  rcases c18 with q | q | q | q | q | q | q | q | q | q | q | q | q | q | q | q | q | q <;> subst q
  · show (rs_lay (rv h s) w H (mm_a K 98 (20 * m + i))) = rv h (rs_lay s w H (mm_a K 98 (20 * m + i)))
    exact rv_lay
  · show (rs_lay (rv h s) w H 0) = rv h (rs_lay s w H 0)
    exact rv_lay
  · show (rs_lay (rv h s) w H (mm_a (rv h s) 118 (6 * w + lk_a K m i))) = rv h (rs_lay s w H (mm_a s 118 (6 * w + lk_a K m i)))
    rw [rv_a (b := 118) (by omega)]; exact rv_lay
  · show (mm_sa (rs_pop (rv h s) w H) 118 (6 * w + lk_a K m i) (rs_tp (rv h s) w H)) = rv h (mm_sa (rs_pop s w H) 118 (6 * w + lk_a K m i) (rs_tp s w H))
    rw [rv_tp, rv_pop, rv_sa (by omega)]
  · show (rs_lay (rs_lay (rs_pop (rv h s) w H) w (H - 1) (rs_tp (rv h s) w H)) w H (rs_tp (rv h s) w H)) = rv h (rs_lay (rs_lay (rs_pop s w H) w (H - 1) (rs_tp s w H)) w H (rs_tp s w H))
    rw [rv_tp, rv_pop, rv_lay, rv_lay]
  · show (rs_pop (rv h s) w H) = rv h (rs_pop s w H)
    exact rv_pop
  · show (rs_lay (rs_pop (rs_pop (rv h s) w H) w (H - 1)) w (H - 2) (mm_a (rv h s) 119 (4 * w + (H - 2)) + rs_tp (rv h s) w H)) = rv h (rs_lay (rs_pop (rs_pop s w H) w (H - 1)) w (H - 2) (mm_a s 119 (4 * w + (H - 2)) + rs_tp s w H))
    rw [rv_tp, rv_pop, rv_pop, rv_a (b := 119) (by omega), rv_lay]
  · show (rs_make K (rv h s) w H (mm_i (rv h s) 629 80).toNatClampNeg (lk_a K m i)) = rv h (rs_make K s w H (mm_i s 629 80).toNatClampNeg (lk_a K m i))
    rw [rv_i (by omega)]; exact rv_make
  · show ((rv h s)) = rv h (s)
    rfl
  · show (if rs_tp (rv h s) w H = 0 then mm_si (rs_pop (rv h s) w H) 635 80 6 else rs_lay (rs_pop (rv h s) w H) w (H - 1) (mm_a (rv h s) 117 (12 * ((rs_tp (rv h s) w H).toNatClampNeg - 1) + lk_a K m i))) = rv h (if rs_tp s w H = 0 then mm_si (rs_pop s w H) 635 80 6 else rs_lay (rs_pop s w H) w (H - 1) (mm_a s 117 (12 * ((rs_tp s w H).toNatClampNeg - 1) + lk_a K m i)))
    rw [rv_tp, rv_pop, rv_a (b := 117) (by omega), rv_lay, rv_si (by omega)]
    split <;> rfl
  · show (if mm_a (rv h s) 119 (4 * w + (H - 2)) = 0 then mm_si (rs_pop (rs_pop (rv h s) w H) w (H - 1)) 635 80 6 else mm_sa (rs_pop (rs_pop (rv h s) w H) w (H - 1)) 117 (12 * ((mm_a (rv h s) 119 (4 * w + (H - 2))).toNatClampNeg - 1) + lk_a K m i) (rs_tp (rv h s) w H)) = rv h (if mm_a s 119 (4 * w + (H - 2)) = 0 then mm_si (rs_pop (rs_pop s w H) w (H - 1)) 635 80 6 else mm_sa (rs_pop (rs_pop s w H) w (H - 1)) 117 (12 * ((mm_a s 119 (4 * w + (H - 2))).toNatClampNeg - 1) + lk_a K m i) (rs_tp s w H))
    rw [rv_tp, rv_pop, rv_pop, rv_a (b := 119) (by omega), rv_si (by omega), rv_sa (by omega)]
    split <;> rfl
  · show (rs_call K nM (rv h s) w H (lk_a K m i)) = rv h (rs_call K nM s w H (lk_a K m i))
    exact rv_call
  · show (@ite _ (rs_tp (rv h s) w H = 0 ∨ mm_bel (mm_up K) (mm_a (rv h s) 116 (rs_tp (rv h s) w H).toNatClampNeg).toInt (lk_a K m i : Int)) (Classical.propDecidable _) (rs_lay (rs_pop (rv h s) w H) w (H - 1) (rs_tp (rv h s) w H)) (rs_raise K (rs_tp (rv h s) w H) (w + 1) (rs_pop (rv h s) w H))) = rv h (@ite _ (rs_tp s w H = 0 ∨ mm_bel (mm_up K) (mm_a s 116 (rs_tp s w H).toNatClampNeg).toInt (lk_a K m i : Int)) (Classical.propDecidable _) (rs_lay (rs_pop s w H) w (H - 1) (rs_tp s w H)) (rs_raise K (rs_tp s w H) (w + 1) (rs_pop s w H)))
    rw [rv_tp, rv_pop, rv_a (b := 116) (by omega), rv_lay, rv_raise]
    by_cases z : rs_tp s w H = 0 ∨ mm_bel (mm_up K) (mm_a s 116 (rs_tp s w H).toNatClampNeg).toInt (lk_a K m i : Int)
    · rw [if_pos z, if_pos z]
    · rw [if_neg z, if_neg z]
  · show (mm_sa (rv h s) 121 w (mm_a K 98 (20 * m + i))) = rv h (mm_sa s 121 w (mm_a K 98 (20 * m + i)))
    exact rv_sa (by omega)
  · show (if rs_tp (rv h s) w H = 0 then mm_sa (rs_pop (rv h s) w H) 121 w (mm_a K 98 (20 * m + i)) else rs_pop (rv h s) w H) = rv h (if rs_tp s w H = 0 then mm_sa (rs_pop s w H) 121 w (mm_a K 98 (20 * m + i)) else rs_pop s w H)
    rw [rv_tp, rv_pop, rv_sa (by omega)]
    split <;> rfl
  · show (if rs_tp (rv h s) w H = 0 then mm_sa (rs_pop (rv h s) w H) 121 w (mm_a K 98 (20 * m + i)) else rs_pop (rv h s) w H) = rv h (if rs_tp s w H = 0 then mm_sa (rs_pop s w H) 121 w (mm_a K 98 (20 * m + i)) else rs_pop s w H)
    rw [rv_tp, rv_pop, rv_sa (by omega)]
    split <;> rfl
  · show (rs_give K (rv h s) w H m) = rv h (rs_give K s w H m)
    exact rv_give
  · show (if rs_tp (rv h s) w H = 0 then mm_si (rs_pop (rv h s) w H) 635 80 6 else rs_raise K (rs_tp (rv h s) w H) (w + 1) (rs_pop (rv h s) w H)) = rv h (if rs_tp s w H = 0 then mm_si (rs_pop s w H) 635 80 6 else rs_raise K (rs_tp s w H) (w + 1) (rs_pop s w H))
    rw [rv_tp, rv_pop, rv_si (by omega), rv_raise]
    split <;> rfl
