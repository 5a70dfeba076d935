/-! the reference's step -/
theorem kc_sa {h : mm_H} {a j : Nat} {x : Int32} (o : ¬ ((81 ≤ a ∧ a ≤ 101) ∨ a = 115)) : kc (mm_sa h a j x) = kc h := by
  have e : (fun k i => if (81 ≤ k ∧ k ≤ 101) ∨ k = 115 then mm_a (mm_sa h a j x) k i else (0 : Int32)) = (fun k i => if (81 ≤ k ∧ k ≤ 101) ∨ k = 115 then mm_a h k i else 0) := funext (fun k => funext (fun i => by
    by_cases q : (81 ≤ k ∧ k ≤ 101) ∨ k = 115
    · rw [if_pos q, if_pos q]; exact mm_a2 (by omega)
    · rw [if_neg q, if_neg q]))
  show ((fun _ => 0, fun f a => if a = 80 ∧ f = 628 then mm_i h 628 80 else 0, fun _ _ => 0, fun _ => 0, (fun k i => if (81 ≤ k ∧ k ≤ 101) ∨ k = 115 then mm_a (mm_sa h a j x) k i else 0), fun _ _ => 0, 0, 0) : mm_H) = _
  rw [e]
  rfl
theorem kc_si {h : mm_H} {f a : Nat} {x : Int32} (o : ¬ (f = 628 ∧ a = 80)) : kc (mm_si h f a x) = kc h := by
  show ((fun _ => 0, fun f' a' => if a' = 80 ∧ f' = 628 then mm_i (mm_si h f a x) 628 80 else 0, fun _ _ => 0, fun _ => 0, (fun k i => if (81 ≤ k ∧ k ≤ 101) ∨ k = 115 then mm_a h k i else 0), fun _ _ => 0, 0, 0) : mm_H) = _
  rw [mm_i2 (by omega)]
  rfl
theorem kk_call {h s : mm_H} {nM w H a : Nat} : rs_call h nM s w H a = rs_call (kc h) nM s w H a := rfl
theorem kk_give {h s : mm_H} {w H m : Nat} : rs_give h s w H m = rs_give (kc h) s w H m := rfl
theorem kk_make {h s : mm_H} {w H n a : Nat} : rs_make h s w H n a = rs_make (kc h) s w H n a := rfl
theorem kk_gd {h : mm_H} : lk_gd h = lk_gd (kc h) := rfl
