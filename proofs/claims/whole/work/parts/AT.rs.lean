/-! RUNNING: what one instruction does, on the reference's own cells -/
/-- what a run reads of the stock -/
def kc (h : mm_H) : mm_H := (fun _ => 0, fun f a => if a = 80 ∧ f = 628 then mm_i h 628 80 else 0, fun _ _ => 0, fun _ => 0, fun k j => if (81 ≤ k ∧ k ≤ 101) ∨ k = 115 then mm_a h k j else 0, fun _ _ => 0, 0, 0)
def rs_pop (s : mm_H) (w H : Nat) : mm_H := mm_sa s 120 w (nI (H - 1))
def rs_lay (s : mm_H) (w H : Nat) (x : Int32) : mm_H := mm_sa (mm_sa s 119 (4 * w + H) x) 120 w (nI (H + 1))
def rs_tp (s : mm_H) (w H : Nat) : Int32 := mm_a s 119 (4 * w + (H - 1))
def rs_fill (s : mm_H) (a lo p : Nat) (F : Nat → Int32) : mm_H := (mm_k s, mm_i s, mm_r s, mm_n s, fun b j => if b = a ∧ lo ≤ j ∧ j < lo + p then F (j - lo) else mm_a s b j, mm_q s, mm_t s, mm_s s)
theorem rs_fill_0 {s : mm_H} {a lo : Nat} {F : Nat → Int32} : rs_fill s a lo 0 F = s := by
  have e : (fun b j => if b = a ∧ lo ≤ j ∧ j < lo + 0 then F (j - lo) else mm_a s b j) = mm_a s := funext (fun b => funext (fun j => if_neg (by omega)))
  unfold rs_fill
  rw [e]
  rfl
theorem rs_fill_s {s : mm_H} {a lo p : Nat} {F : Nat → Int32} : mm_sa (rs_fill s a lo p F) a (lo + p) (F p) = rs_fill s a lo (p + 1) F := by
  have e : (fun b j => if b = a ∧ j = lo + p then F p else (if b = a ∧ lo ≤ j ∧ j < lo + p then F (j - lo) else mm_a s b j)) = (fun b j => if b = a ∧ lo ≤ j ∧ j < lo + (p + 1) then F (j - lo) else mm_a s b j) := funext (fun b => funext (fun j => by
    by_cases q1 : b = a ∧ j = lo + p
    · rw [if_pos q1, if_pos (by omega), q1.2, Nat.add_sub_cancel_left]
    · rw [if_neg q1]
      by_cases q2 : b = a ∧ lo ≤ j ∧ j < lo + p
      · rw [if_pos q2, if_pos (by omega)]
      · rw [if_neg q2, if_neg (by omega)]))
  show (mm_k s, mm_i s, mm_r s, mm_n s, (fun b j => if b = a ∧ j = lo + p then F p else (if b = a ∧ lo ≤ j ∧ j < lo + p then F (j - lo) else mm_a s b j)), mm_q s, mm_t s, mm_s s) = _
  rw [e]
  rfl
theorem rs_fill_a {s : mm_H} {a lo p b j : Nat} {F : Nat → Int32} (o : ¬ (b = a ∧ lo ≤ j ∧ j < lo + p)) : mm_a (rs_fill s a lo p F) b j = mm_a s b j := if_neg o
theorem rs_fill_b {s : mm_H} {a lo p j : Nat} {F : Nat → Int32} (o : lo ≤ j ∧ j < lo + p) : mm_a (rs_fill s a lo p F) a j = F (j - lo) := if_pos ⟨rfl, o⟩
theorem rs_fill_i {s : mm_H} {a lo p : Nat} {F : Nat → Int32} : mm_i (rs_fill s a lo p F) = mm_i s := rfl
/-- a method begins to work, as the (d+1)st -/
noncomputable def rs_ent0 (s : mm_H) (d : Nat) (m : Int32) : mm_H := mm_si (rs_fill (mm_sa (mm_sa (mm_sa s 122 d m) 121 d 0) 120 d 0) 118 (6 * d) 6 (fun _ => 0)) 633 80 (nI (d + 1))
noncomputable def rs_enter (s : mm_H) (d : Nat) (m : Int32) : mm_H := if (mm_i s 634 80).toInt < (d : Int) + 1 then mm_si (rs_ent0 s d m) 634 80 (nI (d + 1)) else rs_ent0 s d m
noncomputable def rs_make (K s : mm_H) (w H n a : Nat) : mm_H := if mm_a K 85 a = 0 then mm_si s 635 80 5 else if n = 24 then mm_si s 635 80 2 else rs_lay (rs_fill (mm_sa (mm_si s 629 80 (nI (n + 1))) 116 (n + 1) (nI a)) 117 (12 * n) 12 (fun _ => 0)) w H (nI (n + 1))
noncomputable def rs_out (K s : mm_H) (w H j : Nat) (x : Int32) : mm_H := if mm_a K 90 j = 0 then mm_si (rs_lay s w H (if (mm_i s 630 80).toInt < (mm_i K 628 80).toInt then mm_a K 115 (mm_i s 630 80).toNatClampNeg else 0)) 630 80 (mm_i s 630 80 + 1) else if mm_a K 90 j = 1 then mm_si (if (mm_i s 631 80).toInt < 16 then mm_sa s 123 (mm_i s 631 80).toNatClampNeg x else s) 631 80 (mm_i s 631 80 + 1) else rs_lay s w H x
noncomputable def rs_do (K s : mm_H) (w H a B j : Nat) : mm_H := if mm_a K 85 (mm_a K 87 j).toNatClampNeg = 0 then mm_si s 635 80 5 else if ¬ mm_a K 90 j = -1 then rs_out K (mm_sa s 120 w (nI B)) w B j (if 0 < lk_np K a then mm_a s 119 (4 * w + B + lk_of K a) else 0) else if w = 5 then mm_si s 635 80 3 else rs_fill (rs_enter (mm_sa s 120 w (nI B)) (w + 1) (nI j)) 118 (6 * (w + 1)) (lk_np K a + lk_of K a) (fun t => mm_a s 119 (4 * w + B + t))
noncomputable def rs_fd (K : mm_H) (nM : Nat) (n : Int32) (x : Int) : Nat := @dite _ (∃ j, lk_at K nM n x j) (Classical.propDecidable _) (fun h => h.choose) (fun _ => 0)
noncomputable def rs_call (K : mm_H) (nM : Nat) (s : mm_H) (w H a : Nat) : mm_H := if ¬ mm_a K 95 a = 0 then rs_do K s w H a (H - lk_po K 0 11 a) a else if mm_a s 119 (4 * w + (H - lk_po K 0 11 a)) = 0 then mm_si s 635 80 6 else rs_do K s w H a (H - lk_po K 0 11 a) (rs_fd K nM (mm_a K 88 a) (mm_a s 116 (mm_a s 119 (4 * w + (H - lk_po K 0 11 a))).toNatClampNeg).toInt)
noncomputable def rs_gv (K s : mm_H) (w H m : Nat) (x : Int32) (s1 : mm_H) : mm_H := if w = 0 then mm_si (mm_si (mm_si s1 633 80 (nI w)) 635 80 0) 636 80 (if (mm_a K 93 (4 * m + 3)).toInt < 0 then x else if x = 0 then -1 else mm_a s 116 x.toNatClampNeg) else if mm_a K 93 (4 * m + 3) = -2 then mm_si s1 633 80 (nI w) else rs_lay (mm_si s1 633 80 (nI w)) (w - 1) (mm_a s 120 (w - 1)).toNatClampNeg x
noncomputable def rs_give (K s : mm_H) (w H m : Nat) : mm_H := if mm_a K 93 (4 * m + 3) = -2 then rs_gv K s w H m 0 s else rs_gv K s w H m (rs_tp s w H) (rs_pop s w H)
/-- thrown: d methods are still to be asked -/
noncomputable def rs_raise (K : mm_H) (x : Int32) : Nat → mm_H → mm_H
  | 0, s => mm_si (mm_si s 635 80 1) 636 80 (mm_a s 116 x.toNatClampNeg)
  | d + 1, s => if 0 ≤ lk_gd K (mm_a s 122 d).toNatClampNeg ((mm_a s 121 d).toNatClampNeg - 1) then mm_sa (rs_lay (mm_sa s 120 d 0) d 0 x) 121 d (nI (lk_gd K (mm_a s 122 d).toNatClampNeg ((mm_a s 121 d).toNatClampNeg - 1)).toNat) else rs_raise K x d (mm_si s 633 80 (nI d))
/-- the instruction i of method m, in the method at work w with H values on its stack; its at has been moved on in s -/
noncomputable def rs_op (K : mm_H) (nM : Nat) (s : mm_H) (w H m i : Nat) : Nat → mm_H
  | 0 => rs_lay s w H (mm_a K 98 (20 * m + i))
  | 1 => rs_lay s w H 0
  | 2 => rs_lay s w H (mm_a s 118 (6 * w + lk_a K m i))
  | 3 => mm_sa (rs_pop s w H) 118 (6 * w + lk_a K m i) (rs_tp s w H)
  | 4 => rs_lay (rs_lay (rs_pop s w H) w (H - 1) (rs_tp s w H)) w H (rs_tp s w H)
  | 5 => rs_pop s w H
  | 6 => rs_lay (rs_pop (rs_pop s w H) w (H - 1)) w (H - 2) (mm_a s 119 (4 * w + (H - 2)) + rs_tp s w H)
  | 7 => rs_make K s w H (mm_i s 629 80).toNatClampNeg (lk_a K m i)
  | 8 => s
  | 9 => if rs_tp s w H = 0 then mm_si (rs_pop s w H) 635 80 6 else rs_lay (rs_pop s w H) w (H - 1) (mm_a s 117 (12 * ((rs_tp s w H).toNatClampNeg - 1) + lk_a K m i))
  | 10 => if mm_a s 119 (4 * w + (H - 2)) = 0 then mm_si (rs_pop (rs_pop s w H) w (H - 1)) 635 80 6 else mm_sa (rs_pop (rs_pop s w H) w (H - 1)) 117 (12 * ((mm_a s 119 (4 * w + (H - 2))).toNatClampNeg - 1) + lk_a K m i) (rs_tp s w H)
  | 11 => rs_call K nM s w H (lk_a K m i)
  | 12 => @ite _ (rs_tp s w H = 0 ∨ mm_bel (mm_up K) (mm_a s 116 (rs_tp s w H).toNatClampNeg).toInt (lk_a K m i : Int)) (Classical.propDecidable _) (rs_lay (rs_pop s w H) w (H - 1) (rs_tp s w H)) (rs_raise K (rs_tp s w H) (w + 1) (rs_pop s w H))
  | 13 => mm_sa s 121 w (mm_a K 98 (20 * m + i))
  | 14 => if rs_tp s w H = 0 then mm_sa (rs_pop s w H) 121 w (mm_a K 98 (20 * m + i)) else rs_pop s w H
  | 15 => if rs_tp s w H = 0 then mm_sa (rs_pop s w H) 121 w (mm_a K 98 (20 * m + i)) else rs_pop s w H
  | 16 => rs_give K s w H m
  | _ => if rs_tp s w H = 0 then mm_si (rs_pop s w H) 635 80 6 else rs_raise K (rs_tp s w H) (w + 1) (rs_pop s w H)
/-- one step -/
noncomputable def rs_w (s : mm_H) : Nat := (mm_i s 633 80).toNatClampNeg - 1
noncomputable def rs_st (K : mm_H) (nM : Nat) (s : mm_H) : mm_H := rs_op K nM (mm_sa s 121 (rs_w s) (mm_a s 121 (rs_w s) + 1)) (rs_w s) (mm_a s 120 (rs_w s)).toNatClampNeg (mm_a s 122 (rs_w s)).toNatClampNeg (mm_a s 121 (rs_w s)).toNatClampNeg (lk_o K (mm_a s 122 (rs_w s)).toNatClampNeg (mm_a s 121 (rs_w s)).toNatClampNeg)
/-- at most k more steps -/
noncomputable def rs_run (K : mm_H) (nM : Nat) : Nat → mm_H → mm_H
  | 0, s => s
  | k + 1, s => if mm_i s 635 80 = -1 then rs_run K nM k (rs_st K nM (mm_si s 632 80 (mm_i s 632 80 + 1))) else s
/-- pull, lay, enter -/
theorem c_Mo_pull {ro : mm_Ro} {d w H : Nat} {h : mm_H} {Q : Value → mm_H → Prop} (I : mm_SH h) (hw : w < 6) (e3 : mm_i h 633 80 = nI (w + 1)) (e0 : mm_a h 120 w = nI H) (h1 : 0 < H) (h4 : H ≤ 4) (hQ : Q (.int (rs_tp h w H)) (rs_pop h w H)) : mm_ev ro (d + 1) n_Mo_pull [.ref 80] h Q := by
  have ew : nI (w + 1) - 1 = nI w := nI_pred w
  have cw : (nI (w + 1) - 1).toNatClampNeg = w := by rw [ew]; exact mm_ncl (by omega)
  have bw : 0 ≤ (nI (w + 1) - 1).toInt ∧ (nI (w + 1) - 1).toInt < ((6 : Nat) : Int) := by rw [ew]; exact mm_nb hw (by omega)
  obtain ⟨G, hG⟩ : ∃ G, H = G + 1 := ⟨H - 1, by omega⟩
  have eH : nI H - 1 = nI (H - 1) := by rw [hG]; exact nI_pred G
  have eX : Int32.ofInt 4 * (nI (w + 1) - 1) + (nI H - 1) = nI (4 * w + (H - 1)) := by rw [ew, eH]; exact mm_lin 4 w (H - 1)
  have bX : 0 ≤ (Int32.ofInt 4 * (nI (w + 1) - 1) + (nI H - 1)).toInt ∧ (Int32.ofInt 4 * (nI (w + 1) - 1) + (nI H - 1)).toInt < ((24 : Nat) : Int) := by rw [eX]; exact mm_nb (by omega) (by omega)
  refine mm_ev_in (Z := mm_m_Mo_pull) rfl rfl (Nat.le_of_ble_eq_true rfl) rfl ?_
  refine And.intro (k_80 I) (mm_rf (r_624 I) (And.intro (k_80 I) (mm_rf e3 (And.intro ⟨k_120 I, mm_inb 6 (n_120 I) bw⟩ (mm_rf (show mm_a h 120 (nI (w + 1) - 1).toNatClampNeg = nI H by rw [cw]; exact e0) (And.intro ⟨k_120 I, mm_inb 6 (n_120 I) bw⟩ (And.intro (k_80 I) (mm_rf (r_623 I) (And.intro (k_80 I) (mm_rf e3 (And.intro (k_80 I) (mm_rf (r_624 I) (And.intro (k_80 I) (mm_rf e3 (And.intro ⟨k_120 I, mm_inb 6 (n_120 I) bw⟩ (mm_rf (v := mm_a (mm_sa h 120 (nI (w + 1) - 1).toNatClampNeg (nI H - 1)) 120 (nI (w + 1) - 1).toNatClampNeg) mm_a1 (And.intro ⟨k_119 I, mm_inb 24 (n_119 I) bX⟩ (mm_rf rfl ?_))))))))))))))))))
  refine mm_qq hQ ?_ ?_
  · show Value.int (mm_a (mm_sa h 120 _ _) 119 (Int32.ofInt 4 * (nI (w + 1) - 1) + (nI H - 1)).toNatClampNeg) = _
    rw [eX, mm_ncl (by omega), mm_a2 (by omega)]
    rfl
  · show mm_sa h 120 (nI (w + 1) - 1).toNatClampNeg (nI H - 1) = _
    rw [cw, eH]
    rfl
theorem c_Mo_lay {ro : mm_Ro} {d w H : Nat} {x : Int32} {h : mm_H} {Q : Value → mm_H → Prop} (I : mm_SH h) (hw : w < 6) (e3 : mm_i h 633 80 = nI (w + 1)) (e0 : mm_a h 120 w = nI H) (h4 : H < 4) (hQ : Q .null (rs_lay h w H x)) : mm_ev ro (d + 1) n_Mo_lay [.ref 80, .int x] h Q := by
  have ew : nI (w + 1) - 1 = nI w := nI_pred w
  have cw : (nI (w + 1) - 1).toNatClampNeg = w := by rw [ew]; exact mm_ncl (by omega)
  have bw : 0 ≤ (nI (w + 1) - 1).toInt ∧ (nI (w + 1) - 1).toInt < ((6 : Nat) : Int) := by rw [ew]; exact mm_nb hw (by omega)
  have eX : Int32.ofInt 4 * (nI (w + 1) - 1) + nI H = nI (4 * w + H) := by rw [ew]; exact mm_lin 4 w H
  have bX : 0 ≤ (Int32.ofInt 4 * (nI (w + 1) - 1) + nI H).toInt ∧ (Int32.ofInt 4 * (nI (w + 1) - 1) + nI H).toInt < ((24 : Nat) : Int) := by rw [eX]; exact mm_nb (by omega) (by omega)
  refine mm_ev_in (Z := mm_m_Mo_lay) rfl rfl (Nat.le_of_ble_eq_true rfl) rfl ?_
  refine And.intro (k_80 I) (mm_rf (r_623 I) (And.intro (k_80 I) (mm_rf e3 (And.intro (k_80 I) (mm_rf (r_624 I) (And.intro (k_80 I) (mm_rf e3 (And.intro ⟨k_120 I, mm_inb 6 (n_120 I) bw⟩ (mm_rf (show mm_a h 120 (nI (w + 1) - 1).toNatClampNeg = nI H by rw [cw]; exact e0) (And.intro ⟨k_119 I, mm_inb 24 (n_119 I) bX⟩ (And.intro (k_80 I) (mm_rf (r_624 I) (And.intro (k_80 I) (mm_rf e3 (And.intro ⟨k_120 I, mm_inb 6 (n_120 I) bw⟩ (mm_rf (show mm_a h 120 (nI (w + 1) - 1).toNatClampNeg = nI H by rw [cw]; exact e0) (And.intro ⟨k_120 I, mm_inb 6 (n_120 I) bw⟩ ?_)))))))))))))))))
  refine mm_qq hQ rfl ?_
  show mm_sa (mm_sa h 119 (Int32.ofInt 4 * (nI (w + 1) - 1) + nI H).toNatClampNeg x) 120 (nI (w + 1) - 1).toNatClampNeg (nI H + 1) = _
  rw [cw, eX, mm_ncl (by omega), ← nI_succ]
  rfl
