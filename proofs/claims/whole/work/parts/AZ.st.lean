/-! the reference's step, op by op (wip/whole/gen_step.py) -/
theorem l_sp_0 {ro : mm_Ro} {d w H m i : Nat} {x v : Int32} {s : mm_H} {Q : Value → mm_H → Prop} (I : mm_SH s) (hw : w < 6) (e3 : mm_i s 633 80 = nI (w + 1)) (e0 : mm_a s 120 w = nI H) (h4 : H < 4) (hQ : Q .null (rs_lay s w H x)) : mm_go ro (d + 3) mm_m_Mo_step 119 [.ref 80, .int (nI w), .int (nI m), .int (nI i), .int (nI 0), .int x, .null, .null, .null] [.int v] s Q := by
  have G := mm_hM n_Mo_step rfl
  refine mm_go_from G (And.intro (fun c => absurd c (by decide)) (And.intro (Nat.le_of_ble_eq_true rfl) ⟨fun _ => mm_go_from G ?_, fun c => absurd c (by decide), fun c => absurd c (by decide), fun c => absurd c (by decide), fun c => absurd c (by decide), fun c => absurd c (by decide), fun c => absurd c (by decide), fun c => absurd c (by decide), fun c => absurd c (by decide), fun c => absurd c (by decide), fun c => absurd c (by decide), fun c => absurd c (by decide), fun c => absurd c (by decide), fun c => absurd c (by decide), fun c => absurd c (by decide), fun c => absurd c (by decide), fun c => absurd c (by decide), fun c => absurd c (by decide), trivial⟩))
  exact And.intro ⟨rfl, k_80 I⟩ (c_Mo_lay I hw e3 e0 h4 (mm_go_from G hQ))
theorem l_sp_1 {ro : mm_Ro} {d w H m i : Nat} {x v : Int32} {s : mm_H} {Q : Value → mm_H → Prop} (I : mm_SH s) (hw : w < 6) (e3 : mm_i s 633 80 = nI (w + 1)) (e0 : mm_a s 120 w = nI H) (h4 : H < 4) (hQ : Q .null (rs_lay s w H 0)) : mm_go ro (d + 3) mm_m_Mo_step 119 [.ref 80, .int (nI w), .int (nI m), .int (nI i), .int (nI 1), .int x, .null, .null, .null] [.int v] s Q := by
  have G := mm_hM n_Mo_step rfl
  refine mm_go_from G (And.intro (fun c => absurd c (by decide)) (And.intro (Nat.le_of_ble_eq_true rfl) ⟨fun c => absurd c (by decide), fun _ => mm_go_from G ?_, fun c => absurd c (by decide), fun c => absurd c (by decide), fun c => absurd c (by decide), fun c => absurd c (by decide), fun c => absurd c (by decide), fun c => absurd c (by decide), fun c => absurd c (by decide), fun c => absurd c (by decide), fun c => absurd c (by decide), fun c => absurd c (by decide), fun c => absurd c (by decide), fun c => absurd c (by decide), fun c => absurd c (by decide), fun c => absurd c (by decide), fun c => absurd c (by decide), fun c => absurd c (by decide), trivial⟩))
  exact And.intro ⟨rfl, k_80 I⟩ (c_Mo_lay I hw e3 e0 h4 (mm_go_from G hQ))
theorem l_sp_2 {ro : mm_Ro} {d w H m i : Nat} {a : Nat} {v : Int32} {s : mm_H} {Q : Value → mm_H → Prop} (I : mm_SH s) (hw : w < 6) (e3 : mm_i s 633 80 = nI (w + 1)) (e0 : mm_a s 120 w = nI H) (h4 : H < 4) (ha : a < 6) (hQ : Q .null (rs_lay s w H (mm_a s 118 (6 * w + a)))) : mm_go ro (d + 3) mm_m_Mo_step 119 [.ref 80, .int (nI w), .int (nI m), .int (nI i), .int (nI 2), .int (nI a), .null, .null, .null] [.int v] s Q := by
  have G := mm_hM n_Mo_step rfl
  refine mm_go_from G (And.intro (fun c => absurd c (by decide)) (And.intro (Nat.le_of_ble_eq_true rfl) ⟨fun c => absurd c (by decide), fun c => absurd c (by decide), fun _ => mm_go_from G ?_, fun c => absurd c (by decide), fun c => absurd c (by decide), fun c => absurd c (by decide), fun c => absurd c (by decide), fun c => absurd c (by decide), fun c => absurd c (by decide), fun c => absurd c (by decide), fun c => absurd c (by decide), fun c => absurd c (by decide), fun c => absurd c (by decide), fun c => absurd c (by decide), fun c => absurd c (by decide), fun c => absurd c (by decide), fun c => absurd c (by decide), fun c => absurd c (by decide), trivial⟩))
  have eX : (Int8.ofInt 6).toInt32 * nI w + nI a = nI (6 * w + a) := mm_lin 6 w a
  have bX : 0 ≤ ((Int8.ofInt 6).toInt32 * nI w + nI a).toInt ∧ ((Int8.ofInt 6).toInt32 * nI w + nI a).toInt < ((36 : Nat) : Int) := by rw [eX]; exact mm_nb (by omega) (by omega)
  have cX : ((Int8.ofInt 6).toInt32 * nI w + nI a).toNatClampNeg = 6 * w + a := by rw [eX]; exact mm_ncl (by omega)
  exact And.intro (k_80 I) (mm_rf (r_622 I) (And.intro ⟨k_118 I, mm_inb 36 (n_118 I) bX⟩ (mm_rf (show mm_a s 118 ((Int8.ofInt 6).toInt32 * nI w + nI a).toNatClampNeg = mm_a s 118 (6 * w + a) by rw [cX]) (And.intro ⟨rfl, k_80 I⟩ (c_Mo_lay I hw e3 e0 h4 (mm_go_from G hQ))))))
theorem l_sp_3 {ro : mm_Ro} {d w H m i : Nat} {a : Nat} {v : Int32} {s : mm_H} {Q : Value → mm_H → Prop} (I : mm_SH s) (hw : w < 6) (e3 : mm_i s 633 80 = nI (w + 1)) (e0 : mm_a s 120 w = nI H) (ha : a < 6) (hQ : Q .null (mm_sa s 118 (6 * w + a) v)) : mm_go ro (d + 3) mm_m_Mo_step 119 [.ref 80, .int (nI w), .int (nI m), .int (nI i), .int (nI 3), .int (nI a), .null, .null, .null] [.int v] s Q := by
  have G := mm_hM n_Mo_step rfl
  refine mm_go_from G (And.intro (fun c => absurd c (by decide)) (And.intro (Nat.le_of_ble_eq_true rfl) ⟨fun c => absurd c (by decide), fun c => absurd c (by decide), fun c => absurd c (by decide), fun _ => mm_go_from G ?_, fun c => absurd c (by decide), fun c => absurd c (by decide), fun c => absurd c (by decide), fun c => absurd c (by decide), fun c => absurd c (by decide), fun c => absurd c (by decide), fun c => absurd c (by decide), fun c => absurd c (by decide), fun c => absurd c (by decide), fun c => absurd c (by decide), fun c => absurd c (by decide), fun c => absurd c (by decide), fun c => absurd c (by decide), fun c => absurd c (by decide), trivial⟩))
  have eX : (Int8.ofInt 6).toInt32 * nI w + nI a = nI (6 * w + a) := mm_lin 6 w a
  have bX : 0 ≤ ((Int8.ofInt 6).toInt32 * nI w + nI a).toInt ∧ ((Int8.ofInt 6).toInt32 * nI w + nI a).toInt < ((36 : Nat) : Int) := by rw [eX]; exact mm_nb (by omega) (by omega)
  have cX : ((Int8.ofInt 6).toInt32 * nI w + nI a).toNatClampNeg = 6 * w + a := by rw [eX]; exact mm_ncl (by omega)
  refine And.intro (k_80 I) (mm_rf (r_622 I) (And.intro ⟨k_118 I, mm_inb 36 (n_118 I) bX⟩ (mm_go_from G ?_)))
  refine mm_qq hQ rfl ?_
  show mm_sa s 118 ((Int8.ofInt 6).toInt32 * nI w + nI a).toNatClampNeg v = _
  rw [cX]
theorem l_sp_4 {ro : mm_Ro} {d w H m i : Nat} {x v : Int32} {s : mm_H} {Q : Value → mm_H → Prop} (I : mm_SH s) (hw : w < 6) (e3 : mm_i s 633 80 = nI (w + 1)) (e0 : mm_a s 120 w = nI H) (h4 : H < 3) (hQ : Q .null (rs_lay (rs_lay s w H v) w (H + 1) v)) : mm_go ro (d + 3) mm_m_Mo_step 119 [.ref 80, .int (nI w), .int (nI m), .int (nI i), .int (nI 4), .int x, .null, .null, .null] [.int v] s Q := by
  have G := mm_hM n_Mo_step rfl
  refine mm_go_from G (And.intro (fun c => absurd c (by decide)) (And.intro (Nat.le_of_ble_eq_true rfl) ⟨fun c => absurd c (by decide), fun c => absurd c (by decide), fun c => absurd c (by decide), fun c => absurd c (by decide), fun _ => mm_go_from G ?_, fun c => absurd c (by decide), fun c => absurd c (by decide), fun c => absurd c (by decide), fun c => absurd c (by decide), fun c => absurd c (by decide), fun c => absurd c (by decide), fun c => absurd c (by decide), fun c => absurd c (by decide), fun c => absurd c (by decide), fun c => absurd c (by decide), fun c => absurd c (by decide), fun c => absurd c (by decide), fun c => absurd c (by decide), trivial⟩))
  exact And.intro ⟨rfl, k_80 I⟩ (c_Mo_lay I hw e3 e0 (by omega) (And.intro ⟨rfl, k_80 I⟩ (c_Mo_lay (h := rs_lay s w H v) I hw e3 mm_a1 (by omega) (mm_go_from G hQ))))
theorem l_sp_5 {ro : mm_Ro} {d w H m i : Nat} {x v : Int32} {s : mm_H} {Q : Value → mm_H → Prop} (I : mm_SH s) (hw : w < 6) (e3 : mm_i s 633 80 = nI (w + 1)) (e0 : mm_a s 120 w = nI H) (hQ : Q .null (s)) : mm_go ro (d + 3) mm_m_Mo_step 119 [.ref 80, .int (nI w), .int (nI m), .int (nI i), .int (nI 5), .int x, .null, .null, .null] [.int v] s Q := by
  have G := mm_hM n_Mo_step rfl
  refine mm_go_from G (And.intro (fun c => absurd c (by decide)) (And.intro (Nat.le_of_ble_eq_true rfl) ⟨fun c => absurd c (by decide), fun c => absurd c (by decide), fun c => absurd c (by decide), fun c => absurd c (by decide), fun c => absurd c (by decide), fun _ => mm_go_from G ?_, fun c => absurd c (by decide), fun c => absurd c (by decide), fun c => absurd c (by decide), fun c => absurd c (by decide), fun c => absurd c (by decide), fun c => absurd c (by decide), fun c => absurd c (by decide), fun c => absurd c (by decide), fun c => absurd c (by decide), fun c => absurd c (by decide), fun c => absurd c (by decide), fun c => absurd c (by decide), trivial⟩))
  exact hQ
theorem l_sp_6 {ro : mm_Ro} {d w H m i : Nat} {x v : Int32} {s : mm_H} {Q : Value → mm_H → Prop} (I : mm_SH s) (hw : w < 6) (e3 : mm_i s 633 80 = nI (w + 1)) (e0 : mm_a s 120 w = nI H) (h0 : 0 < H) (h4 : H ≤ 4) (hQ : Q .null (rs_lay (rs_pop s w H) w (H - 1) (rs_tp s w H + v))) : mm_go ro (d + 3) mm_m_Mo_step 119 [.ref 80, .int (nI w), .int (nI m), .int (nI i), .int (nI 6), .int x, .null, .null, .null] [.int v] s Q := by
  have G := mm_hM n_Mo_step rfl
  refine mm_go_from G (And.intro (fun c => absurd c (by decide)) (And.intro (Nat.le_of_ble_eq_true rfl) ⟨fun c => absurd c (by decide), fun c => absurd c (by decide), fun c => absurd c (by decide), fun c => absurd c (by decide), fun c => absurd c (by decide), fun c => absurd c (by decide), fun _ => mm_go_from G ?_, fun c => absurd c (by decide), fun c => absurd c (by decide), fun c => absurd c (by decide), fun c => absurd c (by decide), fun c => absurd c (by decide), fun c => absurd c (by decide), fun c => absurd c (by decide), fun c => absurd c (by decide), fun c => absurd c (by decide), fun c => absurd c (by decide), fun c => absurd c (by decide), trivial⟩))
  exact And.intro ⟨rfl, k_80 I⟩ (c_Mo_pull I hw e3 e0 h0 h4 (And.intro ⟨rfl, k_80 I⟩ (c_Mo_lay (h := rs_pop s w H) I hw e3 mm_a1 (by omega) (mm_go_from G hQ))))
theorem l_sp_7 {ro : mm_Ro} {d w H m i : Nat} {n a : Nat} {v : Int32} {s : mm_H} {Q : Value → mm_H → Prop} (I : mm_SH s) (hw : w < 6) (e3 : mm_i s 633 80 = nI (w + 1)) (e0 : mm_a s 120 w = nI H) (e5 : mm_i s 635 80 = -1) (h4 : H < 4) (hn : n ≤ 24) (en : mm_i s 629 80 = nI n) (ha : a < 6) (hQ : Q .null (rs_make s s w H n a)) : mm_go ro (d + 3) mm_m_Mo_step 119 [.ref 80, .int (nI w), .int (nI m), .int (nI i), .int (nI 7), .int (nI a), .null, .null, .null] [.int v] s Q := by
  have G := mm_hM n_Mo_step rfl
  refine mm_go_from G (And.intro (fun c => absurd c (by decide)) (And.intro (Nat.le_of_ble_eq_true rfl) ⟨fun c => absurd c (by decide), fun c => absurd c (by decide), fun c => absurd c (by decide), fun c => absurd c (by decide), fun c => absurd c (by decide), fun c => absurd c (by decide), fun c => absurd c (by decide), fun _ => mm_go_from G ?_, fun c => absurd c (by decide), fun c => absurd c (by decide), fun c => absurd c (by decide), fun c => absurd c (by decide), fun c => absurd c (by decide), fun c => absurd c (by decide), fun c => absurd c (by decide), fun c => absurd c (by decide), fun c => absurd c (by decide), fun c => absurd c (by decide), trivial⟩))
  exact And.intro ⟨rfl, k_80 I⟩ (c_Mo_make I hw e3 e5 e0 h4 hn en ha (mm_go_from G hQ))
theorem l_sp_8 {ro : mm_Ro} {d w H m i : Nat} {x v : Int32} {s : mm_H} {Q : Value → mm_H → Prop} (I : mm_SH s) (hw : w < 6) (e3 : mm_i s 633 80 = nI (w + 1)) (e0 : mm_a s 120 w = nI H) (hQ : Q .null (s)) : mm_go ro (d + 3) mm_m_Mo_step 119 [.ref 80, .int (nI w), .int (nI m), .int (nI i), .int (nI 8), .int x, .null, .null, .null] [.int v] s Q := by
  have G := mm_hM n_Mo_step rfl
  refine mm_go_from G (And.intro (fun c => absurd c (by decide)) (And.intro (Nat.le_of_ble_eq_true rfl) ⟨fun c => absurd c (by decide), fun c => absurd c (by decide), fun c => absurd c (by decide), fun c => absurd c (by decide), fun c => absurd c (by decide), fun c => absurd c (by decide), fun c => absurd c (by decide), fun c => absurd c (by decide), fun _ => mm_go_from G ?_, fun c => absurd c (by decide), fun c => absurd c (by decide), fun c => absurd c (by decide), fun c => absurd c (by decide), fun c => absurd c (by decide), fun c => absurd c (by decide), fun c => absurd c (by decide), fun c => absurd c (by decide), fun c => absurd c (by decide), trivial⟩))
  exact hQ
theorem l_sp_9 {ro : mm_Ro} {d w H m i : Nat} {a : Nat} {v : Int32} {s : mm_H} {Q : Value → mm_H → Prop} (I : mm_SH s) (hw : w < 6) (e3 : mm_i s 633 80 = nI (w + 1)) (e0 : mm_a s 120 w = nI H) (h4 : H < 4) (ha : a < 12) (ho : ¬ v = 0 → ∃ o, 0 < o ∧ o < 25 ∧ v = nI o) (hQ : Q .null (if v = 0 then mm_si s 635 80 6 else rs_lay s w H (mm_a s 117 (12 * (v.toNatClampNeg - 1) + a)))) : mm_go ro (d + 3) mm_m_Mo_step 119 [.ref 80, .int (nI w), .int (nI m), .int (nI i), .int (nI 9), .int (nI a), .null, .null, .null] [.int v] s Q := by
  have G := mm_hM n_Mo_step rfl
  refine mm_go_from G (And.intro (fun c => absurd c (by decide)) (And.intro (Nat.le_of_ble_eq_true rfl) ⟨fun c => absurd c (by decide), fun c => absurd c (by decide), fun c => absurd c (by decide), fun c => absurd c (by decide), fun c => absurd c (by decide), fun c => absurd c (by decide), fun c => absurd c (by decide), fun c => absurd c (by decide), fun c => absurd c (by decide), fun _ => mm_go_from G ?_, fun c => absurd c (by decide), fun c => absurd c (by decide), fun c => absurd c (by decide), fun c => absurd c (by decide), fun c => absurd c (by decide), fun c => absurd c (by decide), fun c => absurd c (by decide), fun c => absurd c (by decide), trivial⟩))
  have fX : ∀ o : Nat, 0 < o → o < 25 → ((Int8.ofInt 12).toInt32 * (nI o - 1) + nI a).toNatClampNeg = 12 * (o - 1) + a ∧ 0 ≤ ((Int8.ofInt 12).toInt32 * (nI o - 1) + nI a).toInt ∧ ((Int8.ofInt 12).toInt32 * (nI o - 1) + nI a).toInt < ((300 : Nat) : Int) := by
    intro o o0 o1
    obtain ⟨p, hp⟩ : ∃ p, o = p + 1 := ⟨o - 1, by omega⟩
    have e : (Int8.ofInt 12).toInt32 * (nI o - 1) + nI a = nI (12 * (o - 1) + a) := by rw [hp, nI_pred]; exact mm_lin 12 p a
    rw [e]
    exact ⟨mm_ncl (by omega), mm_nb (by omega) (by omega)⟩
  refine And.intro (fun c_305 => mm_go_from G ?_) (fun c_305 => ?_)
  · have n0 : ¬ v = 0 := c_305
    rw [if_neg n0] at hQ
    obtain ⟨o, o0, o1, o2⟩ := ho n0
    subst o2
    rw [mm_ncl (by omega)] at hQ
    obtain ⟨f1, f2⟩ := fX o o0 o1
    exact And.intro (k_80 I) (mm_rf (r_621 I) (And.intro ⟨k_117 I, mm_inb 300 (n_117 I) f2⟩ (mm_rf (show mm_a s 117 ((Int8.ofInt 12).toInt32 * (nI o - 1) + nI a).toNatClampNeg = mm_a s 117 (12 * (o - 1) + a) by rw [f1]) (And.intro ⟨rfl, k_80 I⟩ (c_Mo_lay I hw e3 e0 h4 (mm_go_from G hQ))))))
  · rw [if_pos (mm_no c_305)] at hQ
    exact And.intro (k_80 I) (mm_go_from G hQ)
theorem l_sp_10 {ro : mm_Ro} {d w H m i : Nat} {a : Nat} {v : Int32} {s : mm_H} {Q : Value → mm_H → Prop} (I : mm_SH s) (hw : w < 6) (e3 : mm_i s 633 80 = nI (w + 1)) (e0 : mm_a s 120 w = nI H) (h0 : 0 < H) (h4 : H ≤ 4) (ha : a < 12) (ho : ¬ rs_tp s w H = 0 → ∃ o, 0 < o ∧ o < 25 ∧ rs_tp s w H = nI o) (hQ : Q .null (if rs_tp s w H = 0 then mm_si (rs_pop s w H) 635 80 6 else mm_sa (rs_pop s w H) 117 (12 * ((rs_tp s w H).toNatClampNeg - 1) + a) v)) : mm_go ro (d + 3) mm_m_Mo_step 119 [.ref 80, .int (nI w), .int (nI m), .int (nI i), .int (nI 10), .int (nI a), .null, .null, .null] [.int v] s Q := by
  have G := mm_hM n_Mo_step rfl
  refine mm_go_from G (And.intro (fun c => absurd c (by decide)) (And.intro (Nat.le_of_ble_eq_true rfl) ⟨fun c => absurd c (by decide), fun c => absurd c (by decide), fun c => absurd c (by decide), fun c => absurd c (by decide), fun c => absurd c (by decide), fun c => absurd c (by decide), fun c => absurd c (by decide), fun c => absurd c (by decide), fun c => absurd c (by decide), fun c => absurd c (by decide), fun _ => mm_go_from G ?_, fun c => absurd c (by decide), fun c => absurd c (by decide), fun c => absurd c (by decide), fun c => absurd c (by decide), fun c => absurd c (by decide), fun c => absurd c (by decide), fun c => absurd c (by decide), trivial⟩))
  have fX : ∀ o : Nat, 0 < o → o < 25 → ((Int8.ofInt 12).toInt32 * (nI o - 1) + nI a).toNatClampNeg = 12 * (o - 1) + a ∧ 0 ≤ ((Int8.ofInt 12).toInt32 * (nI o - 1) + nI a).toInt ∧ ((Int8.ofInt 12).toInt32 * (nI o - 1) + nI a).toInt < ((300 : Nat) : Int) := by
    intro o o0 o1
    obtain ⟨p, hp⟩ : ∃ p, o = p + 1 := ⟨o - 1, by omega⟩
    have e : (Int8.ofInt 12).toInt32 * (nI o - 1) + nI a = nI (12 * (o - 1) + a) := by rw [hp, nI_pred]; exact mm_lin 12 p a
    rw [e]
    exact ⟨mm_ncl (by omega), mm_nb (by omega) (by omega)⟩
  refine And.intro ⟨rfl, k_80 I⟩ (c_Mo_pull I hw e3 e0 h0 h4 ?_)
  have J : mm_SH (rs_pop s w H) := SH_sa I
  refine And.intro (fun c_347 => mm_go_from G ?_) (fun c_347 => ?_)
  · have n0 : ¬ rs_tp s w H = 0 := c_347
    rw [if_neg n0] at hQ
    obtain ⟨o, o0, o1, o2⟩ := ho n0
    rw [o2, mm_ncl (by omega)] at hQ
    obtain ⟨f1, f2⟩ := fX o o0 o1
    rw [o2]
    refine And.intro (k_80 J) (mm_rf (r_621 J) (And.intro ⟨k_117 J, mm_inb 300 (n_117 J) f2⟩ (mm_go_from G ?_)))
    refine mm_qq hQ rfl ?_
    show mm_sa (rs_pop s w H) 117 ((Int8.ofInt 12).toInt32 * (nI o - 1) + nI a).toNatClampNeg v = _
    rw [f1]
  · rw [if_pos (mm_no c_347)] at hQ
    exact And.intro (k_80 J) (mm_go_from G hQ)
theorem l_sp_12 {ro : mm_Ro} {d w H m i : Nat} {a D : Nat} {K : mm_H} {v : Int32} {s : mm_H} {Q : Value → mm_H → Prop} (I : mm_SH s) (hw : w < 6) (e3 : mm_i s 633 80 = nI (w + 1)) (e0 : mm_a s 120 w = nI H) (hK : lk_gd s = lk_gd K ∧ ∀ m, lk_GV K m → lk_GV s m) (U : mm_upo (mm_up s)) (h4 : H < 4) (ha : a < 6) (ho : ¬ v = 0 → ∃ o, 0 < o ∧ o < 25 ∧ v = nI o ∧ (mm_a s 116 o).toInt < 6) (rz : rs_rz K s (w + 1)) (hQ : Q .null (@ite _ (v = 0 ∨ mm_bel (mm_up s) (mm_a s 116 v.toNatClampNeg).toInt (a : Int)) (Classical.propDecidable _) (rs_lay s w H v) (rs_raise K v (w + 1) s))) : mm_go ro (d + 3) mm_m_Mo_step 119 [.ref 80, .int (nI w), .int (nI m), .int (nI i), .int (nI 12), .int (nI a), .null, .null, .null] [.int v] s Q := by
  have G := mm_hM n_Mo_step rfl
  refine mm_go_from G (And.intro (fun c => absurd c (by decide)) (And.intro (Nat.le_of_ble_eq_true rfl) ⟨fun c => absurd c (by decide), fun c => absurd c (by decide), fun c => absurd c (by decide), fun c => absurd c (by decide), fun c => absurd c (by decide), fun c => absurd c (by decide), fun c => absurd c (by decide), fun c => absurd c (by decide), fun c => absurd c (by decide), fun c => absurd c (by decide), fun c => absurd c (by decide), fun c => absurd c (by decide), fun _ => mm_go_from G ?_, fun c => absurd c (by decide), fun c => absurd c (by decide), fun c => absurd c (by decide), fun c => absurd c (by decide), fun c => absurd c (by decide), trivial⟩))
  refine And.intro (fun c_390 => mm_go_from G ?_) (fun c_390 => ?_)
  · have z0 : v = 0 := c_390
    rw [if_pos (Or.inl z0)] at hQ
    exact And.intro ⟨rfl, k_80 I⟩ (c_Mo_lay I hw e3 e0 h4 (mm_go_from G hQ))
  · have n0 : ¬ v = 0 := c_390
    obtain ⟨o, o0, o1, o2, o3⟩ := ho n0
    subst o2
    rw [mm_ncl (by omega)] at hQ
    refine And.intro (k_80 I) (mm_rf (r_620 I) (And.intro ⟨k_116 I, mm_inb 25 (n_116 I) (mm_nb o1 (by omega))⟩ (mm_rf (show mm_a s 116 (nI o).toNatClampNeg = mm_a s 116 o by rw [mm_ncl (by omega)]) (And.intro ⟨rfl, k_80 I⟩ (c_Mo_isBelow I U o3 (And.intro (fun c_406 => mm_go_from G ?_) (fun c_406 => ?_)))))))
    · have q : ¬ mm_bel (mm_up s) (mm_a s 116 o).toInt (nI a).toInt := mm_b0.mp c_406
      rw [mm_nt (by omega)] at q
      rw [if_neg (fun z => z.elim n0 q)] at hQ
      exact And.intro ⟨rfl, k_80 I⟩ (c_Mo_raise I hK o1 rfl (by omega) e3 rz (mm_go_from G hQ))
    · have q : mm_bel (mm_up s) (mm_a s 116 o).toInt (nI a).toInt := mm_nn c_406
      rw [mm_nt (by omega)] at q
      rw [if_pos (Or.inr q)] at hQ
      exact And.intro ⟨rfl, k_80 I⟩ (c_Mo_lay I hw e3 e0 h4 (mm_go_from G hQ))
theorem l_sp_13 {ro : mm_Ro} {d w H m i : Nat} {x v : Int32} {s : mm_H} {Q : Value → mm_H → Prop} (I : mm_SH s) (hw : w < 6) (e3 : mm_i s 633 80 = nI (w + 1)) (e0 : mm_a s 120 w = nI H) (hQ : Q .null (mm_sa s 121 w x)) : mm_go ro (d + 3) mm_m_Mo_step 119 [.ref 80, .int (nI w), .int (nI m), .int (nI i), .int (nI 13), .int x, .null, .null, .null] [.int v] s Q := by
  have G := mm_hM n_Mo_step rfl
  refine mm_go_from G (And.intro (fun c => absurd c (by decide)) (And.intro (Nat.le_of_ble_eq_true rfl) ⟨fun c => absurd c (by decide), fun c => absurd c (by decide), fun c => absurd c (by decide), fun c => absurd c (by decide), fun c => absurd c (by decide), fun c => absurd c (by decide), fun c => absurd c (by decide), fun c => absurd c (by decide), fun c => absurd c (by decide), fun c => absurd c (by decide), fun c => absurd c (by decide), fun c => absurd c (by decide), fun c => absurd c (by decide), fun _ => mm_go_from G ?_, fun c => absurd c (by decide), fun c => absurd c (by decide), fun c => absurd c (by decide), fun c => absurd c (by decide), trivial⟩))
  have cw : (nI w).toNatClampNeg = w := mm_ncl (by omega)
  have bw : 0 ≤ (nI w).toInt ∧ (nI w).toInt < ((6 : Nat) : Int) := mm_nb hw (by omega)
  refine And.intro (k_80 I) (mm_rf (r_625 I) (And.intro ⟨k_121 I, mm_inb 6 (n_121 I) bw⟩ (mm_go_from G ?_)))
  refine mm_qq hQ rfl ?_
  show mm_sa s 121 (nI w).toNatClampNeg x = _
  rw [cw]
theorem l_sp_14 {ro : mm_Ro} {d w H m i : Nat} {x v : Int32} {s : mm_H} {Q : Value → mm_H → Prop} (I : mm_SH s) (hw : w < 6) (e3 : mm_i s 633 80 = nI (w + 1)) (e0 : mm_a s 120 w = nI H) (hQ : Q .null (if v = 0 then mm_sa s 121 w x else s)) : mm_go ro (d + 3) mm_m_Mo_step 119 [.ref 80, .int (nI w), .int (nI m), .int (nI i), .int (nI 14), .int x, .null, .null, .null] [.int v] s Q := by
  have G := mm_hM n_Mo_step rfl
  refine mm_go_from G (And.intro (fun c => absurd c (by decide)) (And.intro (Nat.le_of_ble_eq_true rfl) ⟨fun c => absurd c (by decide), fun c => absurd c (by decide), fun c => absurd c (by decide), fun c => absurd c (by decide), fun c => absurd c (by decide), fun c => absurd c (by decide), fun c => absurd c (by decide), fun c => absurd c (by decide), fun c => absurd c (by decide), fun c => absurd c (by decide), fun c => absurd c (by decide), fun c => absurd c (by decide), fun c => absurd c (by decide), fun c => absurd c (by decide), fun _ => mm_go_from G ?_, fun c => absurd c (by decide), fun c => absurd c (by decide), fun c => absurd c (by decide), trivial⟩))
  have cw : (nI w).toNatClampNeg = w := mm_ncl (by omega)
  have bw : 0 ≤ (nI w).toInt ∧ (nI w).toInt < ((6 : Nat) : Int) := mm_nb hw (by omega)
  refine And.intro (fun c_440 => mm_go_from G ?_) (fun c_440 => ?_)
  · rw [if_neg c_440] at hQ
    exact hQ
  · rw [if_pos (mm_no c_440)] at hQ
    refine And.intro (k_80 I) (mm_rf (r_625 I) (And.intro ⟨k_121 I, mm_inb 6 (n_121 I) bw⟩ (mm_go_from G ?_)))
    refine mm_qq hQ rfl ?_
    show mm_sa s 121 (nI w).toNatClampNeg x = _
    rw [cw]
theorem l_sp_15 {ro : mm_Ro} {d w H m i : Nat} {x v : Int32} {s : mm_H} {Q : Value → mm_H → Prop} (I : mm_SH s) (hw : w < 6) (e3 : mm_i s 633 80 = nI (w + 1)) (e0 : mm_a s 120 w = nI H) (hQ : Q .null (if v = 0 then mm_sa s 121 w x else s)) : mm_go ro (d + 3) mm_m_Mo_step 119 [.ref 80, .int (nI w), .int (nI m), .int (nI i), .int (nI 15), .int x, .null, .null, .null] [.int v] s Q := by
  have G := mm_hM n_Mo_step rfl
  refine mm_go_from G (And.intro (fun c => absurd c (by decide)) (And.intro (Nat.le_of_ble_eq_true rfl) ⟨fun c => absurd c (by decide), fun c => absurd c (by decide), fun c => absurd c (by decide), fun c => absurd c (by decide), fun c => absurd c (by decide), fun c => absurd c (by decide), fun c => absurd c (by decide), fun c => absurd c (by decide), fun c => absurd c (by decide), fun c => absurd c (by decide), fun c => absurd c (by decide), fun c => absurd c (by decide), fun c => absurd c (by decide), fun c => absurd c (by decide), fun c => absurd c (by decide), fun _ => mm_go_from G ?_, fun c => absurd c (by decide), fun c => absurd c (by decide), trivial⟩))
  have cw : (nI w).toNatClampNeg = w := mm_ncl (by omega)
  have bw : 0 ≤ (nI w).toInt ∧ (nI w).toInt < ((6 : Nat) : Int) := mm_nb hw (by omega)
  refine And.intro (fun c_440 => mm_go_from G ?_) (fun c_440 => ?_)
  · rw [if_neg c_440] at hQ
    exact hQ
  · rw [if_pos (mm_no c_440)] at hQ
    refine And.intro (k_80 I) (mm_rf (r_625 I) (And.intro ⟨k_121 I, mm_inb 6 (n_121 I) bw⟩ (mm_go_from G ?_)))
    refine mm_qq hQ rfl ?_
    show mm_sa s 121 (nI w).toNatClampNeg x = _
    rw [cw]
theorem l_sp_16 {ro : mm_Ro} {d w H m i : Nat} {g : Nat} {x v : Int32} {s : mm_H} {Q : Value → mm_H → Prop} (I : mm_SH s) (hw : w < 6) (e3 : mm_i s 633 80 = nI (w + 1)) (e0 : mm_a s 120 w = nI H) (hm : m < 10) (r2 : -2 ≤ (mm_a s 93 (4 * m + 3)).toInt) (h4 : H ≤ 4) (h0 : mm_a s 93 (4 * m + 3) = -2 ∨ 0 < H) (hG : 0 < w → mm_a s 120 (w - 1) = nI g ∧ g ≤ 4 ∧ (mm_a s 93 (4 * m + 3) = -2 ∨ g < 4)) (hx : 0 ≤ (mm_a s 93 (4 * m + 3)).toInt → w = 0 → ¬ rs_tp s w H = 0 → ∃ o, o < 25 ∧ rs_tp s w H = nI o) (hQ : Q .null (rs_give s s w H m)) : mm_go ro (d + 3) mm_m_Mo_step 119 [.ref 80, .int (nI w), .int (nI m), .int (nI i), .int (nI 16), .int x, .null, .null, .null] [.int v] s Q := by
  have G := mm_hM n_Mo_step rfl
  refine mm_go_from G (And.intro (fun c => absurd c (by decide)) (And.intro (Nat.le_of_ble_eq_true rfl) ⟨fun c => absurd c (by decide), fun c => absurd c (by decide), fun c => absurd c (by decide), fun c => absurd c (by decide), fun c => absurd c (by decide), fun c => absurd c (by decide), fun c => absurd c (by decide), fun c => absurd c (by decide), fun c => absurd c (by decide), fun c => absurd c (by decide), fun c => absurd c (by decide), fun c => absurd c (by decide), fun c => absurd c (by decide), fun c => absurd c (by decide), fun c => absurd c (by decide), fun c => absurd c (by decide), fun _ => mm_go_from G ?_, fun c => absurd c (by decide), trivial⟩))
  exact And.intro ⟨rfl, k_80 I⟩ (c_Mo_give I hw hm r2 e3 e0 h4 h0 hG hx (mm_go_from G hQ))
theorem l_sp_17 {ro : mm_Ro} {d w H m i : Nat} {K : mm_H} {x v : Int32} {s : mm_H} {Q : Value → mm_H → Prop} (I : mm_SH s) (hw : w < 6) (e3 : mm_i s 633 80 = nI (w + 1)) (e0 : mm_a s 120 w = nI H) (hK : lk_gd s = lk_gd K ∧ ∀ m, lk_GV K m → lk_GV s m) (ho : ¬ v = 0 → ∃ o, 0 < o ∧ o < 25 ∧ v = nI o) (rz : rs_rz K s (w + 1)) (hQ : Q .null (if v = 0 then mm_si s 635 80 6 else rs_raise K v (w + 1) s)) : mm_go ro (d + 3) mm_m_Mo_step 119 [.ref 80, .int (nI w), .int (nI m), .int (nI i), .int (nI 17), .int x, .null, .null, .null] [.int v] s Q := by
  have G := mm_hM n_Mo_step rfl
  refine mm_go_from G (And.intro (fun c => absurd c (by decide)) (And.intro (Nat.le_of_ble_eq_true rfl) ⟨fun c => absurd c (by decide), fun c => absurd c (by decide), fun c => absurd c (by decide), fun c => absurd c (by decide), fun c => absurd c (by decide), fun c => absurd c (by decide), fun c => absurd c (by decide), fun c => absurd c (by decide), fun c => absurd c (by decide), fun c => absurd c (by decide), fun c => absurd c (by decide), fun c => absurd c (by decide), fun c => absurd c (by decide), fun c => absurd c (by decide), fun c => absurd c (by decide), fun c => absurd c (by decide), fun c => absurd c (by decide), fun _ => mm_go_from G ?_, trivial⟩))
  refine And.intro (fun c_464 => mm_go_from G ?_) (fun c_464 => ?_)
  · have n0 : ¬ v = 0 := c_464
    rw [if_neg n0] at hQ
    obtain ⟨o, o0, o1, o2⟩ := ho n0
    exact And.intro ⟨rfl, k_80 I⟩ (c_Mo_raise I hK o1 o2 (by omega) e3 rz (mm_go_from G hQ))
  · rw [if_pos (mm_no c_464)] at hQ
    exact And.intro (k_80 I) (mm_go_from G hQ)
