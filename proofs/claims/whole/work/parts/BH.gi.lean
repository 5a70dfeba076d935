/-! RUNNING, the class: give -/
noncomputable def ma_gv (h : mm_H) (w B ic : Nat) (r x : Int32) (h1 : mm_H) : mm_H := if w = 0 then mm_si (mm_si (mm_si h1 333 56 (nI w)) 334 56 0) 324 56 (if r.toInt < 0 then x else if x = 0 then -1 else mm_a h 59 (x.toNatClampNeg - 1)) else if r = -2 then mm_si (mm_si h1 333 56 (nI w)) 385 (62 + 3 * (w - 1)) (nI (ic + 1)) else mm_si (ac_ps (mm_si h1 333 56 (nI w)) (62 + 3 * (w - 1)) B x) 385 (62 + 3 * (w - 1)) (nI (ic + 1))
theorem l_Ma_give {ro : mm_Ro} {d w m B ic n q : Nat} {x r : Int32} {h h1 : mm_H} {Q : Value → mm_H → Prop} (I : mm_SH h1) (hw : w < 6) (MO : lx_MO h1 q m) (er : mm_a h1 93 (4 * m + 3) = r) (r2 : -2 ≤ r.toInt) (e4 : mm_r h1 384 (62 + 3 * w) = q) (e3 : mm_i h1 333 56 = nI (w + 1)) (e9 : mm_a h1 59 = mm_a h 59) (en : mm_i h1 326 56 = nI n) (n24 : n ≤ 24) (x2 : r = -2 → x = 0) (hc : 0 < w → mm_i h1 388 (62 + 3 * (w - 1)) = nI B ∧ mm_i h1 385 (62 + 3 * (w - 1)) = nI ic ∧ (r = -2 ∨ B < 4)) (ob : 0 ≤ r.toInt → x = 0 ∨ ∃ o, 0 < o ∧ o ≤ n ∧ x = nI o) (hQ : Q .null (ma_gv h w B ic r x h1)) : mm_go ro (d + 2) mm_m_Ma_give 20 [.ref 56, .ref (62 + 3 * w), .int (mm_b (¬ r = -2)), .null, .null] [.int x] h1 Q := by
  have G := mm_hM n_Ma_give rfl
  have ew : nI (w + 1) - 1 = nI w := nI_pred w
  have E := ac_w I hw
  have q1 := MO.1
  have MOd := MO
  obtain ⟨_, ME, _, _, PL, _⟩ := MOd
  unfold ma_gv at hQ
  have hR : mm_si h1 333 56 (nI (w + 1) - 1) = mm_si h1 333 56 (nI w) := by rw [ew]
  rw [← hR] at hQ
  refine mm_go_from G (And.intro (k_56 I) (mm_rf e3 (And.intro (k_56 I) (And.intro (k_56 I) (mm_rf mm_i1 (And.intro (fun c_35 => mm_go_from G ?_) (fun c_35 => ?_)))))))
  · have c : ¬ nI (w + 1) - 1 = nI 0 := c_35
    rw [ew] at c
    have w0 : ¬ w = 0 := fun z => c (by rw [z])
    rw [if_neg w0] at hQ
    obtain ⟨c8, c5, c4⟩ := hc (by omega)
    obtain ⟨u, hu⟩ : ∃ u, w = u + 1 := ⟨w - 1, by omega⟩
    have e2 : nI (w + 1) - 1 - 1 = nI (w - 1) := by rw [ew, hu]; exact nI_pred u
    have cU : (nI (w + 1) - 1 - 1).toNatClampNeg = w - 1 := by rw [e2]; exact mm_ncl (by omega)
    have bU : 0 ≤ (nI (w + 1) - 1 - 1).toInt ∧ (nI (w + 1) - 1 - 1).toInt < ((6 : Nat) : Int) := by rw [e2]; exact mm_nb (by omega) (by omega)
    have J : mm_SH (mm_si h1 333 56 (nI (w + 1) - 1)) := SH_si I
    have EE := ac_w J (w := w - 1) (by omega)
    have k61 : 22 ≤ mm_k (mm_si h1 333 56 (nI (w + 1) - 1)) 61 ∧ mm_k (mm_si h1 333 56 (nI (w + 1) - 1)) 61 < 26 := by rw [k_61 J]; decide
    have j8 : mm_i (mm_si h1 333 56 (nI (w + 1) - 1)) 388 (62 + 3 * (w - 1)) = nI B := (mm_i2 (by omega)).trans c8
    have j5 : mm_i (mm_si h1 333 56 (nI (w + 1) - 1)) 385 (62 + 3 * (w - 1)) = nI ic := (mm_i2 (by omega)).trans c5
    refine And.intro (k_56 J) (mm_rf (r_332 J) (And.intro (k_56 J) (mm_rf mm_i1 (And.intro ⟨k61, mm_inb 6 (n_61 J) bU⟩ (mm_rf (show mm_q (mm_si h1 333 56 (nI (w + 1) - 1)) 61 (nI (w + 1) - 1 - 1).toNatClampNeg = 62 + 3 * (w - 1) by rw [cU]; exact q_w J (by omega)) (And.intro (fun c_89 => mm_go_from G ?_) (fun c_89 => ?_)))))))
    · have r0 : r = -2 := Classical.not_not.mp (mm_b0.mp c_89)
      rw [if_pos r0, nI_succ ic] at hQ
      exact And.intro EE.1 (mm_rf j5 (And.intro EE.1 hQ))
    · have r0 : ¬ r = -2 := mm_nn c_89
      rw [if_neg r0, nI_succ ic] at hQ
      exact And.intro ⟨rfl, EE.1⟩ (c_Ac_push EE j8 (c4.elim (fun z => absurd z r0) id) (And.intro EE.1 (mm_rf (show mm_i (ac_ps (mm_si h1 333 56 (nI (w + 1) - 1)) (62 + 3 * (w - 1)) B x) 385 (62 + 3 * (w - 1)) = nI ic from (mm_i2 (by omega)).trans j5) (And.intro EE.1 hQ))))
  · have c : nI (w + 1) - 1 = nI 0 := mm_no c_35
    rw [ew] at c
    have w0 : w = 0 := mm_nee (by omega) (by omega) c
    rw [if_pos w0] at hQ
    have J : mm_SH (mm_si (mm_si h1 333 56 (nI (w + 1) - 1)) 334 56 0) := SH_si (SH_si I)
    have fin : ∀ v : Int32, v = (if r.toInt < 0 then x else if x = 0 then -1 else mm_a h 59 (x.toNatClampNeg - 1)) → Q .null (mm_si (mm_si (mm_si h1 333 56 (nI (w + 1) - 1)) 334 56 0) 324 56 v) := fun v hv => by rw [hv]; exact hQ
    refine And.intro (k_56 I) (And.intro (fun c_45 => mm_go_from G ?_) (fun c_45 => ?_))
    · have r0 : r = -2 := Classical.not_not.mp (mm_b0.mp c_45)
      refine And.intro (k_56 J) (fin x ?_)
      rw [if_pos (by rw [r0]; decide)]
    · have r0 : ¬ r = -2 := mm_nn c_45
      refine And.intro E.1 (mm_rf e4 (And.intro ME.1.1 (mm_rf ME.2.1.1 (And.intro ME.2.1.2 (mm_rf (show mm_i (mm_si (mm_si h1 333 56 (nI (w + 1) - 1)) 334 56 0) 448 (q + 2) = r from (mm_i2 (by omega)).trans ((mm_i2 (by omega)).trans (PL.2.2.1.trans er))) (And.intro (fun c_59 => mm_go_from G ?_) (fun c_59 => ?_)))))))
      · have r1 : r = -1 := c_59
        refine And.intro (k_56 J) (fin x ?_)
        rw [if_pos (by rw [r1]; decide)]
      · have r1 : ¬ r = -1 := c_59
        have m1 : ¬ r.toInt = -1 := fun y => r1 (Int32.toInt_inj.mp (by rw [y]; decide))
        have m2 : ¬ r.toInt = -2 := fun y => r0 (Int32.toInt_inj.mp (by rw [y]; decide))
        refine And.intro ⟨rfl, k_56 J⟩ (c_Ma_classOf J ((mm_i2 (by omega)).trans ((mm_i2 (by omega)).trans en)) n24 (ob (by omega)) (mm_go_from G (And.intro (k_56 J) (fin _ ?_))))
        rw [if_neg (show ¬ r.toInt < 0 by omega)]
        show (if x = 0 then (-1 : Int32) else mm_a h1 59 (x.toNatClampNeg - 1)) = _
        rw [e9]
theorem c_Ma_give {ro : mm_Ro} {d w m H B ic n q : Nat} {h : mm_H} {Q : Value → mm_H → Prop} (I : mm_SH h) (hw : w < 6) (MO : lx_MO h q m) (MO2 : lx_MO (mm_si h 388 (62 + 3 * w) (nI (H - 1))) q m) (r2 : -2 ≤ (mm_a h 93 (4 * m + 3)).toInt) (e4 : mm_r h 384 (62 + 3 * w) = q) (e3 : mm_i h 333 56 = nI (w + 1)) (en : mm_i h 326 56 = nI n) (n24 : n ≤ 24) (e8 : mm_i h 388 (62 + 3 * w) = nI H) (h4 : H ≤ 4) (h0 : mm_a h 93 (4 * m + 3) = -2 ∨ 0 < H) (hc : 0 < w → mm_i h 388 (62 + 3 * (w - 1)) = nI B ∧ mm_i h 385 (62 + 3 * (w - 1)) = nI ic ∧ (mm_a h 93 (4 * m + 3) = -2 ∨ B < 4)) (ob : 0 ≤ (mm_a h 93 (4 * m + 3)).toInt → mm_a h (64 + 3 * w) (H - 1) = 0 ∨ ∃ o, 0 < o ∧ o ≤ n ∧ mm_a h (64 + 3 * w) (H - 1) = nI o)
    (hQ : Q .null (if mm_a h 93 (4 * m + 3) = -2 then ma_gv h w B ic (mm_a h 93 (4 * m + 3)) 0 h else ma_gv h w B ic (mm_a h 93 (4 * m + 3)) (mm_a h (64 + 3 * w) (H - 1)) (mm_si h 388 (62 + 3 * w) (nI (H - 1))))) : mm_ev ro (d + 3) n_Ma_give [.ref 56, .ref (62 + 3 * w)] h Q := by
  have G := mm_hM n_Ma_give rfl
  have E := ac_w I hw
  have e64 : 62 + 3 * w + 2 = 64 + 3 * w := by omega
  refine mm_ev_at 20 (Z := mm_m_Ma_give) rfl rfl (Nat.le_of_ble_eq_true rfl) rfl ?_
  refine And.intro E.1 (mm_rf e4 (And.intro ⟨rfl, MO.2.1.1.1⟩ (c_Me_gives MO (And.intro (fun c_9 => mm_go_at 20 G ?_) (fun c_9 => ?_)))))
  · have r0 : mm_a h 93 (4 * m + 3) = -2 := Classical.not_not.mp (mm_b0.mp c_9)
    rw [if_pos r0] at hQ
    exact l_Ma_give (h := h) (x := 0) I hw MO rfl r2 e4 e3 rfl en n24 (fun _ => rfl) hc (fun _ => Or.inl rfl) hQ
  · have r0 : ¬ mm_a h 93 (4 * m + 3) = -2 := mm_nn c_9
    rw [if_neg r0] at hQ
    have h0' := h0.elim (fun z => absurd z r0) id
    refine And.intro ⟨rfl, E.1⟩ (c_Ac_pop E e8 h0' h4 ?_)
    rw [e64]
    refine l_Ma_give (h := h) (h1 := mm_si h 388 (62 + 3 * w) (nI (H - 1))) (SH_si I) hw MO2 rfl r2 e4 ((mm_i2 (by omega)).trans e3) rfl ((mm_i2 (by omega)).trans en) n24 (fun z => absurd z r0) (fun z => ?_) ob hQ
    obtain ⟨c1, c2, c3⟩ := hc z
    exact ⟨(mm_i2 (by omega)).trans c1, (mm_i2 (by omega)).trans c2, c3⟩
