/-! the reference's enter, make, outside, give, raise -/
theorem fi_SH {h : mm_H} {a lo p : Nat} {F : Nat → Int32} (I : mm_SH h) : mm_SH (rs_fill h a lo p F) := I
theorem l_Mo_enter {ro : mm_Ro} {d w : Nat} {x : Int32} {g : mm_H} {Q : Value → mm_H → Prop} (I : mm_SH g) (hw : w < 6) (e3 : mm_i g 633 80 = nI w) (hQ : ∀ e, mm_i g 634 80 = e → Q .null (if e.toInt < (w : Int) + 1 then mm_si (mm_si (rs_fill g 118 (6 * w) 6 (fun _ => 0)) 633 80 (nI (w + 1))) 634 80 (nI (w + 1)) else mm_si (rs_fill g 118 (6 * w) 6 (fun _ => 0)) 633 80 (nI (w + 1)))) : ∀ (n p : Nat), p + n = 6 → mm_go ro d mm_m_Mo_enter 32 [.ref 80, .int x, .int (nI p)] [] (rs_fill g 118 (6 * w) p (fun _ => 0)) Q := by
  have t6 : ((Int8.ofInt 6).toInt32).toInt = 6 := by decide
  intro n
  induction n with
  | zero =>
    intro p hp
    have J : mm_SH (rs_fill g 118 (6 * w) p (fun _ => 0)) := fi_SH I
    have hQ' := hQ _ rfl
    refine mm_go_from (mm_hM n_Mo_enter rfl) (And.intro (fun c_35 => mm_go_from (mm_hM n_Mo_enter rfl) ?_) (fun c_35 => ?_))
    · have p6 : p = 6 := by omega
      subst p6
      refine And.intro (k_80 J) (mm_rf e3 (And.intro (k_80 J) (And.intro (k_80 J) (mm_rf mm_i1 (And.intro (k_80 J) (mm_rf (show mm_i (mm_si (rs_fill g 118 (6 * w) 6 (fun _ => 0)) 633 80 (nI w + 1)) 634 80 = mm_i g 634 80 from mm_i2 (by omega)) (And.intro (fun c_77 => mm_go_from (mm_hM n_Mo_enter rfl) ?_) (fun c_77 => ?_))))))))
      · have c : (nI w + 1).toInt ≤ (mm_i g 634 80).toInt := c_77
        rw [← nI_succ, mm_nt (by omega)] at c
        rw [if_neg (by omega)] at hQ'
        refine mm_qq hQ' rfl ?_
        rw [nI_succ]; rfl
      · have c : ¬ (nI w + 1).toInt ≤ (mm_i g 634 80).toInt := c_77
        rw [← nI_succ, mm_nt (by omega)] at c
        rw [if_pos (by omega)] at hQ'
        refine And.intro (k_80 J) (mm_rf mm_i1 (And.intro (k_80 J) ?_))
        refine mm_qq hQ' rfl ?_
        rw [nI_succ]; rfl
    · have c : ¬ ((Int8.ofInt 6).toInt32).toInt ≤ (nI p).toInt := c_35
      rw [mm_nt (by omega), t6] at c
      omega
  | succ n ih =>
    intro p hp
    have J : mm_SH (rs_fill g 118 (6 * w) p (fun _ => 0)) := fi_SH I
    have nx := ih (p + 1) (by omega)
    have eX : (Int8.ofInt 6).toInt32 * nI w + nI p = nI (6 * w + p) := mm_lin 6 w p
    refine mm_go_from (mm_hM n_Mo_enter rfl) (And.intro (fun c_35 => ?_) (fun c_35 => ?_))
    · have c : ((Int8.ofInt 6).toInt32).toInt ≤ (nI p).toInt := c_35
      rw [mm_nt (by omega), t6] at c
      omega
    · refine And.intro (k_80 J) (mm_rf (r_622 J) (And.intro (k_80 J) (mm_rf e3 (And.intro ⟨k_118 J, mm_inb 36 (n_118 J) (by rw [eX]; exact mm_nb (by omega) (by omega))⟩ ?_))))
      rw [nI_succ] at nx
      have e2 : mm_sa (rs_fill g 118 (6 * w) p (fun _ => 0)) 118 ((Int8.ofInt 6).toInt32 * nI w + nI p).toNatClampNeg 0 = rs_fill g 118 (6 * w) (p + 1) (fun _ => 0) := by
        rw [eX, mm_ncl (by omega)]
        exact rs_fill_s
      rw [← e2] at nx
      exact nx
theorem c_Mo_enter {ro : mm_Ro} {d w : Nat} {x : Int32} {h : mm_H} {Q : Value → mm_H → Prop} (I : mm_SH h) (hw : w < 6) (e3 : mm_i h 633 80 = nI w) (hQ : Q .null (rs_enter h w x)) : mm_ev ro (d + 1) n_Mo_enter [.ref 80, .int x] h Q := by
  have cw : (nI w).toNatClampNeg = w := mm_ncl (by omega)
  have bw : 0 ≤ (nI w).toInt ∧ (nI w).toInt < ((6 : Nat) : Int) := mm_nb hw (by omega)
  refine mm_ev_at 32 (Z := mm_m_Mo_enter) rfl rfl (Nat.le_of_ble_eq_true rfl) rfl ?_
  refine And.intro (k_80 I) (mm_rf (r_626 I) (And.intro (k_80 I) (mm_rf e3 (And.intro ⟨k_122 I, mm_inb 6 (n_122 I) bw⟩ (And.intro (k_80 I) (mm_rf (r_625 I) (And.intro (k_80 I) (mm_rf e3 (And.intro ⟨k_121 I, mm_inb 6 (n_121 I) bw⟩ (And.intro (k_80 I) (mm_rf (r_624 I) (And.intro (k_80 I) (mm_rf e3 (And.intro ⟨k_120 I, mm_inb 6 (n_120 I) bw⟩ ?_))))))))))))))
  have z := l_Mo_enter (ro := ro) (d := d) (x := x) (g := mm_sa (mm_sa (mm_sa h 122 w x) 121 w 0) 120 w 0) (Q := Q) I hw e3 (fun e he => ?_) 6 0 (Nat.zero_add _)
  · rw [rs_fill_0] at z
    show mm_go ro d mm_m_Mo_enter 32 [.ref 80, .int x, .int 0] [] (mm_sa (mm_sa (mm_sa h 122 (nI w).toNatClampNeg x) 121 (nI w).toNatClampNeg 0) 120 (nI w).toNatClampNeg 0) Q
    rw [cw]
    exact z
  · have he' : mm_i h 634 80 = e := he
    have q : Q .null (rs_enter h w x) := hQ
    unfold rs_enter rs_ent0 at q
    rw [he'] at q
    exact q
theorem l_Mo_make {ro : mm_Ro} {d w H n : Nat} {x : Int32} {g : mm_H} {Q : Value → mm_H → Prop} (I : mm_SH g) (hw : w < 6) (e3 : mm_i g 633 80 = nI (w + 1)) (e0 : mm_a g 120 w = nI H) (h4 : H < 4) (hn : n < 24) (en : mm_i g 629 80 = nI (n + 1)) (hQ : Q .null (rs_lay (rs_fill g 117 (12 * n) 12 (fun _ => 0)) w H (nI (n + 1)))) : ∀ (k p : Nat), p + k = 12 → mm_go ro (d + 1) mm_m_Mo_make 61 [.ref 80, .int x, .int (nI p)] [] (rs_fill g 117 (12 * n) p (fun _ => 0)) Q := by
  have t12 : ((Int8.ofInt 12).toInt32).toInt = 12 := by decide
  intro k
  induction k with
  | zero =>
    intro p hp
    have J : mm_SH (rs_fill g 117 (12 * n) p (fun _ => 0)) := fi_SH I
    refine mm_go_from (mm_hM n_Mo_make rfl) (And.intro (fun c_64 => mm_go_from (mm_hM n_Mo_make rfl) ?_) (fun c_64 => ?_))
    · have p6 : p = 12 := by omega
      subst p6
      refine And.intro (k_80 J) (mm_rf en (And.intro ⟨rfl, k_80 J⟩ (c_Mo_lay J hw e3 ((rs_fill_a (by omega)).trans e0) h4 ?_)))
      exact hQ
    · have c : ¬ ((Int8.ofInt 12).toInt32).toInt ≤ (nI p).toInt := c_64
      rw [mm_nt (by omega), t12] at c
      omega
  | succ k ih =>
    intro p hp
    have J : mm_SH (rs_fill g 117 (12 * n) p (fun _ => 0)) := fi_SH I
    have nx := ih (p + 1) (by omega)
    have eX : (Int8.ofInt 12).toInt32 * (nI (n + 1) - 1) + nI p = nI (12 * n + p) := by rw [nI_pred]; exact mm_lin 12 n p
    have bX : 0 ≤ ((Int8.ofInt 12).toInt32 * (nI (n + 1) - 1) + nI p).toInt ∧ ((Int8.ofInt 12).toInt32 * (nI (n + 1) - 1) + nI p).toInt < ((300 : Nat) : Int) := by rw [eX]; exact mm_nb (by omega) (by omega)
    refine mm_go_from (mm_hM n_Mo_make rfl) (And.intro (fun c_64 => ?_) (fun c_64 => ?_))
    · have c : ((Int8.ofInt 12).toInt32).toInt ≤ (nI p).toInt := c_64
      rw [mm_nt (by omega), t12] at c
      omega
    · refine And.intro (k_80 J) (mm_rf (r_621 J) (And.intro (k_80 J) (mm_rf en (And.intro ⟨k_117 J, mm_inb 300 (n_117 J) bX⟩ ?_))))
      rw [nI_succ] at nx
      have e2 : mm_sa (rs_fill g 117 (12 * n) p (fun _ => 0)) 117 ((Int8.ofInt 12).toInt32 * (nI (n + 1) - 1) + nI p).toNatClampNeg 0 = rs_fill g 117 (12 * n) (p + 1) (fun _ => 0) := by
        rw [eX, mm_ncl (by omega)]
        exact rs_fill_s
      rw [← e2] at nx
      exact nx
theorem c_Mo_make {ro : mm_Ro} {d w H n a : Nat} {h : mm_H} {Q : Value → mm_H → Prop} (I : mm_SH h) (hw : w < 6) (e3 : mm_i h 633 80 = nI (w + 1)) (e5 : mm_i h 635 80 = -1) (e0 : mm_a h 120 w = nI H) (h4 : H < 4) (hn : n ≤ 24) (en : mm_i h 629 80 = nI n) (ha : a < 6) (hQ : Q .null (rs_make h h w H n a)) : mm_ev ro (d + 2) n_Mo_make [.ref 80, .int (nI a)] h Q := by
  have ca : (nI a).toNatClampNeg = a := mm_ncl (by omega)
  have ba : 0 ≤ (nI a).toInt ∧ (nI a).toInt < ((6 : Nat) : Int) := mm_nb ha (by omega)
  unfold rs_make at hQ
  refine mm_ev_at 61 (Z := mm_m_Mo_make) rfl rfl (Nat.le_of_ble_eq_true rfl) rfl ?_
  refine And.intro (k_80 I) (mm_rf (r_583 I) (And.intro ⟨k_85 I, mm_inb 6 (n_85 I) ba⟩ (mm_rf (show mm_a h 85 (nI a).toNatClampNeg = mm_a h 85 a by rw [ca]) (And.intro (fun c_6 => mm_go_at 61 (mm_hM n_Mo_make rfl) ?_) (fun c_6 => ?_)))))
  · rw [if_neg c_6] at hQ
    refine And.intro (k_80 I) (mm_rf en (And.intro (fun c_23 => mm_go_at 61 (mm_hM n_Mo_make rfl) ?_) (fun c_23 => ?_)))
    · have n24 : n < 24 := mm_nel hn (by omega) c_23
      rw [if_neg (by omega)] at hQ
      refine And.intro (k_80 I) (mm_rf e5 (And.intro (fun c_35 => mm_go_at 61 (mm_hM n_Mo_make rfl) ?_) (fun c_35 => absurd (show (-1 : Int32).toInt < (0 : Int32).toInt by decide) c_35)))
      have z := l_Mo_make (ro := ro) (d := d) (x := nI a) (g := mm_sa (mm_si h 629 80 (nI (n + 1))) 116 (n + 1) (nI a)) (Q := Q) I hw (show mm_i (mm_si h 629 80 (nI (n + 1))) 633 80 = nI (w + 1) from (mm_i2 (by omega)).trans e3) ((mm_a2 (by omega)).trans e0) h4 n24 (show mm_i (mm_si h 629 80 (nI (n + 1))) 629 80 = nI (n + 1) from mm_i1) hQ 12 0 (Nat.zero_add _)
      rw [rs_fill_0] at z
      have c1 : (nI n + 1).toNatClampNeg = n + 1 := by rw [← nI_succ]; exact mm_ncl (by omega)
      have b1 : 0 ≤ (nI n + 1).toInt ∧ (nI n + 1).toInt < ((25 : Nat) : Int) := by rw [← nI_succ]; exact mm_nb (by omega) (by omega)
      refine And.intro (k_80 I) (mm_rf en (And.intro (k_80 I) (And.intro (k_80 I) (mm_rf (r_620 I) (And.intro (k_80 I) (mm_rf mm_i1 (And.intro ⟨k_116 I, mm_inb 25 (n_116 I) b1⟩ ?_)))))))
      show mm_go ro (d + 1) mm_m_Mo_make 61 [.ref 80, .int (nI a), .int 0] [] (mm_sa (mm_si h 629 80 (nI n + 1)) 116 (nI n + 1).toNatClampNeg (nI a)) Q
      rw [c1, ← nI_succ]
      exact z
    · have n24 : n = 24 := mm_nee (by omega) (by omega) (mm_no c_23)
      rw [if_pos n24] at hQ
      refine And.intro (k_80 I) (And.intro (k_80 I) (mm_rf mm_i1 (And.intro (fun c_35 => absurd c_35 (show ¬ (2 : Int32).toInt < (0 : Int32).toInt by decide)) (fun c_35 => hQ))))
  · rw [if_pos (mm_no c_6)] at hQ
    refine And.intro (k_80 I) (mm_go_at 61 (mm_hM n_Mo_make rfl) (And.intro (k_80 I) (mm_rf mm_i1 (And.intro (fun c_35 => absurd c_35 (show ¬ (5 : Int32).toInt < (0 : Int32).toInt by decide)) (fun c_35 => hQ)))))
theorem c_Mo_outside {ro : mm_Ro} {d w H j T P N : Nat} {x : Int32} {h : mm_H} {Q : Value → mm_H → Prop} (I : mm_SH h) (hw : w < 6) (e3 : mm_i h 633 80 = nI (w + 1)) (e0 : mm_a h 120 w = nI H) (h4 : mm_a h 90 j = 1 ∨ H < 4) (hj : j < 10) (eT : mm_i h 630 80 = nI T) (hT : T < 1000) (eN : mm_i h 628 80 = nI N) (hN : N ≤ 8) (eP : mm_i h 631 80 = nI P) (hP : P < 1000) (hQ : Q .null (rs_out h h w H j x)) : mm_ev ro (d + 2) n_Mo_outside [.ref 80, .int (nI j), .int x] h Q := by
  have cj : (nI j).toNatClampNeg = j := mm_ncl (by omega)
  have bj : 0 ≤ (nI j).toInt ∧ (nI j).toInt < ((10 : Nat) : Int) := mm_nb hj (by omega)
  have r90 : mm_a h 90 (nI j).toNatClampNeg = mm_a h 90 j := by rw [cj]
  unfold rs_out at hQ
  rw [eT, eN, eP, mm_nt (by omega), mm_nt (by omega), mm_nt (by omega)] at hQ
  refine mm_ev_in (Z := mm_m_Mo_outside) rfl rfl (Nat.le_of_ble_eq_true rfl) rfl ?_
  refine And.intro (k_80 I) (mm_rf (r_588 I) (And.intro ⟨k_90 I, mm_inb 10 (n_90 I) bj⟩ (mm_rf r90 (And.intro (fun c_6 => mm_go_from (mm_hM n_Mo_outside rfl) ?_) (fun c_6 => ?_)))))
  · rw [if_neg c_6] at hQ
    refine And.intro (k_80 I) (mm_rf (r_588 I) (And.intro ⟨k_90 I, mm_inb 10 (n_90 I) bj⟩ (mm_rf r90 (And.intro (fun c_57 => mm_go_from (mm_hM n_Mo_outside rfl) ?_) (fun c_57 => ?_)))))
    · have n1 : ¬ mm_a h 90 j = 1 := c_57
      rw [if_neg n1] at hQ
      refine And.intro ⟨rfl, k_80 I⟩ (c_Mo_lay I hw e3 e0 (h4.elim (fun z => absurd z n1) id) hQ)
    · have n1 : mm_a h 90 j = 1 := mm_no c_57
      rw [if_pos n1] at hQ
      refine And.intro (k_80 I) (mm_rf eP (And.intro (fun c_66 => mm_go_from (mm_hM n_Mo_outside rfl) ?_) (fun c_66 => ?_)))
      · have c : ((Int8.ofInt 16).toInt32).toInt ≤ (nI P).toInt := c_66
        rw [mm_nt (by omega), show ((Int8.ofInt 16).toInt32).toInt = 16 by decide] at c
        rw [if_neg (by omega)] at hQ
        refine And.intro (k_80 I) (mm_rf eP (And.intro (k_80 I) (mm_go_from (mm_hM n_Mo_outside rfl) ?_)))
        exact hQ
      · have c : ¬ ((Int8.ofInt 16).toInt32).toInt ≤ (nI P).toInt := c_66
        rw [mm_nt (by omega), show ((Int8.ofInt 16).toInt32).toInt = 16 by decide] at c
        rw [if_pos (by omega)] at hQ
        refine And.intro (k_80 I) (mm_rf (r_627 I) (And.intro (k_80 I) (mm_rf eP (And.intro ⟨k_123 I, mm_inb 16 (n_123 I) (mm_nb (by omega) (by omega))⟩ (And.intro (k_80 I) (mm_rf eP (And.intro (k_80 I) (mm_go_from (mm_hM n_Mo_outside rfl) ?_))))))))
        exact hQ
  · have n0 : mm_a h 90 j = 0 := mm_no c_6
    have h4' : H < 4 := h4.elim (fun z => absurd (n0.symm.trans z) (by decide)) id
    rw [if_pos n0] at hQ
    refine And.intro (k_80 I) (mm_rf eT (And.intro (k_80 I) (mm_rf eN (And.intro (fun c_18 => mm_go_from (mm_hM n_Mo_outside rfl) ?_) (fun c_18 => ?_)))))
    · have c : (nI N).toInt ≤ (nI T).toInt := c_18
      rw [mm_nt (by omega), mm_nt (by omega)] at c
      rw [if_neg (by omega)] at hQ
      refine And.intro ⟨rfl, k_80 I⟩ (c_Mo_lay I hw e3 e0 h4' (And.intro (k_80 I) (mm_rf eT (And.intro (k_80 I) (mm_go_from (mm_hM n_Mo_outside rfl) ?_)))))
      exact hQ
    · have c : ¬ (nI N).toInt ≤ (nI T).toInt := c_18
      rw [mm_nt (by omega), mm_nt (by omega)] at c
      rw [if_pos (by omega)] at hQ
      refine And.intro (k_80 I) (mm_rf (r_619 I) (And.intro (k_80 I) (mm_rf eT (And.intro ⟨k_115 I, mm_inb 8 (n_115 I) (mm_nb (by omega) (by omega))⟩ (mm_rf rfl (mm_go_from (mm_hM n_Mo_outside rfl) (And.intro ⟨rfl, k_80 I⟩ (c_Mo_lay I hw e3 e0 h4' (And.intro (k_80 I) (mm_rf eT (And.intro (k_80 I) (mm_go_from (mm_hM n_Mo_outside rfl) ?_))))))))))))
      exact hQ
