/-! RUNNING, the class: begin, enter -/
theorem l_Ac_begin {ro : mm_Ro} {d A : Nat} {v1 : Value} {g : mm_H} {Q : Value → mm_H → Prop} (E : ac g A) (hQ : Q .null (rs_fill g (A + 1) 0 6 (fun _ => 0))) : ∀ (n p : Nat), p + n = 6 → mm_go ro d mm_m_Ac_begin 17 [.ref A, v1, .int (nI p)] [] (rs_fill g (A + 1) 0 p (fun _ => 0)) Q := by
  have t6 : ((Int8.ofInt 6).toInt32).toInt = 6 := by decide
  intro n
  induction n with
  | zero =>
    intro p hp
    refine mm_go_from (mm_hM n_Ac_begin rfl) (And.intro (fun c_20 => mm_go_from (mm_hM n_Ac_begin rfl) ?_) (fun c_20 => ?_))
    · have p6 : p = 6 := by omega
      subst p6
      exact hQ
    · have c : ¬ ((Int8.ofInt 6).toInt32).toInt ≤ (nI p).toInt := c_20
      rw [mm_nt (by omega), t6] at c
      omega
  | succ n ih =>
    intro p hp
    have J : ac (rs_fill g (A + 1) 0 p (fun _ => 0)) A := E
    have nx := ih (p + 1) (by omega)
    refine mm_go_from (mm_hM n_Ac_begin rfl) (And.intro (fun c_20 => ?_) (fun c_20 => ?_))
    · have c : ((Int8.ofInt 6).toInt32).toInt ≤ (nI p).toInt := c_20
      rw [mm_nt (by omega), t6] at c
      omega
    · refine And.intro J.1 (mm_rf J.2.1.1 (And.intro ⟨J.2.1.2.1, mm_inb 6 J.2.1.2.2 (mm_nb (by omega) (by omega))⟩ ?_))
      rw [nI_succ] at nx
      have e2 : mm_sa (rs_fill g (A + 1) 0 p (fun _ => 0)) (A + 1) (nI p).toNatClampNeg 0 = rs_fill g (A + 1) 0 (p + 1) (fun _ => 0) := by
        rw [mm_ncl (by omega)]
        have z := rs_fill_s (s := g) (a := A + 1) (lo := 0) (p := p) (F := fun _ => 0)
        rw [Nat.zero_add] at z
        exact z
      rw [← e2] at nx
      exact nx
def ac_bg (h : mm_H) (A q : Nat) : mm_H := rs_fill (mm_si (mm_si (mm_sr h 384 A q) 385 A 0) 388 A 0) (A + 1) 0 6 (fun _ => 0)
theorem c_Ac_begin {ro : mm_Ro} {d A q : Nat} {h : mm_H} {Q : Value → mm_H → Prop} (E : ac h A) (hQ : Q .null (ac_bg h A q)) : mm_ev ro (d + 1) n_Ac_begin [.ref A, .ref q] h Q := by
  have J : ac (mm_si (mm_si (mm_sr h 384 A q) 385 A 0) 388 A 0) A := ac_si (ac_si (ac_sr E))
  refine mm_ev_at 17 (Z := mm_m_Ac_begin) rfl rfl (Nat.le_of_ble_eq_true rfl) rfl ?_
  refine And.intro E.1 (And.intro E.1 (And.intro E.1 ?_))
  have z := l_Ac_begin (ro := ro) (d := d) (v1 := .ref q) (g := mm_si (mm_si (mm_sr h 384 A q) 385 A 0) 388 A 0) (Q := Q) J hQ 6 0 (Nat.zero_add _)
  rw [rs_fill_0] at z
  exact z
def ma_en (h : mm_H) (w q : Nat) (e : Int32) : mm_H := mm_si (mm_si (ac_bg h (62 + 3 * w) q) 333 56 (nI (w + 1))) 329 56 e
theorem SH_bg {h : mm_H} {A q : Nat} (I : mm_SH h) (hA : ¬ A < 0) : mm_SH (ac_bg h A q) := by
  obtain ⟨a, b, c, d, e⟩ := I
  refine ⟨a, b, fun t ht => ?_, d, e⟩
  have n : ¬ t.1 = 384 := by
    have : ∀ t ∈ sh_r, ¬ t.1 = 384 := by decide
    exact this t ht
  exact (mm_r2 (Or.inl n)).trans (c t ht)
theorem c_Ma_enter {ro : mm_Ro} {d w q e : Nat} {h : mm_H} {Q : Value → mm_H → Prop} (I : mm_SH h) (hw : w < 6) (e3 : mm_i h 333 56 = nI w) (e9 : mm_i h 329 56 = nI e) (he : e ≤ 6) (hQ : Q (.ref (62 + 3 * w)) (ma_en h w q (if (e : Int) < (w : Int) + 1 then nI (w + 1) else nI e))) : mm_ev ro (d + 2) n_Ma_enter [.ref 56, .ref q] h Q := by
  have cw : (nI w).toNatClampNeg = w := mm_ncl (by omega)
  have E := ac_w I hw
  have J : mm_SH (ac_bg h (62 + 3 * w) q) := SH_bg I (by omega)
  have a3 : ∀ f, mm_i (ac_bg h (62 + 3 * w) q) f 56 = mm_i h f 56 := fun f => (mm_i2 (by omega)).trans ((mm_i2 (by omega)).trans rfl)
  refine mm_ev_in (Z := mm_m_Ma_enter) rfl rfl (Nat.le_of_ble_eq_true rfl) rfl ?_
  refine And.intro (k_56 I) (mm_rf (r_332 I) (And.intro (k_56 I) (mm_rf e3 (And.intro ⟨⟨by rw [k_61 I]; decide, by rw [k_61 I]; decide⟩, mm_inb 6 (n_61 I) (mm_nb hw (by omega))⟩ (mm_rf (show mm_q h 61 (nI w).toNatClampNeg = 62 + 3 * w by rw [cw]; exact q_w I hw) (And.intro ⟨rfl, E.1⟩ (c_Ac_begin E ?_)))))))
  refine And.intro (k_56 J) (mm_rf ((a3 333).trans e3) (And.intro (k_56 J) (And.intro (k_56 J) (mm_rf ((mm_i2 (by omega)).trans ((a3 329).trans e9)) (And.intro (k_56 J) (mm_rf mm_i1 (And.intro (Nat.le_of_ble_eq_true rfl) (And.intro (k_56 J) ?_))))))))
  refine mm_qq hQ rfl ?_
  have lt : (nI e < nI w + 1) ↔ (e : Int) < (w : Int) + 1 := by
    rw [← nI_succ, nI_ltI (by omega) (by omega)]
    omega
  show mm_si (mm_si (ac_bg h (62 + 3 * w) q) 333 56 (nI w + 1)) 329 56 (if nI e < nI w + 1 then nI w + 1 else nI e) = _
  unfold ma_en
  by_cases z : (e : Int) < (w : Int) + 1
  · rw [if_pos z, if_pos (lt.mpr z), nI_succ]
  · rw [if_neg z, if_neg (fun y => z (lt.mp y)), nI_succ]
