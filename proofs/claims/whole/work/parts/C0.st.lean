/-! RUNNING: the class's start and run -/
theorem men_k {h : mm_H} {w q : Nat} {e : Int32} : mm_k (ma_en h w q e) = mm_k h := rfl
theorem rk_sa {h : mm_H} {a j : Nat} {x : Int32} : mm_k (mm_sa h a j x) = mm_k h := rfl
theorem rr_sa {h : mm_H} {a j : Nat} {x : Int32} : mm_r (mm_sa h a j x) = mm_r h := rfl
theorem rn_sa {h : mm_H} {a j : Nat} {x : Int32} : mm_n (mm_sa h a j x) = mm_n h := rfl
theorem l_Ma_begin {ro : mm_Ro} {D nC nF nM m c : Nat} {qm : Nat → Nat} {x y : Int32} {h g : mm_H} {Q : Value → mm_H → Prop} (T : lx_T ro h nC nF nM qm) (ag : AR h g) (hm : m < nM) (np2 : lk_np h m ≤ 2) (d7 : mm_i g 333 56 = 0) (d6 : mm_i g 329 56 = 0) (hQ : mm_go ro (D + 6) mm_m_Ma_start 81 [.ref 56, .ref (qm m), .int x, .int y, .ref 62, .int (nI 0)] [] (lo2 (ma_en g 0 (qm m) (nI 1)) 63 (lk_np h m) x y) Q) : mm_ev ro (D + 6) n_Ma_enter [.ref 56, .ref (qm m)] g (fun r h' => mm_wp ro (D + 6) mm_m_Ma_start Q 81 (mm_from mm_m_Ma_start 45) [.ref 56, .ref (qm m), .int x, .int y, .null, .null] [r] h') := by
  have G := mm_hM n_Ma_start rfl
  have I := AR_SH ag T.1
  have MV := T.2.2.2.1.2.2.2.2.2.2.2.2.2 m hm
  have MO := (T.2.2.2.1.2.2.1.2 m hm).2
  have q1 := MO.1
  obtain ⟨_, ME, ⟨_, _, _, i4, _⟩, _⟩ := MO
  have z0 : (0 : Int32).toInt = 0 := by decide
  refine c_Ma_enter (d := D + 4) (w := 0) (e := 0) I (by omega) d7 d6 (by omega) ?_
  have J : mm_SH (ma_en g 0 (qm m) (nI 1)) := SH_si (SH_si (SH_bg I (by omega)))
  show mm_wp ro (D + 6) mm_m_Ma_start Q 81 (mm_from mm_m_Ma_start 45) [.ref 56, .ref (qm m), .int x, .int y, .null, .null] [.ref (62 + 3 * 0)] (ma_en g 0 (qm m) (nI 1))
  have E := ac_w J (w := 0) (by omega)
  have k9 : mm_k (ma_en g 0 (qm m) (nI 1)) (qm m) = 9 := by
    rw [men_k, ag.1.1]
    exact ME.1.1
  have e16 : ∀ f, mm_i (ma_en g 0 (qm m) (nI 1)) f (qm m) = mm_i h f (qm m) := fun f => by
    unfold ma_en ac_bg
    rw [mm_i2 (by omega), mm_i2 (by omega), rs_fill_i, mm_i2 (by omega), mm_i2 (by omega), ri_sr]
    exact ag.2.2.1 f (qm m) (Or.inl (by omega))
  generalize ma_en g 0 (qm m) (nI 1) = k at *
  have en : mm_i k 516 (qm m) = nI (lk_np h m) := (e16 516).trans (i4.trans MV.2.2.1)
  have w62 : 62 + 3 * 0 = 62 := rfl
  rw [w62] at E ⊢
  have e63 : mm_r k 386 62 = 63 := E.2.1.1
  have k63 : mm_k k 63 = 20 := E.2.1.2.1
  have n63 : mm_n k 63 = 6 := E.2.1.2.2
  unfold lo2 at hQ
  refine And.intro k9 (mm_rf en (And.intro (fun c_51 => mm_go_at 81 G ?_) (fun c_51 => ?_)))
  · have c' : (nI (lk_np h m)).toInt ≤ (0 : Int32).toInt := c_51
    rw [mm_nt (by omega), z0] at c'
    rw [if_neg (by omega), if_neg (by omega)] at hQ
    refine And.intro k9 (mm_rf en (And.intro (fun c_67 => mm_go_at 81 G hQ) (fun c_67 => ?_)))
    have c2 : ¬ (nI (lk_np h m)).toInt ≤ (Int32.ofInt 1).toInt := c_67
    rw [mm_nt (by omega), show (Int32.ofInt 1).toInt = 1 by decide] at c2
    omega
  · have c' : ¬ (nI (lk_np h m)).toInt ≤ (0 : Int32).toInt := c_51
    rw [mm_nt (by omega), z0] at c'
    rw [if_pos (show 0 < lk_np h m by omega)] at hQ
    have c0 : (Int32.ofInt 0).toNatClampNeg = 0 := by decide
    have c1 : (Int32.ofInt 1).toNatClampNeg = 1 := by decide
    refine And.intro E.1 (mm_rf e63 (And.intro ⟨k63, mm_inb 6 n63 (by decide)⟩ ?_))
    have kk : mm_k (mm_sa k 63 (Int32.ofInt 0).toNatClampNeg x) = mm_k k := rk_sa
    have ii : mm_i (mm_sa k 63 (Int32.ofInt 0).toNatClampNeg x) = mm_i k := ri_sa
    have rr : mm_r (mm_sa k 63 (Int32.ofInt 0).toNatClampNeg x) = mm_r k := rr_sa
    have nn : mm_n (mm_sa k 63 (Int32.ofInt 0).toNatClampNeg x) = mm_n k := rn_sa
    rw [← c0] at hQ
    generalize mm_sa k 63 (Int32.ofInt 0).toNatClampNeg x = k2 at *
    rw [← kk] at k9 k63
    rw [← ii] at en
    rw [← rr] at e63
    rw [← nn] at n63
    have E1 : mm_k k2 62 = 7 := by rw [kk]; exact E.1
    refine And.intro k9 (mm_rf en (And.intro (fun c_67 => mm_go_at 81 G ?_) (fun c_67 => ?_)))
    · have c2 : (nI (lk_np h m)).toInt ≤ (Int32.ofInt 1).toInt := c_67
      rw [mm_nt (by omega), show (Int32.ofInt 1).toInt = 1 by decide] at c2
      rw [if_neg (by omega)] at hQ
      exact hQ
    · have c2 : ¬ (nI (lk_np h m)).toInt ≤ (Int32.ofInt 1).toInt := c_67
      rw [mm_nt (by omega), show (Int32.ofInt 1).toInt = 1 by decide] at c2
      rw [if_pos (by omega), ← c1] at hQ
      exact And.intro E1 (mm_rf e63 (And.intro ⟨k63, mm_inb 6 n63 (by decide)⟩ hQ))
theorem c_Ma_start {ro : mm_Ro} {D nC nF nM m c : Nat} {qm : Nat → Nat} {x y : Int32} {h : mm_H} {Q : Value → mm_H → Prop} (T : lx_T ro h nC nF nM qm) (F : KF (kc h) nC nF nM) (ix : IX h) (hm : m < nM) (c1 : c < nC) (ec : mm_a h 87 m = nI c) (ok : cs h 85 m c) (hQ : ∀ h' s', s' = rs_run (kc h) nM 400 (ri1 h m (lk_np h m) x y) → AR h h' → CE h' s' → Q (.int (if mm_i s' 635 80 = -1 then 4 else mm_i s' 635 80)) h') : mm_ev ro (D + 7) n_Ma_start [.ref 56, .ref (qm m), .int x, .int y] h Q := by
  have I := T.1
  have J := ci0_SH I
  refine mm_ev_at 81 (Z := mm_m_Ma_start) rfl rfl (Nat.le_of_ble_eq_true rfl) rfl ?_
  refine And.intro (k_56 I) (And.intro (k_56 I) (And.intro (k_56 I) (And.intro (k_56 I) (And.intro (k_56 I) (And.intro (k_56 I) (And.intro (k_56 I) (And.intro (k_56 I) (And.intro ⟨rfl, k_56 I⟩ ?_))))))))
  show mm_ev ro (D + 6) n_Ma_enter [.ref 56, .ref (qm m)] (ci0 h) (fun r h' => mm_wp ro (D + 6) mm_m_Ma_start Q 81 (mm_from mm_m_Ma_start 45) [.ref 56, .ref (qm m), .int x, .int y, .null, .null] [r] h')
  obtain ⟨_, _, _, _, _, d6, d7, _⟩ := ci0_i (h := h)
  refine l_Ma_begin (c := c) T ci0_AR hm ok.2.2.2.1 d7 d6 ?_
  obtain ⟨_, _, _, a4, _, _, a7, _⟩ := ri1_i (h := h) (m := m) (np := lk_np h m) (x := x) (y := y)
  exact l_Ma_loop T F ix 400 0 (ri1 h m (lk_np h m) x y) _ rfl a4 (Or.inl a7) (pc_init hm) (fun _ => ty_init F hm c1 ec ok) hQ
theorem c_Ga_run {ro : mm_Ro} {D nC nF nM : Nat} {qm : Nat → Nat} {z x y : Int32} {h : mm_H} {Q : Value → mm_H → Prop} (T : lx_T ro h nC nF nM qm) (F : KF (kc h) nC nF nM) (ix : IX h) (q1 : (∀ m c, m < nM → z = nI m → c < nC → mm_a h 87 m = nI c → ¬ cs h 85 m c) → Q (.int (-1)) h) (q2 : ∀ m c, m < nM → z = nI m → c < nC → mm_a h 87 m = nI c → cs h 85 m c → ∀ h' s', s' = rs_run (kc h) nM 400 (ri1 h m (lk_np h m) x y) → AR h h' → CE h' s' → Q (.int (if mm_i s' 635 80 = -1 then 4 else mm_i s' 635 80)) h') : mm_ev ro (D + 8) n_Ga_run [.ref 1, .int z, .int x, .int y] h Q := by
  have G := mm_hM n_Ga_run rfl
  have I := T.1
  have h10 := F.1.2.2.2
  have h6 := F.1.2.1
  refine mm_ev_at 30 (Z := mm_m_Ga_run) rfl rfl (Nat.le_of_ble_eq_true rfl) rfl ?_
  refine And.intro (k_1 I) (mm_rf (r_0 I) (And.intro ⟨rfl, k_2 I⟩ (c_St_isMethod (d := D + 5) I T.2.1 (And.intro (fun c_8 => mm_go_from G (q1 (fun m c hm ez _ _ _ => ?_))) (fun c_8 => ?_)))))
  · refine mm_b0.mp c_8 ?_
    rw [ez]
    exact mm_nb hm (by omega)
  · obtain ⟨z1, z2⟩ := mm_nn c_8
    obtain ⟨m, hmz⟩ : ∃ m : Nat, z.toInt.toNat = m := ⟨_, rfl⟩
    have ez : z = nI m := by rw [← hmz]; exact mm_nz z1 (by omega)
    have hm : m < nM := by omega
    subst ez
    have MO := (T.2.2.2.1.2.2.1.2 m hm)
    have MV := T.2.2.2.1.2.2.2.2.2.2.2.2.2 m hm
    obtain ⟨c, c1, c2⟩ := own_c F hm
    have k23 : 22 ≤ mm_k h 8 ∧ mm_k h 8 < 26 := by rw [k_8 I]; decide
    have un : ∀ m', m' < nM → nI m = nI m' → m = m' := fun m' h1 e => mm_nee (by omega) (by omega) e
    have unc : ∀ c', c' < nC → mm_a h 87 m = nI c' → c = c' := fun c' h1 e => by
      have c2' : mm_a h 87 m = nI c := c2
      exact mm_nee (by omega) (by omega) (c2'.symm.trans e)
    have c58 : cs h 5 m c ↔ cs h 85 m c := by
      unfold cs
      rw [ix.1 c (by omega)]
    have q8 : mm_q h 8 (nI m).toNatClampNeg = qm m := by rw [mm_ncl (by omega)]; exact MO.1
    refine And.intro (k_1 I) (mm_rf (r_0 I) (And.intro (k_1 I) (mm_rf (r_0 I) (And.intro (k_2 I) (mm_rf (r_73 I) (And.intro ⟨k23, mm_inb 10 (n_8 I) (mm_nb (by omega) (by omega))⟩ (mm_rf q8 (And.intro ⟨rfl, k_2 I⟩ (c_St_canStart (d := D + 5) I MO.2 MV c2 (by omega) (fun ok => ?_) (fun nok => ?_))))))))))
    · refine And.intro (fun _ => mm_go_from G ?_) (fun c_27 => absurd (show ¬ (1 : Int32) = 0 by decide) c_27)
      refine And.intro (k_1 I) (mm_rf (r_2 I) (And.intro (k_1 I) (mm_rf (r_0 I) (And.intro (k_2 I) (mm_rf (r_73 I) (And.intro ⟨k23, mm_inb 10 (n_8 I) (mm_nb (by omega) (by omega))⟩ (mm_rf q8 (And.intro ⟨rfl, k_56 I⟩ ?_))))))))
      exact c_Ma_start (D := D) T F ix hm c1 c2 (c58.mp ok) (q2 m c hm rfl c1 c2 (c58.mp ok))
    · refine And.intro (fun c_27 => absurd rfl c_27) (fun _ => mm_go_from G (q1 (fun m' c' hm' e' hc' ec' ok => ?_)))
      have e1 := un m' hm' e'
      subst e1
      have e2 := unc c' hc' ec'
      subst e2
      exact nok (c58.mpr ok)
