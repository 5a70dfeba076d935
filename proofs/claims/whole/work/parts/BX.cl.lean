/-! RUNNING: the class's loop -/
theorem IX_AR {h0 h : mm_H} (r : AR h0 h) (x : IX h0) : IX h := by
  obtain ⟨x1, x2, N, n1, n2, n3⟩ := x
  refine ⟨fun c hc => ?_, ?_, N, n1, ?_, fun j hj => ?_⟩
  · rw [r.2.2.2 5 (by omega), r.2.2.2 85 (by omega)]; exact x1 c hc
  · rw [r.2.2.1 322 56 (Or.inr rfl), r.2.2.1 628 80 (Or.inl (by omega))]; exact x2
  · rw [r.2.2.1 628 80 (Or.inl (by omega))]; exact n2
  · rw [r.2.2.2 57 (by omega), r.2.2.2 115 (by omega)]; exact n3 j hj
theorem cr_bg {qm : Nat → Nat} {nM d n : Nat} {h s : mm_H} {v : Int32} (c : CR qm nM h s d n) : CR qm nM (mm_si h 325 56 v) (mm_si s 632 80 v) d n := by
  obtain ⟨c1, c2, c3, c4, c5, l1, l2, l3, l4, l5, l6⟩ := c
  have eP : mm_i (mm_si s 632 80 v) 631 80 = mm_i s 631 80 := mm_i2 (by omega)
  refine ⟨?_, (mm_i2 (by omega)).trans c2, (mm_i2 (by omega)).trans c3, fun w hw => ?_, (mm_i2 (by omega)).trans c5, (mm_i2 (by omega)).trans (l1.trans (mm_i2 (by omega)).symm), mm_i1.trans mm_i1.symm, (mm_i2 (by omega)).trans (l3.trans (mm_i2 (by omega)).symm), (mm_i2 (by omega)).trans (l4.trans (mm_i2 (by omega)).symm), (mm_i2 (by omega)).trans (l5.trans (mm_i2 (by omega)).symm), (mm_i2 (by omega)).trans (l6.trans (mm_i2 (by omega)).symm)⟩
  · rw [eP]
    exact cx_sc (cx_s8 c1)
  · rw [mm_i2 (by omega)]
    exact c4 w hw
theorem l_Ma_loop {ro : mm_Ro} {D nC nF nM : Nat} {qm : Nat → Nat} {v1 v2 v3 v4 : Value} {h0 : mm_H} {Q : Value → mm_H → Prop} (T0 : lx_T ro h0 nC nF nM qm) (F : KF (kc h0) nC nF nM) (ix : IX h0) : ∀ (r k : Nat) (s h : mm_H), r + k = 400 → mm_i s 632 80 = nI k → sgn s → PC h0 qm nM s h → (mm_i s 635 80 = -1 → TY (kc h0) nC nF nM s k) → (∀ h' s', s' = rs_run (kc h0) nM r s → AR h0 h' → CE h' s' → Q (.int (if mm_i s' 635 80 = -1 then 4 else mm_i s' 635 80)) h') → mm_go ro (D + 6) mm_m_Ma_start 81 [.ref 56, v1, v2, v3, v4, .int (nI k)] [] h Q := by
  have G := mm_hM n_Ma_start rfl
  have ret : ∀ (k : Nat) (s h : mm_H), PC h0 qm nM s h → (AR h0 h → CE h s → Q (.int (if mm_i s 635 80 = -1 then 4 else mm_i s 635 80)) h) → mm_go ro (D + 6) mm_m_Ma_start 128 [.ref 56, v1, v2, v3, v4, .int (nI k)] [] h Q := by
    intro k s h pc hQ
    obtain ⟨ar, ce, _⟩ := pc
    have I := AR_SH ar T0.1
    have hq := hQ ar ce
    refine mm_go_from G (And.intro (k_56 I) (mm_rf ce.1 (And.intro (fun c => mm_go_from G ?_) (fun c => mm_go_from G ?_))))
    · have c' : ¬ mm_i s 635 80 = -1 := c
      rw [if_neg c'] at hq
      exact And.intro (k_56 I) (mm_rf ce.1 hq)
    · have c' : mm_i s 635 80 = -1 := mm_no c
      rw [if_pos c'] at hq
      exact hq
  intro r
  induction r with
  | zero =>
    intro k s h hk e2 sg pc ty hQ
    have I := AR_SH pc.1 T0.1
    have k4 : k = 400 := by omega
    have rt := ret k s h pc (hQ h s rfl)
    refine mm_go_at 128 G (And.intro (k_56 I) (mm_rf pc.2.1.1 (And.intro (fun _ => rt) (fun _ => And.intro (fun _ => rt) (fun c => ?_)))))
    have c' : ¬ (nI 400).toInt ≤ (nI k).toInt := c
    rw [mm_nt (by omega), mm_nt (by omega)] at c'
    omega
  | succ r ih =>
    intro k s h hk e2 sg pc ty hQ
    have I := AR_SH pc.1 T0.1
    unfold rs_run at hQ
    refine mm_go_at 128 G (And.intro (k_56 I) (mm_rf pc.2.1.1 (And.intro (fun c => ?_) (fun c => And.intro (fun c2 => ?_) (fun _ => ?_)))))
    · have c' : ¬ mm_i s 635 80 = -1 := c
      rw [if_neg c'] at hQ
      exact ret k s h pc (hQ h s rfl)
    · have c' : (nI 400).toInt ≤ (nI k).toInt := c2
      rw [mm_nt (by omega), mm_nt (by omega)] at c'
      omega
    · have n5 : mm_i s 635 80 = -1 := mm_no c
      rw [if_pos n5, e2, ← nI_succ] at hQ
      obtain ⟨ar, ce, cr⟩ := pc
      obtain ⟨d, n, hd, hn, e3, en, cr⟩ := cr n5
      have h325 : mm_i h 325 56 = nI k := ce.2.1.2.1.trans e2
      obtain ⟨n', w, H, m, i, gs, hm, IV, ML, oc, xl, rz, ok, nx⟩ := step_ok F (by omega) (TY_632 (v := nI (k + 1)) (ty n5))
      have hw := gs.1.1
      have hn' := gs.1.2.2.2.2
      have ew : w = d := by
        have z := gs.2.1
        rw [mm_i2 (by omega), e3] at z
        have := mm_nee (by omega) (by omega) z
        omega
      have enn : n' = n := by
        have z := gs.2.2.2.2.2.2.1
        rw [mm_i2 (by omega), en] at z
        exact (mm_nee (by omega) (by omega) z).symm
      subst ew
      subst enn
      have cr1 : CR qm nM (mm_si h 325 56 (nI (k + 1))) (mm_si s 632 80 (nI (k + 1))) w n' := cr_bg cr
      have ar1 : AR h0 (mm_si h 325 56 (nI (k + 1))) := AR_si (by omega) ar
      have J : mm_SH (mm_si h 325 56 (nI (k + 1))) := SH_si I
      have ek := AR_kc ar1
      have S : STs ro h0 nC nF nM qm (mm_si h 325 56 (nI (k + 1))) (mm_si s 632 80 (nI (k + 1))) w n' H m i := ⟨T0, ar1, cr1, gs, hm⟩
      have c3 : mm_i (mm_si h 325 56 (nI (k + 1))) 333 56 = nI (w + 1) := cr1.2.1
      have eD : nI (w + 1) - 1 = nI w := nI_pred w
      have cD : (nI (w + 1) - 1).toNatClampNeg = w := by rw [eD]; exact mm_ncl (by omega)
      have bD : 0 ≤ (nI (w + 1) - 1).toInt ∧ (nI (w + 1) - 1).toInt < ((6 : Nat) : Int) := by rw [eD]; exact mm_nb (by omega) (by omega)
      have k61 : 22 ≤ mm_k (mm_si h 325 56 (nI (k + 1))) 61 ∧ mm_k (mm_si h 325 56 (nI (k + 1))) 61 < 26 := by rw [k_61 J]; decide
      have E := ac_w J hw
      have sc := ty n5
      have sc' : ∃ e, mm_i (mm_si s 632 80 (nI (k + 1))) 634 80 = nI e ∧ w + 1 ≤ e ∧ e ≤ 6 := by
        obtain ⟨d', _, _, _, _, _, _, ⟨d1, d2, _, _, e, e1, e2', e3'⟩, _⟩ := sc
        have : d' = w := by
          rw [e3] at d2
          have := mm_nee (by omega) (by omega) d2
          omega
        subst this
        exact ⟨e, (mm_i2 (by omega)).trans e1, e2', e3'⟩
      have ho := IV.1.1.1
      refine And.intro (k_56 I) (mm_rf h325 (And.intro (k_56 I) ?_))
      rw [show nI k + Int32.ofInt 1 = nI (k + 1) from (nI_succ k).symm]
      refine And.intro (k_56 J) (mm_rf (r_332 J) (And.intro (k_56 J) (mm_rf c3 (And.intro ⟨k61, mm_inb 6 (n_61 J) bD⟩ (mm_rf (show mm_q (mm_si h 325 56 (nI (k + 1))) 61 (nI (w + 1) - 1).toNatClampNeg = 62 + 3 * w by rw [cD]; exact q_w J hw) (And.intro ⟨rfl, k_56 J⟩ ?_))))))
      refine c_Ma_perform (D := D) (by rw [ek]; exact F) S (IX_AR ar1 ix) sc' (by rw [ek]; exact ML) oc (by rw [ek]; exact xl) (by rw [ek]; exact rz) (by rw [ek]; exact ok) (fun h' pc' => ?_)
      rw [ek] at pc'
      rw [st_eq gs] at hQ
      have sg1 : sgn (rs_op (kc h0) nM (mm_sa (mm_si s 632 80 (nI (k + 1))) 121 w (nI (i + 1))) w H m i (lk_o (kc h0) m i)) := sgn_op (s := mm_sa (mm_si s 632 80 (nI (k + 1))) 121 w (nI (i + 1))) (show sgn (mm_si s 632 80 (nI (k + 1))) from sgn_si (by omega) sg) _ ho
      have z := ih (k + 1) _ h' (by omega) (k632_op (v := nI (k + 1)) (s := mm_sa (mm_si s 632 80 (nI (k + 1))) 121 w (nI (i + 1))) (show mm_i (mm_si s 632 80 (nI (k + 1))) 632 80 = nI (k + 1) from mm_i1) _ ho) sg1 pc' nx hQ
      rw [nI_succ k] at z
      exact z
