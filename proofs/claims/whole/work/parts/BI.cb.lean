/-! RUNNING, the class: callBuiltIn -/
noncomputable def ma_bi (h : mm_H) (A B i j : Nat) (x : Int32) : mm_H := if mm_a h 90 j = 0 then mm_si (ac_ps (mm_si (mm_si h 388 A (nI B)) 385 A (nI (i + 1))) A B (if (mm_i h 328 56).toInt < (mm_i h 322 56).toInt then mm_a h 57 (mm_i h 328 56).toNatClampNeg else 0)) 328 56 (mm_i h 328 56 + 1) else if mm_a h 90 j = 1 then mm_si (if (mm_i h 327 56).toInt < 16 then mm_sa (mm_si (mm_si h 388 A (nI B)) 385 A (nI (i + 1))) 58 (mm_i h 327 56).toNatClampNeg x else (mm_si (mm_si h 388 A (nI B)) 385 A (nI (i + 1)))) 327 56 (mm_i h 327 56 + 1) else ac_ps (mm_si (mm_si h 388 A (nI B)) 385 A (nI (i + 1))) A B x
theorem c_Ma_callBuiltIn {ro : mm_Ro} {d A B i j q T P N : Nat} {h : mm_H} {Q : Value → mm_H → Prop} (I : mm_SH h) (E : ac h A) (hA : 62 ≤ A) (MO : lx_MO h q j) (hB : B ≤ 4) (e5 : mm_i h 385 A = nI i) (b4 : mm_a h 90 j = 1 ∨ B < 4) (eT : mm_i h 328 56 = nI T) (hT : T < 1000) (eN : mm_i h 322 56 = nI N) (hN : N ≤ 8) (eP : mm_i h 327 56 = nI P) (hP : P < 1000) (hQ : Q .null (ma_bi h A B i j (mm_a h (A + 2) (if B + lk_of h j < 3 then B + lk_of h j else 3)))) : mm_ev ro (d + 2) n_Ma_callBuiltIn [.ref 56, .ref A, .ref q, .int (nI B)] h Q := by
  have G := mm_hM n_Ma_callBuiltIn rfl
  have z0 : (0 : Int32).toInt = 0 := by decide
  have o1 := lk_of1 (h := h) (m := j)
  have q1 := MO.1
  have eX : nI B + nI (lk_of h j) = nI (B + lk_of h j) := nI_add _ _
  have mn : (if Int32.ofInt 3 < nI B + nI (lk_of h j) then Int32.ofInt 3 else nI B + nI (lk_of h j)) = nI (if B + lk_of h j < 3 then B + lk_of h j else 3) := by
    rw [eX]
    have lt : (Int32.ofInt 3 < nI (B + lk_of h j)) ↔ 3 < B + lk_of h j := nI_ltI (a := 3) (by omega) (by omega)
    by_cases z : 3 < B + lk_of h j
    · rw [if_pos (lt.mpr z), if_neg (by omega)]; rfl
    · rw [if_neg (fun y => z (lt.mp y))]
      by_cases y : B + lk_of h j < 3
      · rw [if_pos y]
      · rw [if_neg y, show B + lk_of h j = 3 by omega]
  have ix : (if B + lk_of h j < 3 then B + lk_of h j else 3) < 4 := by split <;> omega
  generalize (if B + lk_of h j < 3 then B + lk_of h j else 3) = t at *
  have J : mm_SH (mm_si (mm_si h 388 A (nI B)) 385 A (nI (i + 1))) := SH_si (SH_si I)
  have EE : ac (mm_si (mm_si h 388 A (nI B)) 385 A (nI (i + 1))) A := ac_si (ac_si E)
  have j8 : mm_i (mm_si (mm_si h 388 A (nI B)) 385 A (nI (i + 1))) 388 A = nI B := (mm_i2 (by omega)).trans mm_i1
  have js : ∀ f, mm_i (mm_si (mm_si h 388 A (nI B)) 385 A (nI (i + 1))) f 56 = mm_i h f 56 := fun f => (mm_i2 (by omega)).trans (mm_i2 (by omega))
  unfold ma_bi at hQ
  rw [eT, eN, eP, mm_nt (by omega), mm_nt (by omega), mm_nt (by omega)] at hQ
  refine mm_ev_in (Z := mm_m_Ma_callBuiltIn) rfl rfl (Nat.le_of_ble_eq_true rfl) rfl ?_
  refine And.intro E.1 (mm_rf E.2.2.1 (And.intro ⟨rfl, MO.2.1.1.1⟩ (c_Me_firstParam MO (And.intro (Nat.le_of_ble_eq_true rfl) ?_))))
  show _ ∧ _
  rw [mn]
  refine And.intro ⟨E.2.2.2.1, mm_inb 4 E.2.2.2.2 (mm_nb ix (by omega))⟩ (mm_rf (show mm_a h (A + 2) (nI t).toNatClampNeg = mm_a h (A + 2) t by rw [mm_ncl (by omega)]) (And.intro E.1 (And.intro E.1 (mm_rf (show mm_i (mm_si h 388 A (nI B)) 385 A = nI i from (mm_i2 (by omega)).trans e5) (And.intro E.1 ?_)))))
  rw [nI_succ i] at J EE j8 js hQ
  have j18 : mm_i (mm_si (mm_si h 388 A (nI B)) 385 A (nI i + 1)) 518 q = mm_a h 90 j := (mm_i2 (by omega)).trans ((mm_i2 (by omega)).trans MO.2.2.1.2.2.2.2.1)
  have k9 : mm_k (mm_si (mm_si h 388 A (nI B)) 385 A (nI i + 1)) q = 9 := MO.2.1.1.1
  refine And.intro k9 (mm_rf j18 (And.intro (fun c => mm_go_from G ?_) (fun c => And.intro (fun c2 => mm_go_from G ?_) (fun c2 => mm_go_from G ?_))))
  · have k0 : mm_a h 90 j = 0 := Int32.toInt_inj.mp (c.trans z0.symm)
    rw [if_pos k0] at hQ
    have hB' : B < 4 := b4.elim (fun z => absurd (k0.symm.trans z) (by decide)) id
    have fin : ∀ v : Int32, v = (if (T : Int) < (N : Int) then mm_a h 57 (nI T).toNatClampNeg else 0) → mm_ev ro (d + 1) n_Ac_push [.ref A, .int v] (mm_si (mm_si h 388 A (nI B)) 385 A (nI i + 1)) (fun r h' => mm_wp ro (d + 1) mm_m_Ma_callBuiltIn Q 99999 (mm_from mm_m_Ma_callBuiltIn 92) [.ref 56, .ref A, .ref q, .int (nI B), .int (mm_a h (A + 2) t)] [] h') := by
      intro v hv
      rw [← hv] at hQ
      exact c_Ac_push EE j8 hB' (And.intro (k_56 J) (mm_rf ((mm_i2 (by omega)).trans ((js 328).trans eT)) (And.intro (k_56 J) (mm_go_from G hQ))))
    refine And.intro (k_56 J) (mm_rf ((js 328).trans eT) (And.intro (k_56 J) (mm_rf ((js 322).trans eN) (And.intro (fun c_73 => mm_go_from G ?_) (fun c_73 => ?_)))))
    · have c' : (nI N).toInt ≤ (nI T).toInt := c_73
      rw [mm_nt (by omega), mm_nt (by omega)] at c'
      exact And.intro ⟨rfl, E.1⟩ (fin 0 (if_neg (by omega)).symm)
    · have c' : ¬ (nI N).toInt ≤ (nI T).toInt := c_73
      rw [mm_nt (by omega), mm_nt (by omega)] at c'
      refine And.intro (k_56 J) (mm_rf (r_321 J) (And.intro (k_56 J) (mm_rf ((js 328).trans eT) (And.intro ⟨k_57 J, mm_inb 8 (n_57 J) (mm_nb (by omega) (by omega))⟩ (mm_rf rfl (mm_go_from G (And.intro ⟨rfl, E.1⟩ (fin _ ?_))))))))
      exact (if_pos (by omega)).symm
  · have n0 : ¬ mm_a h 90 j = 0 := fun z => c (by rw [z]; exact z0)
    have k1 : mm_a h 90 j = 1 := Int32.toInt_inj.mp (c2.trans (by decide))
    rw [if_neg n0, if_pos k1] at hQ
    refine And.intro (k_56 J) (mm_rf ((js 327).trans eP) (And.intro (fun c_111 => mm_go_from G ?_) (fun c_111 => ?_)))
    · have c' : ((Int8.ofInt 16).toInt32).toInt ≤ (nI P).toInt := c_111
      rw [mm_nt (by omega), show ((Int8.ofInt 16).toInt32).toInt = 16 by decide] at c'
      rw [if_neg (show ¬ (P : Int) < 16 by omega)] at hQ
      exact And.intro (k_56 J) (mm_rf ((js 327).trans eP) (And.intro (k_56 J) (mm_go_from G hQ)))
    · have c' : ¬ ((Int8.ofInt 16).toInt32).toInt ≤ (nI P).toInt := c_111
      rw [mm_nt (by omega), show ((Int8.ofInt 16).toInt32).toInt = 16 by decide] at c'
      rw [if_pos (show (P : Int) < 16 by omega)] at hQ
      exact And.intro (k_56 J) (mm_rf (r_323 J) (And.intro (k_56 J) (mm_rf ((js 327).trans eP) (And.intro ⟨k_58 J, mm_inb 16 (n_58 J) (mm_nb (by omega) (by omega))⟩ (And.intro (k_56 J) (mm_rf ((js 327).trans eP) (And.intro (k_56 J) (mm_go_from G hQ))))))))
  · have n0 : ¬ mm_a h 90 j = 0 := fun z => c (by rw [z]; exact z0)
    have n1 : ¬ mm_a h 90 j = 1 := fun z => c2 (by rw [z]; decide)
    rw [if_neg n0, if_neg n1] at hQ
    exact And.intro ⟨rfl, E.1⟩ (c_Ac_push EE j8 (b4.elim (fun z => absurd z n1) id) hQ)
