/-! RUNNING, the class: call -/
theorem sc_fill {g : mm_H} {a b sp t : Nat} (ab : ¬ a = b) : mm_sc g a b sp 0 t = rs_fill g b 0 t (fun p => mm_a g a (sp + p)) := by
  have e : mm_u1 (mm_a g) b (va_cpy (mm_a g a) (mm_a g b) sp 0 t) = (fun b' j => if b' = b ∧ 0 ≤ j ∧ j < 0 + t then mm_a g a (sp + (j - 0)) else mm_a g b' j) := funext (fun b' => funext (fun j => by
    by_cases q : b' = b
    · have e1 : mm_u1 (mm_a g) b (va_cpy (mm_a g a) (mm_a g b) sp 0 t) b' = va_cpy (mm_a g a) (mm_a g b) sp 0 t := if_pos q
      rw [e1]
      by_cases z : j < t
      · rw [if_pos (by omega), pk_cpy_in (by omega) (by omega)]
      · rw [if_neg (by omega), pk_cpy_out (by omega), q]
    · have e1 : mm_u1 (mm_a g) b (va_cpy (mm_a g a) (mm_a g b) sp 0 t) b' = mm_a g b' := if_neg q
      rw [e1, if_neg (fun z => q z.1)]))
  unfold mm_sc
  rw [e]
  rfl
noncomputable def ma_do (h : mm_H) (qm : Nat → Nat) (w B i t e j : Nat) : mm_H := if mm_a h 5 (mm_a h 87 j).toNatClampNeg = 0 then mm_si h 334 56 5 else if ¬ mm_a h 90 j = -1 then ma_bi h (62 + 3 * w) B i j (mm_a h (64 + 3 * w) (if B + lk_of h j < 3 then B + lk_of h j else 3)) else if w = 5 then mm_si h 334 56 3 else mm_si (rs_fill (ma_en h (w + 1) (qm j) (if (e : Int) < ((w + 1 : Nat) : Int) + 1 then nI (w + 1 + 1) else nI e)) (63 + 3 * (w + 1)) 0 t (fun p => mm_a h (64 + 3 * w) (B + p))) 388 (62 + 3 * w) (nI B)
theorem l_cl_71 {ro : mm_Ro} {d w B t H i e j c T P N nC nF nM : Nat} {qm : Nat → Nat} {v2 v5 : Value} {h : mm_H} {Q : Value → mm_H → Prop} (TT : lx_T ro h nC nF nM qm) (hw : w < 6) (hj : j < nM) (ec : mm_a h 87 j = nI c) (hc : c < 6) (e3 : mm_i h 333 56 = nI (w + 1)) (e9 : mm_i h 329 56 = nI e) (he : e ≤ 6) (e8 : mm_i h 388 (62 + 3 * w) = nI H) (h4 : H ≤ 4) (eB : B + t = H) (e5 : mm_i h 385 (62 + 3 * w) = nI i) (out : ¬ mm_a h 5 c = 0 → ¬ mm_a h 90 j = -1 → mm_a h 90 j = 1 ∨ B < 4)
    (eT : mm_i h 328 56 = nI T) (hT : T < 1000) (eN : mm_i h 322 56 = nI N) (hN : N ≤ 8) (eP : mm_i h 327 56 = nI P) (hP : P < 1000) (hQ : Q .null (ma_do h qm w B i t e j)) : mm_go ro (d + 2) mm_m_Ma_call 71 [.ref 56, .ref (62 + 3 * w), v2, .int (nI B), .ref (qm j), v5] [] h Q := by
  have G := mm_hM n_Ma_call rfl
  have I := TT.1
  have E := ac_w I hw
  have MO := (TT.2.2.2.1.2.2.1.2 j hj).2
  have q1 := MO.1
  have MOd := MO
  obtain ⟨_, ME, ⟨i1, _⟩, _⟩ := MOd
  unfold ma_do at hQ
  rw [ec, mm_ncl (by omega)] at hQ
  refine mm_go_from G (And.intro (fun c_73 => mm_go_from G ?_) (fun c_73 => by
    have z : qm j = 0 := c_73
    exact absurd z (by omega)))
  refine And.intro (k_56 I) (mm_rf (r_320 I) (And.intro (k_2 I) (mm_rf (r_67 I) (And.intro ME.1.1 (mm_rf (i1.trans ec) (And.intro ⟨k_5 I, mm_inb 6 (n_5 I) (mm_nb hc (by omega))⟩ (mm_rf (show mm_a h 5 (nI c).toNatClampNeg = mm_a h 5 c by rw [mm_ncl (by omega)]) (And.intro (fun c_98 => mm_go_from G ?_) (fun c_98 => ?_)))))))))
  · have n5 : ¬ mm_a h 5 c = 0 := c_98
    rw [if_neg n5] at hQ
    refine And.intro ⟨rfl, ME.1.1⟩ (c_Me_isBuiltIn MO (And.intro (fun c_114 => mm_go_from G ?_) (fun c_114 => ?_)))
    · have b0 : mm_a h 90 j = -1 := Classical.not_not.mp (mm_b0.mp c_114)
      rw [if_neg (fun z => z b0)] at hQ
      refine And.intro (k_56 I) (mm_rf e3 (And.intro (fun c_134 => mm_go_from G ?_) (fun c_134 => ?_)))
      · have w5 : ¬ w = 5 := fun z => by
          have c' : ¬ nI (w + 1) = nI 6 := c_134
          exact c' (by rw [z])
        rw [if_neg w5] at hQ
        have J : mm_SH (ma_en h (w + 1) (qm j) (if (e : Int) < ((w + 1 : Nat) : Int) + 1 then nI (w + 1 + 1) else nI e)) := SH_si (SH_si (SH_bg I (by omega)))
        refine And.intro ⟨rfl, k_56 I⟩ (c_Ma_enter I (w := w + 1) (by omega) e3 e9 he ?_)
        generalize (if (e : Int) < ((w + 1 : Nat) : Int) + 1 then nI (w + 1 + 1) else nI e) = e' at hQ J ⊢
        have En := ac_w J (w := w + 1) (by omega)
        have Ew := ac_w J (w := w) hw
        have g8 : mm_i (ma_en h (w + 1) (qm j) e') 388 (62 + 3 * w) = nI H := (mm_i2 (by omega)).trans ((mm_i2 (by omega)).trans ((mm_i2 (by omega)).trans ((mm_i2 (by omega)).trans e8)))
        have gs : ∀ p, mm_a (ma_en h (w + 1) (qm j) e') (64 + 3 * w) p = mm_a h (64 + 3 * w) p := fun p => (congrFun (congrFun ra_si _) _).trans ((congrFun (congrFun ra_si _) _).trans ((rs_fill_a (by omega)).trans rfl))
        have eS : nI H - nI B = nI t := by rw [← eB, Nat.add_comm, ← nI_add, Int32.add_sub_cancel]
        have nn : ∀ k : Nat, k < 100 → ¬ nI k < 0 := fun k hk z => by
          have := (nI_ltI (a := k) (b := 0) (by omega) (by omega)).mp z
          omega
        refine And.intro Ew.1 (mm_rf Ew.2.2.1 (And.intro En.1 (mm_rf En.2.1.1 (And.intro Ew.1 (mm_rf g8 ?_)))))
        show _ ∧ _
        rw [show nI H - nI B = nI t from eS]
        refine And.intro ⟨rfl, Ew.2.2.2.1, En.2.1.2.1, nn B (by omega), nn 0 (by omega), nn t (by omega), ?_, ?_, Nat.le_of_ble_eq_true rfl⟩ ?_
        · rw [Ew.2.2.2.2, mm_ncl (by omega), mm_ncl (by omega)]; omega
        · rw [En.2.1.2.2, mm_ncl (by omega)]
          show 0 + t ≤ 6
          omega
        · refine And.intro Ew.1 ?_
          refine mm_qq hQ rfl ?_
          show mm_si (mm_sc (ma_en h (w + 1) (qm j) e') (62 + 3 * w + 2) (62 + 3 * (w + 1) + 1) (nI B).toNatClampNeg 0 (nI t).toNatClampNeg) 388 (62 + 3 * w) (nI B) = _
          rw [mm_ncl (by omega), mm_ncl (by omega), sc_fill (by omega), show 62 + 3 * w + 2 = 64 + 3 * w by omega, show 62 + 3 * (w + 1) + 1 = 63 + 3 * (w + 1) by omega, show (fun p => mm_a (ma_en h (w + 1) (qm j) e') (64 + 3 * w) (B + p)) = (fun p => mm_a h (64 + 3 * w) (B + p)) from funext (fun p => gs _)]
      · have c' : nI (w + 1) = nI 6 := mm_no c_134
        have w5 : w = 5 := by have := mm_nee (by omega) (by omega) c'; omega
        rw [if_pos w5] at hQ
        exact And.intro (k_56 I) (mm_go_from G hQ)
    · have b0 : ¬ mm_a h 90 j = -1 := mm_nn c_114
      rw [if_pos b0, show 64 + 3 * w = 62 + 3 * w + 2 by omega] at hQ
      exact And.intro ⟨rfl, k_56 I⟩ (c_Ma_callBuiltIn I E (by omega) MO (by omega) e5 (out n5 b0) eT hT eN hN eP hP (mm_go_from G hQ))
  · rw [if_pos (mm_no c_98)] at hQ
    exact And.intro (k_56 I) (mm_go_from G hQ)
