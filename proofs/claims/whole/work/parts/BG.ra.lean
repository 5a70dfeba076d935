/-! RUNNING, the class: raise, cast -/
noncomputable def ma_rz (h : mm_H) (fm fi : Nat → Nat) (x : Int32) : Nat → mm_H
  | 0 => mm_si (mm_si h 334 56 1) 324 56 (mm_a h 59 (x.toNatClampNeg - 1))
  | D + 1 => if 0 ≤ lk_gd h (fm D) (fi D) then mm_si (ac_ps (mm_si (mm_si h 333 56 (nI (D + 1))) 388 (62 + 3 * D) 0) (62 + 3 * D) 0 x) 385 (62 + 3 * D) (nI (lk_gd h (fm D) (fi D)).toNat) else ma_rz h fm fi x D
def ma_fr (h : mm_H) (qm : Nat → Nat) (nM : Nat) (fm fi : Nat → Nat) (D : Nat) : Prop := ∀ w, w < D → fm w < nM ∧ fi w < 20 ∧ mm_r h 384 (62 + 3 * w) = qm (fm w) ∧ mm_i h 385 (62 + 3 * w) = nI (fi w)
theorem l_Ma_raise {ro : mm_Ro} {d o n nC nF nM : Nat} {x : Int32} {qm fm fi : Nat → Nat} {h : mm_H} {Q : Value → mm_H → Prop} (T : lx_T ro h nC nF nM qm) (o0 : 0 < o) (on : o ≤ n) (n24 : n ≤ 24) (en : mm_i h 326 56 = nI n) (ex : x = nI o) : ∀ (D : Nat) (v3 v4 : Value), D ≤ 6 → ma_fr h qm nM fm fi D → Q .null (ma_rz h fm fi x D) → mm_go ro (d + 2) mm_m_Ma_raise 20 [.ref 56, .int x, .int (nI D), v3, v4] [] h Q := by
  have G := mm_hM n_Ma_raise rfl
  have I := T.1
  have h10 := T.2.1.2.2.2.2.2.2
  have z0 : (0 : Int32).toInt = 0 := by decide
  have x0 : ¬ x = 0 := fun y => by
    rw [ex] at y
    have := mm_nee (by omega) (by omega) (show nI o = nI 0 from y)
    omega
  intro D
  induction D with
  | zero =>
    intro v3 v4 h6 fr hQ
    refine mm_go_from G (And.intro (fun c_21 => mm_go_from G ?_) (fun c_21 => absurd (show (nI 0).toInt ≤ (0 : Int32).toInt by decide) c_21))
    have J : mm_SH (mm_si h 334 56 1) := SH_si I
    refine And.intro (k_56 I) (And.intro ⟨rfl, k_56 J⟩ (c_Ma_classOf J ((mm_i2 (by omega)).trans en) n24 (Or.inr ⟨o, o0, on, ex⟩) (And.intro (k_56 J) ?_)))
    rw [if_neg x0]
    exact hQ
  | succ D ih =>
    intro v3 v4 h6 fr hQ
    have eD : nI (D + 1) - 1 = nI D := nI_pred D
    have cD : (nI (D + 1) - 1).toNatClampNeg = D := by rw [eD]; exact mm_ncl (by omega)
    have bD : 0 ≤ (nI (D + 1) - 1).toInt ∧ (nI (D + 1) - 1).toInt < ((6 : Nat) : Int) := by rw [eD]; exact mm_nb (by omega) (by omega)
    obtain ⟨f1, f2, f3, f4⟩ := fr D (by omega)
    have E := ac_w I (w := D) (by omega)
    obtain ⟨len, ML⟩ := T.2.2.2.2.2.1 _ f1
    have MO := (T.2.2.2.1.2.2.1.2 _ f1).2
    have gb := ML.2.2.2.2.1 (fi D)
    unfold ma_rz at hQ
    refine mm_go_from G (And.intro (fun c_21 => ?_) (fun c_21 => ?_))
    · have c : (nI (D + 1)).toInt ≤ (0 : Int32).toInt := c_21
      rw [mm_nt (by omega), z0] at c
      omega
    · refine And.intro (k_56 I) (mm_rf (r_332 I) (And.intro ⟨⟨by rw [k_61 I]; decide, by rw [k_61 I]; decide⟩, mm_inb 6 (n_61 I) bD⟩ (mm_rf (show mm_q h 61 (nI (D + 1) - 1).toNatClampNeg = 62 + 3 * D by rw [cD]; exact q_w I (by omega)) (And.intro E.1 (mm_rf f3 (And.intro E.1 (mm_rf f4 (And.intro ⟨rfl, MO.2.1.1.1⟩ (c_Me_caughtAt MO f2 ML.2.2.2.1 (fun r hr => And.intro (fun c_49 => mm_go_from G ?_) (fun c_49 => ?_)))))))))))
      · have r1 : r = -1 := c_49
        have g1 : lk_gd h (fm D) (fi D) = -1 := by rw [← hr, r1]; decide
        rw [if_neg (by omega)] at hQ
        have z := ih (.ref (62 + 3 * D)) (.int r) (by omega) (fun w hw => fr w (by omega)) hQ
        show mm_go ro (d + 2) mm_m_Ma_raise 20 [.ref 56, .int x, .int (nI (D + 1) + Int32.ofInt (-1)), .ref (62 + 3 * D), .int r] [] h Q
        have e : nI (D + 1) + Int32.ofInt (-1) = nI D := by
          rw [nI_succ, Int32.add_assoc, show (1 : Int32) + Int32.ofInt (-1) = 0 by decide, Int32.add_zero]
        rw [e]
        exact z
      · have r1 : ¬ r = -1 := c_49
        have g1 : 0 ≤ lk_gd h (fm D) (fi D) := by
          have : ¬ r.toInt = -1 := fun y => r1 (Int32.toInt_inj.mp (by rw [y]; decide))
          omega
        rw [if_pos g1] at hQ
        have er : r = nI (lk_gd h (fm D) (fi D)).toNat := by rw [← hr]; exact mm_nz (by omega) (by omega)
        rw [← er] at hQ
        have EE : ac (mm_si (mm_si h 333 56 (nI (D + 1))) 388 (62 + 3 * D) 0) (62 + 3 * D) := ac_si (ac_si E)
        exact And.intro (k_56 I) (And.intro E.1 (And.intro ⟨rfl, E.1⟩ (c_Ac_push EE (H := 0) mm_i1 (by omega) (And.intro E.1 hQ))))
theorem c_Ma_raise {ro : mm_Ro} {d D o n nC nF nM : Nat} {x : Int32} {qm fm fi : Nat → Nat} {h : mm_H} {Q : Value → mm_H → Prop} (T : lx_T ro h nC nF nM qm) (o0 : 0 < o) (on : o ≤ n) (n24 : n ≤ 24) (en : mm_i h 326 56 = nI n) (ex : x = nI o) (h6 : D ≤ 6) (e3 : mm_i h 333 56 = nI D) (fr : ma_fr h qm nM fm fi D) (hQ : Q .null (ma_rz h fm fi x D)) : mm_ev ro (d + 3) n_Ma_raise [.ref 56, .int x] h Q := by
  have I := T.1
  have G := mm_hM n_Ma_raise rfl
  have x0 : ¬ x = 0 := fun y => by
    rw [ex] at y
    have := mm_nee (by omega) (by omega) (show nI o = nI 0 from y)
    omega
  refine mm_ev_at 20 (Z := mm_m_Ma_raise) rfl rfl (Nat.le_of_ble_eq_true rfl) rfl ?_
  refine And.intro ⟨rfl, k_56 I⟩ (c_Ma_isObject I en n24 (Or.inr ⟨o, o0, on, ex⟩) (And.intro (fun c_5 => mm_go_at 20 G ?_) (fun c_5 => absurd (mm_no c_5) (fun z => mm_b0.mp z x0))))
  exact And.intro (k_56 I) (mm_rf e3 (l_Ma_raise T o0 on n24 en ex D .null .null h6 fr hQ))
theorem c_Ma_cast {ro : mm_Ro} {d A H i n a D nC nF nM : Nat} {qm fm fi : Nat → Nat} {h : mm_H} {Q : Value → mm_H → Prop} (T : lx_T ro h nC nF nM qm) (E : ac h A) (hA : 62 ≤ A) (hA2 : A < 80) (e8 : mm_i h 388 A = nI H) (h0 : 0 < H) (h4 : H ≤ 4) (e5 : mm_i h 385 A = nI i) (hn : n ≤ 24) (en : mm_i h 326 56 = nI n) (ha : a < 6) (ob : mm_a h (A + 2) (H - 1) = 0 ∨ ∃ o c, 0 < o ∧ o ≤ n ∧ mm_a h (A + 2) (H - 1) = nI o ∧ c < nC ∧ mm_a h 59 (o - 1) = nI c) (h6 : D ≤ 6) (e3 : mm_i h 333 56 = nI D) (fr : ma_fr h qm nM fm fi D)
    (hQ : Q .null (@ite _ (mm_a h (A + 2) (H - 1) = 0 ∨ mm_bel (mm_up h) (mm_a h 59 ((mm_a h (A + 2) (H - 1)).toNatClampNeg - 1)).toInt (a : Int)) (Classical.propDecidable _) (mm_si (ac_ps (mm_si h 388 A (nI (H - 1))) A (H - 1) (mm_a h (A + 2) (H - 1))) 385 A (nI (i + 1))) (ma_rz (mm_si h 388 A (nI (H - 1))) fm fi (mm_a h (A + 2) (H - 1)) D))) : mm_ev ro (d + 4) n_Ma_cast [.ref 56, .ref A, .int (nI a)] h Q := by
  have G := mm_hM n_Ma_cast rfl
  have I := T.1
  have h6' := T.2.1.2.2.2.2.1
  have ag : mm_ag h (mm_si h 388 A (nI (H - 1))) ∨ True := Or.inr trivial
  have J : mm_SH (mm_si h 388 A (nI (H - 1))) := SH_si I
  have jn : mm_i (mm_si h 388 A (nI (H - 1))) 326 56 = nI n := (mm_i2 (by omega)).trans en
  generalize hx : mm_a h (A + 2) (H - 1) = x at *
  have ob' : x = 0 ∨ ∃ o, 0 < o ∧ o ≤ n ∧ x = nI o := by
    rcases ob with z | ⟨o, c, z1, z2, z3, _⟩
    · exact Or.inl z
    · exact Or.inr ⟨o, z1, z2, z3⟩
  have psh : (x = 0 ∨ mm_bel (mm_up h) (mm_a h 59 (x.toNatClampNeg - 1)).toInt (a : Int)) → mm_go ro (d + 3) mm_m_Ma_cast 40 [.ref 56, .ref A, .int (nI a), .int x] [] (mm_si h 388 A (nI (H - 1))) Q := fun z => by
    rw [if_pos z] at hQ
    exact mm_go_from G (And.intro ⟨rfl, trivial⟩ (c_Ma_pushAndGoOn (h := mm_si h 388 A (nI (H - 1))) E mm_i1 (by omega) ((mm_i2 (by omega)).trans e5) hQ))
  refine mm_ev_in (Z := mm_m_Ma_cast) rfl rfl (Nat.le_of_ble_eq_true rfl) rfl ?_
  refine And.intro ⟨rfl, E.1⟩ (c_Ac_pop E e8 h0 h4 ?_)
  rw [hx]
  refine And.intro ⟨rfl, k_56 J⟩ (c_Ma_isObject J jn hn ob' (And.intro (fun c_10 => psh (Or.inl (Classical.not_not.mp (mm_b0.mp c_10)))) (fun c_10 => ?_)))
  have x0 : ¬ x = 0 := mm_nn c_10
  rcases ob with z | ⟨o, c, o1, o2, o3, c1, c2⟩
  · exact absurd z x0
  subst o3
  have eo : nI o - 1 = nI (o - 1) := by
    obtain ⟨p, hp⟩ : ∃ p, o = p + 1 := ⟨o - 1, by omega⟩
    rw [hp]; exact nI_pred p
  rw [mm_ncl (by omega), c2, mm_nt (by omega)] at hQ psh
  refine And.intro (k_56 J) (mm_rf (r_320 J) (And.intro (k_56 J) (mm_rf (r_330 J) (And.intro ⟨k_59 J, mm_inb 24 (n_59 J) (by rw [show nI o - Int32.ofInt 1 = nI (o - 1) from eo]; exact mm_nb (by omega) (by omega))⟩ (mm_rf (show mm_a h 59 (nI o - 1).toNatClampNeg = nI c by rw [eo, mm_ncl (by omega)]; exact c2) (And.intro ⟨rfl, k_2 J⟩ (c_St_below J T.2.2.2.1.2.2.2.2.2.2.1 c1 ha (And.intro (fun c_29 => ?_) (fun c_29 => ?_)))))))))
  · exact psh (Or.inr (mm_nn c_29))
  · have nb := mm_b0.mp (mm_no c_29)
    rw [if_neg (fun z => z.elim x0 nb)] at hQ
    have T2 : lx_T ro (mm_si h 388 A (nI (H - 1))) nC nF nM qm := AR_T (AR_si ⟨⟨by omega, hA2⟩, by omega⟩ AR_rf) T
    exact And.intro ⟨rfl, k_56 J⟩ (c_Ma_raise T2 o1 o2 hn jn rfl h6 ((mm_i2 (by omega)).trans e3) (fun w hw => ⟨(fr w hw).1, (fr w hw).2.1, (fr w hw).2.2.1, (mm_i2 (by omega)).trans (fr w hw).2.2.2⟩) (mm_go_from G hQ))
