/-! the reference's call -/
theorem l_call_L {ro : mm_Ro} {d w B t : Nat} {v1 v2 v5 : Value} {g : mm_H} {F : Nat → Int32} {Q : Value → mm_H → Prop} (I : mm_SH g) (hw : w < 5) (e3 : mm_i g 633 80 = nI (w + 2)) (e9 : ∀ p, p < t → mm_a g 119 (4 * w + B + p) = F p) (hB : B + t ≤ 4) (hQ : Q .null (rs_fill g 118 (6 * (w + 1)) t F)) : ∀ (n p : Nat), p + n = t → mm_go ro (d + 2) mm_m_Mo_call 226 [.ref 80, v1, v2, .int (nI t), .int (nI (4 * w + B)), v5, .int (nI p)] [] (rs_fill g 118 (6 * (w + 1)) p F) Q := by
  intro n
  induction n with
  | zero =>
    intro p hp
    refine mm_go_from (mm_hM n_Mo_call rfl) (And.intro (fun c_229 => mm_go_from (mm_hM n_Mo_call rfl) ?_) (fun c_229 => ?_))
    · have : p = t := by omega
      subst this
      exact hQ
    · have c : ¬ (nI t).toInt ≤ (nI p).toInt := c_229
      rw [mm_nt (by omega), mm_nt (by omega)] at c
      omega
  | succ n ih =>
    intro p hp
    have J : mm_SH (rs_fill g 118 (6 * (w + 1)) p F) := fi_SH I
    have nx := ih (p + 1) (by omega)
    have eY : nI (4 * w + B) + nI p = nI (4 * w + B + p) := nI_add _ _
    have bY : 0 ≤ (nI (4 * w + B) + nI p).toInt ∧ (nI (4 * w + B) + nI p).toInt < ((24 : Nat) : Int) := by rw [eY]; exact mm_nb (by omega) (by omega)
    have eX : (Int8.ofInt 6).toInt32 * (nI (w + 2) - 1) + nI p = nI (6 * (w + 1) + p) := by rw [nI_pred]; exact mm_lin 6 (w + 1) p
    have bX : 0 ≤ ((Int8.ofInt 6).toInt32 * (nI (w + 2) - 1) + nI p).toInt ∧ ((Int8.ofInt 6).toInt32 * (nI (w + 2) - 1) + nI p).toInt < ((36 : Nat) : Int) := by rw [eX]; exact mm_nb (by omega) (by omega)
    refine mm_go_from (mm_hM n_Mo_call rfl) (And.intro (fun c_229 => ?_) (fun c_229 => ?_))
    · have c : (nI t).toInt ≤ (nI p).toInt := c_229
      rw [mm_nt (by omega), mm_nt (by omega)] at c
      omega
    · refine And.intro (k_80 J) (mm_rf (r_622 J) (And.intro (k_80 J) (mm_rf e3 (And.intro (k_80 J) (mm_rf (r_623 J) (And.intro ⟨k_119 J, mm_inb 24 (n_119 J) bY⟩ (mm_rf (show mm_a (rs_fill g 118 (6 * (w + 1)) p F) 119 (nI (4 * w + B) + nI p).toNatClampNeg = F p by rw [eY, mm_ncl (by omega), rs_fill_a (by omega)]; exact e9 p (by omega)) (And.intro ⟨k_118 J, mm_inb 36 (n_118 J) bX⟩ ?_))))))))
      rw [nI_succ] at nx
      have e2 : mm_sa (rs_fill g 118 (6 * (w + 1)) p F) 118 ((Int8.ofInt 6).toInt32 * (nI (w + 2) - 1) + nI p).toNatClampNeg (F p) = rs_fill g 118 (6 * (w + 1)) (p + 1) F := by
        rw [eX, mm_ncl (by omega)]
        exact rs_fill_s
      rw [← e2] at nx
      exact nx
/-- the rest of a call, once it is known who does it -/
theorem l_call_C {ro : mm_Ro} {d w H a B j T P N c : Nat} {h : mm_H} {Q : Value → mm_H → Prop} (I : mm_SH h) (hw : w < 6) (ha : a < 10) (MV : lk_MV h a) (e3 : mm_i h 633 80 = nI (w + 1)) (e5 : mm_i h 635 80 = -1) (e0 : mm_a h 120 w = nI H) (h4 : H ≤ 4) (hB : B + (lk_np h a + lk_of h a) = H) (hj : j < 10) (ec : mm_a h 87 j = nI c) (hc : c < 6) (kj : -1 ≤ (mm_a h 90 j).toInt) (out : ¬ mm_a h 85 c = 0 → ¬ mm_a h 90 j = -1 → mm_a h 90 j = 1 ∨ B < 4) (eT : mm_i h 630 80 = nI T) (hT : T < 1000) (eN : mm_i h 628 80 = nI N) (hN : N ≤ 8) (eP : mm_i h 631 80 = nI P) (hP : P < 1000) (hQ : Q .null (rs_do h h w H a B j)) : mm_go ro (d + 2) mm_m_Mo_call 96 [.ref 80, .int (nI a), .int (nI w), .int (nI (lk_np h a + lk_of h a)), .int (nI (4 * w + B)), .int (nI j), .null] [] h Q := by
  have G := mm_hM n_Mo_call rfl
  have z0 : (0 : Int32).toInt = 0 := by decide
  have o1 := lk_of1 (h := h) (m := a)
  obtain ⟨_, _, v3, v4, v5, _⟩ := MV
  have cj : (nI j).toNatClampNeg = j := mm_ncl (by omega)
  have bj : 0 ≤ (nI j).toInt ∧ (nI j).toInt < ((10 : Nat) : Int) := mm_nb hj (by omega)
  have ca : (nI a).toNatClampNeg = a := mm_ncl (by omega)
  have ba : 0 ≤ (nI a).toInt ∧ (nI a).toInt < ((10 : Nat) : Int) := mm_nb ha (by omega)
  have cw : (nI w).toNatClampNeg = w := mm_ncl (by omega)
  have bw : 0 ≤ (nI w).toInt ∧ (nI w).toInt < ((6 : Nat) : Int) := mm_nb hw (by omega)
  have r90 : mm_a h 90 (nI j).toNatClampNeg = mm_a h 90 j := by rw [cj]
  have k9 : (¬ mm_a h 90 j = -1) ↔ 0 ≤ (mm_a h 90 j).toInt := by
    have := lx_kd kj
    constructor
    · intro z
      exact Classical.byContradiction (fun y => z (this.mp y))
    · intro z y
      exact this.mpr y z
  have eB : nI H - nI (lk_np h a + lk_of h a) = nI B := by
    rw [← hB, ← nI_add, Int32.add_sub_cancel]
  unfold rs_do at hQ
  rw [ec, mm_ncl (by omega)] at hQ
  refine mm_go_from G (And.intro (k_80 I) (mm_rf (r_583 I) (And.intro (k_80 I) (mm_rf (r_585 I) (And.intro ⟨k_87 I, mm_inb 10 (n_87 I) bj⟩ (mm_rf (show mm_a h 87 (nI j).toNatClampNeg = nI c by rw [cj]; exact ec) (And.intro ⟨k_85 I, mm_inb 6 (n_85 I) (mm_nb hc (by omega))⟩ (mm_rf (show mm_a h 85 (nI c).toNatClampNeg = mm_a h 85 c by rw [mm_ncl (by omega)]) (And.intro (fun c_108 => mm_go_from G ?_) (fun c_108 => ?_))))))))))
  · have n85 : ¬ mm_a h 85 c = 0 := c_108
    rw [if_neg c_108] at hQ
    have go : (0 ≤ (mm_a h 90 j).toInt ∨ ¬ w = 5) → mm_go ro (d + 2) mm_m_Mo_call 143 [.ref 80, .int (nI a), .int (nI w), .int (nI (lk_np h a + lk_of h a)), .int (nI (4 * w + B)), .int (nI j), .null] [] h Q := by
      intro hgo
      refine mm_go_at 226 G (And.intro (k_80 I) (mm_rf e5 (And.intro (fun c_147 => mm_go_at 226 G ?_) (fun c_147 => absurd (show (-1 : Int32).toInt < (0 : Int32).toInt by decide) c_147))))
      refine And.intro (k_80 I) (mm_rf (r_624 I) (And.intro ⟨k_120 I, mm_inb 6 (n_120 I) bw⟩ (mm_rf (show mm_a h 120 (nI w).toNatClampNeg = nI H by rw [cw]; exact e0) (And.intro ⟨k_120 I, mm_inb 6 (n_120 I) bw⟩ ?_))))
      rw [eB, cw]
      have I1 : mm_SH (mm_sa h 120 w (nI B)) := I
      have r90' : mm_a (mm_sa h 120 w (nI B)) 90 (nI j).toNatClampNeg = mm_a h 90 j := by rw [cj]; exact mm_a2 (by omega)
      refine And.intro (k_80 I1) (mm_rf (r_588 I1) (And.intro ⟨k_90 I1, mm_inb 10 (n_90 I1) bj⟩ (mm_rf r90' (And.intro (fun c_168 => mm_go_at 226 G ?_) (fun c_168 => ?_)))))
      · have c : (mm_a h 90 j).toInt < (0 : Int32).toInt := c_168
        rw [z0] at c
        have w5 : ¬ w = 5 := hgo.elim (fun z => by omega) id
        rw [if_neg (fun z => by have := k9.mp z; omega), if_neg w5] at hQ
        refine And.intro ⟨rfl, k_80 I1⟩ (c_Mo_enter I1 (w := w + 1) (by omega) e3 ?_)
        have J : mm_SH (rs_enter (mm_sa h 120 w (nI B)) (w + 1) (nI j)) := by
          unfold rs_enter rs_ent0
          split
          · exact SH_si (SH_si (fi_SH (SH_sa (SH_sa (SH_sa I1)))))
          · exact SH_si (fi_SH (SH_sa (SH_sa (SH_sa I1))))
        have g3 : mm_i (rs_enter (mm_sa h 120 w (nI B)) (w + 1) (nI j)) 633 80 = nI (w + 2) := by
          unfold rs_enter rs_ent0
          split
          · exact (mm_i2 (by omega)).trans mm_i1
          · exact mm_i1
        have g9 : ∀ q, mm_a (rs_enter (mm_sa h 120 w (nI B)) (w + 1) (nI j)) 119 q = mm_a h 119 q := by
          intro q
          unfold rs_enter rs_ent0
          split
          · exact (congrFun (congrFun ra_si _) _).trans ((congrFun (congrFun ra_si _) _).trans ((rs_fill_a (by omega)).trans ((mm_a2 (by omega)).trans ((mm_a2 (by omega)).trans ((mm_a2 (by omega)).trans (mm_a2 (by omega)))))))
          · exact (congrFun (congrFun ra_si _) _).trans ((rs_fill_a (by omega)).trans ((mm_a2 (by omega)).trans ((mm_a2 (by omega)).trans ((mm_a2 (by omega)).trans (mm_a2 (by omega))))))
        have z := l_call_L (ro := ro) (d := d) (v1 := .int (nI a)) (v2 := .int (nI w)) (v5 := .int (nI j)) (t := lk_np h a + lk_of h a) (F := fun t => mm_a h 119 (4 * w + B + t)) J (by omega) g3 (fun p _ => g9 _) (by omega) hQ (lk_np h a + lk_of h a) 0 (Nat.zero_add _)
        rw [rs_fill_0] at z
        exact z
      · have c : ¬ (mm_a h 90 j).toInt < (0 : Int32).toInt := c_168
        rw [z0] at c
        have k0 : ¬ mm_a h 90 j = -1 := k9.mpr (by omega)
        rw [if_pos k0] at hQ
        have fin : ∀ x : Int32, x = (if 0 < lk_np h a then mm_a h 119 (4 * w + B + lk_of h a) else 0) → mm_ev ro (d + 2) n_Mo_outside [.ref 80, .int (nI j), .int x] (mm_sa h 120 w (nI B)) (fun r h' => mm_wp ro (d + 2) mm_m_Mo_call Q 226 (mm_from mm_m_Mo_call 216) [.ref 80, .int (nI a), .int (nI w), .int (nI (lk_np h a + lk_of h a)), .int (nI (4 * w + B)), .int (nI j), .int x] [] h') := by
          intro x hx
          refine c_Mo_outside (h := mm_sa h 120 w (nI B)) (w := w) (H := B) I1 hw e3 mm_a1 ?_ hj eT hT eN hN eP hP ?_
          · rw [mm_a2 (by omega)]; exact out n85 k0
          · rw [← hx] at hQ
            exact hQ
        refine And.intro (k_80 I1) (mm_rf (r_587 I1) (And.intro ⟨k_89 I1, mm_inb 10 (n_89 I1) ba⟩ (mm_rf (show mm_a (mm_sa h 120 w (nI B)) 89 (nI a).toNatClampNeg = nI (lk_np h a) by rw [ca, mm_a2 (by omega)]; exact v3) (And.intro (fun c_177 => mm_go_at 226 G ?_) (fun c_177 => ?_)))))
        · have c : (nI (lk_np h a)).toInt ≤ (0 : Int32).toInt := c_177
          rw [mm_nt (by omega), z0] at c
          exact And.intro ⟨rfl, k_80 I1⟩ (fin 0 (if_neg (by omega)).symm)
        · have c : ¬ (nI (lk_np h a)).toInt ≤ (0 : Int32).toInt := c_177
          rw [mm_nt (by omega), z0] at c
          refine And.intro (k_80 I1) (mm_rf (r_623 I1) (And.intro (k_80 I1) (mm_rf (r_593 I1) (And.intro ⟨k_95 I1, mm_inb 10 (n_95 I1) ba⟩ (mm_rf (show mm_a (mm_sa h 120 w (nI B)) 95 (nI a).toNatClampNeg = mm_a h 95 a by rw [ca]; exact mm_a2 (by omega)) (And.intro (fun c_192 => mm_go_at 226 G ?_) (fun c_192 => ?_)))))))
          · have q : mm_a h 95 a = 0 := c_192
            have of1 : lk_of h a = 1 := if_pos q
            have eX : nI (4 * w + B) + Int32.ofInt 1 = nI (4 * w + B + 1) := nI_add _ _
            have bX : 0 ≤ (nI (4 * w + B) + Int32.ofInt 1).toInt ∧ (nI (4 * w + B) + Int32.ofInt 1).toInt < ((24 : Nat) : Int) := by rw [eX]; exact mm_nb (by omega) (by omega)
            refine And.intro ⟨k_119 I1, mm_inb 24 (n_119 I1) bX⟩ (mm_rf (show mm_a (mm_sa h 120 w (nI B)) 119 (nI (4 * w + B) + Int32.ofInt 1).toNatClampNeg = mm_a h 119 (4 * w + B + 1) by rw [eX, mm_ncl (by omega)]; exact mm_a2 (by omega)) (mm_go_at 226 G (And.intro ⟨rfl, k_80 I1⟩ (fin _ ?_))))
            rw [if_pos (by omega), of1]
          · have q : ¬ mm_a h 95 a = 0 := c_192
            have of0 : lk_of h a = 0 := if_neg q
            have eX : nI (4 * w + B) + Int32.ofInt 0 = nI (4 * w + B + 0) := nI_add _ 0
            have bX : 0 ≤ (nI (4 * w + B) + Int32.ofInt 0).toInt ∧ (nI (4 * w + B) + Int32.ofInt 0).toInt < ((24 : Nat) : Int) := by rw [eX]; exact mm_nb (by omega) (by omega)
            refine mm_go_at 226 G (And.intro ⟨k_119 I1, mm_inb 24 (n_119 I1) bX⟩ (mm_rf (show mm_a (mm_sa h 120 w (nI B)) 119 (nI (4 * w + B) + Int32.ofInt 0).toNatClampNeg = mm_a h 119 (4 * w + B + 0) by rw [eX, mm_ncl (by omega)]; exact mm_a2 (by omega)) (mm_go_at 226 G (And.intro ⟨rfl, k_80 I1⟩ (fin _ ?_)))))
            rw [if_pos (by omega), of0]
    refine And.intro (k_80 I) (mm_rf (r_588 I) (And.intro ⟨k_90 I, mm_inb 10 (n_90 I) bj⟩ (mm_rf r90 (And.intro (fun c_126 => ?_) (fun c_126 => ?_)))))
    · have c : (0 : Int32).toInt ≤ (mm_a h 90 j).toInt := c_126
      rw [z0] at c
      exact go (Or.inl c)
    · have c : ¬ (0 : Int32).toInt ≤ (mm_a h 90 j).toInt := c_126
      rw [z0] at c
      refine And.intro (k_80 I) (mm_rf e3 (And.intro (fun c_135 => ?_) (fun c_135 => ?_)))
      · have q : ¬ nI (w + 1) = nI 6 := c_135
        exact go (Or.inr (fun z => q (by rw [z])))
      · have q : nI (w + 1) = nI 6 := mm_no c_135
        have w5 : w = 5 := by have := mm_nee (by omega) (by omega) q; omega
        rw [if_neg (fun z => by have := k9.mp z; omega), if_pos w5] at hQ
        exact And.intro (k_80 I) (And.intro (k_80 I) (mm_rf mm_i1 (And.intro (fun c_147 => absurd c_147 (show ¬ (3 : Int32).toInt < (0 : Int32).toInt by decide)) (fun _ => hQ))))
  · rw [if_pos (mm_no c_108)] at hQ
    exact And.intro (k_80 I) (mm_go_from G (And.intro (k_80 I) (mm_rf mm_i1 (And.intro (fun c_147 => absurd c_147 (show ¬ (5 : Int32).toInt < (0 : Int32).toInt by decide)) (fun _ => hQ)))))
