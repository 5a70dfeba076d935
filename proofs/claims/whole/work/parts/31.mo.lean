/-! small numbers -/
theorem nI_lit0 : (Int32.ofInt 0) = nI 0 := by decide
theorem nI_lit1 : (Int32.ofInt 1) = nI 1 := by decide
theorem mm_ncl {n : Nat} (h : n < 1000000) : (nI n).toNatClampNeg = n := nI_clamp (by omega)
theorem mm_nt {n : Nat} (h : n < 1000000) : (nI n).toInt = (n : Int) := nI_toInt (by omega)
theorem mm_nb {n N : Nat} (h : n < N) (hN : N < 1000000) : 0 ≤ (nI n).toInt ∧ (nI n).toInt < (N : Int) := by rw [mm_nt (by omega)]; omega
/-- frozen(): one of the classes is loaded -/
def mm_fz (h : mm_H) : Prop := ∃ x, x < 6 ∧ mm_a h 85 x ≠ 0
theorem l_Mo_frozen {ro : mm_Ro} {d : Nat} {h : mm_H} {Q : Value → mm_H → Prop} (I : mm_SH h) (hQ : Q (.int (mm_b (mm_fz h))) h) : ∀ (k x : Nat), x + k = 6 → (∀ j, j < x → mm_a h 85 j = 0) → mm_go ro d mm_m_Mo_frozen 2 [.ref 80, .int (nI x)] [] h Q := by
  intro k
  induction k with
  | zero =>
    intro x hx hj
    refine mm_go_from (mm_hM n_Mo_frozen rfl) (And.intro (fun c_5 => mm_go_from (mm_hM n_Mo_frozen rfl) ?_) (fun c_5 => ?_))
    · exact ⟨Or.inl rfl, mm_qe hQ (mm_b_f (fun ⟨j, h1, h2⟩ => h2 (hj j (by omega))))⟩
    · have c : ¬ (6 : Int) ≤ (nI x).toInt := c_5
      rw [mm_nt (by omega)] at c
      omega
  | succ k ih =>
    intro x hx hj
    refine mm_go_from (mm_hM n_Mo_frozen rfl) (And.intro (fun c_5 => ?_) (fun c_5 => ?_))
    · have c : (6 : Int) ≤ (nI x).toInt := c_5
      rw [mm_nt (by omega)] at c
      omega
    · refine And.intro (I.k 80 (by decide)) (mm_rf (I.r 583 80 85 (by decide)) (And.intro ⟨I.k 85 (by decide), mm_inb 6 (I.n 85 (by decide)) (mm_nb (by omega) (by omega))⟩ (mm_rf rfl (And.intro (fun c_14 => mm_go_from (mm_hM n_Mo_frozen rfl) ?_) (fun c_14 => ?_)))))
      · have c : mm_a h 85 (nI x).toNatClampNeg = 0 := c_14
        rw [mm_ncl (by omega)] at c
        have h1 := ih (x + 1) (by omega) (fun j hjx => by
          rcases Nat.lt_or_ge j x with q | q
          · exact hj j q
          · rw [show j = x by omega]; exact c)
        rw [nI_succ] at h1
        exact h1
      · have c : ¬ mm_a h 85 (nI x).toNatClampNeg = 0 := c_14
        rw [mm_ncl (by omega)] at c
        exact ⟨Or.inr rfl, mm_qe hQ (mm_b_t ⟨x, by omega, c⟩)⟩
theorem c_Mo_frozen {ro : mm_Ro} {d : Nat} {h : mm_H} {Q : Value → mm_H → Prop} (I : mm_SH h) (hQ : Q (.int (mm_b (mm_fz h))) h) : mm_ev ro (d + 1) n_Mo_frozen [.ref 80] h Q := by
  refine mm_ev_at 2 (Z := mm_m_Mo_frozen) rfl rfl (Nat.le_of_ble_eq_true rfl) rfl ?_
  exact l_Mo_frozen (ro := ro) (d := d) I hQ 6 0 rfl (fun j hj => absurd hj (Nat.not_lt_zero j))
/-- the class that is k steps above x, -1 behind the last -/
def mm_anc (up : Nat → Int) : Nat → Int → Int
  | 0, x => x
  | k + 1, x => if mm_anc up k x < 0 then -1 else up (mm_anc up k x).toNat
/-- x is BELOW y -/
def mm_bel (up : Nat → Int) (x y : Int) : Prop := 0 ≤ y ∧ ∃ k, mm_anc up k x = y
theorem mm_anc_neg {up : Nat → Int} {x : Int} {k : Nat} (h : mm_anc up k x < 0) : ∀ j, mm_anc up (k + j) x < 0 := by
  intro j
  induction j with
  | zero => exact h
  | succ j ih =>
    show (if mm_anc up (k + j) x < 0 then (-1 : Int) else up (mm_anc up (k + j) x).toNat) < 0
    rw [if_pos ih]
    decide
/-- the supers as the reference has them -/
def mm_up (h : mm_H) : Nat → Int := fun z => (mm_a h 81 z).toInt
/-- supers are made before -/
def mm_upo (up : Nat → Int) : Prop := ∀ z, z < 6 → up z < (z : Int)
theorem l_Mo_isBelow {ro : mm_Ro} {d : Nat} {h : mm_H} {Q : Value → mm_H → Prop} {x y : Int32} (I : mm_SH h) (U : mm_upo (mm_up h)) (hQ : Q (.int (mm_b (mm_bel (mm_up h) x.toInt y.toInt))) h) : ∀ (n k : Nat) (z : Int32), z.toInt < (n : Int) → n ≤ 6 → z.toInt = mm_anc (mm_up h) k x.toInt → (∀ j, j < k → mm_anc (mm_up h) j x.toInt ≠ y.toInt) → mm_go ro d mm_m_Mo_isBelow 2 [.ref 80, .int x, .int y, .int z] [] h Q := by
  intro n
  induction n with
  | zero =>
    intro k z hz hn hk hj
    refine mm_go_from (mm_hM n_Mo_isBelow rfl) (And.intro (fun c_3 => mm_go_from (mm_hM n_Mo_isBelow rfl) ?_) (fun c_3 => ?_))
    · refine And.intro (fun c_22 => mm_go_from (mm_hM n_Mo_isBelow rfl) ?_) (fun c_22 => ?_)
      · refine ⟨Or.inl rfl, mm_qe hQ (mm_b_f (fun ⟨h1, j, h2⟩ => ?_))⟩
        rcases Nat.lt_or_ge j k with q | q
        · exact hj j q h2
        · obtain ⟨i, rfl⟩ : ∃ i, j = k + i := ⟨j - k, by omega⟩
          have := mm_anc_neg (up := mm_up h) (x := x.toInt) (k := k) (by omega) i
          omega
      · exact absurd (show z.toInt < (0 : Int32).toInt from hz) c_22
    · exact absurd (show z.toInt < (0 : Int32).toInt from hz) c_3
  | succ n ih =>
    intro k z hz hn hk hj
    refine mm_go_from (mm_hM n_Mo_isBelow rfl) (And.intro (fun c_3 => mm_go_from (mm_hM n_Mo_isBelow rfl) ?_) (fun c_3 => ?_))
    · refine And.intro (fun c_22 => mm_go_from (mm_hM n_Mo_isBelow rfl) ?_) (fun c_22 => ?_)
      · have hz0 : z.toInt < 0 := c_3
        refine ⟨Or.inl rfl, mm_qe hQ (mm_b_f (fun ⟨h1, j, h2⟩ => ?_))⟩
        rcases Nat.lt_or_ge j k with q | q
        · exact hj j q h2
        · obtain ⟨i, rfl⟩ : ∃ i, j = k + i := ⟨j - k, by omega⟩
          have := mm_anc_neg (up := mm_up h) (x := x.toInt) (k := k) (by omega) i
          omega
      · exact absurd c_3 c_22
    · have hz0 : ¬ z.toInt < 0 := c_3
      refine And.intro (fun c_8 => mm_go_from (mm_hM n_Mo_isBelow rfl) ?_) (fun c_8 => ?_)
      · have e : z = y := c_8
        refine And.intro (fun c_22 => absurd c_22 c_3) (fun c_22 => mm_go_from (mm_hM n_Mo_isBelow rfl) ?_)
        exact ⟨Or.inr rfl, mm_qe hQ (mm_b_t ⟨by rw [← e]; omega, k, by rw [← hk, e]⟩)⟩
      · have e : ¬ z = y := c_8
        refine And.intro (I.k 80 (by decide)) (mm_rf (I.r 579 80 81 (by decide)) (And.intro ⟨I.k 81 (by decide), mm_inb 6 (I.n 81 (by decide)) (by omega)⟩ (mm_rf rfl ?_)))
        have hc : (z.toNatClampNeg : Int) = z.toInt := by
          show ((z.toInt.toNat : Nat) : Int) = z.toInt
          omega
        refine ih (k + 1) (mm_a h 81 z.toNatClampNeg) ?_ (by omega) ?_ ?_
        · have := U z.toNatClampNeg (by omega)
          have e2 : mm_up h z.toNatClampNeg = (mm_a h 81 z.toNatClampNeg).toInt := rfl
          omega
        · show (mm_a h 81 z.toNatClampNeg).toInt = if mm_anc (mm_up h) k x.toInt < 0 then -1 else mm_up h (mm_anc (mm_up h) k x.toInt).toNat
          rw [if_neg (by omega), ← hk]
          rfl
        · intro j hjk
          rcases Nat.lt_or_ge j k with q | q
          · exact hj j q
          · rw [show j = k by omega, ← hk]
            exact fun z9 => e (Int32.toInt_inj.mp z9)
theorem c_Mo_isBelow {ro : mm_Ro} {d : Nat} {h : mm_H} {Q : Value → mm_H → Prop} {x y : Int32} (I : mm_SH h) (U : mm_upo (mm_up h)) (hx : x.toInt < 6) (hQ : Q (.int (mm_b (mm_bel (mm_up h) x.toInt y.toInt))) h) : mm_ev ro (d + 1) n_Mo_isBelow [.ref 80, .int x, .int y] h Q := by
  refine mm_ev_at 2 (Z := mm_m_Mo_isBelow) rfl rfl (Nat.le_of_ble_eq_true rfl) rfl ?_
  exact l_Mo_isBelow (ro := ro) (d := d) I U hQ 6 0 x hx (Nat.le_refl _) rfl (fun j hj => absurd hj (Nat.not_lt_zero j))
