/-! THE REFERENCE READS A METHOD: pops, pushes, guardOf, wayOf, isShort, start -/
theorem lk_sub {a b : Int32} (ha : -1000 ≤ a.toInt ∧ a.toInt ≤ 1000) (hb : -1000 ≤ b.toInt ∧ b.toInt ≤ 1000) : (a - b).toInt = a.toInt - b.toInt := by
  rw [Int32.toInt_sub]
  exact Int.bmod_eq_of_le (by omega) (by omega)
theorem lk_add {a b : Int32} (ha : -1000 ≤ a.toInt ∧ a.toInt ≤ 1000) (hb : -1000 ≤ b.toInt ∧ b.toInt ≤ 1000) : (a + b).toInt = a.toInt + b.toInt := by
  rw [Int32.toInt_add]
  exact Int.bmod_eq_of_le (by omega) (by omega)
theorem lk_20 {m i : Nat} : (Int8.ofInt 20).toInt32 * nI m + nI i = nI (20 * m + i) := mm_lin 20 m i
theorem lk_43 {m : Nat} : (Int32.ofInt 4) * nI m + Int32.ofInt 3 = nI (4 * m + 3) := mm_lin 4 m 3
theorem c_Mo_pops {ro : mm_Ro} {d m o a : Nat} {x : Int32} {h : mm_H} {Q : Value → mm_H → Prop} (I : mm_SH h) (hm : m < 10) (ho : o < 18) (ha : o = 11 → x = nI a ∧ lk_MV h a) (hQ : Q (.int (nI (lk_po h m o a))) h) : mm_ev ro (d + 1) n_Mo_pops [.ref 80, .int (nI m), .int (nI o), .int x] h Q := by
  by_cases q11 : o = 11
  · obtain ⟨ex, M⟩ := ha q11
    subst q11
    subst ex
    have hB : 0 ≤ (nI a).toInt ∧ (nI a).toInt < ((10 : Nat) : Int) := mm_nb M.1 (by omega)
    have hc : (nI a).toNatClampNeg = a := mm_ncl (by have := M.1; omega)
    have e0 : lk_po h m 11 a = lk_np h a + (if mm_a h 95 a = 0 then 1 else 0) := if_pos rfl
    rw [e0, ← nI_add] at hQ
    refine mm_ev_in (Z := mm_m_Mo_pops) rfl rfl (Nat.le_of_ble_eq_true rfl) rfl ?_
    refine And.intro (fun c => absurd c (by decide)) (And.intro (Nat.le_of_ble_eq_true rfl) ?_)
    refine ⟨fun c => absurd c (by decide), fun c => absurd c (by decide), fun c => absurd c (by decide), fun c => absurd c (by decide), fun c => absurd c (by decide), fun c => absurd c (by decide), fun c => absurd c (by decide), fun c => absurd c (by decide), fun c => mm_go_from (mm_hM n_Mo_pops rfl) ?_, fun c => absurd c (by decide), fun c => absurd c (by decide), fun c => absurd c (by decide), fun c => absurd c (by decide), fun c => absurd c (by decide), fun c => absurd c (by decide), trivial⟩
    refine And.intro (k_80 I) (mm_rf (r_587 I) (And.intro ⟨k_89 I, mm_inb 10 (n_89 I) hB⟩ (mm_rf (b := nI (lk_np h a)) (by rw [hc]; exact M.2.2.1) (And.intro (k_80 I) (mm_rf (r_593 I) (And.intro ⟨k_95 I, mm_inb 10 (n_95 I) hB⟩ (mm_rf (b := mm_a h 95 a) (by rw [hc]) (And.intro (fun c_92 => mm_go_from (mm_hM n_Mo_pops rfl) ?_) (fun c_92 => ?_)))))))))
    · have q : mm_a h 95 a = 0 := c_92
      rw [if_pos q] at hQ
      exact hQ
    · have q : ¬ mm_a h 95 a = 0 := c_92
      rw [if_neg q] at hQ
      exact mm_go_from (mm_hM n_Mo_pops rfl) hQ
  · by_cases q16 : o = 16
    · subst q16
      have hX : 0 ≤ (Int32.ofInt 4 * nI m + Int32.ofInt 3).toInt ∧ (Int32.ofInt 4 * nI m + Int32.ofInt 3).toInt < ((40 : Nat) : Int) := by rw [lk_43]; exact mm_nb (by omega) (by omega)
      have hXc : (Int32.ofInt 4 * nI m + Int32.ofInt 3).toNatClampNeg = 4 * m + 3 := by rw [lk_43]; exact mm_ncl (by omega)
      have e0 : lk_po h m 16 a = if mm_a h 93 (4 * m + 3) = -2 then 0 else 1 := (if_neg (by decide)).trans (if_pos rfl)
      rw [e0] at hQ
      refine mm_ev_in (Z := mm_m_Mo_pops) rfl rfl (Nat.le_of_ble_eq_true rfl) rfl ?_
      refine And.intro (fun c => absurd c (by decide)) (And.intro (Nat.le_of_ble_eq_true rfl) ?_)
      refine ⟨fun c => absurd c (by decide), fun c => absurd c (by decide), fun c => absurd c (by decide), fun c => absurd c (by decide), fun c => absurd c (by decide), fun c => absurd c (by decide), fun c => absurd c (by decide), fun c => absurd c (by decide), fun c => absurd c (by decide), fun c => absurd c (by decide), fun c => absurd c (by decide), fun c => absurd c (by decide), fun c => absurd c (by decide), fun c => mm_go_from (mm_hM n_Mo_pops rfl) ?_, fun c => absurd c (by decide), trivial⟩
      refine And.intro (k_80 I) (mm_rf (r_591 I) (And.intro ⟨k_93 I, mm_inb 40 (n_93 I) hX⟩ (mm_rf (b := mm_a h 93 (4 * m + 3)) (by rw [hXc]) (And.intro (fun c_114 => mm_go_from (mm_hM n_Mo_pops rfl) ?_) (fun c_114 => ?_)))))
      · have q : ¬ mm_a h 93 (4 * m + 3) = -2 := c_114
        rw [if_neg q] at hQ
        exact hQ
      · have q : mm_a h 93 (4 * m + 3) = -2 := mm_no c_114
        rw [if_pos q] at hQ
        exact mm_go_from (mm_hM n_Mo_pops rfl) hQ
    · have e0 : lk_po h m o a = [0, 0, 0, 1, 1, 1, 2, 0, 1, 1, 2, 0, 1, 0, 1, 1, 0, 1].getD o 0 := (if_neg q11).trans (if_neg q16)
      rw [e0] at hQ
      have fin : ∀ v : Int32, (mm_run0 (d + 1) 20 n_Mo_pops [.ref 80, .int (nI m), .int (nI o), .int x] h = some (.int v, h)) → nI ([0, 0, 0, 1, 1, 1, 2, 0, 1, 1, 2, 0, 1, 0, 1, 1, 0, 1].getD o 0) = v → mm_ev ro (d + 1) n_Mo_pops [.ref 80, .int (nI m), .int (nI o), .int x] h Q := by
        intro v e1 e2
        refine mm_ev0 20 (by rw [e1]; rfl) (fun r h' e => ?_)
        rw [e1] at e
        cases e
        rw [← e2]
        exact hQ
      clear hQ e0
      rcases lk_o_cases ho with rfl | rfl | rfl | rfl | rfl | rfl | rfl | rfl | rfl | rfl | rfl | rfl | rfl | rfl | rfl | rfl | rfl | rfl
      case _ => exact fin 0 rfl (by decide)
      case _ => exact fin 0 rfl (by decide)
      case _ => exact fin 0 rfl (by decide)
      case _ => exact fin 1 rfl (by decide)
      case _ => exact fin 1 rfl (by decide)
      case _ => exact fin 1 rfl (by decide)
      case _ => exact fin 2 rfl (by decide)
      case _ => exact fin 0 rfl (by decide)
      case _ => exact fin 1 rfl (by decide)
      case _ => exact fin 1 rfl (by decide)
      case _ => exact fin 2 rfl (by decide)
      case _ => exact absurd rfl q11
      case _ => exact fin 1 rfl (by decide)
      case _ => exact fin 0 rfl (by decide)
      case _ => exact fin 1 rfl (by decide)
      case _ => exact fin 1 rfl (by decide)
      case _ => exact absurd rfl q16
      case _ => exact fin 1 rfl (by decide)
theorem c_Mo_pushes {ro : mm_Ro} {d o a : Nat} {x : Int32} {h : mm_H} {Q : Value → mm_H → Prop} (I : mm_SH h) (ho : o < 18) (ha : o = 11 → x = nI a ∧ a < 10) (hQ : Q (.int (nI (lk_pu h o a))) h) : mm_ev ro (d + 1) n_Mo_pushes [.ref 80, .int (nI o), .int x] h Q := by
  by_cases q11 : o = 11
  · obtain ⟨ex, ha⟩ := ha q11
    subst q11
    subst ex
    have hX : 0 ≤ (Int32.ofInt 4 * nI a + Int32.ofInt 3).toInt ∧ (Int32.ofInt 4 * nI a + Int32.ofInt 3).toInt < ((40 : Nat) : Int) := by rw [lk_43]; exact mm_nb (by omega) (by omega)
    have hXc : (Int32.ofInt 4 * nI a + Int32.ofInt 3).toNatClampNeg = 4 * a + 3 := by rw [lk_43]; exact mm_ncl (by omega)
    have e0 : lk_pu h 11 a = if mm_a h 93 (4 * a + 3) = -2 then 0 else 1 := if_pos rfl
    rw [e0] at hQ
    refine mm_ev_in (Z := mm_m_Mo_pushes) rfl rfl (Nat.le_of_ble_eq_true rfl) rfl ?_
    refine And.intro (fun _ => mm_go_from (mm_hM n_Mo_pushes rfl) (And.intro (fun c => absurd rfl c) (fun _ => ?_))) (fun c => absurd (show ¬ nI 11 = Int32.ofInt 4 by decide) c)
    refine And.intro (k_80 I) (mm_rf (r_591 I) (And.intro ⟨k_93 I, mm_inb 40 (n_93 I) hX⟩ (mm_rf (b := mm_a h 93 (4 * a + 3)) (by rw [hXc]) (And.intro (fun c_25 => mm_go_from (mm_hM n_Mo_pushes rfl) ?_) (fun c_25 => ?_)))))
    · have q : ¬ mm_a h 93 (4 * a + 3) = -2 := c_25
      rw [if_neg q] at hQ
      exact hQ
    · have q : mm_a h 93 (4 * a + 3) = -2 := mm_no c_25
      rw [if_pos q] at hQ
      exact mm_go_from (mm_hM n_Mo_pushes rfl) hQ
  · have e0 : lk_pu h o a = [1, 1, 1, 0, 2, 0, 1, 1, 1, 1, 0, 0, 1, 0, 0, 0, 0, 0].getD o 0 := if_neg q11
    rw [e0] at hQ
    have fin : ∀ v : Int32, (mm_run0 (d + 1) 30 n_Mo_pushes [.ref 80, .int (nI o), .int x] h = some (.int v, h)) → nI ([1, 1, 1, 0, 2, 0, 1, 1, 1, 1, 0, 0, 1, 0, 0, 0, 0, 0].getD o 0) = v → mm_ev ro (d + 1) n_Mo_pushes [.ref 80, .int (nI o), .int x] h Q := by
      intro v e1 e2
      refine mm_ev0 30 (by rw [e1]; rfl) (fun r h' e => ?_)
      rw [e1] at e
      cases e
      rw [← e2]
      exact hQ
    clear hQ e0
    rcases lk_o_cases ho with rfl | rfl | rfl | rfl | rfl | rfl | rfl | rfl | rfl | rfl | rfl | rfl | rfl | rfl | rfl | rfl | rfl | rfl
    case _ => exact fin 1 rfl (by decide)
    case _ => exact fin 1 rfl (by decide)
    case _ => exact fin 1 rfl (by decide)
    case _ => exact fin 0 rfl (by decide)
    case _ => exact fin 2 rfl (by decide)
    case _ => exact fin 0 rfl (by decide)
    case _ => exact fin 1 rfl (by decide)
    case _ => exact fin 1 rfl (by decide)
    case _ => exact fin 1 rfl (by decide)
    case _ => exact fin 1 rfl (by decide)
    case _ => exact fin 0 rfl (by decide)
    case _ => exact absurd rfl q11
    case _ => exact fin 1 rfl (by decide)
    case _ => exact fin 0 rfl (by decide)
    case _ => exact fin 0 rfl (by decide)
    case _ => exact fin 0 rfl (by decide)
    case _ => exact fin 0 rfl (by decide)
    case _ => exact fin 0 rfl (by decide)
/-- guards of a method; its instructions -/
def lk_GV (h : mm_H) (m : Nat) : Prop := ∃ G, G ≤ 2 ∧ mm_a h 92 m = nI G
def lk_IV (h : mm_H) (m i : Nat) : Prop := lk_AV h m i ∧ mm_a h 97 (20 * m + i) = nI (lk_o h m i) ∧ (lk_o h m i = 11 → mm_a h 98 (20 * m + i) = nI (lk_a h m i) ∧ lk_MV h (lk_a h m i)) ∧ ((lk_o h m i = 2 ∨ lk_o h m i = 3 ∨ lk_o h m i = 9 ∨ lk_o h m i = 10) → mm_a h 98 (20 * m + i) = nI (lk_a h m i)) ∧ ((13 ≤ lk_o h m i ∧ lk_o h m i ≤ 15) → mm_a h 98 (20 * m + i) = nI (lk_a h m i) ∧ lk_a h m i < 20)
theorem lk_2 {m : Nat} : Int32.ofInt 2 * nI m = nI (2 * m) := pk_mul 2 m
theorem lk_2a {m G : Nat} : Int32.ofInt 2 * nI m + nI G = nI (2 * m + G) := mm_lin 2 m G
theorem l_Mo_guardOf {ro : mm_Ro} {d m i j G : Nat} {h : mm_H} {Q : Value → mm_H → Prop} (I : mm_SH h) (hm : m < 10) (hi : i < 20) (hj : j ≤ 2) (hG : mm_a h 92 m = nI G) (hG2 : G ≤ 2) (h1 : j < G → lk_hit h (2 * m + j) i → Q (.int (mm_a h 101 (2 * m + j))) h) (h2 : j < G → ¬ lk_hit h (2 * m + j) i → mm_go ro d mm_m_Mo_guardOf 4 [.ref 80, .int (nI m), .int (nI i), .int (nI (2 * m + (j + 1)))] [] h Q) (h3 : ¬ j < G → Q (.int (-1)) h) : mm_go ro d mm_m_Mo_guardOf 4 [.ref 80, .int (nI m), .int (nI i), .int (nI (2 * m + j))] [] h Q := by
  have hB : 0 ≤ (nI m).toInt ∧ (nI m).toInt < ((10 : Nat) : Int) := mm_nb hm (by omega)
  have hc : (nI m).toNatClampNeg = m := mm_ncl (by omega)
  refine mm_go_from (mm_hM n_Mo_guardOf rfl) (And.intro (k_80 I) (mm_rf (r_590 I) (And.intro ⟨k_92 I, mm_inb 10 (n_92 I) hB⟩ (mm_rf (b := nI G) (by rw [hc]; exact hG) (And.intro (fun c_15 => mm_go_from (mm_hM n_Mo_guardOf rfl) ?_) (fun c_15 => ?_))))))
  · have q : (Int32.ofInt 2 * nI m + nI G).toInt ≤ (nI (2 * m + j)).toInt := c_15
    rw [lk_2a, mm_nt (by omega), mm_nt (by omega)] at q
    exact h3 (by omega)
  · have q : ¬ (Int32.ofInt 2 * nI m + nI G).toInt ≤ (nI (2 * m + j)).toInt := c_15
    rw [lk_2a, mm_nt (by omega), mm_nt (by omega)] at q
    have hjG : j < G := by omega
    have hX : 0 ≤ (nI (2 * m + j)).toInt ∧ (nI (2 * m + j)).toInt < ((20 : Nat) : Int) := mm_nb (by omega) (by omega)
    have hXc : (nI (2 * m + j)).toNatClampNeg = 2 * m + j := mm_ncl (by omega)
    have nx : ¬ lk_hit h (2 * m + j) i → mm_go ro d mm_m_Mo_guardOf 4 [.ref 80, .int (nI m), .int (nI i), .int (nI (2 * m + j) + Int32.ofInt 1)] [] h Q := fun z => by
      have := h2 hjG z
      rw [show 2 * m + (j + 1) = (2 * m + j) + 1 by omega, nI_succ] at this
      exact this
    refine And.intro (k_80 I) (mm_rf (r_597 I) (And.intro ⟨k_99 I, mm_inb 20 (n_99 I) hX⟩ (mm_rf (b := mm_a h 99 (2 * m + j)) (by rw [hXc]) (And.intro (fun c_25 => mm_go_from (mm_hM n_Mo_guardOf rfl) ?_) (fun c_25 => ?_)))))
    · have z : (nI i).toInt < (mm_a h 99 (2 * m + j)).toInt := c_25
      rw [mm_nt (by omega)] at z
      exact nx (fun y => by have := y.1; omega)
    · have z : ¬ (nI i).toInt < (mm_a h 99 (2 * m + j)).toInt := c_25
      rw [mm_nt (by omega)] at z
      refine And.intro (k_80 I) (mm_rf (r_598 I) (And.intro ⟨k_100 I, mm_inb 20 (n_100 I) hX⟩ (mm_rf (b := mm_a h 100 (2 * m + j)) (by rw [hXc]) (And.intro (fun c_35 => mm_go_from (mm_hM n_Mo_guardOf rfl) ?_) (fun c_35 => ?_)))))
      · have z2 : (mm_a h 100 (2 * m + j)).toInt < (nI i).toInt := c_35
        rw [mm_nt (by omega)] at z2
        exact nx (fun y => by have := y.2; omega)
      · have z2 : ¬ (mm_a h 100 (2 * m + j)).toInt < (nI i).toInt := c_35
        rw [mm_nt (by omega)] at z2
        exact And.intro (k_80 I) (mm_rf (r_599 I) (And.intro ⟨k_101 I, mm_inb 20 (n_101 I) hX⟩ (mm_rf (b := mm_a h 101 (2 * m + j)) (by rw [hXc]) (h1 hjG ⟨by omega, by omega⟩))))
theorem c_Mo_guardOf {ro : mm_Ro} {d m i : Nat} {h : mm_H} {Q : Value → mm_H → Prop} (I : mm_SH h) (hm : m < 10) (hi : i < 20) (G : lk_GV h m) (hQ : ∀ r : Int32, r.toInt = lk_gd h m i → Q (.int r) h) : mm_ev ro (d + 1) n_Mo_guardOf [.ref 80, .int (nI m), .int (nI i)] h Q := by
  obtain ⟨G, hG2, hG⟩ := G
  have eG : (mm_a h 92 m).toInt = G := by rw [hG, mm_nt (by omega)]
  refine mm_ev_at 4 (Z := mm_m_Mo_guardOf) rfl rfl (Nat.le_of_ble_eq_true rfl) rfl ?_
  have m1 : (-1 : Int32).toInt = -1 := by decide
  have L := l_Mo_guardOf (ro := ro) (d := d) (j := 0) (Q := Q) I hm hi (by omega) hG hG2 (fun a b => hQ _ (by
    unfold lk_gd
    exact (if_pos ⟨by omega, b⟩).symm)) (fun a b => l_Mo_guardOf (j := 1) I hm hi (by omega) hG hG2 (fun a' b' => hQ _ (by
    unfold lk_gd
    exact ((if_neg (fun z => b z.2)).trans (if_pos ⟨by omega, b'⟩)).symm)) (fun a' b' => l_Mo_guardOf (j := 2) I hm hi (by omega) hG hG2 (fun a'' _ => by omega) (fun a'' _ => by omega) (fun _ => hQ _ (by
    unfold lk_gd
    exact m1.trans ((if_neg (fun z => b z.2)).trans (if_neg (fun z => b' z.2))).symm))) (fun a' => hQ _ (by
    unfold lk_gd
    exact m1.trans ((if_neg (fun z => b z.2)).trans (if_neg (fun z => by have := z.1; omega))).symm))) (fun a => hQ _ (by
    unfold lk_gd
    exact m1.trans ((if_neg (fun z => by have := z.1; omega)).trans (if_neg (fun z => by have := z.1; omega))).symm))
  rw [Nat.add_zero, ← lk_2] at L
  exact L
theorem lk_b13 {o : Nat} (ho : o < 18) (k : Nat) (hk : k < 100) : nI o = nI k ↔ o = k := nI_eq (by omega) (by omega)
theorem c_Mo_wayOf {ro : mm_Ro} {d m i w : Nat} {h : mm_H} {Q : Value → mm_H → Prop} (I : mm_SH h) (hm : m < 10) (hi : i < 20) (hw : w < 3) (G : lk_GV h m) (V : lk_IV h m i) (hQ : ∀ r : Int32, r.toInt = lk_w h m i w → Q (.int r) h) : mm_ev ro (d + 2) n_Mo_wayOf [.ref 80, .int (nI m), .int (nI i), .int (nI w)] h Q := by
  have hX : 0 ≤ ((Int8.ofInt 20).toInt32 * nI m + nI i).toInt ∧ ((Int8.ofInt 20).toInt32 * nI m + nI i).toInt < ((200 : Nat) : Int) := by rw [lk_20]; exact mm_nb (by omega) (by omega)
  have hXc : ((Int8.ofInt 20).toInt32 * nI m + nI i).toNatClampNeg = 20 * m + i := by rw [lk_20]; exact mm_ncl (by omega)
  obtain ⟨A, V1, V2, V3, V4⟩ := V
  have ho := A.1
  have to : (nI (lk_o h m i)).toInt = (lk_o h m i : Int) := mm_nt (by omega)
  have m1 : (-1 : Int32).toInt = -1 := by decide
  have gd : (lk_o h m i = 11 ∨ lk_o h m i = 12 ∨ lk_o h m i = 17) → w = 2 → ∀ r : Int32, r.toInt = lk_gd h m i → Q (.int r) h := fun q e r hr => hQ r (by rw [e]; exact hr.trans (if_pos q).symm)
  refine mm_ev_in (Z := mm_m_Mo_wayOf) rfl rfl (Nat.le_of_ble_eq_true rfl) rfl ?_
  refine And.intro (k_80 I) (mm_rf (r_595 I) (And.intro ⟨k_97 I, mm_inb 200 (n_97 I) hX⟩ (mm_rf (b := nI (lk_o h m i)) (by rw [hXc]; exact V1) (And.intro (fun c_14 => mm_go_from (mm_hM n_Mo_wayOf rfl) ?_) (fun c_14 => ?_)))))
  · have w0 : ¬ w = 0 := fun z => by rw [z] at c_14; exact absurd rfl c_14
    refine And.intro (fun c_41 => mm_go_from (mm_hM n_Mo_wayOf rfl) ?_) (fun c_41 => ?_)
    · have w2 : w = 2 := by
        have : ¬ w = 1 := fun z => by rw [z] at c_41; exact absurd rfl c_41
        omega
      refine And.intro (fun c_78 => mm_go_from (mm_hM n_Mo_wayOf rfl) ?_) (fun c_78 => ?_)
      · have q : nI (lk_o h m i) = nI 11 := c_78
        have q' := (lk_b13 ho 11 (by omega)).mp q
        exact And.intro ⟨rfl, k_80 I⟩ (c_Mo_guardOf I hm hi G (fun r hr => mm_go_from (mm_hM n_Mo_wayOf rfl) (gd (Or.inl q') w2 r hr)))
      · have q1 : ¬ nI (lk_o h m i) = nI 11 := c_78
        refine And.intro (fun c_85 => mm_go_from (mm_hM n_Mo_wayOf rfl) ?_) (fun c_85 => ?_)
        · have q : nI (lk_o h m i) = nI 12 := c_85
          have q' := (lk_b13 ho 12 (by omega)).mp q
          exact And.intro ⟨rfl, k_80 I⟩ (c_Mo_guardOf I hm hi G (fun r hr => mm_go_from (mm_hM n_Mo_wayOf rfl) (gd (Or.inr (Or.inl q')) w2 r hr)))
        · have q2 : ¬ nI (lk_o h m i) = nI 12 := c_85
          refine And.intro (fun c_92 => mm_go_from (mm_hM n_Mo_wayOf rfl) ?_) (fun c_92 => ?_)
          · have q3 : ¬ nI (lk_o h m i) = nI 17 := c_92
            refine hQ _ ?_
            rw [w2]
            refine m1.trans (Eq.symm (if_neg ?_))
            rintro (z | z | z)
            · exact q1 (by rw [z])
            · exact q2 (by rw [z])
            · exact q3 (by rw [z])
          · have q : nI (lk_o h m i) = nI 17 := mm_no c_92
            have q' := (lk_b13 ho 17 (by omega)).mp q
            exact And.intro ⟨rfl, k_80 I⟩ (c_Mo_guardOf I hm hi G (fun r hr => mm_go_from (mm_hM n_Mo_wayOf rfl) (gd (Or.inr (Or.inr q')) w2 r hr)))
    · have w1 : w = 1 := by
        have z : nI w = nI 1 := mm_no c_41
        exact (nI_eq (by omega) (by omega)).mp z
      refine And.intro (fun c_48 => mm_go_from (mm_hM n_Mo_wayOf rfl) ?_) (fun c_48 => ?_)
      · have q : (nI (lk_o h m i)).toInt < 13 := c_48
        refine hQ _ ?_
        rw [w1]
        exact m1.trans (Eq.symm (if_neg (fun z => by omega)))
      · have q : ¬ (nI (lk_o h m i)).toInt < 13 := c_48
        refine And.intro (fun c_55 => mm_go_from (mm_hM n_Mo_wayOf rfl) ?_) (fun c_55 => ?_)
        · have q2 : 15 < (nI (lk_o h m i)).toInt := c_55
          refine hQ _ ?_
          rw [w1]
          exact m1.trans (Eq.symm (if_neg (fun z => by omega)))
        · have q2 : ¬ 15 < (nI (lk_o h m i)).toInt := c_55
          refine And.intro (k_80 I) (mm_rf (r_596 I) (And.intro ⟨k_98 I, mm_inb 200 (n_98 I) hX⟩ (mm_rf (b := mm_a h 98 (20 * m + i)) (by rw [hXc]) (mm_go_from (mm_hM n_Mo_wayOf rfl) (hQ _ ?_)))))
          rw [w1]
          exact Eq.symm (if_pos ⟨by omega, by omega⟩)
  · have w0 : w = 0 := by
      have z : nI w = nI 0 := mm_no c_14
      exact (nI_eq (by omega) (by omega)).mp z
    refine And.intro (fun c_21 => mm_go_from (mm_hM n_Mo_wayOf rfl) ?_) (fun c_21 => ?_)
    · have q : nI (lk_o h m i) = nI 13 := c_21
      have q' := (lk_b13 ho 13 (by omega)).mp q
      refine mm_go_from (mm_hM n_Mo_wayOf rfl) (hQ _ ?_)
      rw [w0]
      exact m1.trans (Eq.symm (if_pos (Or.inl q')))
    · have q : ¬ nI (lk_o h m i) = nI 13 := c_21
      refine And.intro (fun c_28 => mm_go_from (mm_hM n_Mo_wayOf rfl) ?_) (fun c_28 => ?_)
      · have q2 : (nI (lk_o h m i)).toInt < 16 := c_28
        have e1 : nI i + Int32.ofInt 1 = nI (i + 1) := (nI_succ i).symm
        refine hQ _ ?_
        rw [w0, e1, mm_nt (by omega)]
        refine Eq.trans ?_ (if_neg ?_).symm
        · omega
        · rintro (z | z)
          · exact q (by rw [z])
          · omega
      · have q2 : ¬ (nI (lk_o h m i)).toInt < 16 := c_28
        refine mm_go_from (mm_hM n_Mo_wayOf rfl) (hQ _ ?_)
        rw [w0]
        exact m1.trans (Eq.symm (if_pos (Or.inr (by omega))))
theorem lk_po4 {h : mm_H} {m i : Nat} (V : lk_IV h m i) : lk_po h m (lk_o h m i) (lk_a h m i) ≤ 4 ∧ lk_pu h (lk_o h m i) (lk_a h m i) ≤ 2 := by
  have ho := V.1.1
  have h11 : lk_o h m i = 11 → lk_np h (lk_a h m i) ≤ 3 := fun q => (V.2.2.1 q).2.2.2.2.1
  unfold lk_po lk_pu
  generalize lk_o h m i = o at ho h11
  constructor
  · split
    · rename_i q
      have := h11 q
      split <;> omega
    · split
      · split <;> omega
      · rcases lk_o_cases ho with rfl | rfl | rfl | rfl | rfl | rfl | rfl | rfl | rfl | rfl | rfl | rfl | rfl | rfl | rfl | rfl | rfl | rfl <;> decide
  · split
    · split <;> omega
    · rcases lk_o_cases ho with rfl | rfl | rfl | rfl | rfl | rfl | rfl | rfl | rfl | rfl | rfl | rfl | rfl | rfl | rfl | rfl | rfl | rfl <;> decide
theorem c_Mo_isShort {ro : mm_Ro} {d m i : Nat} {h : mm_H} {Q : Value → mm_H → Prop} (I : mm_SH h) (hm : m < 10) (hi : i < 20) (V : lk_IV h m i) (hr : -10 ≤ (mm_a h 102 i).toInt ∧ (mm_a h 102 i).toInt ≤ 10) (hQ : Q (.int (mm_b (lk_bad h m i (mm_a h 102 i).toInt))) h) : mm_ev ro (d + 2) n_Mo_isShort [.ref 80, .int (nI m), .int (nI i)] h Q := by
  have hX : 0 ≤ ((Int8.ofInt 20).toInt32 * nI m + nI i).toInt ∧ ((Int8.ofInt 20).toInt32 * nI m + nI i).toInt < ((200 : Nat) : Int) := by rw [lk_20]; exact mm_nb (by omega) (by omega)
  have hXc : ((Int8.ofInt 20).toInt32 * nI m + nI i).toNatClampNeg = 20 * m + i := by rw [lk_20]; exact mm_ncl (by omega)
  have hB : 0 ≤ (nI i).toInt ∧ (nI i).toInt < ((20 : Nat) : Int) := mm_nb hi (by omega)
  have hc : (nI i).toNatClampNeg = i := mm_ncl (by omega)
  obtain ⟨p4, p2⟩ := lk_po4 V
  have t1 : (nI (lk_po h m (lk_o h m i) (lk_a h m i))).toInt = (lk_po h m (lk_o h m i) (lk_a h m i) : Int) := mm_nt (by omega)
  have t2 : (nI (lk_pu h (lk_o h m i) (lk_a h m i))).toInt = (lk_pu h (lk_o h m i) (lk_a h m i) : Int) := mm_nt (by omega)
  have s1 : (mm_a h 102 i - nI (lk_po h m (lk_o h m i) (lk_a h m i))).toInt = (mm_a h 102 i).toInt - (lk_po h m (lk_o h m i) (lk_a h m i) : Int) := by rw [lk_sub (by omega) (by omega), t1]
  have s2 : (mm_a h 102 i - nI (lk_po h m (lk_o h m i) (lk_a h m i)) + nI (lk_pu h (lk_o h m i) (lk_a h m i))).toInt = (mm_a h 102 i).toInt - (lk_po h m (lk_o h m i) (lk_a h m i) : Int) + (lk_pu h (lk_o h m i) (lk_a h m i) : Int) := by rw [lk_add (by omega) (by omega), s1, t2]
  refine mm_ev_in (Z := mm_m_Mo_isShort) rfl rfl (Nat.le_of_ble_eq_true rfl) rfl ?_
  refine And.intro (k_80 I) (mm_rf (r_595 I) (And.intro ⟨k_97 I, mm_inb 200 (n_97 I) hX⟩ (mm_rf (b := nI (lk_o h m i)) (by rw [hXc]; exact V.2.1) (And.intro (k_80 I) (mm_rf (r_596 I) (And.intro ⟨k_98 I, mm_inb 200 (n_98 I) hX⟩ (mm_rf (b := mm_a h 98 (20 * m + i)) (by rw [hXc]) (And.intro (k_80 I) (mm_rf (r_600 I) (And.intro ⟨k_102 I, mm_inb 20 (n_102 I) hB⟩ (mm_rf (b := mm_a h 102 i) (by rw [hc]) (And.intro ⟨rfl, k_80 I⟩ (c_Mo_pops (a := lk_a h m i) I hm V.1.1 V.2.2.1 (And.intro (fun c_44 => mm_go_from (mm_hM n_Mo_isShort rfl) ?_) (fun c_44 => ?_)))))))))))))))
  · have q : (mm_a h 102 i - nI (lk_po h m (lk_o h m i) (lk_a h m i))).toInt < 0 := c_44
    rw [s1] at q
    exact mm_go_from (mm_hM n_Mo_isShort rfl) ⟨Or.inr rfl, mm_qe hQ (mm_b_t (Or.inl (by omega)))⟩
  · have q : ¬ (mm_a h 102 i - nI (lk_po h m (lk_o h m i) (lk_a h m i))).toInt < 0 := c_44
    rw [s1] at q
    refine And.intro ⟨rfl, k_80 I⟩ (c_Mo_pushes (a := lk_a h m i) I V.1.1 (fun z => ⟨(V.2.2.1 z).1, (V.2.2.1 z).2.1⟩) (And.intro (fun c_58 => mm_go_from (mm_hM n_Mo_isShort rfl) ?_) (fun c_58 => ?_)))
    · have q2 : (mm_a h 102 i - nI (lk_po h m (lk_o h m i) (lk_a h m i)) + nI (lk_pu h (lk_o h m i) (lk_a h m i))).toInt ≤ 4 := c_58
      rw [s2] at q2
      refine ⟨Or.inl rfl, mm_qe hQ (mm_b_f ?_)⟩
      rintro (z | z) <;> omega
    · have q2 : ¬ (mm_a h 102 i - nI (lk_po h m (lk_o h m i) (lk_a h m i)) + nI (lk_pu h (lk_o h m i) (lk_a h m i))).toInt ≤ 4 := c_58
      rw [s2] at q2
      exact mm_go_from (mm_hM n_Mo_isShort rfl) ⟨Or.inr rfl, mm_qe hQ (mm_b_t (Or.inr (by omega)))⟩
