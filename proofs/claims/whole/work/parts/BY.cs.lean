/-! RUNNING: what can be run -/
def cs (h : mm_H) (L m c : Nat) : Prop := ¬ mm_a h 95 m = 0 ∧ mm_a h 90 m = -1 ∧ ¬ mm_a h L c = 0 ∧ lk_np h m ≤ 2 ∧ ∀ p, p < lk_np h m → mm_a h 93 (4 * m + p) = -1
theorem l_St_can {ro : mm_Ro} {d q m : Nat} {h : mm_H} {Q : Value → mm_H → Prop} (I : mm_SH h) (MO : lx_MO h q m) (MV : lk_MV h m) (hQ1 : (∀ p, p < lk_np h m → mm_a h 93 (4 * m + p) = -1) → Q (.int 1) h) (hQ0 : ¬ (∀ p, p < lk_np h m → mm_a h 93 (4 * m + p) = -1) → Q (.int 0) h) : ∀ (n p : Nat), p + n = lk_np h m → (∀ t, t < p → mm_a h 93 (4 * m + t) = -1) → mm_go ro (d + 1) mm_m_St_canStart 38 [.ref 2, .ref q, .int (nI p)] [] h Q := by
  have G := mm_hM n_St_canStart rfl
  obtain ⟨_, ME, ⟨_, _, _, i4, _⟩, e4, _⟩ := MO
  have v3 := MV.2.2.1
  have v4 := MV.2.2.2.1
  intro n
  induction n with
  | zero =>
    intro p hp al
    refine mm_go_from G (And.intro ME.1.1 (mm_rf (i4.trans v3) (And.intro (fun c => mm_go_from G ⟨Or.inr rfl, hQ1 (fun t ht => al t (by omega))⟩) (fun c => ?_))))
    have c' : ¬ (nI (lk_np h m)).toInt ≤ (nI p).toInt := c
    rw [mm_nt (by omega), mm_nt (by omega)] at c'
    omega
  | succ n ih =>
    intro p hp al
    have PL := e4 p (by omega) (by rw [v3, mm_nt (by omega)]; omega)
    have k22 : 22 ≤ mm_k h (q + 1) ∧ mm_k h (q + 1) < 26 := by rw [ME.1.2.2.1]; decide
    refine mm_go_from G (And.intro ME.1.1 (mm_rf (i4.trans v3) (And.intro (fun c => ?_) (fun c => ?_))))
    · have c' : (nI (lk_np h m)).toInt ≤ (nI p).toInt := c
      rw [mm_nt (by omega), mm_nt (by omega)] at c'
      omega
    · refine And.intro ME.1.1 (mm_rf ME.1.2.1 (And.intro ⟨k22, mm_inb 3 ME.1.2.2.2 (mm_nb (by omega) (by omega))⟩ (mm_rf (show mm_q h (q + 1) (nI p).toNatClampNeg = mm_q h (q + 1) p by rw [mm_ncl (by omega)]) (And.intro PL.2.1 (mm_rf PL.2.2.1 (And.intro (fun c2 => mm_go_from G ?_) (fun c2 => ?_)))))))
      · have e : mm_a h 93 (4 * m + p) = -1 := c2
        have z := ih (p + 1) (by omega) (fun t ht => by
          by_cases y : t = p
          · rw [y]; exact e
          · exact al t (by omega))
        rw [nI_succ] at z
        exact z
      · have e : ¬ mm_a h 93 (4 * m + p) = -1 := c2
        exact ⟨Or.inl rfl, hQ0 (fun y => e (y p (by omega)))⟩
theorem c_St_canStart {ro : mm_Ro} {d q m c : Nat} {h : mm_H} {Q : Value → mm_H → Prop} (I : mm_SH h) (MO : lx_MO h q m) (MV : lk_MV h m) (ec : mm_a h 87 m = nI c) (hc : c < 6) (hQ1 : cs h 5 m c → Q (.int 1) h) (hQ0 : ¬ cs h 5 m c → Q (.int 0) h) : mm_ev ro (d + 2) n_St_canStart [.ref 2, .ref q] h Q := by
  have G := mm_hM n_St_canStart rfl
  have MO' := MO
  obtain ⟨_, ME, ⟨i1, _, i3, i4, _⟩, _⟩ := MO'
  have v3 := MV.2.2.1
  have v4 := MV.2.2.2.1
  have no : ¬ cs h 5 m c → mm_go ro (d + 1) mm_m_St_canStart 34 [.ref 2, .ref q, .null] [] h Q := fun z => mm_go_from G ⟨Or.inl rfl, hQ0 z⟩
  refine mm_ev_at 34 (Z := mm_m_St_canStart) rfl rfl (Nat.le_of_ble_eq_true rfl) rfl ?_
  refine And.intro ME.1.1 (mm_rf i3 (And.intro (fun c_4 => no (fun z => z.1 c_4)) (fun c_4 => ?_)))
  have n1 : ¬ mm_a h 95 m = 0 := c_4
  refine And.intro ⟨rfl, ME.1.1⟩ (c_Me_isBuiltIn MO (And.intro (fun c_11 => no (fun z => mm_nn c_11 z.2.1)) (fun c_11 => ?_)))
  have n2 : mm_a h 90 m = -1 := Classical.not_not.mp (mm_b0.mp (mm_no c_11))
  refine And.intro (k_2 I) (mm_rf (r_67 I) (And.intro ME.1.1 (mm_rf (i1.trans ec) (And.intro ⟨k_5 I, mm_inb 6 (n_5 I) (mm_nb hc (by omega))⟩ (mm_rf (show mm_a h 5 (nI c).toNatClampNeg = mm_a h 5 c by rw [mm_ncl (by omega)]) (And.intro (fun c_23 => no (fun z => z.2.2.1 c_23)) (fun c_23 => ?_)))))))
  have n3 : ¬ mm_a h 5 c = 0 := c_23
  refine And.intro ME.1.1 (mm_rf (i4.trans v3) (And.intro (fun c_31 => mm_go_at 38 G ?_) (fun c_31 => ?_)))
  · have c' : (nI (lk_np h m)).toInt ≤ (Int32.ofInt 2).toInt := c_31
    rw [mm_nt (by omega), show (Int32.ofInt 2).toInt = 2 by decide] at c'
    exact l_St_can I MO MV (fun z => hQ1 ⟨n1, n2, n3, by omega, z⟩) (fun z => hQ0 (fun y => z y.2.2.2.2)) (lk_np h m) 0 (Nat.zero_add _) (fun t ht => absurd ht (by omega))
  · have c' : ¬ (nI (lk_np h m)).toInt ≤ (Int32.ofInt 2).toInt := c_31
    rw [mm_nt (by omega), show (Int32.ofInt 2).toInt = 2 by decide] at c'
    exact no (fun z => by have := z.2.2.2.1; omega)
