/-! THE REFERENCE: inspect -/
theorem lk_32 {m i : Nat} : (Int8.ofInt 32).toInt32 * nI m + nI i = nI (32 * m + i) := mm_lin 32 m i
theorem l_in_54 {ro : mm_Ro} {d m len nF : Nat} {h0 : mm_H} {e : Int32 × Int32 × Int32} {hd : Nat → Int32 × Int32 × Int32} {sv : Nat → mm_V} {Q : Value → mm_H → Prop} (I : mm_SH h0) (W : lk_WM h0 m len) (hF : nF ≤ 12) (eF : mm_i h0 577 80 = nI nF) (bs : lk_bn sv) (VF : lk_VF h0 m len (lk_fr hd sv)) (hQ0 : lk_no h0 nF m len (lk_fr hd sv) → ∀ c, lk_bn c.2.2.2 → Q (.int 0) (lk_L h0 e c hd sv)) (hQ1 : ∀ i, lk_fe h0 nF m len (lk_fr hd sv) i → ∀ c, lk_bn c.2.2.2 → Q (.int (lk_er h0 nF m len i (lk_fr hd sv i))) (lk_L h0 (e.1, nI (32 * m + i), e.2.2) c hd sv)) : ∀ (n i : Nat) (c : mm_F) (v3 : Value), i + n = len → lk_bn c.2.2.2 → (∀ j, j < i → (lk_fr hd sv j).1 = -1 ∨ lk_er h0 nF m len j (lk_fr hd sv j) = 9) → mm_go ro (d + 6) mm_m_Mo_inspect 54 [.ref 80, .int (nI m), .int (nI i), v3] [] (lk_L h0 e c hd sv) Q := by
  intro n
  have G := mm_hM n_Mo_inspect rfl
  have W' := W
  obtain ⟨w1, w2, w3, w4, w5, w6, w7, w8, w9, w10⟩ := W'
  have hBm : 0 ≤ (nI m).toInt ∧ (nI m).toInt < ((10 : Nat) : Int) := mm_nb w1 (by omega)
  have hcm : (nI m).toNatClampNeg = m := mm_ncl (by omega)
  induction n with
  | zero =>
    intro i c v3 hi bc hj
    have J : mm_SH (lk_L h0 e c hd sv) := I
    refine mm_go_from G (And.intro (k_80 J) (mm_rf (r_589 J) (And.intro ⟨k_91 J, mm_inb 10 (n_91 J) hBm⟩ (mm_rf (b := nI len) (by rw [hcm]; exact w3) (And.intro (fun c_61 => mm_go_from G (hQ0 (fun j h1 => hj j (by omega)) c bc)) (fun c_61 => ?_))))))
    have z : ¬ (nI len).toInt ≤ (nI i).toInt := c_61
    rw [mm_nt (by omega), mm_nt (by omega)] at z
    omega
  | succ n ih =>
    intro i c v3 hi bc hj
    have J : mm_SH (lk_L h0 e c hd sv) := I
    have hil : i < len := by omega
    have hB : 0 ≤ (nI i).toInt ∧ (nI i).toInt < ((20 : Nat) : Int) := mm_nb (by omega) (by omega)
    have hc : (nI i).toNatClampNeg = i := mm_ncl (by omega)
    have nx : ∀ (c : mm_F) (v : Value), lk_bn c.2.2.2 → ((lk_fr hd sv i).1 = -1 ∨ lk_er h0 nF m len i (lk_fr hd sv i) = 9) → mm_go ro (d + 6) mm_m_Mo_inspect 105 [.ref 80, .int (nI m), .int (nI i), v] [] (lk_L h0 e c hd sv) Q := by
      intro c v bc y
      have w := ih (i + 1) c v (by omega) bc (fun j h1 => by
        by_cases x : j = i
        · rw [x]; exact y
        · exact hj j (by omega))
      rw [nI_succ] at w
      exact mm_go_from G w
    refine mm_go_from G (And.intro (k_80 J) (mm_rf (r_589 J) (And.intro ⟨k_91 J, mm_inb 10 (n_91 J) hBm⟩ (mm_rf (b := nI len) (by rw [hcm]; exact w3) (And.intro (fun c_61 => ?_) (fun c_61 => ?_))))))
    · have z : (nI len).toInt ≤ (nI i).toInt := c_61
      rw [mm_nt (by omega), mm_nt (by omega)] at z
      omega
    · refine And.intro (k_80 J) (mm_rf (r_600 J) (And.intro ⟨k_102 J, mm_inb 20 (n_102 J) hB⟩ (mm_rf (b := (hd i).1) (by rw [hc]; rfl) (And.intro (fun c_71 => mm_go_from G ?_) (fun c_71 => nx c _ bc (Or.inl (mm_no c_71)))))))
      refine And.intro ⟨rfl, k_80 J⟩ (c_Mo_errorAt I W hF eF hil bs bc (VF i hil).1 (VF i hil).2 (fun c' bc' => And.intro (fun c_87 => mm_go_from G ?_) (fun c_87 => nx c' _ bc' (Or.inr (mm_no c_87)))))
      have J' : mm_SH (lk_L h0 e c' hd sv) := I
      refine And.intro (k_80 J') ?_
      rw [lk_32, lw_609]
      exact hQ1 i ⟨hil, c_71, c_87, hj⟩ c' bc'
theorem c_Mo_inspect {ro : mm_Ro} {d m len nF : Nat} {h0 : mm_H} {e : Int32 × Int32 × Int32} {c : mm_F} {hd : Nat → Int32 × Int32 × Int32} {sv : Nat → mm_V} {Q : Value → mm_H → Prop} (I : mm_SH h0) (hF : nF ≤ 12) (eF : mm_i h0 577 80 = nI nF) (hl : mm_a h0 91 m = nI len) (h20 : len ≤ 20) (U : mm_upo (mm_up h0)) (S : lk_SV h0) (MV : lk_MV h0 m) (W : ¬ 0 ≤ (mm_a h0 90 m).toInt → 0 < len → lk_WM h0 m len) (bs : lk_bn sv) (bc : lk_bn c.2.2.2)
    (hQ1 : 0 ≤ (mm_a h0 90 m).toInt → ∀ hd', (∀ j, j < 20 → (hd' j).1 = -1) → ∀ r : Int32, (lk_os h0 m ∧ r = 9) ∨ (¬ lk_os h0 m ∧ r = 0) → Q (.int r) (lk_L h0 (nI m, nI (32 * m + 31), e.2.2) c hd' sv))
    (hQ2 : ¬ 0 ≤ (mm_a h0 90 m).toInt → len = 0 → ∀ hd', (∀ j, j < 20 → (hd' j).1 = -1) → Q (.int 8) (lk_L h0 (nI m, nI (32 * m + 31), e.2.2) c hd' sv))
    (hQ3 : ¬ 0 ≤ (mm_a h0 90 m).toInt → 0 < len → ∀ (b : Int32) (c' : mm_F) (hd' : Nat → Int32 × Int32 × Int32) (sv' : Nat → mm_V), lk_bn c'.2.2.2 → lk_bn sv' → lk_LF h0 m len (lk_fr hd' sv') → (∀ j, len ≤ j → j < 20 → (hd' j).1 = -1) → lk_no h0 nF m len (lk_fr hd' sv') → Q (.int 0) (lk_L h0 (nI m, nI (32 * m + 31), b) c' hd' sv'))
    (hQ4 : ¬ 0 ≤ (mm_a h0 90 m).toInt → 0 < len → ∀ (b : Int32) (c' : mm_F) (hd' : Nat → Int32 × Int32 × Int32) (sv' : Nat → mm_V), lk_bn c'.2.2.2 → lk_bn sv' → lk_LF h0 m len (lk_fr hd' sv') → (∀ j, len ≤ j → j < 20 → (hd' j).1 = -1) → ∀ i, lk_fe h0 nF m len (lk_fr hd' sv') i → Q (.int (lk_er h0 nF m len i (lk_fr hd' sv' i))) (lk_L h0 (nI m, nI (32 * m + i), b) c' hd' sv')) : mm_ev ro (d + 7) n_Mo_inspect [.ref 80, .int (nI m)] (lk_L h0 e c hd sv) Q := by
  have G := mm_hM n_Mo_inspect rfl
  have hm := MV.1
  have J : mm_SH (lk_L h0 e c hd sv) := I
  have hBm : 0 ≤ (nI m).toInt ∧ (nI m).toInt < ((10 : Nat) : Int) := mm_nb hm (by omega)
  have hcm : (nI m).toNatClampNeg = m := mm_ncl (by omega)
  have e31 : (Int8.ofInt 32).toInt32 * nI m + (Int8.ofInt 31).toInt32 = nI (32 * m + 31) := lk_32 (i := 31)
  refine mm_ev_at 54 (Z := mm_m_Mo_inspect) rfl rfl (Nat.le_of_ble_eq_true rfl) rfl ?_
  refine And.intro ⟨rfl, k_80 J⟩ (c_Mo_look I hm hl h20 W bs bc (fun kl hd1 h1 => ?_) (fun k0 l0 b c1 hd1 sv1 bc1 bs1 LF un => ?_))
  · have J1 : mm_SH (lk_L h0 (nI m, e.2) c hd1 sv) := I
    refine And.intro (k_80 J1) ?_
    rw [e31, lw_609]
    have J2 : mm_SH (lk_L h0 (nI m, nI (32 * m + 31), e.2.2) c hd1 sv) := I
    refine And.intro (k_80 J2) (mm_rf (r_588 J2) (And.intro ⟨k_90 J2, mm_inb 10 (n_90 J2) hBm⟩ (mm_rf (b := mm_a h0 90 m) (by rw [hcm]; rfl) (And.intro (fun c_22 => mm_go_at 54 G ?_) (fun c_22 => ?_)))))
    · have k0 : ¬ 0 ≤ (mm_a h0 90 m).toInt := by
        have z : (mm_a h0 90 m).toInt < 0 := c_22
        omega
      have l0 : len = 0 := kl.resolve_left k0
      refine And.intro (k_80 J2) (mm_rf (r_589 J2) (And.intro ⟨k_91 J2, mm_inb 10 (n_91 J2) hBm⟩ (mm_rf (b := nI len) (by rw [hcm]; exact hl) (And.intro (fun c_46 => ?_) (fun c_46 => hQ2 k0 l0 hd1 h1)))))
      exact absurd (show nI len = 0 by rw [l0]; rfl) c_46
    · have k0 : 0 ≤ (mm_a h0 90 m).toInt := by
        have z : ¬ (mm_a h0 90 m).toInt < 0 := c_22
        omega
      have w := hQ1 k0 hd1 h1
      exact And.intro ⟨rfl, k_80 J2⟩ (c_Mo_isOutside J2 U S MV (And.intro (fun c_30 => mm_go_from G (w 0 (Or.inr ⟨mm_b0.mp c_30, rfl⟩))) (fun c_30 => mm_go_from G (w 9 (Or.inl ⟨mm_nn c_30, rfl⟩)))))
  · have J1 : mm_SH (lk_L h0 (nI m, e.2.1, b) c1 hd1 sv1) := I
    refine And.intro (k_80 J1) ?_
    rw [e31, lw_609]
    have J2 : mm_SH (lk_L h0 (nI m, nI (32 * m + 31), b) c1 hd1 sv1) := I
    refine And.intro (k_80 J2) (mm_rf (r_588 J2) (And.intro ⟨k_90 J2, mm_inb 10 (n_90 J2) hBm⟩ (mm_rf (b := mm_a h0 90 m) (by rw [hcm]; rfl) (And.intro (fun c_22 => mm_go_at 54 G ?_) (fun c_22 => ?_)))))
    · refine And.intro (k_80 J2) (mm_rf (r_589 J2) (And.intro ⟨k_91 J2, mm_inb 10 (n_91 J2) hBm⟩ (mm_rf (b := nI len) (by rw [hcm]; exact hl) (And.intro (fun c_46 => mm_go_at 54 G ?_) (fun c_46 => ?_)))))
      · exact l_in_54 (e := (nI m, nI (32 * m + 31), b)) I (W k0 l0) hF eF bs1 LF.1 (fun y c' bc' => hQ3 k0 l0 b c' hd1 sv1 bc' bs1 LF un y) (fun i y c' bc' => hQ4 k0 l0 b c' hd1 sv1 bc' bs1 LF un i y) len 0 c1 .null (by omega) bc1 (fun j hj => by omega)
      · have z : nI len = nI 0 := mm_no c_46
        have := (nI_eq (by omega) (by omega)).mp z
        omega
    · have z : ¬ (mm_a h0 90 m).toInt < 0 := c_22
      omega
