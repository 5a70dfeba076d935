/-! THE REFERENCE: look ends, with the least frames -/
theorem l_lo_75 {ro : mm_Ro} {d m len : Nat} {h0 : mm_H} {e : Int32 × Int32 × Int32} {hd0 : Nat → Int32 × Int32 × Int32} {sv0 : Nat → mm_V} {Q : Value → mm_H → Prop} (I : mm_SH h0) (W : lk_WM h0 m len) (he : e.1 = nI m) (hQ : ∀ (b : Int32) (c : mm_F) (hd : Nat → Int32 × Int32 × Int32) (sv : Nat → mm_V) (v : Value), lk_bn c.2.2.2 → lk_Rv (lk_sf h0 m) h0 m len hd sv → ((b = 1 ∧ lk_rs len (lk_fr hd0 sv0) < lk_rs len (lk_fr hd sv)) ∨ (b = 0 ∧ hd = hd0 ∧ sv = sv0 ∧ ∀ j, j < len → ¬ (hd0 j).1 = -1 → ∀ w, w < 3 → lk_cw h0 m len j (lk_fr hd0 sv0) w)) → mm_go ro (d + 5) mm_m_Mo_look 61 [.ref 80, .int (nI m), v] [] (lk_L h0 (e.1, e.2.1, b) c hd sv) Q) : ∀ (n i : Nat) (b : Int32) (c : mm_F) (hd : Nat → Int32 × Int32 × Int32) (sv : Nat → mm_V), i + n = len → lk_bn c.2.2.2 → lk_Rv (lk_sf h0 m) h0 m len hd sv → ((b = 1 ∧ lk_rs len (lk_fr hd0 sv0) < lk_rs len (lk_fr hd sv)) ∨ (b = 0 ∧ hd = hd0 ∧ sv = sv0 ∧ ∀ j, j < i → ¬ (hd0 j).1 = -1 → ∀ w, w < 3 → lk_cw h0 m len j (lk_fr hd0 sv0) w)) → mm_go ro (d + 5) mm_m_Mo_look 75 [.ref 80, .int (nI m), .int (nI i)] [] (lk_L h0 (e.1, e.2.1, b) c hd sv) Q := by
  intro n
  obtain ⟨w1, w2, w3, w4, w5, w6, w7, w8, w9, w10⟩ := W
  have W : lk_WM h0 m len := ⟨w1, w2, w3, w4, w5, w6, w7, w8, w9, w10⟩
  have hBm : 0 ≤ (nI m).toInt ∧ (nI m).toInt < ((10 : Nat) : Int) := mm_nb w1 (by omega)
  have hcm : (nI m).toNatClampNeg = m := mm_ncl (by omega)
  induction n with
  | zero =>
    intro i b c hd sv hin bc R p
    have J : mm_SH (lk_L h0 (e.1, e.2.1, b) c hd sv) := I
    refine mm_go_from (mm_hM n_Mo_look rfl) (And.intro (k_80 J) (mm_rf (r_589 J) (And.intro ⟨k_91 J, mm_inb 10 (n_91 J) hBm⟩ (mm_rf (b := nI len) (by rw [hcm]; exact w3) (And.intro (fun c_82 => mm_go_from (mm_hM n_Mo_look rfl) ?_) (fun c_82 => ?_))))))
    · rw [show i = len by omega] at p
      exact hQ b c hd sv _ bc R p
    · have z : ¬ (nI len).toInt ≤ (nI i).toInt := c_82
      rw [mm_nt (by omega), mm_nt (by omega)] at z
      omega
  | succ n ih =>
    intro i b c hd sv hin bc R p
    have J : mm_SH (lk_L h0 (e.1, e.2.1, b) c hd sv) := I
    have hB : 0 ≤ (nI i).toInt ∧ (nI i).toInt < ((20 : Nat) : Int) := mm_nb (by omega) (by omega)
    have hc : (nI i).toNatClampNeg = i := mm_ncl (by omega)
    refine mm_go_at 101 (mm_hM n_Mo_look rfl) (And.intro (k_80 J) (mm_rf (r_589 J) (And.intro ⟨k_91 J, mm_inb 10 (n_91 J) hBm⟩ (mm_rf (b := nI len) (by rw [hcm]; exact w3) (And.intro (fun c_82 => ?_) (fun c_82 => ?_))))))
    · have z : (nI len).toInt ≤ (nI i).toInt := c_82
      rw [mm_nt (by omega), mm_nt (by omega)] at z
      omega
    · have nx : ∀ (b : Int32) (c : mm_F) (hd : Nat → Int32 × Int32 × Int32) (sv : Nat → mm_V), lk_bn c.2.2.2 → lk_Rv (lk_sf h0 m) h0 m len hd sv → ((b = 1 ∧ lk_rs len (lk_fr hd0 sv0) < lk_rs len (lk_fr hd sv)) ∨ (b = 0 ∧ hd = hd0 ∧ sv = sv0 ∧ ∀ j, j < i + 1 → ¬ (hd0 j).1 = -1 → ∀ w, w < 3 → lk_cw h0 m len j (lk_fr hd0 sv0) w)) → mm_go ro (d + 5) mm_m_Mo_look 101 [.ref 80, .int (nI m), .int (nI i)] [] (lk_L h0 (e.1, e.2.1, b) c hd sv) Q := by
        intro b c hd sv bc R p
        have g := ih (i + 1) b c hd sv (by omega) bc R p
        rw [nI_succ] at g
        exact mm_go_from (mm_hM n_Mo_look rfl) g
      refine And.intro (k_80 J) (mm_rf (r_600 J) (And.intro ⟨k_102 J, mm_inb 20 (n_102 J) hB⟩ (mm_rf (b := (hd i).1) (by rw [hc]; rfl) (And.intro (fun c_92 => ?_) (fun c_92 => ?_)))))
      · have q : (hd i).1 = -1 := c_92
        refine nx b c hd sv bc R ?_
        rcases p with p | ⟨p1, p2, p3, p4⟩
        · exact Or.inl p
        · refine Or.inr ⟨p1, p2, p3, fun j hj nj => ?_⟩
          by_cases z : j = i
          · rw [z, ← p2] at nj
            exact absurd q nj
          · exact p4 j (by omega) nj
      · have q : ¬ (hd i).1 = -1 := c_92
        refine And.intro ⟨rfl, k_80 J⟩ (c_Mo_flow (e := (e.1, e.2.1, b)) I W he (by omega) R q bc (fun b' c' hd' sv' bc' s => nx b' c' hd' sv' bc' s.1 ?_))
        rcases s.2 with ⟨s1, s2⟩ | ⟨s1, s2, s3, s4⟩
        · refine Or.inl ⟨s1, ?_⟩
          rcases p with ⟨_, p2⟩ | ⟨_, p2, p3, _⟩
          · omega
          · rw [← p2, ← p3]; exact s2
        · rcases p with ⟨p1, p2⟩ | ⟨p1, p2, p3, p4⟩
          · exact Or.inl ⟨s1.trans p1, by rw [s2, s3]; exact p2⟩
          · refine Or.inr ⟨s1.trans p1, s2.trans p2, s3.trans p3, fun j hj nj w hw => ?_⟩
            by_cases z : j = i
            · rw [z, ← p2, ← p3]
              refine s4 w ?_
              have : w = 2 ∨ w = 1 ∨ w = 0 := by omega
              rcases this with y | y | y
              · exact Or.inl (Or.inl y)
              · exact Or.inl (Or.inr y)
              · exact Or.inr y
            · exact p4 j (by omega) nj w hw
theorem l_lo_61 {ro : mm_Ro} {d m len : Nat} {h0 : mm_H} {e : Int32 × Int32 × Int32} {Q : Value → mm_H → Prop} (I : mm_SH h0) (W : lk_WM h0 m len) (he : e.1 = nI m) (hQ : ∀ (b : Int32) (c : mm_F) (hd : Nat → Int32 × Int32 × Int32) (sv : Nat → mm_V), lk_bn c.2.2.2 → lk_bn sv → lk_LF h0 m len (lk_fr hd sv) → (∀ j, len ≤ j → j < 20 → (hd j).1 = -1) → Q .null (lk_L h0 (e.1, e.2.1, b) c hd sv)) : ∀ (n : Nat) (c : mm_F) (hd : Nat → Int32 × Int32 × Int32) (sv : Nat → mm_V) (v : Value), len * 255 < n + lk_rs len (lk_fr hd sv) → lk_bn c.2.2.2 → lk_Rv (lk_sf h0 m) h0 m len hd sv → mm_go ro (d + 5) mm_m_Mo_look 61 [.ref 80, .int (nI m), v] [] (lk_L h0 (e.1, e.2.1, 1) c hd sv) Q := by
  intro n
  induction n with
  | zero =>
    intro c hd sv v hn _ R
    have := lk_rs_max R.2.1.1
    omega
  | succ n ih =>
    intro c hd sv v hn bc R
    have J : mm_SH (lk_L h0 (e.1, e.2.1, 1) c hd sv) := I
    refine mm_go_at 75 (mm_hM n_Mo_look rfl) (And.intro (k_80 J) (mm_rf (show mm_i (lk_L h0 (e.1, e.2.1, 1) c hd sv) 610 80 = 1 from rfl) (And.intro (fun z => absurd z (show ¬ (1 : Int32) = 0 by decide)) (fun _ => And.intro (k_80 J) (And.intro (Or.inl rfl) ?_)))))
    rw [lw_610]
    refine l_lo_75 (e := e) (hd0 := hd) (sv0 := sv) I W he (fun b c' hd' sv' v' bc' R' p => ?_) len 0 0 c hd sv (by omega) bc R (Or.inr ⟨rfl, rfl, rfl, fun j hj => by omega⟩)
    rcases p with ⟨p1, p2⟩ | ⟨p1, p2, p3, p4⟩
    · rw [p1]
      exact ih c' hd' sv' v' (by omega) bc' R'
    · rw [p1]
      have J' : mm_SH (lk_L h0 (e.1, e.2.1, 0) c' hd' sv') := I
      refine mm_go_from (mm_hM n_Mo_look rfl) (And.intro (k_80 J') (mm_rf (show mm_i (lk_L h0 (e.1, e.2.1, 0) c' hd' sv') 610 80 = 0 from rfl) (And.intro (fun _ => mm_go_from (mm_hM n_Mo_look rfl) ?_) (fun z => absurd rfl z))))
      refine hQ 0 c' hd' sv' bc' R'.1 ?_ R'.2.2.2.1
      refine lk_fin W.2.2.2.1 (fun i hi => (W.2.2.2.2.2.2.1 i hi).1) W.2.1 R'.2.1 ⟨R'.2.2.2.2, fun i hi ni w hw y1 y2 => ?_⟩
      rw [p2, p3] at ni ⊢
      exact p4 i hi ni w hw y1 y2
theorem l_lo_7 {ro : mm_Ro} {d m : Nat} {h0 : mm_H} {e : Int32 × Int32 × Int32} {c : mm_F} {sv : Nat → mm_V} {Q : Value → mm_H → Prop} (I : mm_SH h0) (hQ : ∀ hd, (∀ j, j < 20 → (hd j).1 = -1) → mm_go ro (d + 5) mm_m_Mo_look 26 [.ref 80, .int (nI m), .int (nI 20)] [] (lk_L h0 e c hd sv) Q) : ∀ (n i : Nat) (hd : Nat → Int32 × Int32 × Int32), i + n = 20 → (∀ j, j < i → (hd j).1 = -1) → mm_go ro (d + 5) mm_m_Mo_look 7 [.ref 80, .int (nI m), .int (nI i)] [] (lk_L h0 e c hd sv) Q := by
  intro n
  have t20 : ((Int8.ofInt 20).toInt32).toInt = 20 := by decide
  induction n with
  | zero =>
    intro i hd hin h1
    refine mm_go_at 26 (mm_hM n_Mo_look rfl) (And.intro (fun c_10 => ?_) (fun c_10 => ?_))
    · rw [show i = 20 by omega] at h1 ⊢
      exact hQ hd h1
    · have q : ¬ ((Int8.ofInt 20).toInt32).toInt ≤ (nI i).toInt := c_10
      rw [t20, mm_nt (by omega)] at q
      omega
  | succ n ih =>
    intro i hd hin h1
    have J : mm_SH (lk_L h0 e c hd sv) := I
    have hB : 0 ≤ (nI i).toInt ∧ (nI i).toInt < ((20 : Nat) : Int) := mm_nb (by omega) (by omega)
    have hc : (nI i).toNatClampNeg = i := mm_ncl (by omega)
    refine mm_go_at 26 (mm_hM n_Mo_look rfl) (And.intro (fun c_10 => ?_) (fun c_10 => ?_))
    · have q : ((Int8.ofInt 20).toInt32).toInt ≤ (nI i).toInt := c_10
      rw [t20, mm_nt (by omega)] at q
      omega
    · refine And.intro (k_80 J) (mm_rf (r_600 J) (And.intro ⟨k_102 J, mm_inb 20 (n_102 J) hB⟩ ?_))
      have g := ih (i + 1) (lk_hu hd i (-1, (hd i).2)) (by omega) (fun j hj => by
        by_cases z : j = i
        · rw [z, lk_hu_t]
        · rw [lk_hu_f z]; exact h1 j (by omega))
      rw [nI_succ] at g
      rw [hc, lw_hi]
      exact g
theorem c_Mo_look {ro : mm_Ro} {d m len : Nat} {h0 : mm_H} {e : Int32 × Int32 × Int32} {c : mm_F} {hd : Nat → Int32 × Int32 × Int32} {sv : Nat → mm_V} {Q : Value → mm_H → Prop} (I : mm_SH h0) (hm : m < 10) (hl : mm_a h0 91 m = nI len) (h20 : len ≤ 20) (W : ¬ 0 ≤ (mm_a h0 90 m).toInt → 0 < len → lk_WM h0 m len) (bs : lk_bn sv) (bc : lk_bn c.2.2.2) (hQ1 : (0 ≤ (mm_a h0 90 m).toInt ∨ len = 0) → ∀ hd', (∀ j, j < 20 → (hd' j).1 = -1) → Q .null (lk_L h0 (nI m, e.2) c hd' sv)) (hQ2 : ¬ 0 ≤ (mm_a h0 90 m).toInt → 0 < len → ∀ (b : Int32) (c' : mm_F) (hd' : Nat → Int32 × Int32 × Int32) (sv' : Nat → mm_V), lk_bn c'.2.2.2 → lk_bn sv' → lk_LF h0 m len (lk_fr hd' sv') → (∀ j, len ≤ j → j < 20 → (hd' j).1 = -1) → Q .null (lk_L h0 (nI m, e.2.1, b) c' hd' sv')) : mm_ev ro (d + 6) n_Mo_look [.ref 80, .int (nI m)] (lk_L h0 e c hd sv) Q := by
  have J : mm_SH (lk_L h0 e c hd sv) := I
  have hBm : 0 ≤ (nI m).toInt ∧ (nI m).toInt < ((10 : Nat) : Int) := mm_nb hm (by omega)
  have hcm : (nI m).toNatClampNeg = m := mm_ncl (by omega)
  refine mm_ev_at 7 (Z := mm_m_Mo_look) rfl rfl (Nat.le_of_ble_eq_true rfl) rfl ?_
  refine And.intro (k_80 J) ?_
  rw [lw_608]
  refine l_lo_7 (e := (nI m, e.2)) I (fun hd1 h1 => ?_) 20 0 hd (by omega) (fun j hj => by omega)
  have J1 : mm_SH (lk_L h0 (nI m, e.2) c hd1 sv) := I
  have go45 : ¬ 0 ≤ (mm_a h0 90 m).toInt → 0 < len → mm_go ro (d + 5) mm_m_Mo_look 45 [.ref 80, .int (nI m), .int (nI 20)] [] (lk_L h0 (nI m, e.2) c hd1 sv) Q := by
    intro k0 l0
    have W' := W k0 l0
    obtain ⟨w1, w2, w3, w4, w5, w6, w7, w8, w9, w10⟩ := W'
    have W' : lk_WM h0 m len := ⟨w1, w2, w3, w4, w5, w6, w7, w8, w9, w10⟩
    refine mm_go_at 61 (mm_hM n_Mo_look rfl) (And.intro ⟨rfl, k_80 J1⟩ (c_Mo_start I w4 w5 bc (fun g hg bg => And.intro ⟨rfl, k_80 J1⟩ ?_)))
    have so := lk_sf_ok w4 w5
    have R0 : lk_Rv (-1, -1, 0, fun _ => (0, -1, 0, 0, -1)) h0 m len hd1 sv := ⟨bs, ⟨fun i hi => fun z => by
      have q : (lk_fr hd1 sv i).1 = -1 := h1 i (by omega)
      exact absurd q (mm_not_m1 z), fun Y _ _ i hi => Or.inl (h1 i (by omega))⟩, fun j hj => by rw [h1 j hj]; decide, fun j _ hj => h1 j hj, Or.inl rfl⟩
    have fe : mm_feq (lk_sf h0 m) (0, -1, 0, g) := by
      refine ⟨rfl, fun _ => ⟨rfl, rfl, fun v hv => ?_⟩⟩
      have hv' : (v : Int) < 6 + (0 : Int32).toInt := hv
      have z0 : (0 : Int32).toInt = 0 := by decide
      exact (hg v (by omega)).symm
    refine c_Mo_cm (T := 0) (ψ := lk_sf h0 m) I W' rfl (by omega) R0 (Or.inr ⟨rfl, fe, so.2, so.1, bg⟩) (fun _ Y _ PY => PY.1) (fun b hd2 sv2 R2 p2 K => ?_)
    have J2 : mm_SH (lk_L h0 (nI m, e.2.1, b) (0, -1, 0, g) hd2 sv2) := I
    refine And.intro (k_80 J2) (And.intro (Or.inr rfl) ?_)
    show mm_go ro (d + 5) mm_m_Mo_look 61 _ [] (mm_si (lk_L h0 (nI m, e.2.1, b) (0, -1, 0, g) hd2 sv2) 610 80 1) Q
    rw [lw_610]
    have jn := (lk_cm_jn (na := lk_na h0 m) l0 (Or.inr ⟨fun z => z rfl, fe, so.2, so.1⟩) K).1
    have st := (lk_jn_up (R0.2.1.1 0 l0) so.1 (Or.inr so.2) jn).1
    refine l_lo_61 (e := (nI m, e.2.1, b)) I W' rfl (fun b' c' hd' sv' b1 b2 LF un => hQ2 k0 l0 b' c' hd' sv' b1 b2 LF un) (len * 255 + 1) (0, -1, 0, g) hd2 sv2 _ (by omega) bg ⟨R2.1, R2.2.1, R2.2.2.1, R2.2.2.2.1, st⟩
  refine mm_go_at 45 (mm_hM n_Mo_look rfl) (And.intro (k_80 J1) (mm_rf (r_588 J1) (And.intro ⟨k_90 J1, mm_inb 10 (n_90 J1) hBm⟩ (mm_rf (b := mm_a h0 90 m) (by rw [hcm]; rfl) (And.intro (fun c_32 => mm_go_from (mm_hM n_Mo_look rfl) ?_) (fun c_32 => ?_))))))
  · exact hQ1 (Or.inl c_32) hd1 h1
  · have k0 : ¬ 0 ≤ (mm_a h0 90 m).toInt := c_32
    refine And.intro (k_80 J1) (mm_rf (r_589 J1) (And.intro ⟨k_91 J1, mm_inb 10 (n_91 J1) hBm⟩ (mm_rf (b := nI len) (by rw [hcm]; exact hl) (And.intro (fun c_41 => ?_) (fun c_41 => ?_)))))
    · have q : ¬ nI len = 0 := c_41
      refine go45 k0 (Nat.pos_of_ne_zero (fun z => q ?_))
      rw [z]
      decide
    · have q : nI len = 0 := mm_no c_41
      have q2 : nI len = nI 0 := q
      exact hQ1 (Or.inr ((nI_eq (by omega) (by omega)).mp q2)) hd1 h1
