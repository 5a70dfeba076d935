/-! THE REFERENCE: flow, the whole -/
theorem lk_S3_rs {Φ : mm_F} {h : mm_H} {m len i : Nat} {b0 b : Int32} {hd0 hd : Nat → Int32 × Int32 × Int32} {sv0 sv : Nat → mm_V} {P : Nat → Prop} (s : lk_S3 Φ h m len i b0 hd0 sv0 b hd sv P) : lk_rs len (lk_fr hd0 sv0) ≤ lk_rs len (lk_fr hd sv) := by
  rcases s.2 with ⟨_, z⟩ | ⟨_, z2, z3, _⟩
  · omega
  · rw [z2, z3]; exact Nat.le_refl _
/-- take, then effect; where the frame of the instruction fits -/
theorem l_fl_99 {Φ : mm_F} {ro : mm_Ro} {d m len i : Nat} {h0 : mm_H} {e : Int32 × Int32 × Int32} {b : Int32} {c : mm_F} {hd0 hd : Nat → Int32 × Int32 × Int32} {sv0 sv : Nat → mm_V} {P : Nat → Prop} {r0 r1 og : Int32} {v6 v8 : Value} {Q : Value → mm_H → Prop} (I : mm_SH h0) (W : lk_WM h0 m len) (he : e.1 = nI m) (hi : i < len) (s : lk_S3 Φ h0 m len i e.2.2 hd0 sv0 b hd sv P) (hP : ∀ v, v = 2 → P v) (q : ¬ lk_bad h0 m i (hd i).1.toInt) (hog : og = -1) (h15 : lk_o h0 m i = 15 → b = e.2.2 ∧ hd = hd0 ∧ sv = sv0) (h0r : r0.toInt = lk_w h0 m i 0) (h1r : r1.toInt = lk_w h0 m i 1) (bc : lk_bn c.2.2.2) (hQ : ∀ (b : Int32) (c' : mm_F) (hd' : Nat → Int32 × Int32 × Int32) (sv' : Nat → mm_V), lk_bn c'.2.2.2 → lk_S3 Φ h0 m len i e.2.2 hd0 sv0 b hd' sv' (fun v => (v = 2 ∨ v = 1) ∨ v = 0) → Q .null (lk_L h0 (e.1, e.2.1, b) c' hd' sv')) : mm_go ro (d + 4) mm_m_Mo_flow 99 [.ref 80, .int (nI m), .int (nI i), .int 0, .int r0, .int r1, v6, .int og, v8] [] (lk_L h0 (e.1, e.2.1, b) c hd sv) Q := by
  have J : mm_SH (lk_L h0 (e.1, e.2.1, b) c hd sv) := I
  obtain ⟨w1, w2, w3, w4, w5, w6, w7, w8, w9, w10⟩ := W
  have W : lk_WM h0 m len := ⟨w1, w2, w3, w4, w5, w6, w7, w8, w9, w10⟩
  have V := w7 i hi
  have A := V.1
  have R := s.1
  obtain ⟨eH, G, eo⟩ := lk_Gd_of (R.2.1.1 i hi) q
  have g0 := (lk_good q).1
  have n1 : ¬ (hd i).1 = -1 := mm_not_m1 g0
  have hX : 0 ≤ ((Int8.ofInt 20).toInt32 * nI m + nI i).toInt ∧ ((Int8.ofInt 20).toInt32 * nI m + nI i).toInt < ((200 : Nat) : Int) := by rw [lk_20]; exact mm_nb (by omega) (by omega)
  have hXc : ((Int8.ofInt 20).toInt32 * nI m + nI i).toNatClampNeg = 20 * m + i := by rw [lk_20]; exact mm_ncl (by omega)
  generalize hH : (hd i).1.toInt.toNat = H at eH G eo
  have G' := G
  obtain ⟨G1, G2, G3, G4⟩ := G'
  have eN : 6 + (hd i).1 = nI (6 + H) := by rw [eH]; exact lk_6
  have ml : ∀ v, v < 10 → v % 10 = v := fun v hv => Nat.mod_eq_of_lt hv
  have bg : lk_bn (lk_pre (fun v => sv (10 * i + v)) c.2.2.2 (6 + H)) := lk_bn_pre (fun v => R.1 _) bc
  have eg : ∀ v, v < 6 + H → (fun v => sv (10 * i + v % 10)) v = lk_pre (fun v => sv (10 * i + v)) c.2.2.2 (6 + H) v := fun v hv => by
    rw [lk_pre_t hv]
    show sv (10 * i + v % 10) = _
    rw [ml v (by omega)]
  -- effect, and on
  have g137 : ∀ og' : Int32, (¬ lk_o h0 m i = 15 ∧ og' = -1) ∨ (lk_o h0 m i = 15 ∧ og' = (sv (10 * i + (5 + H))).2.2.2.2) → mm_go ro (d + 4) mm_m_Mo_flow 137 [.ref 80, .int (nI m), .int (nI i), .int 0, .int r0, .int r1, v6, .int og', v8] [] (lk_L h0 (e.1, e.2.1, b) ((hd i).1, (hd i).2.1, (hd i).2.2, lk_pre (fun v => sv (10 * i + v)) c.2.2.2 (6 + H)) hd sv) Q := by
    intro og' ho
    have J' : mm_SH (lk_L h0 (e.1, e.2.1, b) ((hd i).1, (hd i).2.1, (hd i).2.2, lk_pre (fun v => sv (10 * i + v)) c.2.2.2 (6 + H)) hd sv) := I
    rw [eH]
    refine mm_go_at 143 (mm_hM n_Mo_flow rfl) (And.intro ⟨rfl, k_80 J⟩ (c_Mo_effect I w1 (by omega) V w4 G1 G3 G4 bg (fun c' hc' bc' => ?_)))
    have ok : ∀ w, mm_fok (lk_na h0 m) (lk_out h0 m i w (lk_fr hd sv i)) := fun w => (lk_out_ok w4 (by omega) A (R.2.1.1 i hi)).1
    have pos : ∀ w, 0 ≤ (lk_out h0 m i w (lk_fr hd sv i)).1.toInt := fun w => by rw [eo w]; exact lk_ew_pos A.1 G1
    have plain : (∀ w, w < 2 → mm_feq (lk_out h0 m i w (lk_fr hd sv i)) c') → og'.toInt < 0 → mm_go ro (d + 4) mm_m_Mo_flow 143 [.ref 80, .int (nI m), .int (nI i), .int 0, .int r0, .int r1, v6, .int og', v8] [] (lk_L h0 (e.1, e.2.1, b) c' hd sv) Q := by
      intro hf ho'
      refine l_fl_143 (e := e) (ψ := fun w => lk_out h0 m i w (lk_fr hd sv i)) I W he hi s h0r h1r (Or.inr ho') (fun w hw => Or.inr ⟨rfl, hf w hw, pos w, ok w, bc'⟩) (fun w hw y1 y2 => lk_way R.2.1 A hi n1 (by omega) y1 y2) (fun w hw z1 z2 => by rw [z1, z2]) (fun b' hd' sv' s' => hQ b' c' hd' sv' bc' ⟨s'.1, ?_⟩) (lk_S3_rs s)
      rcases s'.2 with z | ⟨z1, z2, z3, z4⟩
      · exact Or.inl z
      · refine Or.inr ⟨z1, z2, z3, fun w hw => z4 w ?_⟩
        rcases hw with (hw | hw) | hw
        · exact Or.inl (Or.inl (hP w hw))
        · exact Or.inl (Or.inr hw)
        · exact Or.inr hw
    rcases ho with ⟨ho, ho2⟩ | ⟨ho, ho2⟩
    · refine plain (fun w hw => ?_) (by rw [ho2]; decide)
      rw [eo w]
      refine mm_feq_trans (lk_ew_eq w9 w4 (by omega) A G2 eg G3 G4) ?_
      have : lk_ew h0 m i H (hd i).2.1 (hd i).2.2 (lk_pre (fun v => sv (10 * i + v)) c.2.2.2 (6 + H)) w = lk_ef h0 m i H (lk_a h0 m i) (hd i).2.1 (hd i).2.2 (lk_pre (fun v => sv (10 * i + v)) c.2.2.2 (6 + H)) (lk_o h0 m i) := by
        rcases w with _ | _ | w
        · exact lk_is_n ho
        · exact lk_is_n ho
        · omega
      rw [this]
      exact hc'
    · rw [ho] at hc'
      have hH1 : 1 ≤ H := by
        rw [ho] at G3
        exact G3
      have hc1 : nI (H - 1) = c'.1 := hc'.1
      obtain ⟨hc2, hc3, hc4⟩ := hc'.2 (by show 0 ≤ (nI (H - 1)).toInt; rw [mm_nt (by omega)]; omega)
      have cc4 : ∀ v, v < 5 + H → c'.2.2.2 v = sv (10 * i + v) := fun v hv => by
        have z : lk_pre (fun v => sv (10 * i + v)) c.2.2.2 (6 + H) v = c'.2.2.2 v := hc4 v (by show (v : Int) < 6 + (nI (H - 1)).toInt; rw [mm_nt (by omega)]; omega)
        rw [← z, lk_pre_t (by omega)]
      have vt := (G2.2.2.2.2 (5 + H) (by omega)).1
      have e5 : (fun v => sv (10 * i + v % 10)) (5 + H) = sv (10 * i + (5 + H)) := by
        show sv (10 * i + (5 + H) % 10) = _
        rw [ml _ (by omega)]
      rw [e5] at vt
      have ro5 := vt.2.2.2.2.2
      by_cases zo : og'.toInt < 0
      · have em : (sv (10 * i + (5 + H))).2.2.2.2 = -1 := Int32.toInt_inj.mp (by
          rw [← ho2] at ro5 ⊢
          have : (-1 : Int32).toInt = -1 := by decide
          omega)
        refine plain (fun w hw => ?_) zo
        rw [eo w]
        have : lk_ew h0 m i H (hd i).2.1 (hd i).2.2 (fun v => sv (10 * i + v % 10)) w = lk_ef h0 m i H (lk_a h0 m i) (hd i).2.1 (hd i).2.2 (fun v => sv (10 * i + v % 10)) 15 := by
          have hs : ∀ F : mm_V → mm_V, lk_is (lk_o h0 m i) (fun v => sv (10 * i + v % 10)) H F (lk_ef h0 m i H (lk_a h0 m i) (hd i).2.1 (hd i).2.2 (fun v => sv (10 * i + v % 10)) (lk_o h0 m i)) = lk_ef h0 m i H (lk_a h0 m i) (hd i).2.1 (hd i).2.2 (fun v => sv (10 * i + v % 10)) 15 := by
            intro F
            rw [ho]
            unfold lk_is
            rw [e5, if_neg (fun z => z.2 em)]
          rcases w with _ | _ | w
          · exact hs lk_n0
          · exact hs lk_nk
          · omega
        rw [this]
        refine ⟨hc1, fun _ => ⟨hc2, hc3, fun v hv => ?_⟩⟩
        have hv' : (v : Int) < 6 + (nI (H - 1)).toInt := hv
        rw [mm_nt (by omega)] at hv'
        show sv (10 * i + v % 10) = _
        rw [ml v (by omega), cc4 v (by omega)]
      · obtain ⟨l, hl, el⟩ := mm_of (N := 6) (x := og') (by rw [← ho2] at ro5; omega)
        obtain ⟨z1, z2, z3⟩ := h15 ho
        have eog : (sv (10 * i + (5 + H) % 10)).2.2.2.2 = nI l := by rw [ml _ (by omega), ← ho2, el]
        subst z1
        subst z2
        subst z3
        exact l_fl_15 (e := e) (H := H) I W he hi R n1 q eH G eo ho el hl eog h0r h1r hc1.symm hc2.symm hc3.symm cc4 bc' hQ
  refine mm_go_at 137 (mm_hM n_Mo_flow rfl) (And.intro (fun z => absurd rfl z) (fun _ => And.intro ⟨rfl, k_80 J⟩ (c_Mo_take I (by omega) eN (by omega) R.1 ?_)))
  refine And.intro (k_80 J) (mm_rf (r_595 J) (And.intro ⟨k_97 J, mm_inb 200 (n_97 J) hX⟩ (mm_rf (b := nI (lk_o h0 m i)) (by rw [hXc]; exact V.2.1) (And.intro (fun c_121 => ?_) (fun c_121 => ?_)))))
  · have n15 : ¬ nI (lk_o h0 m i) = nI 15 := c_121
    exact g137 og (Or.inl ⟨fun z => n15 (by rw [z]), hog⟩)
  · have e15 : nI (lk_o h0 m i) = nI 15 := mm_no c_121
    have o15 := (lk_b13 A.1 15 (by omega)).mp e15
    have hH1 : 1 ≤ H := by
      rw [o15] at G3
      exact G3
    have hB : 0 ≤ (Int32.ofInt 5 + (hd i).1).toInt ∧ (Int32.ofInt 5 + (hd i).1).toInt < ((10 : Nat) : Int) := by rw [eH, lk_5]; exact mm_nb (by omega) (by omega)
    have hc : (Int32.ofInt 5 + (hd i).1).toNatClampNeg = 5 + H := by rw [eH, lk_5]; exact mm_ncl (by omega)
    refine And.intro (k_80 J) (mm_rf (r_617 J) (And.intro (k_80 J) (mm_rf (show mm_i (lk_L h0 (e.1, e.2.1, b) ((hd i).1, (hd i).2.1, (hd i).2.2, lk_pre (fun v => sv (10 * i + v)) c.2.2.2 (6 + H)) hd sv) 611 80 = (hd i).1 from rfl) (And.intro ⟨k_113 J, mm_inb 10 (n_113 J) hB⟩ (mm_rf (b := (sv (10 * i + (5 + H))).2.2.2.2) (by
      rw [hc]
      show (lk_pre (fun v => sv (10 * i + v)) c.2.2.2 (6 + H) (5 + H)).2.2.2.2 = _
      rw [lk_pre_t (by omega)]) ?_)))))
    exact g137 _ (Or.inr ⟨o15, rfl⟩)
/-- the same where a coming has made the frame CLASH -/
theorem l_fl_gar {Φ : mm_F} {ro : mm_Ro} {d m len i : Nat} {h0 : mm_H} {e : Int32 × Int32 × Int32} {b : Int32} {c : mm_F} {hd0 hd : Nat → Int32 × Int32 × Int32} {sv0 sv : Nat → mm_V} {r0 r1 og : Int32} {v6 v8 : Value} {Q : Value → mm_H → Prop} (I : mm_SH h0) (W : lk_WM h0 m len) (he : e.1 = nI m) (hi : i < len) (R : lk_Rv Φ h0 m len hd sv) (hb1 : b = 1) (hrs : lk_rs len (lk_fr hd0 sv0) < lk_rs len (lk_fr hd sv)) (q : (hd i).1 = -2) (ho : lk_o h0 m i = 11 ∨ lk_o h0 m i = 12 ∨ lk_o h0 m i = 17) (hog : og = -1) (h0r : r0.toInt = lk_w h0 m i 0) (h1r : r1.toInt = lk_w h0 m i 1) (bc : lk_bn c.2.2.2) (hQ : ∀ (b : Int32) (c' : mm_F) (hd' : Nat → Int32 × Int32 × Int32) (sv' : Nat → mm_V), lk_bn c'.2.2.2 → lk_S3 Φ h0 m len i e.2.2 hd0 sv0 b hd' sv' (fun v => (v = 2 ∨ v = 1) ∨ v = 0) → Q .null (lk_L h0 (e.1, e.2.1, b) c' hd' sv')) : mm_go ro (d + 4) mm_m_Mo_flow 99 [.ref 80, .int (nI m), .int (nI i), .int 0, .int r0, .int r1, v6, .int og, v8] [] (lk_L h0 (e.1, e.2.1, b) c hd sv) Q := by
  have J : mm_SH (lk_L h0 (e.1, e.2.1, b) c hd sv) := I
  obtain ⟨w1, w2, w3, w4, w5, w6, w7, w8, w9, w10⟩ := W
  have W : lk_WM h0 m len := ⟨w1, w2, w3, w4, w5, w6, w7, w8, w9, w10⟩
  have V := w7 i hi
  have hX : 0 ≤ ((Int8.ofInt 20).toInt32 * nI m + nI i).toInt ∧ ((Int8.ofInt 20).toInt32 * nI m + nI i).toInt < ((200 : Nat) : Int) := by rw [lk_20]; exact mm_nb (by omega) (by omega)
  have hXc : ((Int8.ofInt 20).toInt32 * nI m + nI i).toNatClampNeg = 20 * m + i := by rw [lk_20]; exact mm_ncl (by omega)
  have m2 : (hd i).1.toInt = -2 := by rw [q]; decide
  have eN : 6 + (hd i).1 = nI 4 := by rw [q]; decide
  have n15 : ¬ nI (lk_o h0 m i) = nI 15 := fun z => by
    have := (lk_b13 V.1.1 15 (by omega)).mp z
    omega
  have W1 : lk_w h0 m i 1 = -1 := if_neg (by omega)
  have bg : lk_bn (lk_pre (fun v => sv (10 * i + v)) c.2.2.2 4) := lk_bn_pre (fun v => R.1 _) bc
  refine mm_go_at 137 (mm_hM n_Mo_flow rfl) (And.intro (fun z => absurd rfl z) (fun _ => And.intro ⟨rfl, k_80 J⟩ (c_Mo_take I (by omega) eN (by omega) R.1 ?_)))
  refine And.intro (k_80 J) (mm_rf (r_595 J) (And.intro ⟨k_97 J, mm_inb 200 (n_97 J) hX⟩ (mm_rf (b := nI (lk_o h0 m i)) (by rw [hXc]; exact V.2.1) (And.intro (fun c_121 => ?_) (fun c_121 => absurd n15 c_121)))))
  refine mm_go_at 143 (mm_hM n_Mo_flow rfl) (And.intro ⟨rfl, k_80 J⟩ (c_Mo_effect_g I w1 (by omega) V w4 ho m2 bg (fun c' hc' bc' => ?_)))
  have J' : mm_SH (lk_L h0 (e.1, e.2.1, b) c' hd sv) := I
  refine mm_go_at 191 (mm_hM n_Mo_flow rfl) (And.intro (fun _ => mm_go_from (mm_hM n_Mo_flow rfl) ?_) (fun z => absurd (show r1.toInt < 0 by omega) z))
  refine And.intro (fun c_193 => mm_go_at 243 (mm_hM n_Mo_flow rfl) ?_) (fun c_193 => ?_)
  · have p : 0 ≤ r0.toInt := c_193
    have w20 := lk_w20 (w := 0) W hi
    obtain ⟨e1, e2⟩ := lk_w_nI h0r p (by rw [h0r]; omega)
    refine And.intro (fun z => absurd rfl z) (fun _ => And.intro (fun _ => ?_) (fun z => absurd (show og.toInt < 0 by rw [hog]; decide) z))
    refine mm_go_from (mm_hM n_Mo_flow rfl) (And.intro ⟨rfl, k_80 J'⟩ ?_)
    rw [e1]
    refine c_Mo_cmg (e := (e.1, e.2.1, b)) I W he (by omega) R hc' bc' (fun z => ?_) (fun hT Y VY PY => ?_) (fun b' hd' sv' R' hb' hr' => hQ b' c' hd' sv' bc' ⟨R', Or.inl ⟨?_, by omega⟩⟩)
    · have W0 : lk_w h0 m i 0 = (i : Int) + 1 := by
        refine if_neg (fun y => ?_)
        have : lk_w h0 m i 0 = -1 := if_pos y
        omega
      omega
    · have l := R.2.1.2 Y VY PY i hi
      have y2 : (Y i).1 = -2 := by
        rcases l with l | l | ⟨_, l, _⟩
        · exact absurd (q.symm.trans l) (by decide)
        · exact l
        · have : 0 ≤ (hd i).1.toInt := l
          omega
      have l2 := PY.2 i hi (by rw [y2]; decide) 0 (by omega) (by omega) (by omega)
      rw [lk_out_b (lk_bad_neg (by rw [y2]; decide))] at l2
      rcases l2 with l2 | l2 | ⟨_, l2, _⟩
      · exact absurd l2 (by decide)
      · exact l2
      · exact absurd l2 (by decide)
    · rcases hb' with z | z
      · exact z
      · exact z.trans hb1
  · exact hQ b c' hd sv bc' ⟨R, Or.inl ⟨hb1, hrs⟩⟩
