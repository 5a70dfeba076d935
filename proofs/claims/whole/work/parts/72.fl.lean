/-! THE REFERENCE: flow, where all is well -/
theorem lk_ef_pos {h : mm_H} {m i H a o : Nat} {s f : Int32} {g : Nat → mm_V} (ho : o < 18) (hH : H ≤ 4) : 0 ≤ (lk_ef h m i H a s f g o).1.toInt := by
  have hn : ∀ n : Nat, n ≤ 5 → 0 ≤ (nI n).toInt := fun n hn => by rw [mm_nt (by omega)]; omega
  rcases lk_o_cases ho with rfl | rfl | rfl | rfl | rfl | rfl | rfl | rfl | rfl | rfl | rfl | rfl | rfl | rfl | rfl | rfl | rfl | rfl
  case _ => exact hn _ (by omega)
  case _ => exact hn _ (by omega)
  case _ => exact hn _ (by omega)
  case _ => exact hn _ (by omega)
  case _ => exact hn _ (by omega)
  case _ => exact hn _ (by omega)
  case _ => exact hn _ (by omega)
  case _ => exact hn _ (by omega)
  case _ => exact hn _ (by omega)
  case _ => exact hn _ (by omega)
  case _ => exact hn _ (by omega)
  case _ =>
    show 0 ≤ (if mm_a h 93 (4 * a + 3) = -2 then _ else _ : mm_F).1.toInt
    split
    · exact hn _ (by omega)
    · exact hn _ (by omega)
  case _ => exact hn _ (by omega)
  case _ => exact hn _ (by omega)
  case _ => exact hn _ (by omega)
  case _ => exact hn _ (by omega)
  case _ => exact hn _ (by omega)
  case _ => exact hn _ (by omega)
theorem lk_ew_pos {h : mm_H} {m i H w : Nat} {s f : Int32} {g : Nat → mm_V} (ho : lk_o h m i < 18) (hH : H ≤ 4) : 0 ≤ (lk_ew h m i H s f g w).1.toInt := by
  have e := lk_ef_pos (h := h) (m := m) (i := i) (a := lk_a h m i) (s := s) (f := f) (g := g) ho hH
  have hs : ∀ F : mm_V → mm_V, 0 ≤ (lk_is (lk_o h m i) g H F (lk_ef h m i H (lk_a h m i) s f g (lk_o h m i))).1.toInt := by
    intro F
    unfold lk_is
    split
    · exact e
    · exact e
  rcases w with _ | _ | w
  · exact hs lk_n0
  · exact hs lk_nk
  · exact (by decide : (0 : Int) ≤ (1 : Int32).toInt)
/-- a frame that is there and fits -/
def lk_Gd (h : mm_H) (m i H : Nat) (s f : Int32) (g : Nat → mm_V) : Prop := H ≤ 4 ∧ lk_ok (lk_na h m) H s f g ∧ lk_po h m (lk_o h m i) (lk_a h m i) ≤ H ∧ H - lk_po h m (lk_o h m i) (lk_a h m i) + lk_pu h (lk_o h m i) (lk_a h m i) ≤ 4
theorem lk_Gd_of {h : mm_H} {m i : Nat} {hd : Nat → Int32 × Int32 × Int32} {sv : Nat → mm_V} (o : mm_fok (lk_na h m) (lk_fr hd sv i)) (q : ¬ lk_bad h m i (hd i).1.toInt) : (hd i).1 = nI (hd i).1.toInt.toNat ∧ lk_Gd h m i (hd i).1.toInt.toNat (hd i).2.1 (hd i).2.2 (fun v => sv (10 * i + v % 10)) ∧ ∀ w, lk_out h m i w (lk_fr hd sv i) = lk_ew h m i (hd i).1.toInt.toNat (hd i).2.1 (hd i).2.2 (fun v => sv (10 * i + v % 10)) w := by
  obtain ⟨g0, g1, g2⟩ := lk_good q
  have h4 : (hd i).1.toInt ≤ 4 := (o g0).1
  have e := lk_nI_of g0 h4
  refine ⟨e, ⟨by omega, lk_ok_of (by omega) ?_, g1, g2⟩, fun w => lk_out_g q⟩
  rw [← e]
  exact o
theorem l_fl_15 {Φ : mm_F} {ro : mm_Ro} {d m len i H l : Nat} {h0 : mm_H} {e : Int32 × Int32 × Int32} {c : mm_F} {hd : Nat → Int32 × Int32 × Int32} {sv : Nat → mm_V} {r0 r1 og : Int32} {v6 v8 : Value} {Q : Value → mm_H → Prop} (I : mm_SH h0) (W : lk_WM h0 m len) (he : e.1 = nI m) (hi : i < len) (R : lk_Rv Φ h0 m len hd sv) (n1 : ¬ (hd i).1 = -1) (q : ¬ lk_bad h0 m i (hd i).1.toInt) (eH : (hd i).1 = nI H) (G : lk_Gd h0 m i H (hd i).2.1 (hd i).2.2 (fun v => sv (10 * i + v % 10))) (eo : ∀ w, lk_out h0 m i w (lk_fr hd sv i) = lk_ew h0 m i H (hd i).2.1 (hd i).2.2 (fun v => sv (10 * i + v % 10)) w) (o15 : lk_o h0 m i = 15) (hog : og = nI l) (hl : l < 6) (eog : (sv (10 * i + (5 + H) % 10)).2.2.2.2 = nI l) (h0r : r0.toInt = lk_w h0 m i 0) (h1r : r1.toInt = lk_w h0 m i 1) (c1 : c.1 = nI (H - 1)) (c2 : c.2.1 = (hd i).2.1) (c3 : c.2.2.1 = (hd i).2.2) (c4 : ∀ v, v < 5 + H → c.2.2.2 v = sv (10 * i + v)) (bc : lk_bn c.2.2.2) (hQ : ∀ (b : Int32) (c' : mm_F) (hd' : Nat → Int32 × Int32 × Int32) (sv' : Nat → mm_V), lk_bn c'.2.2.2 → lk_S3 Φ h0 m len i e.2.2 hd sv b hd' sv' (fun v => (v = 2 ∨ v = 1) ∨ v = 0) → Q .null (lk_L h0 (e.1, e.2.1, b) c' hd' sv')) : mm_go ro (d + 4) mm_m_Mo_flow 143 [.ref 80, .int (nI m), .int (nI i), .int 0, .int r0, .int r1, v6, .int og, v8] [] (lk_L h0 e c hd sv) Q := by
  have J : mm_SH (lk_L h0 e c hd sv) := I
  obtain ⟨w1, w2, w3, w4, w5, w6, w7, w8, w9, w10⟩ := W
  have W : lk_WM h0 m len := ⟨w1, w2, w3, w4, w5, w6, w7, w8, w9, w10⟩
  obtain ⟨G1, G2, G3, G4⟩ := G
  have V := w7 i hi
  have A := V.1
  have hH1 : 1 ≤ H := by
    rw [o15] at G3
    exact G3
  have W0 : lk_w h0 m i 0 = (i : Int) + 1 := if_neg (by omega)
  have W1 : lk_w h0 m i 1 = (lk_a h0 m i : Int) := by
    show (if 13 ≤ lk_o h0 m i ∧ lk_o h0 m i ≤ 15 then (mm_a h0 98 (20 * m + i)).toInt else (-1 : Int)) = _
    rw [if_pos (by omega), (V.2.2.2.2 (by omega)).1, mm_nt (by have := (V.2.2.2.2 (by omega)).2; omega)]
  have a20 := (V.2.2.2.2 (by omega)).2
  have W2 : lk_w h0 m i 2 = -1 := if_neg (by omega)
  have nl : ¬ nI l = -1 := mm_not_m1 (by rw [mm_nt (by omega)]; omega)
  have tl : (nI l).toInt.toNat = l := by rw [mm_nt (by omega)]; omega
  have m5 : (5 + H) % 10 = 5 + H := Nat.mod_eq_of_lt (by omega)
  have ml : ∀ v, v < 10 → v % 10 = v := fun v hv => Nat.mod_eq_of_lt hv
  have vl := G2.2.2.2.2 l (by omega)
  have vl' : mm_vr (sv (10 * i + l)) ∧ (sv (10 * i + l)).2.2.2.2 = -1 := by
    have a := vl.1
    have b := vl.2.2 hl
    rw [show (fun v => sv (10 * i + v % 10)) l = sv (10 * i + l) by show sv (10 * i + l % 10) = _; rw [ml l (by omega)]] at a b
    exact ⟨a, b⟩
  have eis : ∀ F : mm_V → mm_V, lk_is (lk_o h0 m i) (fun v => sv (10 * i + v % 10)) H F (lk_ef h0 m i H (lk_a h0 m i) (hd i).2.1 (hd i).2.2 (fun v => sv (10 * i + v % 10)) (lk_o h0 m i)) = (nI (H - 1), (hd i).2.1, (hd i).2.2, lk_up (fun v => sv (10 * i + v % 10)) l (F (sv (10 * i + l)))) := by
    intro F
    unfold lk_is
    have ex : ((fun v => sv (10 * i + v % 10)) (5 + H)).2.2.2.2 = nI l := eog
    rw [ex, if_pos ⟨o15, nl⟩, tl, o15]
    show (nI (H - 1), (hd i).2.1, (hd i).2.2, lk_up (fun v => sv (10 * i + v % 10)) l (F (sv (10 * i + l % 10)))) = _
    rw [ml l (by omega)]
  have E0 : lk_out h0 m i 0 (lk_fr hd sv i) = (nI (H - 1), (hd i).2.1, (hd i).2.2, lk_up (fun v => sv (10 * i + v % 10)) l (lk_n0 (sv (10 * i + l)))) := (eo 0).trans (eis lk_n0)
  have E1 : lk_out h0 m i 1 (lk_fr hd sv i) = (nI (H - 1), (hd i).2.1, (hd i).2.2, lk_up (fun v => sv (10 * i + v % 10)) l (lk_nk (sv (10 * i + l)))) := (eo 1).trans (eis lk_nk)
  have ok : ∀ w, mm_fok (lk_na h0 m) (lk_out h0 m i w (lk_fr hd sv i)) := fun w => (lk_out_ok w4 (by omega) A (R.2.1.1 i hi)).1
  have pos : ∀ w, 0 ≤ (lk_out h0 m i w (lk_fr hd sv i)).1.toInt := fun w => by rw [eo w]; exact lk_ew_pos A.1 G1
  have hB : 0 ≤ (nI l).toInt ∧ (nI l).toInt < ((10 : Nat) : Int) := mm_nb (by omega) (by omega)
  have hc : (nI l).toNatClampNeg = l := mm_ncl (by omega)
  -- what goes on, once to has come
  have g191 : ∀ (b : Int32) (c' : mm_F) (hd' : Nat → Int32 × Int32 × Int32) (sv' : Nat → mm_V), c'.1 = c.1 → c'.2.1 = c.2.1 → c'.2.2.1 = c.2.2.1 → (∀ v, v < 5 + H → ¬ v = l → c'.2.2.2 v = sv (10 * i + v)) → lk_bn c'.2.2.2 → sv' (10 * i + l) = sv (10 * i + l) → lk_S3 Φ h0 m len i e.2.2 hd sv b hd' sv' (fun v => v = 2 ∨ v = 1) → mm_go ro (d + 4) mm_m_Mo_flow 191 [.ref 80, .int (nI m), .int (nI i), .int 0, .int r0, .int r1, v6, .int og, v8] [] (lk_L h0 (e.1, e.2.1, b) c' hd' sv') Q := by
    intro b c' hd' sv' d1 d2 d3 d4 d5 d6 s
    have J' : mm_SH (lk_L h0 (e.1, e.2.1, b) c' hd' sv') := I
    obtain ⟨e1, e2⟩ := lk_w_nI h0r (by rw [h0r, W0]; omega) (by rw [h0r, W0]; omega)
    rw [e1, hog]
    have p0 : ¬ (nI l).toInt < 0 := by rw [mm_nt (by omega)]; omega
    have pw : 0 ≤ (nI (lk_w h0 m i 0).toNat).toInt := by rw [mm_nt (by omega)]; omega
    have hX : 0 ≤ ((Int8.ofInt 10).toInt32 * nI i + nI l).toInt ∧ ((Int8.ofInt 10).toInt32 * nI i + nI l).toInt < ((200 : Nat) : Int) := by rw [lk_10]; exact mm_nb (by omega) (by omega)
    have hXc : ((Int8.ofInt 10).toInt32 * nI i + nI l).toNatClampNeg = 10 * i + l := by rw [lk_10]; exact mm_ncl (by omega)
    refine mm_go_from (mm_hM n_Mo_flow rfl) (And.intro (fun _ => mm_go_at 243 (mm_hM n_Mo_flow rfl) ?_) (fun c_193 => absurd pw c_193))
    refine And.intro (fun z => absurd rfl z) (fun _ => And.intro (fun z => absurd z p0) (fun _ => ?_))
    refine And.intro (k_80 J') (mm_rf (r_603 J') (And.intro ⟨k_105 J', mm_inb 200 (n_105 J') hX⟩ (mm_rf (b := (sv (10 * i + l)).1) (by rw [hXc, ← d6]; rfl) (And.intro (k_80 J') (mm_rf (r_604 J') (And.intro ⟨k_106 J', mm_inb 200 (n_106 J') hX⟩ (mm_rf (b := (sv (10 * i + l)).2.1) (by rw [hXc, ← d6]; rfl) (And.intro (k_80 J') (mm_rf (r_605 J') (And.intro ⟨k_107 J', mm_inb 200 (n_107 J') hX⟩ (mm_rf (b := (sv (10 * i + l)).2.2.2.1) (by rw [hXc, ← d6]; rfl) (And.intro ⟨rfl, k_80 J'⟩ (c_Mo_set I rfl (by omega) (Or.inl rfl) ?_)))))))))))))
    refine l_fl_243 (e := e) (ψ := lk_out h0 m i 0 (lk_fr hd sv i)) I W he (by omega) s e2 (Or.inr ⟨rfl, ?_, pos 0, ok 0, lk_bn_up d5 (Or.inl rfl)⟩) (fun q1 => lk_way R.2.1 A hi n1 (by omega) (by omega) (by omega)) (fun _ _ => rfl) (fun b' hd'' sv'' s' => hQ b' _ hd'' sv'' (lk_bn_up d5 (Or.inl rfl)) s')
    rw [E0]
    refine ⟨by show nI (H - 1) = c'.1; rw [d1, c1], fun _ => ⟨by show (hd i).2.1 = c'.2.1; rw [d2, c2], by show (hd i).2.2 = c'.2.2.1; rw [d3, c3], fun v hv => ?_⟩⟩
    have hv' : (v : Int) < 6 + (nI (H - 1)).toInt := hv
    rw [mm_nt (by omega)] at hv'
    show lk_up (fun v => sv (10 * i + v % 10)) l _ v = lk_up c'.2.2.2 l _ v
    by_cases z : v = l
    · rw [z, lk_up_t, lk_up_t]
      show ((sv (10 * i + l)).1, (sv (10 * i + l)).2.1, (0 : Int32), (sv (10 * i + l)).2.2.2.1, (sv (10 * i + l)).2.2.2.2) = _
      rw [vl'.2]
      rfl
    · rw [lk_up_f z, lk_up_f z, d4 v (by omega) z]
      show sv (10 * i + v % 10) = _
      rw [ml v (by omega)]
  have g184 : ∀ c' : mm_F, c'.1 = c.1 → c'.2.1 = c.2.1 → c'.2.2.1 = c.2.2.1 → (∀ v, v < 5 + H → ¬ v = l → c'.2.2.2 v = sv (10 * i + v)) → c'.2.2.2 l = lk_nk (sv (10 * i + l)) → lk_bn c'.2.2.2 → mm_go ro (d + 4) mm_m_Mo_flow 184 [.ref 80, .int (nI m), .int (nI i), .int 0, .int r0, .int r1, v6, .int og, v8] [] (lk_L h0 e c' hd sv) Q := by
    intro c' d1 d2 d3 d4 d5 d6
    have J' : mm_SH (lk_L h0 e c' hd sv) := I
    obtain ⟨e1, e2⟩ := lk_w_nI h1r (by rw [h1r, W1]; omega) (by rw [h1r, W1]; omega)
    refine mm_go_at 191 (mm_hM n_Mo_flow rfl) (And.intro ⟨rfl, k_80 J'⟩ ?_)
    rw [e1]
    refine c_Mo_cm (ψ := lk_out h0 m i 1 (lk_fr hd sv i)) I W he (by omega) R (Or.inr ⟨rfl, ?_, pos 1, ok 1, d6⟩) (fun q1 => lk_way R.2.1 A hi n1 (by omega) (by omega) (by omega)) (fun b' hd' sv' R' p' K => ?_)
    · rw [E1]
      refine ⟨by show nI (H - 1) = c'.1; rw [d1, c1], fun _ => ⟨by show (hd i).2.1 = c'.2.1; rw [d2, c2], by show (hd i).2.2 = c'.2.2.1; rw [d3, c3], fun v hv => ?_⟩⟩
      have hv' : (v : Int) < 6 + (nI (H - 1)).toInt := hv
      rw [mm_nt (by omega)] at hv'
      show lk_up (fun v => sv (10 * i + v % 10)) l _ v = c'.2.2.2 v
      by_cases z : v = l
      · rw [z, lk_up_t, d5]
      · rw [lk_up_f z, d4 v (by omega) z]
        show sv (10 * i + v % 10) = _
        rw [ml v (by omega)]
    · have s0 : lk_S3 Φ h0 m len i e.2.2 hd sv e.2.2 hd sv (fun v => v = 2) := ⟨R, Or.inr ⟨rfl, rfl, rfl, fun w hw => by
        rw [hw]
        intro y
        rw [W2] at y
        omega⟩⟩
      have s1 := lk_S3_st (w := 1) e2 (fun _ _ => rfl) s0 R' p'
      have e3 := g191 b' c' hd' sv' d1 d2 d3 d4 d6 ?_ s1
      · rw [e1] at e3
        exact e3
      · by_cases z : (lk_w h0 m i 1).toNat = i
        · rcases K.2.2.2 with ⟨_, _, _, k⟩ | ⟨_, _, _, _, _, k⟩ | ⟨_, _, _, k, _⟩ | ⟨_, _, _, k, _⟩
          · rw [k]
          · rw [k]
          · rw [z, eH, mm_nt (by omega)] at k
            omega
          · rw [z, eH, d1, c1] at k
            have := (nI_eq (by omega) (by omega)).mp k
            omega
        · exact K.2.2.1 _ (fun y => by omega)
  obtain ⟨e1, e2⟩ := lk_w_nI h1r (by rw [h1r, W1]; omega) (by rw [h1r, W1]; omega)
  have pr : ¬ r1.toInt < 0 := by rw [h1r, W1]; omega
  have p0 : ¬ (nI l).toInt < 0 := by rw [mm_nt (by omega)]; omega
  rw [hog] at g184 ⊢
  refine mm_go_at 184 (mm_hM n_Mo_flow rfl) (And.intro (fun z => absurd z pr) (fun _ => And.intro (fun z => absurd rfl z) (fun _ => And.intro (fun z => absurd z p0) (fun _ => ?_))))
  refine And.intro (k_80 J) (mm_rf (r_614 J) (And.intro ⟨k_110 J, mm_inb 10 (n_110 J) hB⟩ (mm_rf (b := (c.2.2.2 l).1) (by rw [hc]; rfl) (And.intro (fun c_165 => ?_) (fun c_165 => ?_)))))
  · have k3 : ¬ (c.2.2.2 l).1 = 3 := c_165
    refine g184 c rfl rfl rfl (fun v hv _ => c4 v hv) ?_ bc
    rw [c4 l (by omega)] at k3 ⊢
    exact (if_neg k3).symm
  · have k3 : (c.2.2.2 l).1 = 3 := mm_no c_165
    refine And.intro (k_80 J) (mm_rf (r_614 J) (And.intro ⟨k_110 J, mm_inb 10 (n_110 J) hB⟩ (And.intro (k_80 J) (mm_rf (r_615 J) (And.intro ⟨k_111 J, mm_inb 10 (n_111 J) hB⟩ ?_)))))
    rw [hc, lw_kc]
    refine g184 _ rfl rfl rfl (fun v hv hn => ?_) ?_ (lk_bn_up bc (bc l))
    · show lk_up c.2.2.2 l _ v = _
      rw [lk_up_f hn]
      exact c4 v hv
    · show lk_up c.2.2.2 l _ l = _
      rw [lk_up_t]
      rw [c4 l (by omega)] at k3 ⊢
      exact (if_pos k3).symm
