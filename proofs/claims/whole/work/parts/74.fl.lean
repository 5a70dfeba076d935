/-! THE REFERENCE: flow and look -/
theorem c_Mo_flow {Φ : mm_F} {ro : mm_Ro} {d m len i : Nat} {h0 : mm_H} {e : Int32 × Int32 × Int32} {c : mm_F} {hd : Nat → Int32 × Int32 × Int32} {sv : Nat → mm_V} {Q : Value → mm_H → Prop} (I : mm_SH h0) (W : lk_WM h0 m len) (he : e.1 = nI m) (hi : i < len) (R : lk_Rv Φ h0 m len hd sv) (n1 : ¬ (hd i).1 = -1) (bc : lk_bn c.2.2.2) (hQ : ∀ (b : Int32) (c' : mm_F) (hd' : Nat → Int32 × Int32 × Int32) (sv' : Nat → mm_V), lk_bn c'.2.2.2 → lk_S3 Φ h0 m len i e.2.2 hd sv b hd' sv' (fun v => (v = 2 ∨ v = 1) ∨ v = 0) → Q .null (lk_L h0 (e.1, e.2.1, b) c' hd' sv')) : mm_ev ro (d + 5) n_Mo_flow [.ref 80, .int (nI m), .int (nI i)] (lk_L h0 e c hd sv) Q := by
  have J : mm_SH (lk_L h0 e c hd sv) := I
  obtain ⟨w1, w2, w3, w4, w5, w6, w7, w8, w9, w10⟩ := W
  have W : lk_WM h0 m len := ⟨w1, w2, w3, w4, w5, w6, w7, w8, w9, w10⟩
  have V := w7 i hi
  have A := V.1
  have hB : 0 ≤ (nI i).toInt ∧ (nI i).toInt < ((20 : Nat) : Int) := mm_nb (by omega) (by omega)
  have hc : (nI i).toNatClampNeg = i := mm_ncl (by omega)
  have rg := R.2.2.1 i (by omega)
  have s0 : lk_S3 Φ h0 m len i e.2.2 hd sv e.2.2 hd sv (fun _ => False) := ⟨R, Or.inr ⟨rfl, rfl, rfl, fun w hw => hw.elim⟩⟩
  -- from 65 on: the way back
  have bad : lk_bad h0 m i (hd i).1.toInt → ∀ r0 r1 r2 : Int32, r0.toInt = lk_w h0 m i 0 → r1.toInt = lk_w h0 m i 1 → r2.toInt = lk_w h0 m i 2 → mm_go ro (d + 4) mm_m_Mo_flow 56 [.ref 80, .int (nI m), .int (nI i), .int 1, .int r0, .int r1, .int r2, .int (-1), .null] [] (lk_L h0 e c hd sv) Q := by
    intro q r0 r1 r2 e0 e1 e2
    have q' : lk_bad h0 m i (lk_fr hd sv i).1.toInt := q
    have ψ : ∀ w, lk_cl = lk_out h0 m i w (lk_fr hd sv i) := fun w => (lk_out_b (φ := lk_fr hd sv i) q').symm
    have ly : ∀ w, w < 3 → 0 ≤ lk_w h0 m i w → lk_w h0 m i w < (len : Int) → ∀ Y, lk_VF h0 m len Y → lk_PF h0 m len Y → mm_fle (mm_up h0) lk_cl (Y (lk_w h0 m i w).toNat) := by
      intro w hw y1 y2
      rw [ψ w]
      exact lk_way R.2.1 A hi n1 hw y1 y2
    have ne : ¬ (1 : Int32) = 0 := by decide
    have g143 : ∀ (b : Int32) (hd' : Nat → Int32 × Int32 × Int32) (sv' : Nat → mm_V), lk_S3 Φ h0 m len i e.2.2 hd sv b hd' sv' (fun v => False ∨ v = 2) → mm_go ro (d + 4) mm_m_Mo_flow 143 [.ref 80, .int (nI m), .int (nI i), .int 1, .int r0, .int r1, .int r2, .int (-1), .null] [] (lk_L h0 (e.1, e.2.1, b) (0, c.2) hd' sv') Q := by
      intro b hd' sv' s
      refine l_fl_143 (e := e) (ψ := fun _ => lk_cl) I W he hi s e0 e1 (Or.inl ne) (fun w _ => Or.inl ⟨ne, rfl⟩) (fun w hw => ly w (by omega)) (fun w _ _ _ => ψ w) (fun b' hd'' sv'' s' => hQ b' _ hd'' sv'' bc ⟨s'.1, ?_⟩) (lk_S3_rs s)
      rcases s'.2 with z | ⟨z1, z2, z3, z4⟩
      · exact Or.inl z
      · refine Or.inr ⟨z1, z2, z3, fun w hw => z4 w ?_⟩
        rcases hw with (hw | hw) | hw
        · exact Or.inl (Or.inl (Or.inr hw))
        · exact Or.inl (Or.inr hw)
        · exact Or.inr hw
    refine mm_go_at 65 (mm_hM n_Mo_flow rfl) (And.intro (fun z => absurd z ne) (fun _ => And.intro (k_80 J) ?_))
    rw [lw_611]
    have J' : mm_SH (lk_L h0 e (0, c.2) hd sv) := I
    refine mm_go_at 99 (mm_hM n_Mo_flow rfl) (And.intro (fun c_67 => ?_) (fun c_67 => ?_))
    · have p : r2.toInt < 0 := c_67
      exact mm_go_from (mm_hM n_Mo_flow rfl) (And.intro (fun _ => g143 e.2.2 hd sv (lk_S3_no (w := 2) (by omega) s0)) (fun z => absurd ne z))
    · have p : ¬ r2.toInt < 0 := c_67
      have w20 := lk_w20 (w := 2) W hi
      obtain ⟨f1, f2⟩ := lk_w_nI e2 (by omega) (by rw [e2]; omega)
      refine And.intro (fun _ => mm_go_at 99 (mm_hM n_Mo_flow rfl) (And.intro ⟨rfl, k_80 J'⟩ ?_)) (fun z => absurd ne z)
      rw [f1]
      refine c_Mo_cm (ψ := lk_cl) I W he (by omega) R (Or.inl ⟨ne, rfl⟩) (fun q1 => ly 2 (by omega) (by omega) (by omega)) (fun b' hd' sv' R' p' K => ?_)
      have g := g143 b' hd' sv' (lk_S3_st (w := 2) f2 (fun _ _ => ψ 2) s0 R' p')
      rw [f1] at g
      exact mm_go_from (mm_hM n_Mo_flow rfl) (And.intro (fun _ => g) (fun z => absurd ne z))
  have good : ¬ lk_bad h0 m i (hd i).1.toInt → ∀ r0 r1 r2 : Int32, r0.toInt = lk_w h0 m i 0 → r1.toInt = lk_w h0 m i 1 → r2.toInt = lk_w h0 m i 2 → mm_go ro (d + 4) mm_m_Mo_flow 56 [.ref 80, .int (nI m), .int (nI i), .int 0, .int r0, .int r1, .int r2, .int (-1), .null] [] (lk_L h0 e c hd sv) Q := by
    intro q r0 r1 r2 e0 e1 e2
    obtain ⟨eH, G, eo⟩ := lk_Gd_of (R.2.1.1 i hi) q
    have g0 := (lk_good q).1
    generalize hH : (hd i).1.toInt.toNat = H at eH G eo
    obtain ⟨G1, G2, G3, G4⟩ := G
    have eN : 6 + (hd i).1 = nI (6 + H) := by rw [eH]; exact lk_6
    refine mm_go_at 65 (mm_hM n_Mo_flow rfl) (And.intro (fun _ => ?_) (fun z => absurd rfl z))
    refine mm_go_at 99 (mm_hM n_Mo_flow rfl) (And.intro (fun c_67 => ?_) (fun c_67 => And.intro (fun z => absurd rfl z) (fun _ => ?_)))
    · have p : r2.toInt < 0 := c_67
      exact l_fl_99 (e := e) I W he hi (lk_S3_no (w := 2) (by omega) s0) (fun v hv => Or.inr hv) q rfl (fun _ => ⟨rfl, rfl, rfl⟩) e0 e1 bc hQ
    · have p : ¬ r2.toInt < 0 := c_67
      have w20 := lk_w20 (w := 2) W hi
      obtain ⟨f1, f2⟩ := lk_w_nI e2 (by omega) (by rw [e2]; omega)
      have ho : lk_o h0 m i = 11 ∨ lk_o h0 m i = 12 ∨ lk_o h0 m i = 17 := by
        refine Classical.byContradiction (fun z => ?_)
        have : lk_w h0 m i 2 = -1 := if_neg z
        omega
      have bg : lk_bn (lk_up (lk_pre (fun v => sv (10 * i + v)) c.2.2.2 (6 + H)) 6 (3, 0, 0, 0, -1)) := lk_bn_up (lk_bn_pre (fun v => R.1 _) bc) (Or.inl rfl)
      refine And.intro ⟨rfl, k_80 J⟩ (c_Mo_take I (by omega) eN (by omega) R.1 (And.intro (k_80 J) ?_))
      rw [lw_611]
      refine And.intro ⟨rfl, k_80 J⟩ (c_Mo_push (j := 6) (c := (0, (hd i).2.1, (hd i).2.2, lk_pre (fun v => sv (10 * i + v)) c.2.2.2 (6 + H))) I (show (6 : Int32) + 0 = nI 6 by decide) (by omega) (Or.inl rfl) (And.intro ⟨rfl, k_80 J⟩ ?_))
      rw [f1]
      refine c_Mo_cm (ψ := lk_out h0 m i 2 (lk_fr hd sv i)) I W he (by omega) R (Or.inr ⟨rfl, ?_, by rw [eo 2]; exact lk_ew_pos A.1 G1, (lk_out_ok w4 (by omega) A (R.2.1.1 i hi)).1, bg⟩) (fun q1 => lk_way R.2.1 A hi n1 (by omega) (by omega) (by omega)) (fun b' hd' sv' R' p' K => ?_)
      · rw [eo 2]
        refine ⟨by show (1 : Int32) = 0 + 1; decide, fun _ => ⟨rfl, rfl, fun v hv => ?_⟩⟩
        have hv' : (v : Int) < 6 + (1 : Int32).toInt := hv
        have t1 : (1 : Int32).toInt = 1 := by decide
        show lk_up (fun v => sv (10 * i + v % 10)) 6 _ v = lk_up (lk_pre (fun v => sv (10 * i + v)) c.2.2.2 (6 + H)) 6 _ v
        by_cases z : v = 6
        · rw [z, lk_up_t, lk_up_t]
          rfl
        · rw [lk_up_f z, lk_up_f z, lk_pre_t (by omega)]
          show sv (10 * i + v % 10) = _
          rw [Nat.mod_eq_of_lt (by omega)]
      · have s1 := lk_S3_st (w := 2) f2 (fun _ _ => rfl) s0 R' p'
        have hh : (hd' i).1 = (hd i).1 ∨ (hd' i).1 = -2 := by
          by_cases z : i = (lk_w h0 m i 2).toNat
          · rcases K.2.2.2 with ⟨_, _, k, _⟩ | ⟨_, _, _, _, k, _⟩ | ⟨_, _, _, k, _⟩ | ⟨_, _, _, _, k, _⟩
            · rw [k]; exact Or.inl rfl
            · rw [← z] at k; exact Or.inr k
            · rw [← z] at k; omega
            · rw [← z] at k; exact Or.inl k.1
          · rw [K.2.1 i z]; exact Or.inl rfl
        have n15 : ¬ lk_o h0 m i = 15 := by omega
        rw [← f1]
        rcases hh with hh | hh
        · exact l_fl_99 (e := e) I W he hi s1 (fun v hv => Or.inr hv) (by rw [hh]; exact q) rfl (fun z => absurd z n15) e0 e1 bg hQ
        · have ch : b' = 1 ∧ lk_rs len (lk_fr hd sv) < lk_rs len (lk_fr hd' sv') := by
            rcases p' with z | ⟨_, z, _⟩
            · exact z
            · rw [z] at hh
              rw [hh] at g0
              exact absurd g0 (by decide)
          exact l_fl_gar (e := e) I W he hi R' ch.1 ch.2 hh ho rfl e0 e1 bg hQ
  have ways : ∀ cl : Int32, (∀ r0 r1 r2 : Int32, r0.toInt = lk_w h0 m i 0 → r1.toInt = lk_w h0 m i 1 → r2.toInt = lk_w h0 m i 2 → mm_go ro (d + 4) mm_m_Mo_flow 56 [.ref 80, .int (nI m), .int (nI i), .int cl, .int r0, .int r1, .int r2, .int (-1), .null] [] (lk_L h0 e c hd sv) Q) → mm_go ro (d + 4) mm_m_Mo_flow 25 [.ref 80, .int (nI m), .int (nI i), .null, .null, .null, .null, .null, .null] [.int cl] (lk_L h0 e c hd sv) Q := by
    intro cl g
    exact mm_go_at 56 (mm_hM n_Mo_flow rfl) (And.intro ⟨rfl, k_80 J⟩ (c_Mo_wayOf (w := 0) J w1 (by omega) (by omega) w6 V (fun r0 e0 => And.intro ⟨rfl, k_80 J⟩ (c_Mo_wayOf (w := 1) J w1 (by omega) (by omega) w6 V (fun r1 e1 => And.intro ⟨rfl, k_80 J⟩ (c_Mo_wayOf (w := 2) J w1 (by omega) (by omega) w6 V (fun r2 e2 => g r0 r1 r2 e0 e1 e2)))))))
  refine mm_ev_at 25 (Z := mm_m_Mo_flow) rfl rfl (Nat.le_of_ble_eq_true rfl) rfl ?_
  refine And.intro (k_80 J) (mm_rf (r_600 J) (And.intro ⟨k_102 J, mm_inb 20 (n_102 J) hB⟩ (mm_rf (b := (hd i).1) (by rw [hc]; rfl) (And.intro (fun c_8 => ?_) (fun c_8 => ?_)))))
  · have q : (hd i).1 = -2 := c_8
    exact mm_go_at 25 (mm_hM n_Mo_flow rfl) (ways 1 (bad (lk_bad_neg (by rw [q]; decide))))
  · refine And.intro ⟨rfl, k_80 J⟩ (c_Mo_isShort J w1 (by omega) V (show -10 ≤ (hd i).1.toInt ∧ (hd i).1.toInt ≤ 10 by omega) (And.intro (fun c_17 => ?_) (fun c_17 => ?_)))
    · have q : ¬ lk_bad h0 m i (hd i).1.toInt := mm_b0.mp c_17
      exact mm_go_at 25 (mm_hM n_Mo_flow rfl) (ways 0 (good q))
    · have q : lk_bad h0 m i (hd i).1.toInt := mm_nn c_17
      exact ways 1 (bad q)
