/-! RUNNING: perform beside step: giving -/
section
variable {ro : mm_Ro} {h0 h s : mm_H} {qm : Nat → Nat} {nC nF nM d n H m i len D : Nat} {Q : Value → mm_H → Prop}
theorem pc_give {h1 s1 : mm_H} {B ic H' : Nat} {r x : Int32} (S : STs ro h0 nC nF nM qm h s d n H m i) (ri : RI h0 h s qm nM d n h1 s1 H') (er : mm_a h 93 (4 * m + 3) = r) (r2 : -2 ≤ r.toInt) (hc : 0 < d → mm_a s 120 (d - 1) = nI B ∧ B ≤ 4 ∧ (r = -2 ∨ B < 4) ∧ mm_a s 121 (d - 1) = nI (ic + 1)) (ob : 0 ≤ r.toInt → x = 0 ∨ ∃ o, 0 < o ∧ o ≤ n ∧ x = nI o) : PC h0 qm nM (rs_gv (kc h) s d H m x s1) (ma_gv h d B ic r x h1) := by
  obtain ⟨I, E, hd, h4, n24⟩ := st_E S
  obtain ⟨a1, a2, a3, a4, a5, a6, a7⟩ := ri
  obtain ⟨TT, ar, ⟨c, e3, e4, al, at', sl⟩, ⟨_, g3, g5, g0, _, _, en, _⟩, hmM⟩ := S
  have er' : mm_a (kc h) 93 (4 * m + 3) = r := er
  unfold rs_gv ma_gv
  rw [er']
  by_cases d0 : d = 0
  · rw [if_pos d0, if_pos d0]
    have ev : (if r.toInt < 0 then x else if x = 0 then -1 else mm_a s 116 x.toNatClampNeg) = (if r.toInt < 0 then x else if x = 0 then -1 else mm_a h 59 (x.toNatClampNeg - 1)) := by
      by_cases q1 : r.toInt < 0
      · rw [if_pos q1, if_pos q1]
      · rw [if_neg q1, if_neg q1]
        by_cases q2 : x = 0
        · rw [if_pos q2, if_pos q2]
        · rw [if_neg q2, if_neg q2]
          rcases ob (by omega) with z | ⟨o, o1, o2, o3⟩
          · exact absurd z q2
          · rw [o3, mm_ncl (by omega)]
            have z := c.2.2.2.2.1 (o - 1) (by omega)
            rw [show o - 1 + 1 = o by omega] at z
            exact z.symm
    rw [ev]
    generalize (if r.toInt < 0 then x else if x = 0 then -1 else mm_a h 59 (x.toNatClampNeg - 1)) = v
    have z5 : mm_i (mm_si (mm_si (mm_si s1 633 80 (nI d)) 635 80 0) 636 80 v) 635 80 = 0 := (mm_i2 (by omega)).trans mm_i1
    have z1 : mm_i (mm_si (mm_si (mm_si s1 633 80 (nI d)) 635 80 0) 636 80 v) 631 80 = mm_i s 631 80 := (mm_i2 (by omega)).trans ((mm_i2 (by omega)).trans ((mm_i2 (by omega)).trans (by rw [a4])))
    refine pc_end (AR_si (by omega) (AR_si (by omega) (AR_si (by omega) a1))) (((mm_i2 (by omega)).trans mm_i1).trans z5.symm) (by rw [z5]; decide) ?_ (fun j hj hp => ?_)
    · obtain ⟨l1, l2, l3, l4, l5, l6⟩ := sl
      have y : ∀ f, ¬ f = 333 → ¬ f = 334 → ¬ f = 324 → mm_i (mm_si (mm_si (mm_si h1 333 56 (nI d)) 334 56 0) 324 56 v) f 56 = mm_i h f 56 := fun f b1 b2 b3 => (mm_i2 (by omega)).trans ((mm_i2 (by omega)).trans ((mm_i2 (by omega)).trans (a3 f)))
      have z : ∀ f, ¬ f = 633 → ¬ f = 635 → ¬ f = 636 → mm_i (mm_si (mm_si (mm_si s1 633 80 (nI d)) 635 80 0) 636 80 v) f 80 = mm_i s f 80 := fun f b1 b2 b3 => (mm_i2 (by omega)).trans ((mm_i2 (by omega)).trans ((mm_i2 (by omega)).trans (by rw [a4])))
      exact ⟨mm_i1.trans mm_i1.symm, (y _ (by omega) (by omega) (by omega)).trans (l2.trans (z _ (by omega) (by omega) (by omega)).symm), (y _ (by omega) (by omega) (by omega)).trans (l3.trans (z _ (by omega) (by omega) (by omega)).symm), (y _ (by omega) (by omega) (by omega)).trans (l4.trans (z _ (by omega) (by omega) (by omega)).symm), (y _ (by omega) (by omega) (by omega)).trans (l5.trans (z _ (by omega) (by omega) (by omega)).symm), (y _ (by omega) (by omega) (by omega)).trans (l6.trans (z _ (by omega) (by omega) (by omega)).symm)⟩
    · rw [z1] at hp
      exact a2.2.2.2.2.2.2 j hp hj
  rw [if_neg d0, if_neg d0]
  obtain ⟨b1, b2, b3, b4⟩ := hc (by omega)
  obtain ⟨e, hde⟩ : ∃ e, d = e + 1 := ⟨d - 1, by omega⟩
  subst hde
  rw [Nat.add_sub_cancel] at b1 b4 ⊢
  rw [b1, mm_ncl (by omega)]
  have cd := cx_dn (T' := fun u => (mm_a s 120 u).toNatClampNeg) (D' := e + 1) a2 (by omega) (Nat.le_refl _) (Nat.le_refl _) (fun w hw => by
    show _ ≤ (if w = e + 1 then H' else (mm_a s 120 w).toNatClampNeg)
    rw [if_neg (by omega)]
    exact Nat.le_refl _)
  by_cases q : r = -2
  · rw [if_pos q, if_pos q]
    refine pc_mk (d := e) (n := n) (P := (mm_i s 631 80).toNatClampNeg) (T := fun u => (mm_a s 120 u).toNatClampNeg) (AR_si (by omega) (AR_si (by omega) a1)) (cx_at (cx_sc (cx_s8 cd))) (fun w hw => ?_) ?_ (by omega) n24 ((mm_i2 (by omega)).trans mm_i1) mm_i1 ?_ ?_ ?_ (fun w hw => ?_) ?_ ?_
    · show (mm_a s1 120 w).toNatClampNeg ≤ (mm_a s 120 w).toNatClampNeg
      rw [a7 w (by omega)]
      exact Nat.le_refl _
    · rw [mm_i2 (by omega), a4]; exact Nat.le_refl _
    · exact (mm_i2 (by omega)).trans ((mm_i2 (by omega)).trans ((a3 334).trans e4))
    · exact (mm_i2 (by omega)).trans (by rw [a4]; exact g5)
    · exact (mm_i2 (by omega)).trans (by rw [a4]; exact en)
    · show mm_i (mm_si (mm_si h1 333 56 (nI (e + 1))) 385 (62 + 3 * e) (nI (ic + 1))) 385 (62 + 3 * w) + 1 = mm_a s1 121 w
      rw [mm_i2 (by omega), mm_i2 (by omega), a5 w (by omega), a6 w (by omega)]
      exact al w (by omega)
    · refine mm_i1.trans ?_
      show nI (ic + 1) = mm_a s1 121 e
      rw [a6 e (by omega)]
      exact b4.symm
    · exact SL_cg (fun f hf => (mm_i2 (by omega)).trans ((mm_i2 (by omega)).trans (a3 f))) (fun f _ _ z _ => (mm_i2 (by omega)).trans (by rw [a4])) sl
  · rw [if_neg q, if_neg q]
    have hB : B < 4 := b3.elim (fun z => absurd z q) id
    refine pc_mk (d := e) (n := n) (P := (mm_i s 631 80).toNatClampNeg) (T := fun u => if u = e then B + 1 else (mm_a s 120 u).toNatClampNeg) (AR_si (by omega) (AR_si (by omega) (AR_sa (by omega) (AR_si (by omega) a1)))) (cx_at (cx_lay (T := fun u => (mm_a s 120 u).toNatClampNeg) (w := e) (by omega) (by omega) hB ?_ (cx_sc (cx_s8 cd)) (fun u hu => ?_))) (fun w hw => ?_) ?_ (by omega) n24 ((mm_i2 (by omega)).trans ((ps_i (by omega)).trans mm_i1)) (show mm_i (mm_si s1 633 80 (nI (e + 1))) 633 80 = nI (e + 1) from mm_i1) ?_ ?_ ?_ (fun w hw => ?_) ?_ ?_
    · show (mm_a s 120 e).toNatClampNeg = B
      rw [b1, mm_ncl (by omega)]
    · exact Nat.le_refl _
    · show _ ≤ (if w = e then B + 1 else (mm_a s 120 w).toNatClampNeg)
      by_cases y : w = e
      · rw [if_pos y, y]
        have z : mm_a (rs_lay (mm_si s1 633 80 (nI (e + 1))) e B x) 120 e = nI (B + 1) := mm_a1
        rw [z, mm_ncl (by omega)]
        exact Nat.le_refl _
      · rw [if_neg y]
        have z : mm_a (rs_lay (mm_si s1 633 80 (nI (e + 1))) e B x) 120 w = mm_a s1 120 w := (mm_a2 (by omega)).trans (mm_a2 (by omega))
        rw [z, a7 w (by omega)]
        exact Nat.le_refl _
    · show (mm_i (mm_si s1 633 80 (nI (e + 1))) 631 80).toNatClampNeg ≤ _
      rw [mm_i2 (by omega), a4]; exact Nat.le_refl _
    · exact (mm_i2 (by omega)).trans ((ps_i (by omega)).trans ((mm_i2 (by omega)).trans ((a3 334).trans e4)))
    · show mm_i (mm_si s1 633 80 (nI (e + 1))) 635 80 = -1
      exact (mm_i2 (by omega)).trans (by rw [a4]; exact g5)
    · show mm_i (mm_si s1 633 80 (nI (e + 1))) 629 80 = nI n
      exact (mm_i2 (by omega)).trans (by rw [a4]; exact en)
    · have z : mm_a (rs_lay (mm_si s1 633 80 (nI (e + 1))) e B x) 121 w = mm_a s1 121 w := (mm_a2 (by omega)).trans (mm_a2 (by omega))
      rw [z, mm_i2 (by omega), ps_i (by omega), mm_i2 (by omega), a5 w (by omega), a6 w (by omega)]
      exact al w (by omega)
    · have z : mm_a (rs_lay (mm_si s1 633 80 (nI (e + 1))) e B x) 121 e = mm_a s1 121 e := (mm_a2 (by omega)).trans (mm_a2 (by omega))
      rw [z, mm_i1, a6 e (by omega)]
      exact b4.symm
    · refine SL_cg (fun f hf => (mm_i2 (by omega)).trans ((ps_i (by omega)).trans ((mm_i2 (by omega)).trans (a3 f)))) (fun f f1 f2 z1 z2 => ?_) sl
      show mm_i (mm_si s1 633 80 (nI (e + 1))) f 80 = mm_i s f 80
      exact (mm_i2 (by omega)).trans (by rw [a4])
theorem pf_16 (S : STs ro h0 nC nF nM qm h s d n H m i) (ML : lx_ML h nC nF nM m len) (rz : rs_rz (kc h) (mm_sa s 121 d (nI (i + 1))) (d + 1)) (r2 : -2 ≤ (mm_a h 93 (4 * m + 3)).toInt) (hi : i < len) (o : lk_o h m i = 16) (ok : (mm_a h 93 (4 * m + 3) = -2 ∨ 0 < H) ∧ (0 < d → ∃ g, mm_a s 120 (d - 1) = nI g ∧ g ≤ 4 ∧ (mm_a h 93 (4 * m + 3) = -2 ∨ g < 4)) ∧ (0 ≤ (mm_a h 93 (4 * m + 3)).toInt → rs_ob s n (rs_tp s d H))) (hQ : ∀ h', PC h0 qm nM (rs_op (kc h) nM (mm_sa s 121 d (nI (i + 1))) d H m i 16) h' → Q .null h') : mm_ev ro (D + 6) n_Ma_perform [.ref 56, .ref (62 + 3 * d)] h Q := by
  obtain ⟨I, E, hd, h4, n24⟩ := st_E S
  obtain ⟨f4, f8, f5, _, fl, fn⟩ := st_f S
  have T := AR_T S.2.1 S.1
  have MO := (T.2.2.2.1.2.2.1.2 m S.2.2.2.2).2
  have T2 : lx_T ro (mm_si h 388 (62 + 3 * d) (nI (H - 1))) nC nF nM qm := AR_T (AR_si (by omega) S.2.1) S.1
  have MO2 := (T2.2.2.2.1.2.2.1.2 m S.2.2.2.2).2
  have IV := (ML.2.2.1 i hi).1
  have l20 := ML.1
  have eo := IV.2.1
  rw [o] at eo
  obtain ⟨k1, k2, k3⟩ := ok
  have hc : ∃ B ic, 0 < d → mm_a s 120 (d - 1) = nI B ∧ B ≤ 4 ∧ (mm_a h 93 (4 * m + 3) = -2 ∨ B < 4) ∧ mm_a s 121 (d - 1) = nI (ic + 1) := by
    by_cases q : 0 < d
    · obtain ⟨B, b1, b2, b3⟩ := k2 q
      obtain ⟨a, b, _, _, _, z, _⟩ := rz (d - 1) (by omega)
      rw [mm_a2 (by omega)] at z
      exact ⟨B, b, fun _ => ⟨b1, b2, b3, z⟩⟩
    · exact ⟨0, 0, fun z => absurd z q⟩
  obtain ⟨B, ic, hc⟩ := hc
  have c4 := S.2.2.1.1.2.2.2.1
  have al := S.2.2.1.2.2.2.1
  refine c_pf (D := D + 4) S ML hi ?_
  rw [o]
  refine l_pf_16 (d := D + 3) I E.1 (l_po_16 (d := D) I E f4 MO f5 (by omega) eo (c_Ma_give (d := D + 1) (B := B) (ic := ic) I hd MO MO2 r2 f4 S.2.2.1.2.1 fn n24 f8 h4 k1 (fun z => ?_) (fun z => ?_) (hQ _ ?_)))
  · obtain ⟨b1, b2, b3, b4⟩ := hc z
    refine ⟨(c4 (d - 1) (by omega)).trans b1, ?_, b3⟩
    have y := al (d - 1) (by omega)
    rw [b4, nI_succ] at y
    have w : mm_i h 385 (62 + 3 * (d - 1)) + 1 - 1 = nI ic + 1 - 1 := by rw [y]
    rwa [Int32.add_sub_cancel, Int32.add_sub_cancel] at w
  · have h0' : 0 < H := k1.elim (fun y => by rw [y] at z; exact absurd z (by decide)) id
    have tp := st_tp S h0'
    rw [show 62 + 3 * d + 2 = 64 + 3 * d by omega] at tp
    rw [tp]
    exact ob_c s (k3 z)
  · show PC h0 qm nM (rs_give (kc h) (mm_sa s 121 d (nI (i + 1))) d H m) _
    unfold rs_give
    have hc' : 0 < d → mm_a (mm_sa s 121 d (nI (i + 1))) 120 (d - 1) = nI B ∧ B ≤ 4 ∧ (mm_a h 93 (4 * m + 3) = -2 ∨ B < 4) ∧ mm_a s 121 (d - 1) = nI (ic + 1) := hc
    show PC h0 qm nM (if mm_a h 93 (4 * m + 3) = -2 then rs_gv (kc h) s d H m 0 (mm_sa s 121 d (nI (i + 1))) else rs_gv (kc h) s d H m (rs_tp s d H) (rs_pop (mm_sa s 121 d (nI (i + 1))) d H)) _
    by_cases q : mm_a h 93 (4 * m + 3) = -2
    · rw [if_pos q, if_pos q]
      exact pc_give S (ri_a1 (ri_st S)) rfl r2 hc (fun _ => Or.inl rfl)
    · rw [if_neg q, if_neg q]
      have h0' : 0 < H := k1.elim (fun y => absurd y q) id
      have tp := st_tp S h0'
      rw [show 62 + 3 * d + 2 = 64 + 3 * d by omega] at tp
      rw [tp]
      exact pc_give S (ri_hgt (H' := H - 1) hd (by omega) (ri_a1 (ri_st S))) rfl r2 hc (fun z => ob_c s (k3 z))
end
