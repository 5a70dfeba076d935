/-! RUNNING: perform beside step: calling -/
section
variable {ro : mm_Ro} {h0 hh ss h s : mm_H} {qm : Nat → Nat} {nC nF nM d n H G m i : Nat}
theorem pc_tk {v : Int32} (S : STs ro h0 nC nF nM qm hh ss d n G m i) (r : RI h0 hh ss qm nM d n h s H) (hH : H ≤ 4) (t0 : mm_a s 120 d = nI H) (at' : mm_i h 385 (62 + 3 * d) = mm_a s 121 d) : PC h0 qm nM (mm_si s 630 80 v) (mm_si h 328 56 v) := by
  obtain ⟨I, E, hd, h4, n24⟩ := st_E S
  obtain ⟨r1, r2, r3, r4, r5, r6, r7⟩ := r
  obtain ⟨T, ar0, ⟨c0, e3, e4, al, at0, sl⟩, ⟨_, f3, f5, f0, f2, f1, en, _⟩, hmM⟩ := S
  refine pc_mk (d := d) (n := n) (P := (mm_i ss 631 80).toNatClampNeg) (T := fun u => if u = d then H else (mm_a ss 120 u).toNatClampNeg) (AR_si (by omega) r1) (cx_sc (cx_s8 r2)) (fun w hw' => ?_) ?_ hd n24 ((mm_i2 (by omega)).trans ((r3 333).trans e3)) ((mm_i2 (by omega)).trans (by rw [r4]; exact f3)) ((mm_i2 (by omega)).trans ((r3 334).trans e4)) ((mm_i2 (by omega)).trans (by rw [r4]; exact f5)) ((mm_i2 (by omega)).trans (by rw [r4]; exact en)) (fun w hw' => ?_) ((mm_i2 (by omega)).trans at') ?_
  · show (mm_a s 120 w).toNatClampNeg ≤ (if w = d then H else (mm_a ss 120 w).toNatClampNeg)
    by_cases q : w = d
    · rw [if_pos q, q, t0, mm_ncl (by omega)]; omega
    · rw [if_neg q, r7 w (by omega)]; omega
  · rw [mm_i2 (by omega), r4]; exact Nat.le_refl _
  · show mm_i (mm_si h 328 56 v) 385 (62 + 3 * w) + 1 = mm_a s 121 w
    rw [mm_i2 (by omega), r5 w hw', r6 w hw']
    exact al w hw'
  · obtain ⟨l1, l2, l3, l4, l5, l6⟩ := sl
    have y : ∀ f, ¬ f = 328 → mm_i (mm_si h 328 56 v) f 56 = mm_i hh f 56 := fun f b => (mm_i2 (by omega)).trans (r3 f)
    have z : ∀ f, ¬ f = 630 → mm_i (mm_si s 630 80 v) f 80 = mm_i ss f 80 := fun f b => (mm_i2 (by omega)).trans (by rw [r4])
    exact ⟨(y _ (by omega)).trans (l1.trans (z _ (by omega)).symm), (y _ (by omega)).trans (l2.trans (z _ (by omega)).symm), (y _ (by omega)).trans (l3.trans (z _ (by omega)).symm), (y _ (by omega)).trans (l4.trans (z _ (by omega)).symm), mm_i1.trans mm_i1.symm, (y _ (by omega)).trans (l6.trans (z _ (by omega)).symm)⟩
theorem cx_pt {T : Nat → Nat} {D P : Nat} {x : Int32} (c : CX qm nM h s T D n P) : CX qm nM (if (P : Int) < 16 then mm_sa h 58 P x else h) (if (P : Int) < 16 then mm_sa s 123 P x else s) T D n (P + 1) := by
  by_cases q : (P : Int) < 16
  · rw [if_pos q, if_pos q]
    obtain ⟨c1, c2, c3, c4, c5, c6, c7⟩ := cx_out (q := P) (x := x) c
    refine ⟨c1, c2, c3, c4, c5, c6, fun j hj h6 => ?_⟩
    by_cases z : j = P
    · rw [z, mm_a1, mm_a1]
    · exact c7 j (by omega) h6
  · rw [if_neg q, if_neg q]
    obtain ⟨c1, c2, c3, c4, c5, c6, c7⟩ := c
    exact ⟨c1, c2, c3, c4, c5, c6, fun j hj h6 => c7 j (by omega) h6⟩
theorem pc_pt {P : Nat} {x : Int32} (S : STs ro h0 nC nF nM qm hh ss d n G m i) (r : RI h0 hh ss qm nM d n h s H) (hH : H ≤ 4) (t0 : mm_a s 120 d = nI H) (at' : mm_i h 385 (62 + 3 * d) = mm_a s 121 d) (eP : mm_i ss 631 80 = nI P) (hP : P < 1000) : PC h0 qm nM (mm_si (if (P : Int) < 16 then mm_sa s 123 P x else s) 631 80 (nI (P + 1))) (mm_si (if (P : Int) < 16 then mm_sa h 58 P x else h) 327 56 (nI (P + 1))) := by
  obtain ⟨I, E, hd, h4, n24⟩ := st_E S
  obtain ⟨r1, r2, r3, r4, r5, r6, r7⟩ := r
  obtain ⟨T, ar0, ⟨c0, e3, e4, al, at0, sl⟩, ⟨_, f3, f5, f0, f2, f1, en, _⟩, hmM⟩ := S
  rw [eP, mm_ncl (by omega)] at r2
  have c := cx_pt (x := x) r2
  have ih : mm_i (if (P : Int) < 16 then mm_sa h 58 P x else h) = mm_i h := by split <;> rfl
  have is : mm_i (if (P : Int) < 16 then mm_sa s 123 P x else s) = mm_i s := by split <;> rfl
  have as : ∀ b j, ¬ b = 123 → mm_a (if (P : Int) < 16 then mm_sa s 123 P x else s) b j = mm_a s b j := fun b j hb => by
    split
    · exact mm_a2 (by omega)
    · rfl
  have ar : AR h0 (if (P : Int) < 16 then mm_sa h 58 P x else h) := by
    split
    · exact AR_sa (by omega) r1
    · exact r1
  generalize (if (P : Int) < 16 then mm_sa h 58 P x else h) = h' at *
  generalize (if (P : Int) < 16 then mm_sa s 123 P x else s) = s' at *
  refine pc_mk (d := d) (n := n) (P := P + 1) (T := fun u => if u = d then H else (mm_a ss 120 u).toNatClampNeg) (AR_si (by omega) ar) (cx_sc (cx_s8 c)) (fun w hw' => ?_) ?_ hd n24 ((mm_i2 (by omega)).trans (by rw [ih]; exact (r3 333).trans e3)) ((mm_i2 (by omega)).trans (by rw [is, r4]; exact f3)) ((mm_i2 (by omega)).trans (by rw [ih]; exact (r3 334).trans e4)) ((mm_i2 (by omega)).trans (by rw [is, r4]; exact f5)) ((mm_i2 (by omega)).trans (by rw [is, r4]; exact en)) (fun w hw' => ?_) ?_ ?_
  · show (mm_a s' 120 w).toNatClampNeg ≤ (if w = d then H else (mm_a ss 120 w).toNatClampNeg)
    rw [as 120 w (by omega)]
    by_cases q : w = d
    · rw [if_pos q, q, t0, mm_ncl (by omega)]; omega
    · rw [if_neg q, r7 w (by omega)]; omega
  · rw [mm_i1, mm_ncl (by omega)]; exact Nat.le_refl _
  · show mm_i (mm_si h' 327 56 (nI (P + 1))) 385 (62 + 3 * w) + 1 = mm_a s' 121 w
    rw [mm_i2 (by omega), ih, r5 w hw', as 121 w (by omega), r6 w hw']
    exact al w hw'
  · show mm_i (mm_si h' 327 56 (nI (P + 1))) 385 (62 + 3 * d) = mm_a s' 121 d
    rw [mm_i2 (by omega), ih, as 121 d (by omega)]
    exact at'
  · obtain ⟨l1, l2, l3, l4, l5, l6⟩ := sl
    have y : ∀ f, ¬ f = 327 → mm_i (mm_si h' 327 56 (nI (P + 1))) f 56 = mm_i hh f 56 := fun f b => (mm_i2 (by omega)).trans (by rw [ih]; exact r3 f)
    have z : ∀ f, ¬ f = 631 → mm_i (mm_si s' 631 80 (nI (P + 1))) f 80 = mm_i ss f 80 := fun f b => (mm_i2 (by omega)).trans (by rw [is, r4])
    exact ⟨(y _ (by omega)).trans (l1.trans (z _ (by omega)).symm), (y _ (by omega)).trans (l2.trans (z _ (by omega)).symm), (y _ (by omega)).trans (l3.trans (z _ (by omega)).symm), mm_i1.trans mm_i1.symm, (y _ (by omega)).trans (l5.trans (z _ (by omega)).symm), (y _ (by omega)).trans (l6.trans (z _ (by omega)).symm)⟩
end
section
variable {ro : mm_Ro} {h0 h s : mm_H} {qm : Nat → Nat} {nC nF nM d n H m i : Nat}
theorem pc_bi {B j : Nat} {x y : Int32} (S : STs ro h0 nC nF nM qm h s d n H m i) (hB : B ≤ H) (b4 : mm_a h 90 j = 1 ∨ B < 4) (xy : ¬ mm_a h 90 j = 0 → x = y) (inp : mm_i h 322 56 = mm_i h 628 80) (N : Nat) (eN : mm_i h 628 80 = nI N) (hN : N ≤ 8) (inq : ∀ j, j < N → mm_a h 57 j = mm_a h 115 j) : PC h0 qm nM (rs_out (kc h) (mm_sa (mm_sa s 121 d (nI (i + 1))) 120 d (nI B)) d B j y) (ma_bi h (62 + 3 * d) B i j x) := by
  obtain ⟨I, E, hd, h4, n24⟩ := st_E S
  have r := ri_at (y := nI (i + 1)) hd (ri_hgt (y := nI B) (H' := B) hd hB (ri_a1 (y := nI (i + 1)) (ri_st S)))
  have sl := S.2.2.1.2.2.2.2.2
  obtain ⟨T, P, eT, hT, eP, hP⟩ := S.2.2.2.1.2.2.2.2.2.2.2
  have cT : mm_i h 328 56 = nI T := sl.2.2.2.2.1.trans eT
  have cP : mm_i h 327 56 = nI P := sl.2.2.2.1.trans eP
  have t0 : mm_a (mm_sa (mm_sa s 121 d (nI (i + 1))) 120 d (nI B)) 120 d = nI B := mm_a1
  have a0 : mm_i (mm_si (mm_si h 388 (62 + 3 * d) (nI B)) 385 (62 + 3 * d) (nI (i + 1))) 385 (62 + 3 * d) = mm_a (mm_sa (mm_sa s 121 d (nI (i + 1))) 120 d (nI B)) 121 d := mm_i1.trans ((mm_a2 (by omega)).trans mm_a1).symm
  unfold rs_out ma_bi
  show PC h0 qm nM (if mm_a h 90 j = 0 then mm_si (rs_lay (mm_sa (mm_sa s 121 d (nI (i + 1))) 120 d (nI B)) d B (if (mm_i s 630 80).toInt < (mm_i h 628 80).toInt then mm_a h 115 (mm_i s 630 80).toNatClampNeg else 0)) 630 80 (mm_i s 630 80 + 1) else if mm_a h 90 j = 1 then mm_si (if (mm_i s 631 80).toInt < 16 then mm_sa (mm_sa (mm_sa s 121 d (nI (i + 1))) 120 d (nI B)) 123 (mm_i s 631 80).toNatClampNeg y else (mm_sa (mm_sa s 121 d (nI (i + 1))) 120 d (nI B))) 631 80 (mm_i s 631 80 + 1) else rs_lay (mm_sa (mm_sa s 121 d (nI (i + 1))) 120 d (nI B)) d B y) _
  rw [cT, cP, eT, eP, inp, eN, mm_nt (by omega), mm_nt (by omega), mm_nt (by omega), mm_ncl (by omega), mm_ncl (by omega), ← nI_succ, ← nI_succ]
  by_cases q0 : mm_a h 90 j = 0
  · rw [if_pos q0, if_pos q0]
    have hB' : B < 4 := b4.elim (fun z => absurd (q0.symm.trans z) (by decide)) id
    have ev : (if (T : Int) < (N : Int) then mm_a h 57 T else 0) = (if (T : Int) < (N : Int) then mm_a h 115 T else 0) := by
      by_cases z : (T : Int) < (N : Int)
      · rw [if_pos z, if_pos z]; exact inq T (by omega)
      · rw [if_neg z, if_neg z]
    rw [ev]
    exact pc_tk S (ri_lay hd hB' r) (by omega) mm_a1 ((ps_i (by omega)).trans (a0.trans ((mm_a2 (by omega)).trans (mm_a2 (by omega))).symm))
  · rw [if_neg q0, if_neg q0, xy q0]
    by_cases q1 : mm_a h 90 j = 1
    · rw [if_pos q1, if_pos q1]
      exact pc_pt S r (by omega) t0 a0 eP hP
    · rw [if_neg q1, if_neg q1]
      have hB' : B < 4 := b4.elim (fun z => absurd z q1) id
      exact pc_ri S (ri_lay hd hB' r) (by omega) mm_a1 ((ps_i (by omega)).trans (a0.trans ((mm_a2 (by omega)).trans (mm_a2 (by omega))).symm))
end
