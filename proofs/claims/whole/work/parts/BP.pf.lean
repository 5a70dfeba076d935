/-! RUNNING: perform beside step: new, get, put -/
theorem cx_new {qm T : Nat → Nat} {nM D n P : Nat} {h s : mm_H} {x : Int32} (c : CX qm nM h s T D n P) (hD : D ≤ 6) : CX qm nM (rs_fill (mm_sa h 59 n x) 60 (12 * n) 12 (fun _ => 0)) (rs_fill (mm_sa s 116 (n + 1) x) 117 (12 * n) 12 (fun _ => 0)) T D (n + 1) P := by
  obtain ⟨c1, c2, c3, c4, c5, c6, c7⟩ := c
  refine ⟨fun w hw => ?_, fun w v hw hv => ?_, fun w j hw hj h4 => ?_, fun w hw => ?_, fun o ho => ?_, fun j hj => ?_, fun j hj h6 => ?_⟩
  · rw [rs_fill_a (by omega), mm_a2 (by omega)]; exact c1 w hw
  · rw [rs_fill_a (by omega), rs_fill_a (by omega), mm_a2 (by omega), mm_a2 (by omega)]; exact c2 w v hw hv
  · rw [rs_fill_a (by omega), rs_fill_a (by omega), mm_a2 (by omega), mm_a2 (by omega)]; exact c3 w j hw hj h4
  · rw [rs_fill_a (by omega), mm_a2 (by omega)]; exact c4 w hw
  · rw [rs_fill_a (by omega), rs_fill_a (by omega)]
    by_cases q : o = n
    · rw [q, mm_a1, mm_a1]
    · rw [mm_a2 (by omega), mm_a2 (by omega)]; exact c5 o (by omega)
  · by_cases q : 12 * n ≤ j
    · rw [rs_fill_b (by omega), rs_fill_b (by omega)]
    · rw [rs_fill_a (by omega), rs_fill_a (by omega), mm_a2 (by omega), mm_a2 (by omega)]; exact c6 j (by omega)
  · rw [rs_fill_a (by omega), rs_fill_a (by omega), mm_a2 (by omega), mm_a2 (by omega)]; exact c7 j hj h6
theorem ps_i {h : mm_H} {A H f a : Nat} {x : Int32} (o : ¬ (f = 388 ∧ a = A)) : mm_i (ac_ps h A H x) f a = mm_i h f a := (mm_i2 (by omega)).trans rfl
theorem nw_i {s : mm_H} {d H n e f : Nat} {x y z : Int32} (o : ¬ f = 629) : mm_i (rs_lay (rs_fill (mm_sa (mm_si (mm_sa s 121 d x) 629 80 y) 116 (n + 1) z) 117 (12 * n) 12 (fun _ => 0)) e H y) f 80 = mm_i s f 80 := (show mm_i (mm_si (mm_sa s 121 d x) 629 80 y) f 80 = mm_i s f 80 from (mm_i2 (by omega)).trans rfl)
theorem nw_9 {s : mm_H} {d H n e : Nat} {x y z : Int32} : mm_i (rs_lay (rs_fill (mm_sa (mm_si (mm_sa s 121 d x) 629 80 y) 116 (n + 1) z) 117 (12 * n) 12 (fun _ => 0)) e H y) 629 80 = y := (show mm_i (mm_si (mm_sa s 121 d x) 629 80 y) 629 80 = y from mm_i1)
theorem nc_i {h : mm_H} {A H n f a : Nat} {x y z : Int32} (o : ¬ (f = 326 ∧ a = 56) ∧ ¬ (f = 388 ∧ a = A) ∧ ¬ (f = 385 ∧ a = A)) : mm_i (mm_si (ac_ps (mm_si (rs_fill (mm_sa h 59 n x) 60 (12 * n) 12 (fun _ => 0)) 326 56 y) A H y) 385 A z) f a = mm_i h f a := (mm_i2 (by omega)).trans ((ps_i (by omega)).trans ((mm_i2 (by omega)).trans rfl))
theorem nc_6 {h : mm_H} {A H n : Nat} {x y z : Int32} (hA : ¬ A = 56) : mm_i (mm_si (ac_ps (mm_si (rs_fill (mm_sa h 59 n x) 60 (12 * n) 12 (fun _ => 0)) 326 56 y) A H y) 385 A z) 326 56 = y := (mm_i2 (by omega)).trans ((ps_i (by omega)).trans mm_i1)
section
variable {ro : mm_Ro} {h0 h s : mm_H} {qm : Nat → Nat} {nC nF nM d n H m i len D : Nat} {Q : Value → mm_H → Prop}
theorem pf_7 (S : STs ro h0 nC nF nM qm h s d n H m i) (ML : lx_ML h nC nF nM m len) (L5 : ∀ c, c < 6 → mm_a h 5 c = mm_a h 85 c) (hi : i < len) (o : lk_o h m i = 7) (ok : H < 4 ∧ lk_a h m i < 6) (hQ : ∀ h', PC h0 qm nM (rs_op (kc h) nM (mm_sa s 121 d (nI (i + 1))) d H m i 7) h' → Q .null h') : mm_ev ro (D + 6) n_Ma_perform [.ref 56, .ref (62 + 3 * d)] h Q := by
  obtain ⟨I, E, hd, h4, n24⟩ := st_E S
  obtain ⟨f4, f8, f5, _, fl, fn⟩ := st_f S
  have T := AR_T S.2.1 S.1
  have MO := (T.2.2.2.1.2.2.1.2 m S.2.2.2.2).2
  have IV := (ML.2.2.1 i hi).1
  have l20 := ML.1
  have eo := IV.2.1
  rw [o] at eo
  have en : mm_i s 629 80 = nI n := S.2.2.2.1.2.2.2.2.2.2.1
  refine c_pf (D := D + 4) S ML hi ?_
  rw [o, (IV.1.2.2.1 (by omega)).2]
  refine l_pf_7 (d := D + 3) I E.1 (l_po_7 (d := D) I E f4 MO f5 (by omega) eo (c_Ma_makeObject (d := D + 1) I E (by omega) f8 ok.1 f5 n24 fn ok.2 (hQ _ ?_)))
  show PC h0 qm nM (rs_make (kc h) (mm_sa s 121 d (nI (i + 1))) d H (mm_i s 629 80).toNatClampNeg (lk_a h m i)) (ma_mk h (62 + 3 * d) H i n (lk_a h m i))
  rw [en, mm_ncl (by omega)]
  unfold rs_make ma_mk
  rw [L5 _ ok.2]
  show PC h0 qm nM (if mm_a h 85 (lk_a h m i) = 0 then _ else _) _
  by_cases q1 : mm_a h 85 (lk_a h m i) = 0
  · rw [if_pos q1, if_pos q1]
    exact pc_e S (ri_a1 (ri_st S)) (by decide)
  rw [if_neg q1, if_neg q1]
  by_cases q2 : n = 24
  · rw [if_pos q2, if_pos q2]
    exact pc_e S (ri_a1 (ri_st S)) (by decide)
  rw [if_neg q2, if_neg q2]
  obtain ⟨r1, r2, r3, r4, r5, r6, r7⟩ := ri_a1 (y := nI (i + 1)) (ri_st S)
  obtain ⟨TT, ar, ⟨c, e3, e4, al, at', sl⟩, ⟨_, g3, g5, g0, _⟩, hmM⟩ := S
  have cN := cx_new (x := nI (lk_a h m i)) r2 (by omega)
  refine pc_mk (d := d) (n := n + 1) (P := (mm_i s 631 80).toNatClampNeg) (T := fun u => if u = d then H + 1 else (mm_a s 120 u).toNatClampNeg) (AR_si (by omega) (AR_si (by omega) (AR_sa (by omega) (AR_si (by omega) (AR_fill (by omega) (AR_sa (by omega) r1)))))) (cx_at (cx_lay (T := fun u => if u = d then H else (mm_a s 120 u).toNatClampNeg) (w := d) (by omega) (by omega) ok.1 (if_pos rfl) (cx_sc ?_) (fun u hu => ?_))) (fun w hw => ?_) ?_ hd (by omega) ?_ ?_ ?_ ?_ ?_ (fun w hw => ?_) ?_ ?_
  · exact cN
  · show (if u = d then H + 1 else (mm_a s 120 u).toNatClampNeg) ≤ (if u = d then H + 1 else (if u = d then H else (mm_a s 120 u).toNatClampNeg))
    by_cases q : u = d
    · rw [if_pos q, if_pos q]; exact Nat.le_refl _
    · rw [if_neg q, if_neg q, if_neg q]; exact Nat.le_refl _
  · show _ ≤ (if w = d then H + 1 else (mm_a s 120 w).toNatClampNeg)
    by_cases q : w = d
    · rw [if_pos q, q]
      have z : mm_a (rs_lay (rs_fill (mm_sa (mm_si (mm_sa s 121 d (nI (i + 1))) 629 80 (nI (n + 1))) 116 (n + 1) (nI (lk_a h m i))) 117 (12 * n) 12 (fun _ => 0)) d H (nI (n + 1))) 120 d = nI (H + 1) := mm_a1
      rw [z, mm_ncl (by omega)]
      exact Nat.le_refl _
    · rw [if_neg q]
      have z : mm_a (rs_lay (rs_fill (mm_sa (mm_si (mm_sa s 121 d (nI (i + 1))) 629 80 (nI (n + 1))) 116 (n + 1) (nI (lk_a h m i))) 117 (12 * n) 12 (fun _ => 0)) d H (nI (n + 1))) 120 w = mm_a s 120 w := (mm_a2 (by omega)).trans ((mm_a2 (by omega)).trans ((rs_fill_a (by omega)).trans ((mm_a2 (by omega)).trans ((congrFun (congrFun ra_si _) _).trans (mm_a2 (by omega))))))
      rw [z]
      exact Nat.le_refl _
  · exact Nat.le_refl _
  · exact (nc_i (by omega)).trans e3
  · exact (nw_i (by omega)).trans g3
  · exact (nc_i (by omega)).trans e4
  · exact (nw_i (by omega)).trans g5
  · exact nw_9
  · have z : mm_a (rs_lay (rs_fill (mm_sa (mm_si (mm_sa s 121 d (nI (i + 1))) 629 80 (nI (n + 1))) 116 (n + 1) (nI (lk_a h m i))) 117 (12 * n) 12 (fun _ => 0)) d H (nI (n + 1))) 121 w = mm_a s 121 w := (mm_a2 (by omega)).trans ((mm_a2 (by omega)).trans ((rs_fill_a (by omega)).trans ((mm_a2 (by omega)).trans ((congrFun (congrFun ra_si _) _).trans (mm_a2 (by omega))))))
    rw [z, ← al w hw, nc_i (by omega)]
  · refine mm_i1.trans ?_
    exact ((mm_a2 (by omega)).trans ((mm_a2 (by omega)).trans ((rs_fill_a (by omega)).trans ((mm_a2 (by omega)).trans ((congrFun (congrFun ra_si _) _).trans mm_a1))))).symm
  · obtain ⟨l1, l2, l3, l4, l5, l6⟩ := sl
    exact ⟨(nc_i (by omega)).trans (l1.trans (nw_i (by omega)).symm), (nc_i (by omega)).trans (l2.trans (nw_i (by omega)).symm), (nc_6 (by omega)).trans nw_9.symm, (nc_i (by omega)).trans (l4.trans (nw_i (by omega)).symm), (nc_i (by omega)).trans (l5.trans (nw_i (by omega)).symm), (nc_i (by omega)).trans (l6.trans (nw_i (by omega)).symm)⟩
theorem pf_9 (S : STs ro h0 nC nF nM qm h s d n H m i) (ML : lx_ML h nC nF nM m len) (hi : i < len) (o : lk_o h m i = 9) (ok : 0 < H ∧ lk_a h m i < 12 ∧ rs_ob s n (rs_tp s d H)) (hQ : ∀ h', PC h0 qm nM (rs_op (kc h) nM (mm_sa s 121 d (nI (i + 1))) d H m i 9) h' → Q .null h') : mm_ev ro (D + 6) n_Ma_perform [.ref 56, .ref (62 + 3 * d)] h Q := by
  obtain ⟨I, E, hd, h4, n24⟩ := st_E S
  obtain ⟨f4, f8, f5, _, fl, fn⟩ := st_f S
  have T := AR_T S.2.1 S.1
  have MO := (T.2.2.2.1.2.2.1.2 m S.2.2.2.2).2
  have IV := (ML.2.2.1 i hi).1
  have l20 := ML.1
  have eo := IV.2.1
  rw [o] at eo
  obtain ⟨k1, k2, k3⟩ := ok
  have tp := st_tp S k1
  refine c_pf (D := D + 4) S ML hi ?_
  rw [o, IV.2.2.2.1 (by omega)]
  refine l_pf_9 (d := D + 3) I E.1 (l_po_9 (d := D) I E f4 MO f5 (by omega) eo (c_Ma_get (d := D + 1) I E (by omega) f8 k1 h4 f5 n24 fn k2 (by rw [tp]; exact ob_c s k3) (hQ _ ?_)))
  rw [tp]
  show PC h0 qm nM (if rs_tp s d H = 0 then mm_si (rs_pop (mm_sa s 121 d (nI (i + 1))) d H) 635 80 6 else rs_lay (rs_pop (mm_sa s 121 d (nI (i + 1))) d H) d (H - 1) (mm_a s 117 (12 * ((rs_tp s d H).toNatClampNeg - 1) + lk_a h m i))) _
  by_cases q : rs_tp s d H = 0
  · rw [if_pos q, if_pos q]
    exact pc_e S (ri_hgt (H' := H - 1) hd (by omega) (ri_a1 (ri_st S))) (by decide)
  · rw [if_neg q, if_neg q]
    rcases k3 with z | ⟨u, c, u1, u2, u3, _⟩
    · exact absurd z q
    have un : (rs_tp s d H).toNatClampNeg = u := by rw [u3]; exact mm_ncl (by omega)
    rw [un, (S.2.2.1.1.2.2.2.2.2.1 (12 * (u - 1) + lk_a h m i) (by omega))]
    have r := ri_lay (x := mm_a s 117 (12 * (u - 1) + lk_a h m i)) hd (by omega) (ri_hgt (y := nI (H - 1)) (H' := H - 1) hd (by omega) (ri_a1 (y := nI (i + 1)) (ri_st S)))
    exact pc_ri S (ri_at hd r) (by omega) mm_a1 (mm_i1.trans ((mm_a2 (by omega)).trans ((mm_a2 (by omega)).trans ((mm_a2 (by omega)).trans mm_a1))).symm)
theorem pf_10 (S : STs ro h0 nC nF nM qm h s d n H m i) (ML : lx_ML h nC nF nM m len) (hi : i < len) (o : lk_o h m i = 10) (ok : 1 < H ∧ lk_a h m i < 12 ∧ rs_ob s n (mm_a s 119 (4 * d + (H - 2)))) (hQ : ∀ h', PC h0 qm nM (rs_op (kc h) nM (mm_sa s 121 d (nI (i + 1))) d H m i 10) h' → Q .null h') : mm_ev ro (D + 6) n_Ma_perform [.ref 56, .ref (62 + 3 * d)] h Q := by
  obtain ⟨I, E, hd, h4, n24⟩ := st_E S
  obtain ⟨f4, f8, f5, _, fl, fn⟩ := st_f S
  have T := AR_T S.2.1 S.1
  have MO := (T.2.2.2.1.2.2.1.2 m S.2.2.2.2).2
  have IV := (ML.2.2.1 i hi).1
  have l20 := ML.1
  have eo := IV.2.1
  rw [o] at eo
  obtain ⟨k1, k2, k3⟩ := ok
  have tp := st_tp S (by omega)
  have t2 := st_t2 S k1
  refine c_pf (D := D + 4) S ML hi ?_
  rw [o, IV.2.2.2.1 (by omega)]
  refine l_pf_10 (d := D + 3) I E.1 (l_po_10 (d := D) I E f4 MO f5 (by omega) eo (c_Ma_put (d := D + 2) I E (by omega) f8 k1 h4 f5 n24 fn k2 (by rw [t2]; exact ob_c s k3) (hQ _ ?_)))
  rw [tp, t2]
  have e0 : rs_pop (rs_pop (mm_sa s 121 d (nI (i + 1))) d H) d (H - 1) = mm_sa (mm_sa (mm_sa s 121 d (nI (i + 1))) 120 d (nI (H - 1))) 120 d (nI (H - 1 - 1)) := rfl
  have r := ri_hgt (y := nI (H - 1 - 1)) (H' := H - 1 - 1) hd (by omega) (ri_hgt (y := nI (H - 1)) (H' := H - 1) hd (by omega) (ri_a1 (y := nI (i + 1)) (ri_st S)))
  show PC h0 qm nM (if mm_a s 119 (4 * d + (H - 2)) = 0 then mm_si (rs_pop (rs_pop (mm_sa s 121 d (nI (i + 1))) d H) d (H - 1)) 635 80 6 else mm_sa (rs_pop (rs_pop (mm_sa s 121 d (nI (i + 1))) d H) d (H - 1)) 117 (12 * ((mm_a s 119 (4 * d + (H - 2))).toNatClampNeg - 1) + lk_a h m i) (rs_tp s d H)) _
  rw [e0]
  by_cases q : mm_a s 119 (4 * d + (H - 2)) = 0
  · rw [if_pos q, if_pos q]
    exact pc_e S r (by decide)
  · rw [if_neg q, if_neg q]
    exact pc_ri S (ri_at hd (ri_held r)) (by omega) ((mm_a2 (by omega)).trans mm_a1) (mm_i1.trans ((mm_a2 (by omega)).trans ((mm_a2 (by omega)).trans ((mm_a2 (by omega)).trans mm_a1))).symm)
end
