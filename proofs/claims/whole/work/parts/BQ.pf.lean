/-! RUNNING: perform beside step: throwing -/
theorem pc_raise {h0 h1 K : mm_H} {qm fm fi : Nat → Nat} {nM n o N P : Nat} {x : Int32} (gk : lk_gd h1 = lk_gd K) (ex : x = nI o) (o0 : 0 < o) (on : o ≤ n) (n24 : n ≤ 24) (ar : AR h0 h1) : ∀ (D : Nat) (s : mm_H) (T : Nat → Nat), D ≤ 6 → D ≤ N → CX qm nM h1 s T N n P → (mm_i s 631 80).toNatClampNeg ≤ P → mm_i h1 334 56 = -1 → mm_i s 635 80 = -1 → mm_i s 629 80 = nI n → SL h1 s → mm_i s 633 80 = nI D → (∀ w, w < D → fm w < 10 ∧ fi w < 20 ∧ mm_a s 122 w = nI (fm w) ∧ mm_a s 121 w = nI (fi w + 1) ∧ mm_i h1 385 (62 + 3 * w) = nI (fi w) ∧ (mm_a s 120 w).toNatClampNeg ≤ T w) → PC h0 qm nM (rs_raise K x D s) (ma_rz h1 fm fi x D) := by
  intro D
  induction D with
  | zero =>
    intro s T h6 hN c hP e4 f5 en sl e3 fr
    unfold rs_raise ma_rz
    have e9 : mm_a h1 59 (x.toNatClampNeg - 1) = mm_a s 116 x.toNatClampNeg := by
      rw [ex, mm_ncl (by omega)]
      have z := c.2.2.2.2.1 (o - 1) (by omega)
      rw [show o - 1 + 1 = o by omega] at z
      exact z
    rw [e9]
    refine pc_end (AR_si (by omega) (AR_si (by omega) ar)) ?_ ?_ ?_ (fun j hj hp => ?_)
    · exact ((mm_i2 (by omega)).trans mm_i1).trans ((mm_i2 (by omega)).trans mm_i1).symm
    · rw [show mm_i (mm_si (mm_si s 635 80 1) 636 80 (mm_a s 116 x.toNatClampNeg)) 635 80 = 1 from (mm_i2 (by omega)).trans mm_i1]
      decide
    · obtain ⟨l1, l2, l3, l4, l5, l6⟩ := sl
      have y : ∀ f, ¬ f = 334 → ¬ f = 324 → mm_i (mm_si (mm_si h1 334 56 1) 324 56 (mm_a s 116 x.toNatClampNeg)) f 56 = mm_i h1 f 56 := fun f a b => (mm_i2 (by omega)).trans (mm_i2 (by omega))
      have z : ∀ f, ¬ f = 635 → ¬ f = 636 → mm_i (mm_si (mm_si s 635 80 1) 636 80 (mm_a s 116 x.toNatClampNeg)) f 80 = mm_i s f 80 := fun f a b => (mm_i2 (by omega)).trans (mm_i2 (by omega))
      exact ⟨mm_i1.trans mm_i1.symm, (y _ (by omega) (by omega)).trans (l2.trans (z _ (by omega) (by omega)).symm), (y _ (by omega) (by omega)).trans (l3.trans (z _ (by omega) (by omega)).symm), (y _ (by omega) (by omega)).trans (l4.trans (z _ (by omega) (by omega)).symm), (y _ (by omega) (by omega)).trans (l5.trans (z _ (by omega) (by omega)).symm), (y _ (by omega) (by omega)).trans (l6.trans (z _ (by omega) (by omega)).symm)⟩
    · rw [show mm_i (mm_si (mm_si s 635 80 1) 636 80 (mm_a s 116 x.toNatClampNeg)) 631 80 = mm_i s 631 80 from (mm_i2 (by omega)).trans (mm_i2 (by omega))] at hp
      exact c.2.2.2.2.2.2 j (by omega) hj
  | succ D ih =>
    intro s T h6 hN c hP e4 f5 en sl e3 fr
    obtain ⟨f1, f2, f3, f4, f6, f7⟩ := fr D (by omega)
    unfold rs_raise ma_rz
    rw [f3, f4, mm_ncl (by omega), mm_ncl (by omega), Nat.add_sub_cancel, gk]
    by_cases q : 0 ≤ lk_gd K (fm D) (fi D)
    · rw [if_pos q, if_pos q]
      have c1 := cx_dn (T' := fun u => if u = D then 0 else T u) c hN (Nat.le_refl n) (Nat.le_refl P) (fun w hw => by
        show (if w = D then 0 else T w) ≤ T w
        by_cases y : w = D
        · rw [if_pos y]; omega
        · rw [if_neg y]; omega)
      have c2 := cx_lay (T := fun u => if u = D then 0 else T u) (w := D) (x := x) (H := 0) (T' := fun u => if u = D then 1 else T u) (by omega) (by omega) (by omega) (if_pos rfl) (cx_hgt (w := D) (y := 0) (by omega) (cx_sc (f := 333) (x := nI (D + 1)) c1)) (fun u hu => by
        show (if u = D then 1 else T u) ≤ (if u = D then 0 + 1 else (if u = D then 0 else T u))
        by_cases y : u = D
        · rw [if_pos y, if_pos y]; omega
        · rw [if_neg y, if_neg y, if_neg y]; omega)
      have yi : ∀ f a, ¬ (f = 333 ∧ a = 56) → ¬ (f = 388 ∧ a = 62 + 3 * D) → ¬ (f = 385 ∧ a = 62 + 3 * D) → mm_i (mm_si (ac_ps (mm_si (mm_si h1 333 56 (nI (D + 1))) 388 (62 + 3 * D) 0) (62 + 3 * D) 0 x) 385 (62 + 3 * D) (nI (lk_gd K (fm D) (fi D)).toNat)) f a = mm_i h1 f a := fun f a a1 a2 a3 => (mm_i2 (by omega)).trans ((ps_i (by omega)).trans ((mm_i2 (by omega)).trans (mm_i2 (by omega))))
      have y3 : mm_i (mm_si (ac_ps (mm_si (mm_si h1 333 56 (nI (D + 1))) 388 (62 + 3 * D) 0) (62 + 3 * D) 0 x) 385 (62 + 3 * D) (nI (lk_gd K (fm D) (fi D)).toNat)) 333 56 = nI (D + 1) := (mm_i2 (by omega)).trans ((ps_i (by omega)).trans ((mm_i2 (by omega)).trans mm_i1))
      refine pc_mk (d := D) (n := n) (P := P) (T := fun u => if u = D then 1 else T u) (AR_si (by omega) (AR_si (by omega) (AR_sa (by omega) (AR_si (by omega) (AR_si (by omega) ar))))) (cx_at (cx_a1 c2)) (fun w hw => ?_) hP (by omega) n24 y3 e3 ((yi _ _ (by omega) (by omega) (by omega)).trans e4) f5 en (fun w hw => ?_) (mm_i1.trans mm_a1.symm) (SL_cg (fun f hf => yi _ _ (by omega) (by omega) (by omega)) (fun f _ _ _ _ => rfl) sl)
      · show _ ≤ (if w = D then 1 else T w)
        by_cases y : w = D
        · rw [if_pos y, y]
          have z : mm_a (mm_sa (rs_lay (mm_sa s 120 D 0) D 0 x) 121 D (nI (lk_gd K (fm D) (fi D)).toNat)) 120 D = nI 1 := (mm_a2 (by omega)).trans mm_a1
          rw [z, mm_ncl (by omega)]
          omega
        · rw [if_neg y]
          have z : mm_a (mm_sa (rs_lay (mm_sa s 120 D 0) D 0 x) 121 D (nI (lk_gd K (fm D) (fi D)).toNat)) 120 w = mm_a s 120 w := (mm_a2 (by omega)).trans ((mm_a2 (by omega)).trans ((mm_a2 (by omega)).trans (mm_a2 (by omega))))
          rw [z]
          exact (fr w (by omega)).2.2.2.2.2
      · have z : mm_a (mm_sa (rs_lay (mm_sa s 120 D 0) D 0 x) 121 D (nI (lk_gd K (fm D) (fi D)).toNat)) 121 w = mm_a s 121 w := (mm_a2 (by omega)).trans ((mm_a2 (by omega)).trans ((mm_a2 (by omega)).trans (mm_a2 (by omega))))
        obtain ⟨_, _, _, g4, g6, _⟩ := fr w (by omega)
        rw [z, yi _ _ (by omega) (by omega) (by omega), g6, g4, nI_succ]
    · rw [if_neg q, if_neg q]
      refine ih (mm_si s 633 80 (nI D)) T (by omega) (by omega) (cx_s8 c) ?_ e4 ((mm_i2 (by omega)).trans f5) ((mm_i2 (by omega)).trans en) (SL_cg (fun _ _ => rfl) (fun f _ _ a _ => mm_i2 (by omega)) sl) mm_i1 (fun w hw => fr w (by omega))
      rw [mm_i2 (by omega)]
      exact hP
section
variable {ro : mm_Ro} {h0 h s : mm_H} {qm : Nat → Nat} {nC nF nM d n H m i len D : Nat} {Q : Value → mm_H → Prop}
/-- the methods at work, as both know them -/
theorem st_fr (S : STs ro h0 nC nF nM qm h s d n H m i) (rz : rs_rz (kc h) (mm_sa s 121 d (nI (i + 1))) (d + 1)) : ∃ fm fi : Nat → Nat, ma_fr (mm_si h 388 (62 + 3 * d) (nI (H - 1))) qm nM fm fi (d + 1) ∧ ma_fr h qm nM fm fi (d + 1) ∧ ∀ w, w < d + 1 → fm w < 10 ∧ fi w < 20 ∧ mm_a (rs_pop (mm_sa s 121 d (nI (i + 1))) d H) 122 w = nI (fm w) ∧ mm_a (rs_pop (mm_sa s 121 d (nI (i + 1))) d H) 121 w = nI (fi w + 1) ∧ mm_i (mm_si h 388 (62 + 3 * d) (nI (H - 1))) 385 (62 + 3 * w) = nI (fi w) := by
  obtain ⟨T, ar, ⟨c, e3, e4, al, at', sl⟩, ⟨⟨hw, h4, hm, hi, hn⟩, f3, f5, f0, f2, f1, en, _⟩, hmM⟩ := S
  have h10 := T.2.1.2.2.2.2.2.2
  have z : ∀ w : Nat, ∃ a b : Nat, w < d + 1 → a < nM ∧ a < 10 ∧ b < 20 ∧ mm_a s 122 w = nI a ∧ mm_a (mm_sa s 121 d (nI (i + 1))) 121 w = nI (b + 1) ∧ mm_r h 384 (62 + 3 * w) = qm a ∧ mm_i h 385 (62 + 3 * w) = nI b := by
    intro w
    by_cases q : w < d + 1
    · obtain ⟨a, b, a1, b1, a2, b2, _⟩ := rz w q
      rw [mm_a2 (by omega)] at a2
      obtain ⟨m', m1, m2, m3⟩ := c.1 w q
      have em : a = m' := (nI_eq (by omega) (by omega)).mp (a2.symm.trans m2)
      subst em
      refine ⟨a, b, fun _ => ⟨m1, a1, b1, a2, b2, m3, ?_⟩⟩
      by_cases y : w = d
      · rw [y, mm_a1] at b2
        have eb : i = b := by have := mm_nee (by omega) (by omega) b2; omega
        rw [y, ← eb]
        exact at'.trans f1
      · rw [mm_a2 (by omega), ← al w (by omega), nI_succ] at b2
        have z : mm_i h 385 (62 + 3 * w) + 1 - 1 = nI b + 1 - 1 := by rw [b2]
        rwa [Int32.add_sub_cancel, Int32.add_sub_cancel] at z
    · exact ⟨0, 0, fun y => absurd y q⟩
  refine ⟨fun w => (z w).choose, fun w => (z w).choose_spec.choose, fun w hw' => ?_, fun w hw' => ?_, fun w hw' => ?_⟩
  · obtain ⟨a1, a2, a3, a4, a5, a6, a7⟩ := (z w).choose_spec.choose_spec hw'
    exact ⟨a1, a3, a6, (mm_i2 (by omega)).trans a7⟩
  · obtain ⟨a1, a2, a3, a4, a5, a6, a7⟩ := (z w).choose_spec.choose_spec hw'
    exact ⟨a1, a3, a6, a7⟩
  · obtain ⟨a1, a2, a3, a4, a5, a6, a7⟩ := (z w).choose_spec.choose_spec hw'
    exact ⟨a2, a3, (mm_a2 (by omega)).trans ((mm_a2 (by omega)).trans a4), (mm_a2 (by omega)).trans a5, (mm_i2 (by omega)).trans a7⟩
theorem st_ra {fm fi : Nat → Nat} {o : Nat} {x : Int32} (S : STs ro h0 nC nF nM qm h s d n H m i) (ex : x = nI o) (o0 : 0 < o) (on : o ≤ n) (fr : ∀ w, w < d + 1 → fm w < 10 ∧ fi w < 20 ∧ mm_a (rs_pop (mm_sa s 121 d (nI (i + 1))) d H) 122 w = nI (fm w) ∧ mm_a (rs_pop (mm_sa s 121 d (nI (i + 1))) d H) 121 w = nI (fi w + 1) ∧ mm_i (mm_si h 388 (62 + 3 * d) (nI (H - 1))) 385 (62 + 3 * w) = nI (fi w)) : PC h0 qm nM (rs_raise (kc h) x (d + 1) (rs_pop (mm_sa s 121 d (nI (i + 1))) d H)) (ma_rz (mm_si h 388 (62 + 3 * d) (nI (H - 1))) fm fi x (d + 1)) := by
  obtain ⟨I, E, hd, h4, n24⟩ := st_E S
  obtain ⟨r1, r2, r3, r4, r5, r6, r7⟩ := ri_hgt (y := nI (H - 1)) (H' := H - 1) hd (by omega) (ri_a1 (y := nI (i + 1)) (ri_st S))
  obtain ⟨T, ar, ⟨c, e3, e4, al, at', sl⟩, ⟨⟨hw, h4', hm, hi, hn⟩, f3, f5, f0, f2, f1, en, _⟩, hmM⟩ := S
  refine pc_raise (h1 := mm_si h 388 (62 + 3 * d) (nI (H - 1))) (N := d + 1) (K := kc h) (P := (mm_i s 631 80).toNatClampNeg) rfl ex o0 on n24 r1 (d + 1) (rs_pop (mm_sa s 121 d (nI (i + 1))) d H) _ (by omega) (Nat.le_refl _) r2 (Nat.le_refl _) ((r3 334).trans e4) f5 en (SL_cg (fun f _ => r3 f) (fun f _ _ _ _ => rfl) sl) f3 (fun w hw' => ?_)
  obtain ⟨a1, a2, a3, a4, a5⟩ := fr w hw'
  refine ⟨a1, a2, a3, a4, a5, ?_⟩
  show _ ≤ (if w = d then H - 1 else (mm_a s 120 w).toNatClampNeg)
  by_cases q : w = d
  · rw [if_pos q, q]
    have z : mm_a (rs_pop (mm_sa s 121 d (nI (i + 1))) d H) 120 d = nI (H - 1) := mm_a1
    rw [z, mm_ncl (by omega)]
    exact Nat.le_refl _
  · rw [if_neg q]
    have z : mm_a (rs_pop (mm_sa s 121 d (nI (i + 1))) d H) 120 w = mm_a s 120 w := (mm_a2 (by omega)).trans (mm_a2 (by omega))
    rw [z]
    exact Nat.le_refl _
theorem pf_12 (S : STs ro h0 nC nF nM qm h s d n H m i) (ML : lx_ML h nC nF nM m len) (rz : rs_rz (kc h) (mm_sa s 121 d (nI (i + 1))) (d + 1)) (oc : ∀ u, 0 < u → u ≤ n → ∃ c, c < nC ∧ mm_a s 116 u = nI c) (hi : i < len) (o : lk_o h m i = 12) (ok : 0 < H ∧ lk_a h m i < 6 ∧ rs_ob s n (rs_tp s d H)) (hQ : ∀ h', PC h0 qm nM (rs_op (kc h) nM (mm_sa s 121 d (nI (i + 1))) d H m i 12) h' → Q .null h') : mm_ev ro (D + 6) n_Ma_perform [.ref 56, .ref (62 + 3 * d)] h Q := by
  obtain ⟨I, E, hd, h4, n24⟩ := st_E S
  obtain ⟨f4, f8, f5, _, fl, fn⟩ := st_f S
  have T := AR_T S.2.1 S.1
  have MO := (T.2.2.2.1.2.2.1.2 m S.2.2.2.2).2
  have IV := (ML.2.2.1 i hi).1
  have l20 := ML.1
  have eo := IV.2.1
  rw [o] at eo
  obtain ⟨k1, k2, k3⟩ := ok
  have tp := st_tp S k1
  have c5 := S.2.2.1.1.2.2.2.2.1
  obtain ⟨fm, fi, fr1, fr2, fr3⟩ := st_fr S rz
  have ob : rs_tp s d H = 0 ∨ ∃ o c, 0 < o ∧ o ≤ n ∧ rs_tp s d H = nI o ∧ c < nC ∧ mm_a h 59 (o - 1) = nI c := by
    rcases k3 with z | ⟨u, c, u1, u2, u3, _⟩
    · exact Or.inl z
    · obtain ⟨c', c1, c2⟩ := oc u u1 u2
      refine Or.inr ⟨u, c', u1, u2, u3, c1, ?_⟩
      have z := c5 (u - 1) (by omega)
      rw [show u - 1 + 1 = u by omega] at z
      exact z.trans c2
  refine c_pf (D := D + 4) S ML hi ?_
  rw [o, (IV.1.2.2.1 (by omega)).2]
  refine l_pf_12 (d := D + 3) I E.1 (l_po_12 (d := D) I E f4 MO f5 (by omega) eo (c_Ma_cast (d := D) (D := d + 1) (fm := fm) (fi := fi) T E (by omega) (by omega) f8 k1 h4 f5 n24 fn k2 (by rw [tp]; exact ob) (by omega) S.2.2.1.2.1 fr2 (hQ _ ?_)))
  rw [tp]
  have e59 : ¬ rs_tp s d H = 0 → mm_a h 59 ((rs_tp s d H).toNatClampNeg - 1) = mm_a s 116 (rs_tp s d H).toNatClampNeg := fun z => by
    rcases k3 with y | ⟨u, c, u1, u2, u3, _⟩
    · exact absurd y z
    · rw [u3, mm_ncl (by omega)]
      have z := c5 (u - 1) (by omega)
      rw [show u - 1 + 1 = u by omega] at z
      exact z
  show PC h0 qm nM (@ite _ (rs_tp s d H = 0 ∨ mm_bel (mm_up h) (mm_a s 116 (rs_tp s d H).toNatClampNeg).toInt (lk_a h m i : Int)) (Classical.propDecidable _) (rs_lay (rs_pop (mm_sa s 121 d (nI (i + 1))) d H) d (H - 1) (rs_tp s d H)) (rs_raise (kc h) (rs_tp s d H) (d + 1) (rs_pop (mm_sa s 121 d (nI (i + 1))) d H))) _
  have psh : PC h0 qm nM (rs_lay (rs_pop (mm_sa s 121 d (nI (i + 1))) d H) d (H - 1) (rs_tp s d H)) (mm_si (ac_ps (mm_si h 388 (62 + 3 * d) (nI (H - 1))) (62 + 3 * d) (H - 1) (rs_tp s d H)) 385 (62 + 3 * d) (nI (i + 1))) := by
    have r := ri_lay (x := rs_tp s d H) hd (by omega) (ri_hgt (y := nI (H - 1)) (H' := H - 1) hd (by omega) (ri_a1 (y := nI (i + 1)) (ri_st S)))
    exact pc_ri S (ri_at hd r) (by omega) mm_a1 (mm_i1.trans ((mm_a2 (by omega)).trans ((mm_a2 (by omega)).trans ((mm_a2 (by omega)).trans mm_a1))).symm)
  by_cases q : rs_tp s d H = 0
  · rw [if_pos (Or.inl q), if_pos (Or.inl q)]
    exact psh
  · rw [e59 q]
    by_cases q2 : mm_bel (mm_up h) (mm_a s 116 (rs_tp s d H).toNatClampNeg).toInt (lk_a h m i : Int)
    · rw [if_pos (Or.inr q2), if_pos (Or.inr q2)]
      exact psh
    · rw [if_neg (fun z => z.elim q q2), if_neg (fun z => z.elim q q2)]
      rcases k3 with y | ⟨u, c, u1, u2, u3, _⟩
      · exact absurd y q
      · exact st_ra S u3 u1 u2 fr3
theorem pf_17 (S : STs ro h0 nC nF nM qm h s d n H m i) (ML : lx_ML h nC nF nM m len) (rz : rs_rz (kc h) (mm_sa s 121 d (nI (i + 1))) (d + 1)) (hi : i < len) (o : lk_o h m i = 17) (ok : 0 < H ∧ rs_ob s n (rs_tp s d H)) (hQ : ∀ h', PC h0 qm nM (rs_op (kc h) nM (mm_sa s 121 d (nI (i + 1))) d H m i 17) h' → Q .null h') : mm_ev ro (D + 6) n_Ma_perform [.ref 56, .ref (62 + 3 * d)] h Q := by
  obtain ⟨I, E, hd, h4, n24⟩ := st_E S
  obtain ⟨f4, f8, f5, _, fl, fn⟩ := st_f S
  have T := AR_T S.2.1 S.1
  have MO := (T.2.2.2.1.2.2.1.2 m S.2.2.2.2).2
  have IV := (ML.2.2.1 i hi).1
  have l20 := ML.1
  have eo := IV.2.1
  rw [o] at eo
  obtain ⟨k1, k3⟩ := ok
  have tp := st_tp S k1
  obtain ⟨fm, fi, fr1, fr2, fr3⟩ := st_fr S rz
  refine c_pf (D := D + 4) S ML hi ?_
  rw [o]
  refine l_pf_17 (d := D + 3) I E.1 (l_po_17 (d := D) I E f4 MO f5 (by omega) eo f8 k1 h4 ?_)
  rw [tp]
  have hq : ∀ h', PC h0 qm nM (if rs_tp s d H = 0 then mm_si (rs_pop (mm_sa s 121 d (nI (i + 1))) d H) 635 80 6 else rs_raise (kc h) (rs_tp s d H) (d + 1) (rs_pop (mm_sa s 121 d (nI (i + 1))) d H)) h' → Q .null h' := hQ
  by_cases q : rs_tp s d H = 0
  · rw [if_pos q] at hq
    rw [q]
    exact c_Ma_raise0 (d := D + 1) (SH_si I) ((mm_i2 (by omega)).trans fn) n24 (hq _ (pc_e S (ri_hgt (H' := H - 1) hd (by omega) (ri_a1 (ri_st S))) (by decide)))
  · rw [if_neg q] at hq
    rcases k3 with y | ⟨u, c, u1, u2, u3, _⟩
    · exact absurd y q
    have T2 : lx_T ro (mm_si h 388 (62 + 3 * d) (nI (H - 1))) nC nF nM qm := AR_T (AR_si (by omega) S.2.1) S.1
    exact c_Ma_raise (d := D + 1) (D := d + 1) T2 u1 u2 n24 ((mm_i2 (by omega)).trans fn) u3 (by omega) ((mm_i2 (by omega)).trans S.2.2.1.2.1) fr1 (hq _ (st_ra S u3 u1 u2 fr3))
end
