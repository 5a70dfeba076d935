/-! what comes out is as it must be, and more comes out of more -/
theorem lk_P_put {up : Nat → Int} {H j : Nat} {s f s' f' : Int32} {g g' : Nat → mm_V} {x y : mm_V} (p : lk_P up H s f g s' f' g') (h : mm_vle up x y) : lk_P up H s f (lk_up g j x) s' f' (lk_up g' j y) := by
  refine ⟨p.1, fun v hv => ?_⟩
  by_cases q : v = j
  · rw [q, lk_up_t, lk_up_t]; exact h
  · rw [lk_up_f q, lk_up_f q]; exact p.2 v hv
theorem lk_ok_put {na : Int32 → Int32} {H j : Nat} {s f : Int32} {g : Nat → mm_V} {x : mm_V} (o : lk_ok na H s f g) (hj : 6 ≤ j) (hx : mm_vr x) (h4 : x.1 = 4 → ¬ s = -1 ∧ x.2.1 = na s) : lk_ok na H s f (lk_up g j x) := by
  obtain ⟨a1, a2, a3, a4, a5⟩ := o
  refine ⟨a1, a2, a3, a4, fun v hv => ?_⟩
  by_cases q : v = j
  · rw [q, lk_up_t]; exact ⟨hx, h4, fun z => by omega⟩
  · rw [lk_up_f q]; exact a5 v hv
theorem lk_un_le {up : Nat → Int} {na : Int32 → Int32} {H a : Nat} {s f s' f' : Int32} {g g' : Nat → mm_V} (o2 : lk_ok na H s' f' g') (p : lk_P up H s f g s' f' g') {v : Nat} (hv : v < 6 + H) (h : lk_un f a (g v)) : lk_un f' a (g' v) := by
  have pv := p.2 v hv
  have d3 : ¬ (0 : Int32) = 2 := by decide
  rcases h with h | h | ⟨h, hb⟩
  · rcases pv.1 with q | ⟨q, _⟩ | ⟨q, _⟩ | ⟨q, _⟩
    · exact Or.inl q
    · exact Or.inl (q.symm.trans h)
    · exact absurd (h.symm.trans q) (by decide)
    · exact absurd (h.symm.trans q) (by decide)
  · rcases pv.1 with q | ⟨q, _⟩ | ⟨q, _⟩ | ⟨q, _⟩
    · exact Or.inl q
    · exact Or.inr (Or.inl (q.symm.trans h))
    · exact absurd (h.symm.trans q) (by decide)
    · exact absurd (h.symm.trans q) (by decide)
  · rcases lk_raw_up pv h with q | ⟨q, _⟩
    · exact Or.inl q
    · refine Or.inr (Or.inr ⟨q, ?_⟩)
      rcases p.1 with z | z
      · exact absurd z ((o2.2.2.2.2 v hv).2.1 q).1
      · exact lk_bt_le z.2 hb
theorem lk_b_le {P R : Prop} (h : P → R) : mm_b P = mm_b R ∨ (mm_b P = 0 ∧ mm_b R = 1) := by
  by_cases p : P
  · exact Or.inl (by rw [mm_b_t p, mm_b_t (h p)])
  · by_cases r : R
    · exact Or.inr ⟨mm_b_f p, mm_b_t r⟩
    · exact Or.inl (by rw [mm_b_f p, mm_b_f r])
theorem lk_ef_mono {up : Nat → Int} {na : Int32 → Int32} {h : mm_H} {m i H a o : Nat} {s f s' f' : Int32} {g g' : Nat → mm_V} (o1 : lk_ok na H s f g) (o2 : lk_ok na H s' f' g') (p : lk_P up H s f g s' f' g') (ho : o < 18) (ha : (o = 2 ∨ o = 3) → a ≤ 5) (hpo : lk_po h m o a ≤ H) (hpu : H - lk_po h m o a + lk_pu h o a ≤ 4) : mm_fle up (lk_ef h m i H a s f g o) (lk_ef h m i H a s' f' g' o) := by
  have hH := o1.1
  rcases lk_o_cases ho with rfl | rfl | rfl | rfl | rfl | rfl | rfl | rfl | rfl | rfl | rfl | rfl | rfl | rfl | rfl | rfl | rfl | rfl
  · have e : H - 0 + 1 ≤ 4 := hpu
    exact lk_P_to (by omega) (lk_P_push p mm_vle_refl)
  · have e : H - 0 + 1 ≤ 4 := hpu
    exact lk_P_to (by omega) (lk_P_push p mm_vle_refl)
  · have e : H - 0 + 1 ≤ 4 := hpu
    have := ha (Or.inl rfl)
    exact lk_P_to (by omega) (lk_P_push p (lk_wo_le (p.2 a (by omega))))
  · have e : 1 ≤ H := hpo
    refine lk_P_to (by omega) ⟨p.1, fun v hv => ?_⟩
    unfold lk_st
    by_cases q : v = a
    · rw [if_pos q, if_pos q]; exact lk_wo_le (p.2 _ (by omega))
    · rw [if_neg q, if_neg q]
      have pv := p.2 v (by omega)
      by_cases q1 : 6 ≤ v ∧ (g v).2.2.2.2 = nI a
      · rw [if_pos q1]
        by_cases q2 : 6 ≤ v ∧ (g' v).2.2.2.2 = nI a
        · rw [if_pos q2]; exact lk_wo_le pv
        · rw [if_neg q2]
          refine ⟨pv.1, pv.2.1, pv.2.2.1, ?_⟩
          rcases pv.2.2.2 with z | z
          · exact Or.inl z
          · exact absurd ⟨q1.1, z.symm.trans q1.2⟩ q2
      · rw [if_neg q1]
        by_cases q2 : 6 ≤ v ∧ (g' v).2.2.2.2 = nI a
        · rw [if_pos q2]; exact ⟨pv.1, pv.2.1, pv.2.2.1, Or.inl rfl⟩
        · rw [if_neg q2]; exact pv
  · have e : 1 ≤ H := hpo
    have e2 : H - 1 + 2 ≤ 4 := hpu
    exact lk_P_to (by omega) (lk_P_push p (p.2 _ (by omega)))
  · exact lk_P_to (by omega) (lk_P_pop p (by omega))
  · have e : 2 ≤ H := hpo
    refine lk_P_to (by omega) (lk_P_put (lk_P_pop p (by omega)) ⟨mm_kle_refl, Or.inl rfl, ?_, Or.inr rfl⟩)
    have p1 := (p.2 (4 + H) (by omega)).2.2.1
    have p2 := (p.2 (5 + H) (by omega)).2.2.1
    show ((g (4 + H)).2.2.2.1 ||| (g (5 + H)).2.2.2.1) ||| ((g' (4 + H)).2.2.2.1 ||| (g' (5 + H)).2.2.2.1) = ((g' (4 + H)).2.2.2.1 ||| (g' (5 + H)).2.2.2.1)
    rw [Int32.or_assoc, Int32.or_comm (g' (4 + H)).2.2.2.1, ← Int32.or_assoc (g (5 + H)).2.2.2.1, p2, Int32.or_comm (g' (5 + H)).2.2.2.1, ← Int32.or_assoc, p1]
  · have e : H - 0 + 1 ≤ 4 := hpu
    refine lk_P_to (by omega) (lk_P_push ⟨Or.inr ⟨rfl, Int32.and_self⟩, fun v hv => lk_dr_le (p.2 v hv)⟩ mm_vle_refl)
  · have e : 1 ≤ H := hpo
    refine lk_P_to (by omega) ⟨Or.inl rfl, fun v hv => ?_⟩
    have pv := p.2 v hv
    have pt := p.2 (5 + H) (by omega)
    by_cases q : (g (5 + H)).1 = 4
    · by_cases q2 : (g' (5 + H)).1 = 4
      · show mm_vle up (if (g (5 + H)).1 = 4 then lk_rf (g v) else mm_dr (g v)) (if (g' (5 + H)).1 = 4 then lk_rf (g' v) else mm_dr (g' v))
        rw [if_pos q, if_pos q2]; exact lk_rf_le pv
      · show mm_vle up (if (g (5 + H)).1 = 4 then lk_rf (g v) else mm_dr (g v)) (if (g' (5 + H)).1 = 4 then lk_rf (g' v) else mm_dr (g' v))
        rw [if_pos q, if_neg q2]; exact lk_rd_le pv
    · show mm_vle up (if (g (5 + H)).1 = 4 then lk_rf (g v) else mm_dr (g v)) (if (g' (5 + H)).1 = 4 then lk_rf (g' v) else mm_dr (g' v))
      rw [if_neg q, if_neg (fun z => q (lk_raw_dn pt z))]; exact lk_dr_le pv
  · have e : 1 ≤ H := hpo
    refine lk_P_to (by omega) (lk_P_put p (lk_sv_le (lk_b_le (fun z => ?_))))
    rcases z with z | z
    · exact Or.inl z
    · exact Or.inr (lk_un_le o2 p (by omega) z)
  · have e : 2 ≤ H := hpo
    refine lk_P_to (by omega) ⟨?_, fun v hv => p.2 v (by omega)⟩
    have pv := p.2 (4 + H) (by omega)
    rcases p.1 with z | ⟨z, z2⟩
    · exact Or.inl z
    · refine Or.inr ⟨z, ?_⟩
      by_cases q : (g (4 + H)).1 = 4
      · rw [if_pos q]
        by_cases q2 : (g' (4 + H)).1 = 4
        · rw [if_pos q2]; exact lk_bits1 z2
        · rw [if_neg q2]; exact lk_bits2 z2
      · rw [if_neg q, if_neg (fun y => q (lk_raw_dn pv y))]; exact z2
  · show mm_fle up (if mm_a h 93 (4 * a + 3) = -2 then (nI (H - lk_po h m 11 a), s, f, g) else (nI (H - lk_po h m 11 a + 1), s, f, lk_up g (6 + (H - lk_po h m 11 a)) (lk_sv (mm_a h 93 (4 * a + 3)) (mm_a h 96 (4 * a + 3)) (mm_a h 94 (4 * a + 3))))) (if mm_a h 93 (4 * a + 3) = -2 then (nI (H - lk_po h m 11 a), s', f', g') else (nI (H - lk_po h m 11 a + 1), s', f', lk_up g' (6 + (H - lk_po h m 11 a)) (lk_sv (mm_a h 93 (4 * a + 3)) (mm_a h 96 (4 * a + 3)) (mm_a h 94 (4 * a + 3)))))
    by_cases q : mm_a h 93 (4 * a + 3) = -2
    · rw [if_pos q, if_pos q]; exact lk_P_to (by omega) (lk_P_pop p (by omega))
    · rw [if_neg q, if_neg q]
      have e : lk_pu h 11 a = 1 := if_neg q
      exact lk_P_to (by omega) (lk_P_push (lk_P_pop p (by omega)) mm_vle_refl)
  · have e : 1 ≤ H := hpo
    have pv := p.2 (5 + H) (by omega)
    exact lk_P_to (by omega) (lk_P_put p ⟨mm_kle_refl, pv.2.1, pv.2.2.1, Or.inr rfl⟩)
  · exact lk_P_to (by omega) p
  · exact lk_P_to (by omega) (lk_P_pop p (by omega))
  · exact lk_P_to (by omega) (lk_P_pop p (by omega))
  · exact lk_P_to (by omega) (lk_P_pop p (by omega))
  · exact lk_P_to (by omega) (lk_P_pop p (by omega))
theorem lk_n5 {a : Nat} (h : a ≤ 5) : -1 ≤ (nI a).toInt ∧ (nI a).toInt ≤ 5 := by rw [mm_nt (by omega)]; omega
theorem lk_ef_ok {h : mm_H} {m i H a o : Nat} {s f : Int32} {g : Nat → mm_V} (S : lk_SV h) (hi : i < 20) (o1 : lk_ok (lk_na h m) H s f g) (ho : o < 18) (ha : (o = 2 ∨ o = 3) → a ≤ 5) (ha7 : (o = 7 ∨ o = 12) → a ≤ 5 ∧ mm_a h 98 (20 * m + i) = nI a) (ha9 : (o = 9 ∨ o = 10) → a < 12) (ha11 : o = 11 → a < 10) (hpo : lk_po h m o a ≤ H) (hpu : H - lk_po h m o a + lk_pu h o a ≤ 4) : mm_fok (lk_na h m) (lk_ef h m i H a s f g o) := by
  have hH := o1.1
  have V := o1.2.2.2.2
  have w0 : 0 ≤ (0 : Int32).toInt ∧ (0 : Int32).toInt ≤ 15 := by decide
  have mo : -1 ≤ (-1 : Int32).toInt ∧ (-1 : Int32).toInt ≤ 5 := by decide
  have k3 : (0 ≤ (3 : Int32).toInt ∧ (3 : Int32).toInt ≤ 4) := by decide
  rcases lk_o_cases ho with rfl | rfl | rfl | rfl | rfl | rfl | rfl | rfl | rfl | rfl | rfl | rfl | rfl | rfl | rfl | rfl | rfl | rfl
  · have e : H - 0 + 1 ≤ 4 := hpu
    exact lk_ok_to (lk_ok_push o1 (by omega) lk_c1 (fun z => absurd z (by decide)))
  · have e : H - 0 + 1 ≤ 4 := hpu
    exact lk_ok_to (lk_ok_push o1 (by omega) lk_c2 (fun z => absurd z (by decide)))
  · have e : H - 0 + 1 ≤ 4 := hpu
    have := ha (Or.inl rfl)
    exact lk_ok_to (lk_ok_push o1 (by omega) (lk_wo_vr (V a (by omega)).1 (lk_n5 this)) (V a (by omega)).2.1)
  · have e : 1 ≤ H := hpo
    have a5 := ha (Or.inr rfl)
    refine lk_ok_to ⟨by omega, o1.2.1, o1.2.2.1, o1.2.2.2.1, fun v hv => ?_⟩
    unfold lk_st
    by_cases q : v = a
    · rw [if_pos q]
      have vt := V (5 + H) (by omega)
      exact ⟨lk_wo_vr vt.1 mo, vt.2.1, fun _ => rfl⟩
    · rw [if_neg q]
      have vv := V v (by omega)
      split
      · exact ⟨lk_wo_vr vv.1 mo, vv.2.1, fun _ => rfl⟩
      · exact vv
  · have e : 1 ≤ H := hpo
    have e2 : H - 1 + 2 ≤ 4 := hpu
    have vt := V (5 + H) (by omega)
    exact lk_ok_to (lk_ok_push o1 (by omega) vt.1 vt.2.1)
  · exact lk_ok_to (lk_ok_pop o1 (by omega))
  · have e : 2 ≤ H := hpo
    refine lk_ok_to (lk_ok_put (lk_ok_pop o1 (by omega)) (by omega) ⟨(by decide : 0 ≤ (1 : Int32).toInt ∧ (1 : Int32).toInt ≤ 4), fun _ => rfl, fun q => absurd q (by decide : ¬ 3 ≤ (1 : Int32).toInt), Or.inl rfl, ?_, mo⟩ (fun z => absurd z (by decide : ¬ (1 : Int32) = 4)))
    exact mm_or15 (V (4 + H) (by omega)).1.2.2.2.2.1 (V (5 + H) (by omega)).1.2.2.2.2.1
  · have e : H - 0 + 1 ≤ 4 := hpu
    obtain ⟨b1, b2⟩ := ha7 (Or.inl rfl)
    have ei : (nI i).toInt = (i : Int) := mm_nt (by omega)
    refine lk_ok_to (lk_ok_push ⟨hH, fun _ => rfl, (by decide : 0 ≤ (0 : Int32).toInt ∧ (0 : Int32).toInt < 4096), by omega, fun v hv => ?_⟩ (by omega) ⟨(by decide : 0 ≤ (4 : Int32).toInt ∧ (4 : Int32).toInt ≤ 4), fun z => absurd z (by decide : ¬ (4 : Int32).toInt < 3), fun _ => ?_, Or.inl rfl, w0, mo⟩ (fun _ => ⟨mm_not_m1 (by omega), ?_⟩))
    · have vv := V v hv
      exact ⟨mm_dr_vr vv.1, fun z => absurd z mm_dr_n4, fun z => by rw [mm_dr_o]; exact vv.2.2 z⟩
    · show 0 ≤ (nI a).toInt ∧ (nI a).toInt ≤ 5
      rw [mm_nt (by omega)]; omega
    · show nI a = mm_a h 98 (20 * m + (nI i).toInt.toNat)
      rw [ei]
      exact b2.symm
  · have e : 1 ≤ H := hpo
    refine lk_ok_to ⟨hH, fun _ => rfl, (by decide : 0 ≤ (0 : Int32).toInt ∧ (0 : Int32).toInt < 4096), (by decide : -1 ≤ (-1 : Int32).toInt ∧ (-1 : Int32).toInt ≤ 19), fun v hv => ?_⟩
    have vv := V v hv
    by_cases q : (g (5 + H)).1 = 4
    · have eq : (if (g (5 + H)).1 = 4 then lk_rf (g v) else mm_dr (g v)) = lk_rf (g v) := if_pos q
      have r := lk_rf_vr vv.1
      refine ⟨?_, fun z => ?_, fun z => ?_⟩
      · show mm_vr (if (g (5 + H)).1 = 4 then lk_rf (g v) else mm_dr (g v))
        rw [eq]; exact r.1
      · have z' : (if (g (5 + H)).1 = 4 then lk_rf (g v) else mm_dr (g v)).1 = 4 := z
        rw [eq] at z'
        exact absurd z' r.2.1
      · show (if (g (5 + H)).1 = 4 then lk_rf (g v) else mm_dr (g v)).2.2.2.2 = -1
        rw [eq, r.2.2]; exact vv.2.2 z
    · have eq : (if (g (5 + H)).1 = 4 then lk_rf (g v) else mm_dr (g v)) = mm_dr (g v) := if_neg q
      refine ⟨?_, fun z => ?_, fun z => ?_⟩
      · show mm_vr (if (g (5 + H)).1 = 4 then lk_rf (g v) else mm_dr (g v))
        rw [eq]; exact mm_dr_vr vv.1
      · have z' : (if (g (5 + H)).1 = 4 then lk_rf (g v) else mm_dr (g v)).1 = 4 := z
        rw [eq] at z'
        exact absurd z' mm_dr_n4
      · show (if (g (5 + H)).1 = 4 then lk_rf (g v) else mm_dr (g v)).2.2.2.2 = -1
        rw [eq, mm_dr_o]; exact vv.2.2 z
  · have e : 1 ≤ H := hpo
    have f9 := S.1 a (ha9 (Or.inl rfl))
    have sv := lk_sv_vr f9.1 (mm_b01 (¬ mm_a h 86 a = 0 ∨ lk_un f a (g (5 + H)))) f9.2.2
    exact lk_ok_to (lk_ok_put o1 (by omega) sv.1 (fun z => absurd z sv.2))
  · have e : 2 ≤ H := hpo
    have a12 := ha9 (Or.inr rfl)
    refine lk_ok_to ⟨by omega, fun z => ?_, ?_, o1.2.2.2.1, fun v hv => V v (by omega)⟩
    · have n4 : ¬ (g (4 + H)).1 = 4 := fun y => ((V (4 + H) (by omega)).2.1 y).1 z
      rw [if_neg n4]; exact o1.2.1 z
    · split
      · exact lk_or12 o1.2.2.1 a12
      · exact o1.2.2.1
  · show mm_fok (lk_na h m) (if mm_a h 93 (4 * a + 3) = -2 then (nI (H - lk_po h m 11 a), s, f, g) else (nI (H - lk_po h m 11 a + 1), s, f, lk_up g (6 + (H - lk_po h m 11 a)) (lk_sv (mm_a h 93 (4 * a + 3)) (mm_a h 96 (4 * a + 3)) (mm_a h 94 (4 * a + 3)))))
    by_cases q : mm_a h 93 (4 * a + 3) = -2
    · rw [if_pos q]; exact lk_ok_to (lk_ok_pop o1 (by omega))
    · rw [if_neg q]
      have e : lk_pu h 11 a = 1 := if_neg q
      have f9 := S.2 (4 * a + 3) (by have := ha11 rfl; omega)
      have q' : ¬ (mm_a h 93 (4 * a + 3)).toInt = -2 := lk_nn (n := -2) q (by decide)
      have sv := lk_sv_vr (s := mm_a h 93 (4 * a + 3)) (by omega) f9.2.1 f9.2.2
      exact lk_ok_to (lk_ok_push (lk_ok_pop o1 (by omega)) (by omega) sv.1 (fun z => absurd z sv.2))
  · have e : 1 ≤ H := hpo
    obtain ⟨b1, b2⟩ := ha7 (Or.inr rfl)
    have vt := (V (5 + H) (by omega)).1
    refine lk_ok_to (lk_ok_put o1 (by omega) ⟨k3, fun z => absurd z (by decide : ¬ (3 : Int32).toInt < 3), fun _ => ?_, vt.2.2.2.1, vt.2.2.2.2.1, mo⟩ (fun z => absurd z (by decide : ¬ (3 : Int32) = 4)))
    show 0 ≤ (nI a).toInt ∧ (nI a).toInt ≤ 5
    rw [mm_nt (by omega)]; omega
  · exact lk_ok_to o1
  · exact lk_ok_to (lk_ok_pop o1 (by omega))
  · exact lk_ok_to (lk_ok_pop o1 (by omega))
  · exact lk_ok_to (lk_ok_pop o1 (by omega))
  · exact lk_ok_to (lk_ok_pop o1 (by omega))
