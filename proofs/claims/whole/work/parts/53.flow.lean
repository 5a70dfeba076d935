/-! WHAT COMES OUT OF AN INSTRUCTION -/
def lk_up (g : Nat → mm_V) (j : Nat) (x : mm_V) : Nat → mm_V := fun v => if v = j then x else g v
theorem lk_up_t {g : Nat → mm_V} {j : Nat} {x : mm_V} : lk_up g j x j = x := if_pos rfl
theorem lk_up_f {g : Nat → mm_V} {j v : Nat} {x : mm_V} (h : ¬ v = j) : lk_up g j x v = g v := if_neg h
def lk_wo (x : mm_V) (o : Int32) : mm_V := (x.1, x.2.1, x.2.2.1, x.2.2.2.1, o)
def lk_st (g : Nat → mm_V) (a : Nat) (x : mm_V) : Nat → mm_V := fun v => if v = a then lk_wo x (-1) else if 6 ≤ v ∧ (g v).2.2.2.2 = nI a then lk_wo (g v) (-1) else g v
def lk_rf (x : mm_V) : mm_V := if x.1 = 4 then (3, x.2) else x
def lk_sv (s n w : Int32) : mm_V := if s = -1 then (1, -1, 0, w, -1) else (3, s, n, w, -1)
def lk_bt (f : Int32) (a : Nat) : Prop := f >>> (nI a &&& 31) &&& 1 = 0
def lk_un (f : Int32) (a : Nat) (x : mm_V) : Prop := x.1 = 0 ∨ x.1 = 1 ∨ (x.1 = 4 ∧ lk_bt f a)
def lk_o (h : mm_H) (m i : Nat) : Nat := (mm_a h 97 (20 * m + i)).toInt.toNat
def lk_a (h : mm_H) (m i : Nat) : Nat := (mm_a h 98 (20 * m + i)).toInt.toNat
def lk_np (h : mm_H) (a : Nat) : Nat := (mm_a h 89 a).toInt.toNat
def lk_po (h : mm_H) (m o a : Nat) : Nat := if o = 11 then lk_np h a + (if mm_a h 95 a = 0 then 1 else 0) else if o = 16 then (if mm_a h 93 (4 * m + 3) = -2 then 0 else 1) else [0, 0, 0, 1, 1, 1, 2, 0, 1, 1, 2, 0, 1, 0, 1, 1, 0, 1].getD o 0
def lk_pu (h : mm_H) (o a : Nat) : Nat := if o = 11 then (if mm_a h 93 (4 * a + 3) = -2 then 0 else 1) else [1, 1, 1, 0, 2, 0, 1, 1, 1, 1, 0, 0, 1, 0, 0, 0, 0, 0].getD o 0
noncomputable def lk_ef (h : mm_H) (m i H a : Nat) (s f : Int32) (g : Nat → mm_V) : Nat → mm_F
  | 0 => (nI (H + 1), s, f, lk_up g (6 + H) (1, -1, 0, 0, -1))
  | 1 => (nI (H + 1), s, f, lk_up g (6 + H) (2, -1, 1, 0, -1))
  | 2 => (nI (H + 1), s, f, lk_up g (6 + H) (lk_wo (g a) (nI a)))
  | 3 => (nI (H - 1), s, f, lk_st g a (g (5 + H)))
  | 4 => (nI (H + 1), s, f, lk_up g (6 + H) (g (5 + H)))
  | 5 => (nI (H - 1), s, f, g)
  | 6 => (nI (H - 1), s, f, lk_up g (4 + H) (1, -1, 0, (g (4 + H)).2.2.2.1 ||| (g (5 + H)).2.2.2.1, -1))
  | 7 => (nI (H + 1), nI i, 0, lk_up (fun v => mm_dr (g v)) (6 + H) (4, nI a, 0, 0, -1))
  | 8 => (nI H, -1, 0, fun v => if (g (5 + H)).1 = 4 then lk_rf (g v) else mm_dr (g v))
  | 9 => (nI H, s, f, lk_up g (5 + H) (lk_sv (mm_a h 83 a) (mm_b (¬ mm_a h 86 a = 0 ∨ lk_un f a (g (5 + H)))) (mm_a h 84 a)))
  | 10 => (nI (H - 2), s, if (g (4 + H)).1 = 4 then f ||| (1 : Int32) <<< (nI a &&& 31) else f, g)
  | 11 => if mm_a h 93 (4 * a + 3) = -2 then (nI (H - lk_po h m 11 a), s, f, g) else (nI (H - lk_po h m 11 a + 1), s, f, lk_up g (6 + (H - lk_po h m 11 a)) (lk_sv (mm_a h 93 (4 * a + 3)) (mm_a h 96 (4 * a + 3)) (mm_a h 94 (4 * a + 3))))
  | 12 => (nI H, s, f, lk_up g (5 + H) (3, nI a, (g (5 + H)).2.2.1, (g (5 + H)).2.2.2.1, -1))
  | 13 => (nI H, s, f, g)
  | 14 => (nI (H - 1), s, f, g)
  | 15 => (nI (H - 1), s, f, g)
  | 16 => (nI (H - lk_po h m 16 a), s, f, g)
  | _ => (nI (H - 1), s, f, g)
/-- the slots of a frame of height H, ordered; and as they must be -/
def lk_P (up : Nat → Int) (H : Nat) (s f : Int32) (g : Nat → mm_V) (s' f' : Int32) (g' : Nat → mm_V) : Prop := (s' = -1 ∨ (s = s' ∧ f &&& f' = f')) ∧ ∀ v, v < 6 + H → mm_vle up (g v) (g' v)
def lk_ok (na : Int32 → Int32) (H : Nat) (s f : Int32) (g : Nat → mm_V) : Prop := H ≤ 4 ∧ (s = -1 → f = 0) ∧ (0 ≤ f.toInt ∧ f.toInt < 4096) ∧ (-1 ≤ s.toInt ∧ s.toInt ≤ 19) ∧ ∀ v, v < 6 + H → mm_vr (g v) ∧ ((g v).1 = 4 → ¬ s = -1 ∧ (g v).2.1 = na s) ∧ (v < 6 → (g v).2.2.2.2 = -1)
theorem lk_ok_of {na : Int32 → Int32} {H : Nat} {s f : Int32} {g : Nat → mm_V} (hH : H ≤ 4) (o : mm_fok na (nI H, s, f, g)) : lk_ok na H s f g := by
  have t : (nI H).toInt = (H : Int) := mm_nt (by omega)
  obtain ⟨a1, a2, a3, a4, a5⟩ := o (by show 0 ≤ (nI H).toInt; omega)
  exact ⟨hH, a2, a3, a4, fun v hv => a5 v (by show (v : Int) < 6 + (nI H).toInt; omega)⟩
theorem lk_ok_to {na : Int32 → Int32} {H : Nat} {s f : Int32} {g : Nat → mm_V} (o : lk_ok na H s f g) : mm_fok na (nI H, s, f, g) := by
  intro _
  obtain ⟨a1, a2, a3, a4, a5⟩ := o
  have t : (nI H).toInt = (H : Int) := mm_nt (by omega)
  refine ⟨by show (nI H).toInt ≤ 4; omega, a2, a3, a4, fun v hv => a5 v ?_⟩
  have hv' : (v : Int) < 6 + (nI H).toInt := hv
  omega
theorem lk_P_to {up : Nat → Int} {H : Nat} {s f s' f' : Int32} {g g' : Nat → mm_V} (hH : H ≤ 4) (p : lk_P up H s f g s' f' g') : mm_fle up (nI H, s, f, g) (nI H, s', f', g') := by
  have t : (nI H).toInt = (H : Int) := mm_nt (by omega)
  refine Or.inr (Or.inr ⟨rfl, by show 0 ≤ (nI H).toInt; omega, p.1, fun v hv => p.2 v ?_⟩)
  have hv' : (v : Int) < 6 + (nI H).toInt := hv
  omega
theorem lk_P_of {up : Nat → Int} {H : Nat} {s f s' f' : Int32} {g g' : Nat → mm_V} (hH : H ≤ 4) (p : mm_fle up (nI H, s, f, g) (nI H, s', f', g')) : lk_P up H s f g s' f' g' := by
  have t : (nI H).toInt = (H : Int) := mm_nt (by omega)
  rcases p with p | p | ⟨_, _, p3, p4⟩
  · exact absurd p (mm_not_m1 (by show 0 ≤ (nI H).toInt; omega))
  · exact absurd p (mm_not_m2 (by show 0 ≤ (nI H).toInt; omega))
  · exact ⟨p3, fun v hv => p4 v (by show (v : Int) < 6 + (nI H).toInt; omega)⟩
theorem lk_P_push {up : Nat → Int} {H : Nat} {s f s' f' : Int32} {g g' : Nat → mm_V} {x y : mm_V} (p : lk_P up H s f g s' f' g') (h : mm_vle up x y) : lk_P up (H + 1) s f (lk_up g (6 + H) x) s' f' (lk_up g' (6 + H) y) := by
  refine ⟨p.1, fun v hv => ?_⟩
  by_cases q : v = 6 + H
  · rw [q, lk_up_t, lk_up_t]; exact h
  · rw [lk_up_f q, lk_up_f q]; exact p.2 v (by omega)
theorem lk_P_pop {up : Nat → Int} {H K : Nat} {s f s' f' : Int32} {g g' : Nat → mm_V} (p : lk_P up H s f g s' f' g') (h : K ≤ H) : lk_P up K s f g s' f' g' := ⟨p.1, fun v hv => p.2 v (by omega)⟩
theorem lk_ok_push {na : Int32 → Int32} {H : Nat} {s f : Int32} {g : Nat → mm_V} {x : mm_V} (o : lk_ok na H s f g) (hH : H ≤ 3) (hx : mm_vr x) (h4 : x.1 = 4 → ¬ s = -1 ∧ x.2.1 = na s) : lk_ok na (H + 1) s f (lk_up g (6 + H) x) := by
  obtain ⟨a1, a2, a3, a4, a5⟩ := o
  refine ⟨by omega, a2, a3, a4, fun v hv => ?_⟩
  by_cases q : v = 6 + H
  · rw [q, lk_up_t]; exact ⟨hx, h4, fun z => by omega⟩
  · rw [lk_up_f q]; exact a5 v (by omega)
theorem lk_ok_pop {na : Int32 → Int32} {H K : Nat} {s f : Int32} {g : Nat → mm_V} (o : lk_ok na H s f g) (h : K ≤ H) : lk_ok na K s f g := by
  obtain ⟨a1, a2, a3, a4, a5⟩ := o
  exact ⟨by omega, a2, a3, a4, fun v hv => a5 v (by omega)⟩
/-- what fields and methods say is in range -/
def lk_SV (h : mm_H) : Prop := (∀ a, a < 12 → (-1 ≤ (mm_a h 83 a).toInt ∧ (mm_a h 83 a).toInt ≤ 5) ∧ (mm_a h 86 a = 0 ∨ mm_a h 86 a = 1) ∧ (0 ≤ (mm_a h 84 a).toInt ∧ (mm_a h 84 a).toInt ≤ 15)) ∧ (∀ p, p < 40 → (-2 ≤ (mm_a h 93 p).toInt ∧ (mm_a h 93 p).toInt ≤ 5) ∧ (mm_a h 96 p = 0 ∨ mm_a h 96 p = 1) ∧ (0 ≤ (mm_a h 94 p).toInt ∧ (mm_a h 94 p).toInt ≤ 15))
/-- an instruction's argument -/
def lk_AV (h : mm_H) (m i : Nat) : Prop := lk_o h m i < 18 ∧ ((lk_o h m i = 2 ∨ lk_o h m i = 3) → lk_a h m i ≤ 5) ∧ ((lk_o h m i = 7 ∨ lk_o h m i = 12) → lk_a h m i ≤ 5 ∧ mm_a h 98 (20 * m + i) = nI (lk_a h m i)) ∧ ((lk_o h m i = 9 ∨ lk_o h m i = 10) → lk_a h m i < 12) ∧ (lk_o h m i = 11 → lk_a h m i < 10)
def lk_na (h : mm_H) (m : Nat) : Int32 → Int32 := fun s => mm_a h 98 (20 * m + s.toInt.toNat)
theorem lk_c1 : mm_vr (1, -1, 0, 0, -1) := by unfold mm_vr; decide
theorem lk_c2 : mm_vr (2, -1, 1, 0, -1) := by unfold mm_vr; decide
theorem lk_ne {a b : Int32} (h : ¬ a.toInt = b.toInt) : ¬ a = b := fun e => h (by rw [e])
theorem lk_nn {a : Int32} {n : Int} (h : ¬ a = Int32.ofInt n) (hn : (Int32.ofInt n).toInt = n) : ¬ a.toInt = n := fun e => h (Int32.toInt_inj.mp (e.trans hn.symm))
theorem lk_sv_vr {s n w : Int32} (hs : -1 ≤ s.toInt ∧ s.toInt ≤ 5) (hn : n = 0 ∨ n = 1) (hw : 0 ≤ w.toInt ∧ w.toInt ≤ 15) : mm_vr (lk_sv s n w) ∧ ¬ (lk_sv s n w).1 = 4 := by
  unfold lk_sv
  split
  · exact ⟨⟨(by decide : 0 ≤ (1 : Int32).toInt ∧ (1 : Int32).toInt ≤ 4), fun _ => rfl, fun q => absurd q (by decide : ¬ 3 ≤ (1 : Int32).toInt), Or.inl rfl, hw, (by decide : -1 ≤ (-1 : Int32).toInt ∧ (-1 : Int32).toInt ≤ 5)⟩, (by decide : ¬ (1 : Int32) = 4)⟩
  · rename_i q
    have q' : ¬ s.toInt = -1 := lk_nn (n := -1) q (by decide)
    exact ⟨⟨(by decide : 0 ≤ (3 : Int32).toInt ∧ (3 : Int32).toInt ≤ 4), fun z => absurd z (by decide : ¬ (3 : Int32).toInt < 3), fun _ => ⟨by show 0 ≤ s.toInt; omega, hs.2⟩, hn, hw, (by decide : -1 ≤ (-1 : Int32).toInt ∧ (-1 : Int32).toInt ≤ 5)⟩, (by decide : ¬ (3 : Int32) = 4)⟩
theorem lk_sv_le {up : Nat → Int} {s n n' w : Int32} (h : n = n' ∨ (n = 0 ∧ n' = 1)) : mm_vle up (lk_sv s n w) (lk_sv s n' w) := by
  unfold lk_sv
  split
  · exact mm_vle_refl
  · exact ⟨mm_kle_refl, h, Int32.or_self, Or.inr rfl⟩
theorem lk_wo_le {up : Nat → Int} {x y : mm_V} {o : Int32} (h : mm_vle up x y) : mm_vle up (lk_wo x o) (lk_wo y o) := ⟨h.1, h.2.1, h.2.2.1, Or.inr rfl⟩
theorem lk_wo_vr {x : mm_V} {o : Int32} (h : mm_vr x) (ho : -1 ≤ o.toInt ∧ o.toInt ≤ 5) : mm_vr (lk_wo x o) := ⟨h.1, h.2.1, h.2.2.1, h.2.2.2.1, h.2.2.2.2.1, ho⟩
/-- RAW is below RAW and ANY alone; nothing else is below RAW -/
theorem lk_raw_up {up : Nat → Int} {x y : mm_V} (h : mm_vle up x y) (h4 : x.1 = 4) : y.1 = 0 ∨ (y.1 = 4 ∧ x.2.1 = y.2.1) := by
  rcases h.1 with a | ⟨a, b⟩ | ⟨a, _⟩ | ⟨a, _⟩
  · exact Or.inl a
  · exact Or.inr ⟨a.symm.trans h4, b⟩
  · exact absurd (a.symm.trans h4) (by decide)
  · exact absurd (a.symm.trans h4) (by decide)
theorem lk_raw_dn {up : Nat → Int} {x y : mm_V} (h : mm_vle up x y) (h4 : y.1 = 4) : x.1 = 4 := by
  rcases h.1 with a | ⟨a, b⟩ | ⟨_, a⟩ | ⟨_, a, _⟩
  · exact absurd (a.symm.trans h4) (by decide)
  · exact a.trans h4
  · exact absurd (a.symm.trans h4) (by decide)
  · exact absurd (a.symm.trans h4) (by decide)
theorem lk_dr_t {x : mm_V} (h : x.1 = 4) : mm_dr x = (0, -1, x.2.2) := if_pos h
theorem lk_dr_f {x : mm_V} (h : ¬ x.1 = 4) : mm_dr x = x := if_neg h
theorem lk_rf_t {x : mm_V} (h : x.1 = 4) : lk_rf x = (3, x.2) := if_pos h
theorem lk_rf_f {x : mm_V} (h : ¬ x.1 = 4) : lk_rf x = x := if_neg h
theorem lk_dr_le {up : Nat → Int} {x y : mm_V} (h : mm_vle up x y) : mm_vle up (mm_dr x) (mm_dr y) := mm_dr_least mm_dr_n4 (mm_vle_trans h mm_dr_up)
theorem lk_rf_le {up : Nat → Int} {x y : mm_V} (h : mm_vle up x y) : mm_vle up (lk_rf x) (lk_rf y) := by
  by_cases q : x.1 = 4
  · rw [lk_rf_t q]
    rcases lk_raw_up h q with a | ⟨a, b⟩
    · rw [lk_rf_f (by rw [a]; decide)]; exact ⟨Or.inl a, h.2⟩
    · rw [lk_rf_t a]; exact ⟨Or.inr (Or.inl ⟨rfl, b⟩), h.2⟩
  · rw [lk_rf_f q, lk_rf_f (fun z => q (lk_raw_dn h z))]; exact h
theorem lk_rd_le {up : Nat → Int} {x y : mm_V} (h : mm_vle up x y) : mm_vle up (lk_rf x) (mm_dr y) := by
  by_cases q : x.1 = 4
  · rw [lk_rf_t q]
    rcases lk_raw_up h q with a | ⟨a, b⟩
    · rw [lk_dr_f (by rw [a]; decide)]; exact ⟨Or.inl a, h.2⟩
    · rw [lk_dr_t a]; exact ⟨Or.inl rfl, h.2⟩
  · rw [lk_rf_f q]; exact mm_vle_trans h mm_dr_up
theorem lk_rf_vr {x : mm_V} (h : mm_vr x) : mm_vr (lk_rf x) ∧ ¬ (lk_rf x).1 = 4 ∧ (lk_rf x).2.2.2.2 = x.2.2.2.2 := by
  by_cases q : x.1 = 4
  · rw [lk_rf_t q]
    have t4 : (4 : Int32).toInt = 4 := by decide
    exact ⟨⟨(by decide : 0 ≤ (3 : Int32).toInt ∧ (3 : Int32).toInt ≤ 4), fun z => absurd z (by decide : ¬ (3 : Int32).toInt < 3), fun _ => h.2.2.1 (by rw [q, t4]; omega), h.2.2.2⟩, (by decide : ¬ (3 : Int32) = 4), rfl⟩
  · rw [lk_rf_f q]; exact ⟨h, q, rfl⟩
theorem lk_bt_le {f f' : Int32} {a : Nat} (h : f &&& f' = f') (q : lk_bt f a) : lk_bt f' a := by
  unfold lk_bt at q ⊢
  rw [← h, Int32.shiftRight_and, Int32.and_comm (f >>> _), Int32.and_assoc, q, Int32.and_zero]
theorem lk_bits1 {f f' b : Int32} (h : f &&& f' = f') : (f ||| b) &&& (f' ||| b) = f' ||| b := by
  have h' := congrArg Int32.toBitVec h
  refine Int32.toBitVec_inj.1 ?_
  simp only [Int32.toBitVec_and, Int32.toBitVec_or] at h' ⊢
  apply BitVec.eq_of_getLsbD_eq
  intro i hi
  have hi' := congrArg (fun z => z.getLsbD i) h'
  simp only [BitVec.getLsbD_and, BitVec.getLsbD_or] at hi' ⊢
  revert hi'
  cases f.toBitVec.getLsbD i <;> cases f'.toBitVec.getLsbD i <;> cases b.toBitVec.getLsbD i <;> decide
theorem lk_bits2 {f f' b : Int32} (h : f &&& f' = f') : (f ||| b) &&& f' = f' := by
  have h' := congrArg Int32.toBitVec h
  refine Int32.toBitVec_inj.1 ?_
  simp only [Int32.toBitVec_and, Int32.toBitVec_or] at h' ⊢
  apply BitVec.eq_of_getLsbD_eq
  intro i hi
  have hi' := congrArg (fun z => z.getLsbD i) h'
  simp only [BitVec.getLsbD_and, BitVec.getLsbD_or] at hi' ⊢
  revert hi'
  cases f.toBitVec.getLsbD i <;> cases f'.toBitVec.getLsbD i <;> cases b.toBitVec.getLsbD i <;> decide
theorem lk_1sh : ∀ a, a < 12 → (1 : Int32) <<< (nI a &&& 31) = nI (2 ^ a) := by decide
theorem lk_or12 {f : Int32} {a : Nat} (hf : 0 ≤ f.toInt ∧ f.toInt < 4096) (ha : a < 12) : 0 ≤ (f ||| (1 : Int32) <<< (nI a &&& 31)).toInt ∧ (f ||| (1 : Int32) <<< (nI a &&& 31)).toInt < 4096 := by
  obtain ⟨i, hi, rfl⟩ := mm_of (N := 4096) (x := f) (by omega)
  rw [lk_1sh a ha, mm_nI_or]
  have h2 : 2 ^ a < 2 ^ 12 := Nat.pow_lt_pow_right (by omega) ha
  have := Nat.or_lt_two_pow (n := 12) hi h2
  rw [mm_nt (by omega)]
  omega
theorem lk_o_cases {o : Nat} (h : o < 18) : o = 0 ∨ o = 1 ∨ o = 2 ∨ o = 3 ∨ o = 4 ∨ o = 5 ∨ o = 6 ∨ o = 7 ∨ o = 8 ∨ o = 9 ∨ o = 10 ∨ o = 11 ∨ o = 12 ∨ o = 13 ∨ o = 14 ∨ o = 15 ∨ o = 16 ∨ o = 17 := by omega
