/-! WHAT IS KNOWN IN FRONT OF AN INSTRUCTION: height, site, set, slots; order, joining, rank -/
abbrev mm_F : Type := Int32 × Int32 × Int32 × (Nat → mm_V)
theorem mm_nI_and (a b : Nat) : nI a &&& nI b = nI (a &&& b) := Int32.toBitVec_inj.1 (BitVec.ofNat_and (w := 32)).symm
theorem mm_nI_or (a b : Nat) : nI a ||| nI b = nI (a ||| b) := Int32.toBitVec_inj.1 (BitVec.ofNat_or (w := 32)).symm
/-- a slot of a frame is there -/
abbrev lk_sl (φ : mm_F) (v : Nat) : Prop := (v : Int) < 6 + φ.1.toInt
def mm_fok (na : Int32 → Int32) (φ : mm_F) : Prop := 0 ≤ φ.1.toInt → φ.1.toInt ≤ 4 ∧ (φ.2.1 = -1 → φ.2.2.1 = 0) ∧ (0 ≤ φ.2.2.1.toInt ∧ φ.2.2.1.toInt < 4096) ∧ (-1 ≤ φ.2.1.toInt ∧ φ.2.1.toInt ≤ 19) ∧ ∀ v, lk_sl φ v → mm_vr (φ.2.2.2 v) ∧ ((φ.2.2.2 v).1 = 4 → ¬ φ.2.1 = -1 ∧ (φ.2.2.2 v).2.1 = na φ.2.1) ∧ (v < 6 → (φ.2.2.2 v).2.2.2.2 = -1)
def mm_fle (up : Nat → Int) (φ ψ : mm_F) : Prop := φ.1 = -1 ∨ ψ.1 = -2 ∨ (φ.1 = ψ.1 ∧ 0 ≤ φ.1.toInt ∧ (ψ.2.1 = -1 ∨ (φ.2.1 = ψ.2.1 ∧ φ.2.2.1 &&& ψ.2.2.1 = ψ.2.2.1)) ∧ ∀ v, lk_sl φ v → mm_vle up (φ.2.2.2 v) (ψ.2.2.2 v))
/-- the same, as far as it is known -/
def mm_feq (φ ψ : mm_F) : Prop := φ.1 = ψ.1 ∧ (0 ≤ φ.1.toInt → φ.2.1 = ψ.2.1 ∧ φ.2.2.1 = ψ.2.2.1 ∧ ∀ v, lk_sl φ v → φ.2.2.2 v = ψ.2.2.2 v)
theorem mm_feq_refl {φ : mm_F} : mm_feq φ φ := ⟨rfl, fun _ => ⟨rfl, rfl, fun _ _ => rfl⟩⟩
theorem mm_feq_symm {φ ψ : mm_F} (h : mm_feq φ ψ) : mm_feq ψ φ := ⟨h.1.symm, fun q => by
  obtain ⟨a, b, c⟩ := h.2 (by rw [h.1]; exact q)
  exact ⟨a.symm, b.symm, fun v hv => (c v (show (v : Int) < 6 + φ.1.toInt by rw [h.1]; exact hv)).symm⟩⟩
theorem mm_feq_trans {φ ψ χ : mm_F} (h : mm_feq φ ψ) (h' : mm_feq ψ χ) : mm_feq φ χ := ⟨h.1.trans h'.1, fun q => by
  obtain ⟨a, b, c⟩ := h.2 q
  obtain ⟨a', b', c'⟩ := h'.2 (by rw [← h.1]; exact q)
  exact ⟨a.trans a', b.trans b', fun v hv => (c v hv).trans (c' v (show (v : Int) < 6 + ψ.1.toInt by rw [← h.1]; exact hv))⟩⟩
theorem mm_fok_eq {na : Int32 → Int32} {φ ψ : mm_F} (h : mm_feq φ ψ) (o : mm_fok na φ) : mm_fok na ψ := by
  intro q
  rw [← h.1] at q
  obtain ⟨a, b, c⟩ := h.2 q
  obtain ⟨o1, o2, o3, o4, o5⟩ := o q
  rw [← h.1, ← a, ← b]
  refine ⟨o1, o2, o3, o4, fun v hv => ?_⟩
  have hv' : lk_sl φ v := by show (v : Int) < 6 + φ.1.toInt; rw [h.1]; exact hv
  rw [← c v hv']
  exact o5 v hv'
theorem mm_i12 : ¬ (-1 : Int32) = -2 := by decide
theorem mm_fle_of_eq {up : Nat → Int} {φ ψ : mm_F} (h : mm_feq φ ψ) (hh : φ.1 = -1 ∨ φ.1 = -2 ∨ 0 ≤ φ.1.toInt) : mm_fle up φ ψ := by
  rcases hh with q | q | q
  · exact Or.inl q
  · exact Or.inr (Or.inl (by rw [← h.1]; exact q))
  · obtain ⟨a, b, c⟩ := h.2 q
    exact Or.inr (Or.inr ⟨h.1, q, Or.inr ⟨a, by rw [b, Int32.and_self]⟩, fun v hv => by rw [c v hv]; exact mm_vle_refl⟩)
theorem mm_neg_ne {a : Int32} {n : Int} (h : 0 ≤ a.toInt) (e : a = Int32.ofInt n) (hn : (Int32.ofInt n).toInt < 0) : False := by rw [e] at h; omega
theorem mm_not_m1 {a : Int32} (h : 0 ≤ a.toInt) : ¬ a = -1 := fun e => by rw [e] at h; exact absurd h (by decide)
theorem mm_not_m2 {a : Int32} (h : 0 ≤ a.toInt) : ¬ a = -2 := fun e => by rw [e] at h; exact absurd h (by decide)
theorem mm_fle_trans {up : Nat → Int} {φ ψ χ : mm_F} (h1 : mm_fle up φ ψ) (h2 : mm_fle up ψ χ) : mm_fle up φ χ := by
  rcases h1 with h1 | h1 | ⟨e1, p1, s1, v1⟩
  · exact Or.inl h1
  · rcases h2 with h2 | h2 | ⟨_, p2, _, _⟩
    · exact absurd (h2.symm.trans h1) (by decide)
    · exact Or.inr (Or.inl h2)
    · exact absurd h1 (mm_not_m2 p2)
  · rcases h2 with h2 | h2 | ⟨e2, p2, s2, v2⟩
    · exact absurd (e1.trans h2) (mm_not_m1 p1)
    · exact Or.inr (Or.inl h2)
    · refine Or.inr (Or.inr ⟨e1.trans e2, p1, ?_, fun v hv => mm_vle_trans (v1 v hv) (v2 v (by show (v : Int) < 6 + ψ.1.toInt; rw [← e1]; exact hv))⟩)
      rcases s2 with s2 | ⟨s2, f2⟩
      · exact Or.inl s2
      · rcases s1 with s1 | ⟨s1, f1⟩
        · exact Or.inl (by rw [← s2]; exact s1)
        · exact Or.inr ⟨s1.trans s2, mm_and_tr f1 f2⟩
theorem mm_fle_anti {up : Nat → Int} {na : Int32 → Int32} (U : mm_upo up) {φ ψ : mm_F} (o1 : mm_fok na φ) (o2 : mm_fok na ψ) (h1 : mm_fle up φ ψ) (h2 : mm_fle up ψ φ) : mm_feq φ ψ := by
  rcases h1 with h1 | h1 | ⟨e1, p1, s1, v1⟩
  · rcases h2 with h2 | h2 | ⟨e2, p2, _, _⟩
    · exact ⟨h1.trans h2.symm, fun q => absurd h1 (mm_not_m1 q)⟩
    · exact absurd (h1.symm.trans h2) (by decide)
    · exact absurd (e2.trans h1) (mm_not_m1 p2)
  · rcases h2 with h2 | h2 | ⟨e2, p2, _, _⟩
    · exact absurd (h2.symm.trans h1) (by decide)
    · exact ⟨h2.trans h1.symm, fun q => absurd h2 (mm_not_m2 q)⟩
    · exact absurd h1 (mm_not_m2 p2)
  · rcases h2 with h2 | h2 | ⟨e2, p2, s2, v2⟩
    · exact absurd (e1.trans h2) (mm_not_m1 p1)
    · exact absurd h2 (mm_not_m2 p1)
    · refine ⟨e1, fun _ => ?_⟩
      obtain ⟨_, a2, _, _, a5⟩ := o1 p1
      obtain ⟨_, b2, _, _, b5⟩ := o2 p2
      have es : φ.2.1 = ψ.2.1 := by
        rcases s1 with s1 | s1
        · rcases s2 with s2 | s2
          · rw [s1, s2]
          · exact s2.1.symm
        · exact s1.1
      refine ⟨es, ?_, fun v hv => ?_⟩
      · rcases s1 with s1 | s1
        · rw [a2 (es.trans s1), b2 s1]
        · rcases s2 with s2 | s2
          · rw [a2 s2, b2 (es.symm.trans s2)]
          · rw [← s2.2, Int32.and_comm, s1.2]
      · have hv' : lk_sl ψ v := by show (v : Int) < 6 + ψ.1.toInt; rw [← e1]; exact hv
        exact mm_vle_anti U (a5 v hv).1 (b5 v hv').1 (v1 v hv) (v2 v hv')
/-- what was RAW is not known any more -/
def mm_dr (x : mm_V) : mm_V := if x.1 = 4 then (0, -1, x.2.2) else x
theorem mm_dr_vr {x : mm_V} (h : mm_vr x) : mm_vr (mm_dr x) := by
  unfold mm_dr
  split
  · exact ⟨(by decide : 0 ≤ (0 : Int32).toInt ∧ (0 : Int32).toInt ≤ 4), fun _ => rfl, fun q => absurd q (by decide : ¬ 3 ≤ (0 : Int32).toInt), h.2.2.2⟩
  · exact h
theorem mm_dr_n4 {x : mm_V} : ¬ (mm_dr x).1 = 4 := by
  unfold mm_dr
  split
  · exact (by decide : ¬ (0 : Int32) = 4)
  · assumption
theorem mm_dr_up {up : Nat → Int} {x : mm_V} : mm_vle up x (mm_dr x) := by
  unfold mm_dr
  split
  · exact ⟨Or.inl rfl, Or.inl rfl, Int32.or_self, Or.inr rfl⟩
  · exact mm_vle_refl
theorem mm_dr_o {x : mm_V} : (mm_dr x).2.2.2.2 = x.2.2.2.2 := by
  unfold mm_dr
  split <;> rfl
theorem mm_dr_least {up : Nat → Int} {x z : mm_V} (hz : ¬ z.1 = 4) (h : mm_vle up x z) : mm_vle up (mm_dr x) z := by
  unfold mm_dr
  split
  · rename_i q
    refine ⟨?_, h.2⟩
    rcases h.1 with a | ⟨a, _⟩ | ⟨a, _⟩ | ⟨a, _⟩
    · exact Or.inl a
    · exact absurd (a.symm.trans q) hz
    · exact absurd (a.symm.trans q) (by decide)
    · exact absurd (a.symm.trans q) (by decide)
  · exact h
/-- a slot as it is joined: where the sites are not the same, nothing is RAW -/
noncomputable def mm_ds (P : Prop) (x : mm_V) : mm_V := @ite _ P (Classical.propDecidable P) x (mm_dr x)
def mm_fj (up : Nat → Int) (φ ψ ρ : mm_F) : Prop := ρ.1 = φ.1 ∧ (φ.2.1 = ψ.2.1 → ρ.2.1 = φ.2.1 ∧ ρ.2.2.1 = φ.2.2.1 &&& ψ.2.2.1) ∧ (¬ φ.2.1 = ψ.2.1 → ρ.2.1 = -1 ∧ ρ.2.2.1 = 0) ∧ ∀ v, lk_sl φ v → mm_vj up (mm_ds (φ.2.1 = ψ.2.1) (φ.2.2.2 v)) (mm_ds (φ.2.1 = ψ.2.1) (ψ.2.2.2 v)) (ρ.2.2.2 v)
theorem mm_ds_t {P : Prop} {x : mm_V} (p : P) : mm_ds P x = x := if_pos p
theorem mm_ds_f {P : Prop} {x : mm_V} (p : ¬ P) : mm_ds P x = mm_dr x := if_neg p
theorem mm_ds_vr {P : Prop} {x : mm_V} (h : mm_vr x) : mm_vr (mm_ds P x) := by
  by_cases p : P
  · rw [mm_ds_t p]; exact h
  · rw [mm_ds_f p]; exact mm_dr_vr h
theorem mm_ds_up {P : Prop} {up : Nat → Int} {x : mm_V} : mm_vle up x (mm_ds P x) := by
  by_cases p : P
  · rw [mm_ds_t p]; exact mm_vle_refl
  · rw [mm_ds_f p]; exact mm_dr_up
theorem mm_ds_o {P : Prop} {x : mm_V} : (mm_ds P x).2.2.2.2 = x.2.2.2.2 := by
  by_cases p : P
  · rw [mm_ds_t p]
  · rw [mm_ds_f p]; exact mm_dr_o
theorem mm_k_of {x : mm_V} (h : mm_vr x) (n3 : ¬ x.1 = 3) (n4 : ¬ x.1 = 4) : x.1.toInt < 3 := by
  have a : ¬ x.1.toInt = 3 := fun q => n3 (Int32.toInt_inj.mp (q.trans (by decide : (3 : Int) = (3 : Int32).toInt)))
  have b : ¬ x.1.toInt = 4 := fun q => n4 (Int32.toInt_inj.mp (q.trans (by decide : (4 : Int) = (4 : Int32).toInt)))
  have := h.1
  omega
theorem mm_fj_raw {na : Int32 → Int32} {φ ψ : mm_F} {v : Nat} {P : Prop} (hP : P → φ.2.1 = ψ.2.1) (x1 : mm_vr (φ.2.2.2 v)) (x2 : (φ.2.2.2 v).1 = 4 → ¬ φ.2.1 = -1 ∧ (φ.2.2.2 v).2.1 = na φ.2.1) (y1 : mm_vr (ψ.2.2.2 v)) (y2 : (ψ.2.2.2 v).1 = 4 → ¬ ψ.2.1 = -1 ∧ (ψ.2.2.2 v).2.1 = na ψ.2.1) : mm_raw (mm_ds P (φ.2.2.2 v)) (mm_ds P (ψ.2.2.2 v)) := by
  intro ek n3
  have z1 : mm_vr (mm_ds P (φ.2.2.2 v)) := mm_ds_vr x1
  have z2 : mm_vr (mm_ds P (ψ.2.2.2 v)) := mm_ds_vr y1
  by_cases q : (mm_ds P (φ.2.2.2 v)).1 = 4
  · by_cases p : P
    · rw [mm_ds_t p] at q ek ⊢
      rw [mm_ds_t p] at ek ⊢
      rw [(x2 q).2, (y2 (ek.symm.trans q)).2, hP p]
    · rw [mm_ds_f p] at q
      exact absurd q mm_dr_n4
  · have a := mm_k_of z1 n3 q
    rw [z1.2.1 a, z2.2.1 (by rw [← ek]; exact a)]
theorem mm_fj_up {up : Nat → Int} {na : Int32 → Int32} {φ ψ ρ : mm_F} (hh : φ.1 = ψ.1) (h0 : 0 ≤ φ.1.toInt) (o1 : mm_fok na φ) (o2 : mm_fok na ψ) (j : mm_fj up φ ψ ρ) : mm_fle up φ ρ ∧ mm_fle up ψ ρ := by
  obtain ⟨_, a2, _, _, a5⟩ := o1 h0
  obtain ⟨_, b2, _, _, b5⟩ := o2 (by rw [← hh]; exact h0)
  obtain ⟨j1, j2, j3, j4⟩ := j
  have hsl : ∀ v, lk_sl ψ v → lk_sl φ v := fun v hv => by show (v : Int) < 6 + φ.1.toInt; rw [hh]; exact hv
  have hsl' : ∀ v, lk_sl φ v → lk_sl ψ v := fun v hv => by show (v : Int) < 6 + ψ.1.toInt; rw [← hh]; exact hv
  have hv : ∀ v, lk_sl φ v → mm_vle up (mm_ds (φ.2.1 = ψ.2.1) (φ.2.2.2 v)) (ρ.2.2.2 v) ∧ mm_vle up (mm_ds (φ.2.1 = ψ.2.1) (ψ.2.2.2 v)) (ρ.2.2.2 v) := by
    intro v hv
    obtain ⟨x1, x2, x3⟩ := a5 v hv
    obtain ⟨y1, y2, y3⟩ := b5 v (hsl' v hv)
    exact mm_vj_up (mm_ds_vr x1) (mm_ds_vr y1) (mm_fj_raw (fun q => q) x1 x2 y1 y2) (j4 v hv)
  by_cases p : φ.2.1 = ψ.2.1
  · obtain ⟨k1, k2⟩ := j2 p
    refine ⟨Or.inr (Or.inr ⟨j1.symm, h0, Or.inr ⟨k1.symm, ?_⟩, fun v q => ?_⟩), Or.inr (Or.inr ⟨hh.symm.trans j1.symm, by rw [← hh]; exact h0, Or.inr ⟨p.symm.trans k1.symm, ?_⟩, fun v q => ?_⟩)⟩
    · rw [k2, ← Int32.and_assoc, Int32.and_self]
    · exact mm_vle_trans mm_ds_up (hv v q).1
    · rw [k2, Int32.and_comm φ.2.2.1, ← Int32.and_assoc, Int32.and_self]
    · exact mm_vle_trans mm_ds_up (hv v (hsl v q)).2
  · obtain ⟨k1, k2⟩ := j3 p
    refine ⟨Or.inr (Or.inr ⟨j1.symm, h0, Or.inl k1, fun v q => ?_⟩), Or.inr (Or.inr ⟨hh.symm.trans j1.symm, by rw [← hh]; exact h0, Or.inl k1, fun v q => ?_⟩)⟩
    · exact mm_vle_trans mm_ds_up (hv v q).1
    · exact mm_vle_trans mm_ds_up (hv v (hsl v q)).2
theorem mm_fj_least {up : Nat → Int} {na : Int32 → Int32} (U : mm_upo up) {φ ψ ρ χ : mm_F} (hh : φ.1 = ψ.1) (h0 : 0 ≤ φ.1.toInt) (o1 : mm_fok na φ) (o2 : mm_fok na ψ) (o3 : mm_fok na χ) (j : mm_fj up φ ψ ρ) (h1 : mm_fle up φ χ) (h2 : mm_fle up ψ χ) : mm_fle up ρ χ := by
  obtain ⟨_, a2, _, _, a5⟩ := o1 h0
  obtain ⟨_, b2, _, _, b5⟩ := o2 (by rw [← hh]; exact h0)
  obtain ⟨j1, j2, j3, j4⟩ := j
  rcases h1 with h1 | h1 | ⟨e1, p1, s1, v1⟩
  · exact absurd h1 (mm_not_m1 h0)
  · exact Or.inr (Or.inl h1)
  · rcases h2 with h2 | h2 | ⟨e2, p2, s2, v2⟩
    · exact absurd (hh.trans h2) (mm_not_m1 h0)
    · exact Or.inr (Or.inl h2)
    · have h3 : 0 ≤ χ.1.toInt := by rw [← e1]; exact h0
      obtain ⟨_, c2, _, _, c5⟩ := o3 h3
      have hsl' : ∀ v, lk_sl φ v → lk_sl ψ v := fun v hv => by show (v : Int) < 6 + ψ.1.toInt; rw [← hh]; exact hv
      have hsr : ∀ v, lk_sl ρ v → lk_sl φ v := fun v hv => by show (v : Int) < 6 + φ.1.toInt; rw [← j1]; exact hv
      have hsc : ∀ v, lk_sl φ v → lk_sl χ v := fun v hv => by show (v : Int) < 6 + χ.1.toInt; rw [← e1]; exact hv
      by_cases p : φ.2.1 = ψ.2.1
      · obtain ⟨k1, k2⟩ := j2 p
        refine Or.inr (Or.inr ⟨j1.trans e1, by rw [j1]; exact h0, ?_, fun v q => ?_⟩)
        · rcases s1 with s1 | ⟨s1, f1⟩
          · exact Or.inl s1
          · rcases s2 with s2 | ⟨s2, f2⟩
            · exact Or.inl s2
            · exact Or.inr ⟨k1.trans s1, by rw [k2, Int32.and_assoc, f2, f1]⟩
        · have q' := hsr v q
          have jv := j4 v q'
          rw [mm_ds_t p, mm_ds_t p] at jv
          exact mm_vj_least U (a5 v q').1 (b5 v (hsl' v q')).1 jv (v1 v q') (v2 v (hsl' v q'))
      · obtain ⟨k1, k2⟩ := j3 p
        have sm : χ.2.1 = -1 := by
          rcases s1 with s1 | ⟨s1, _⟩
          · exact s1
          · rcases s2 with s2 | ⟨s2, _⟩
            · exact s2
            · exact absurd (s1.trans s2.symm) p
        refine Or.inr (Or.inr ⟨j1.trans e1, by rw [j1]; exact h0, Or.inl sm, fun v q => ?_⟩)
        have q' := hsr v q
        have jv := j4 v q'
        rw [mm_ds_f p, mm_ds_f p] at jv
        have n4 : ¬ (χ.2.2.2 v).1 = 4 := fun z => ((c5 v (hsc v q')).2.1 z).1 sm
        exact mm_vj_least U (mm_dr_vr (a5 v q').1) (mm_dr_vr (b5 v (hsl' v q')).1) jv (mm_dr_least n4 (v1 v q')) (mm_dr_least n4 (v2 v (hsl' v q')))
theorem mm_or15 {a b : Int32} (ha : 0 ≤ a.toInt ∧ a.toInt ≤ 15) (hb : 0 ≤ b.toInt ∧ b.toInt ≤ 15) : 0 ≤ (a ||| b).toInt ∧ (a ||| b).toInt ≤ 15 := by
  obtain ⟨i, hi, rfl⟩ := mm_of (N := 16) (x := a) (by omega)
  obtain ⟨k, hk, rfl⟩ := mm_of (N := 16) (x := b) (by omega)
  rw [mm_nI_or]
  have := Nat.or_lt_two_pow (n := 4) hi hk
  rw [mm_nt (by omega)]
  omega
theorem mm_and12 {a b : Int32} (ha : 0 ≤ a.toInt ∧ a.toInt < 4096) (hb : 0 ≤ b.toInt ∧ b.toInt < 4096) : 0 ≤ (a &&& b).toInt ∧ (a &&& b).toInt < 4096 := by
  obtain ⟨i, hi, rfl⟩ := mm_of (N := 4096) (x := a) (by omega)
  obtain ⟨k, hk, rfl⟩ := mm_of (N := 4096) (x := b) (by omega)
  rw [mm_nI_and]
  have : i &&& k ≤ i := Nat.and_le_left
  rw [mm_nt (by omega)]
  omega
theorem mm_vj_vr {up : Nat → Int} (U : mm_upo up) {x y r : mm_V} (hx : mm_vr x) (hy : mm_vr y) (j : mm_vj up x y r) : mm_vr r ∧ (r.1 = 4 → x.1 = 4 ∧ y.1 = 4 ∧ r.2.1 = x.2.1) := by
  obtain ⟨kj, jn, jw, jo⟩ := j
  have t3 : (3 : Int32).toInt = 3 := by decide
  have kk : (0 ≤ r.1.toInt ∧ r.1.toInt ≤ 4) ∧ (r.1.toInt < 3 → r.2.1 = -1) ∧ (3 ≤ r.1.toInt → 0 ≤ r.2.1.toInt ∧ r.2.1.toInt ≤ 5) ∧ (r.1 = 4 → x.1 = 4 ∧ y.1 = 4 ∧ r.2.1 = x.2.1) := by
    rcases kj with ⟨kx, ky, kr, kl⟩ | ⟨kx, k3, kr, kz⟩ | ⟨kx, ky, kr, kz⟩ | ⟨kx, ky, kr, kz⟩ | ⟨_, _, _, kr, kz⟩
    · rw [kr]
      have hc := hx.2.2.1 (by rw [kx, t3]; omega)
      have := mm_bel_le U (by omega) kl.1
      exact ⟨by decide, fun q => absurd q (by decide), fun _ => ⟨kl.1.1, by omega⟩, fun q => absurd q (by decide)⟩
    · rw [kr, kz]
      exact ⟨hx.1, hx.2.1, hx.2.2.1, fun q => ⟨q, by rw [← kx]; exact q, rfl⟩⟩
    · rw [kr, kz]
      exact ⟨by decide, fun q => absurd q (by decide), fun _ => hy.2.2.1 (by rw [ky, t3]; omega), fun q => absurd q (by decide)⟩
    · rw [kr, kz]
      exact ⟨by decide, fun q => absurd q (by decide), fun _ => hx.2.2.1 (by rw [kx, t3]; omega), fun q => absurd q (by decide)⟩
    · rw [kr, kz]
      exact ⟨by decide, fun q => rfl, fun q => absurd q (by decide), fun q => absurd q (by decide)⟩
  refine ⟨⟨kk.1, kk.2.1, kk.2.2.1, ?_, ?_, ?_⟩, kk.2.2.2⟩
  · rw [jn]; exact mm_n01 hx.2.2.2.1 hy.2.2.2.1
  · rw [jw]; exact mm_or15 hx.2.2.2.2.1 hy.2.2.2.2.1
  · rcases jo with ⟨_, a⟩ | ⟨_, a⟩
    · rw [a]; exact hx.2.2.2.2.2
    · rw [a]; decide
theorem mm_fj_ok {up : Nat → Int} {na : Int32 → Int32} (U : mm_upo up) {φ ψ ρ : mm_F} (hh : φ.1 = ψ.1) (h0 : 0 ≤ φ.1.toInt) (o1 : mm_fok na φ) (o2 : mm_fok na ψ) (j : mm_fj up φ ψ ρ) : mm_fok na ρ := by
  intro _
  obtain ⟨a1, a2, a3, a4, a5⟩ := o1 h0
  obtain ⟨_, b2, b3, b4, b5⟩ := o2 (by rw [← hh]; exact h0)
  obtain ⟨j1, j2, j3, j4⟩ := j
  have hsl' : ∀ v, lk_sl φ v → lk_sl ψ v := fun v hv => by show (v : Int) < 6 + ψ.1.toInt; rw [← hh]; exact hv
  have hsr : ∀ v, lk_sl ρ v → lk_sl φ v := fun v hv => by show (v : Int) < 6 + φ.1.toInt; rw [← j1]; exact hv
  have hv : ∀ v, lk_sl φ v → v < 6 → (ρ.2.2.2 v).2.2.2.2 = -1 := by
    intro v q q6
    rcases (j4 v q).2.2.2 with ⟨_, a⟩ | ⟨_, a⟩
    · rw [a, mm_ds_o]; exact (a5 v q).2.2 q6
    · exact a
  by_cases p : φ.2.1 = ψ.2.1
  · obtain ⟨k1, k2⟩ := j2 p
    refine ⟨by rw [j1]; exact a1, fun q => ?_, by rw [k2]; exact mm_and12 a3 b3, by rw [k1]; exact a4, fun v q => ?_⟩
    · rw [k2, a2 (k1.symm.trans q)]; exact Int32.zero_and
    · have q' := hsr v q
      have jv := j4 v q'
      rw [mm_ds_t p, mm_ds_t p] at jv
      obtain ⟨r1, r2⟩ := mm_vj_vr U (a5 v q').1 (b5 v (hsl' v q')).1 jv
      refine ⟨r1, fun z => ?_, hv v q'⟩
      rw [k1, (r2 z).2.2]
      exact (a5 v q').2.1 (r2 z).1
  · obtain ⟨k1, k2⟩ := j3 p
    refine ⟨by rw [j1]; exact a1, fun q => k2, by rw [k2]; decide, by rw [k1]; decide, fun v q => ?_⟩
    have q' := hsr v q
    have jv := j4 v q'
    rw [mm_ds_f p, mm_ds_f p] at jv
    obtain ⟨r1, r2⟩ := mm_vj_vr U (mm_dr_vr (a5 v q').1) (mm_dr_vr (b5 v (hsl' v q')).1) jv
    exact ⟨r1, fun z => absurd (r2 z).1 mm_dr_n4, hv v q'⟩
