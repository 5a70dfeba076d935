/-! THE REFERENCE: flow -/
theorem lk_ew_eq {h : mm_H} {m i H w : Nat} {s f : Int32} {g g' : Nat → mm_V} (U : mm_upo (mm_up h)) (S : lk_SV h) (hi : i < 20) (A : lk_AV h m i) (o1 : lk_ok (lk_na h m) H s f g) (E : ∀ v, v < 6 + H → g v = g' v) (hpo : lk_po h m (lk_o h m i) (lk_a h m i) ≤ H) (hpu : H - lk_po h m (lk_o h m i) (lk_a h m i) + lk_pu h (lk_o h m i) (lk_a h m i) ≤ 4) : mm_feq (lk_ew h m i H s f g w) (lk_ew h m i H s f g' w) := by
  obtain ⟨a1, a2, a3, a4, a5⟩ := o1
  have o2 : lk_ok (lk_na h m) H s f g' := ⟨a1, a2, a3, a4, fun v hv => by rw [← E v hv]; exact a5 v hv⟩
  have o1 : lk_ok (lk_na h m) H s f g := ⟨a1, a2, a3, a4, a5⟩
  have p1 : lk_P (mm_up h) H s f g s f g' := ⟨Or.inr ⟨rfl, Int32.and_self⟩, fun v hv => by rw [E v hv]; exact mm_vle_refl⟩
  have p2 : lk_P (mm_up h) H s f g' s f g := ⟨Or.inr ⟨rfl, Int32.and_self⟩, fun v hv => by rw [E v hv]; exact mm_vle_refl⟩
  exact mm_fle_anti U (lk_ew_ok S hi A o1 hpo hpu) (lk_ew_ok S hi A o2 hpo hpu) (lk_ew_mono A o1 o2 p1 hpo hpu) (lk_ew_mono A o2 o1 p2 hpo hpu)
theorem c_Mo_cm {Φ : mm_F} {ro : mm_Ro} {d T m len : Nat} {h0 : mm_H} {e : Int32 × Int32 × Int32} {c ψ : mm_F} {hd : Nat → Int32 × Int32 × Int32} {sv : Nat → mm_V} {cl : Int32} {Q : Value → mm_H → Prop} (I : mm_SH h0) (W : lk_WM h0 m len) (he : e.1 = nI m) (hT : T ≤ 20) (R : lk_Rv Φ h0 m len hd sv) (hc : (¬ cl = 0 ∧ ψ = lk_cl) ∨ (cl = 0 ∧ mm_feq ψ c ∧ 0 ≤ ψ.1.toInt ∧ mm_fok (lk_na h0 m) ψ ∧ lk_bn c.2.2.2)) (l : T < len → ∀ Y, lk_VF h0 m len Y → lk_PF h0 m len Y → mm_fle (mm_up h0) ψ (Y T)) (hQ : ∀ (b : Int32) (hd' : Nat → Int32 × Int32 × Int32) (sv' : Nat → mm_V), lk_Rv Φ h0 m len hd' sv' → ((b = 1 ∧ lk_rs len (lk_fr hd sv) < lk_rs len (lk_fr hd' sv')) ∨ (b = e.2.2 ∧ hd' = hd ∧ sv' = sv ∧ (T < len → mm_fle (mm_up h0) ψ (lk_fr hd sv T)))) → lk_cm (mm_up h0) len T (¬ cl = 0) c e hd sv b hd' sv' → Q .null (lk_L h0 (e.1, e.2.1, b) c hd' sv')) : mm_ev ro (d + 3) n_Mo_come [.ref 80, .int (nI T), .int cl] (lk_L h0 e c hd sv) Q := by
  obtain ⟨w1, w2, w3, w4, w5, w6, w7, w8, w9, w10⟩ := W
  have hc' : (¬ cl = 0 ∧ ψ = lk_cl) ∨ (¬ ¬ cl = 0 ∧ mm_feq ψ c ∧ 0 ≤ ψ.1.toInt ∧ mm_fok (lk_na h0 m) ψ) := by
    rcases hc with hc | ⟨c1, c2, c3, c4, _⟩
    · exact Or.inl hc
    · exact Or.inr ⟨fun z => z c1, c2, c3, c4⟩
  have cc : cl = 0 → mm_feq ψ c ∧ 0 ≤ c.1.toInt ∧ c.1.toInt ≤ 4 ∧ mm_fok (lk_na h0 m) c ∧ lk_bn c.2.2.2 := by
    intro z
    rcases hc with hc | ⟨_, c2, c3, c4, c5⟩
    · exact absurd z hc.1
    · have := (c4 c3).1
      rw [c2.1] at c3 this
      exact ⟨c2, c3, this, mm_fok_eq c2 c4, c5⟩
  refine c_Mo_come (N := (6 + c.1.toInt).toNat) I w9 w10 w1 he w3 w2 hT R.1 ?_ ?_ ?_ (fun b hd' sv' K => ?_)
  · by_cases z : cl = 0
    · exact Or.inr (cc z).2.2.2.2
    · exact Or.inl z
  · by_cases z : cl = 0
    · obtain ⟨_, p, p4, _⟩ := cc z
      refine Or.inr ⟨Int32.toInt_inj.mp ?_, by omega, by omega⟩
      rw [lk_add (by decide) (by omega), mm_nt (by omega)]
      have : (6 : Int32).toInt = 6 := by decide
      omega
    · exact Or.inl z
  · intro z hTl p ep
    obtain ⟨_, p0, p4, oc, _⟩ := cc z
    have o := R.2.1.1 T hTl p
    refine ⟨o.2.2.2.1.1, fun u hu => ?_⟩
    have ou := o.2.2.2.2 u (by show (u : Int) < 6 + (hd T).1.toInt; rw [ep]; exact hu)
    have e1 : (lk_fr hd sv T).2.2.2 u = sv (10 * T + u) := by
      show sv (10 * T + u % 10) = _
      rw [Nat.mod_eq_of_lt (by omega)]
    rw [e1] at ou
    exact ⟨ou.1, ou.2.2, ((oc p0).2.2.2.2 u hu).1⟩
  · obtain ⟨k1, k2⟩ := lk_come w9 R hc' l K
    exact hQ b hd' sv' k1 k2 K
theorem c_Mo_cmg {Φ : mm_F} {ro : mm_Ro} {d T m len : Nat} {h0 : mm_H} {e : Int32 × Int32 × Int32} {c : mm_F} {hd : Nat → Int32 × Int32 × Int32} {sv : Nat → mm_V} {Q : Value → mm_H → Prop} (I : mm_SH h0) (W : lk_WM h0 m len) (he : e.1 = nI m) (hT : T ≤ 20) (R : lk_Rv Φ h0 m len hd sv) (hc : -6 ≤ c.1.toInt ∧ c.1.toInt < 0) (bc : lk_bn c.2.2.2) (hT0 : ¬ T = 0) (l : T < len → ∀ Y, lk_VF h0 m len Y → lk_PF h0 m len Y → (Y T).1 = -2) (hQ : ∀ (b : Int32) (hd' : Nat → Int32 × Int32 × Int32) (sv' : Nat → mm_V), lk_Rv Φ h0 m len hd' sv' → (b = 1 ∨ b = e.2.2) → lk_rs len (lk_fr hd sv) ≤ lk_rs len (lk_fr hd' sv') → Q .null (lk_L h0 (e.1, e.2.1, b) c hd' sv')) : mm_ev ro (d + 3) n_Mo_come [.ref 80, .int (nI T), .int 0] (lk_L h0 e c hd sv) Q := by
  obtain ⟨w1, w2, w3, w4, w5, w6, w7, w8, w9, w10⟩ := W
  refine c_Mo_come (N := (6 + c.1.toInt).toNat) I w9 w10 w1 he w3 w2 hT R.1 (Or.inr bc) ?_ ?_ (fun b hd' sv' K => ?_)
  · refine Or.inr ⟨Int32.toInt_inj.mp ?_, by omega, by omega⟩
    rw [lk_add (by decide) (by omega), mm_nt (by omega)]
    have : (6 : Int32).toInt = 6 := by decide
    omega
  · intro _ _ p ep
    rw [ep] at p
    omega
  · obtain ⟨k1, k2, k3⟩ := lk_come_g R (fun z => z rfl) (by omega) hT0 l K
    exact hQ b hd' sv' k1 k2 k3
/-- effect where the height at hand is CLASH's -/
theorem c_Mo_effect_g {ro : mm_Ro} {d m i : Nat} {h0 : mm_H} {e : Int32 × Int32 × Int32} {c : mm_F} {hd : Nat → Int32 × Int32 × Int32} {sv : Nat → mm_V} {Q : Value → mm_H → Prop} (I : mm_SH h0) (hm : m < 10) (hi : i < 20) (V : lk_IV h0 m i) (S : lk_SV h0) (ho : lk_o h0 m i = 11 ∨ lk_o h0 m i = 12 ∨ lk_o h0 m i = 17) (m2 : c.1.toInt = -2) (hb : lk_bn c.2.2.2) (hQ : ∀ c : mm_F, -6 ≤ c.1.toInt ∧ c.1.toInt < 0 → lk_bn c.2.2.2 → Q .null (lk_L h0 e c hd sv)) : mm_ev ro (d + 4) n_Mo_effect [.ref 80, .int (nI m), .int (nI i)] (lk_L h0 e c hd sv) Q := by
  obtain ⟨p4, _⟩ := lk_po4 V
  have tp : (nI (lk_po h0 m (lk_o h0 m i) (lk_a h0 m i))).toInt = (lk_po h0 m (lk_o h0 m i) (lk_a h0 m i) : Int) := mm_nt (by omega)
  have t6 : (6 : Int32).toInt = 6 := by decide
  have t1 : (1 : Int32).toInt = 1 := by decide
  refine l_ef_hd I hm hi V (by omega) (by omega) ?_
  have s1 : (c.1 - nI (lk_po h0 m (lk_o h0 m i) (lk_a h0 m i))).toInt = -2 - (lk_po h0 m (lk_o h0 m i) (lk_a h0 m i) : Int) := by rw [lk_sub (by omega) (by omega), m2, tp]
  generalize c.1 - nI (lk_po h0 m (lk_o h0 m i) (lk_a h0 m i)) = x at s1 ⊢
  generalize lk_po h0 m (lk_o h0 m i) (lk_a h0 m i) = P at s1 p4 tp ⊢
  have e6 : (6 : Int32) + x = nI (4 - P) := by
    refine Int32.toInt_inj.mp ?_
    rw [lk_add (by omega) (by omega), s1, t6, mm_nt (by omega)]
    omega
  have s2 : (x + 1).toInt = -1 - (P : Int) := by
    rw [lk_add (by omega) (by omega), s1, t1]
    omega
  have e7 : (Int8.ofInt 6).toInt32 + x = nI (4 - P) := e6
  rw [e7]
  rcases ho with q | q | q
  · have ea := (V.2.2.1 q).1
    have a5 := V.1.2.2.2.2 q
    rw [q, ea]
    refine l_ef_11 (c := (x, c.2)) I e6 (fun _ => by omega) a5 S (hQ _ ?_ ?_)
    · split
      · show -6 ≤ x.toInt ∧ x.toInt < 0
        omega
      · show -6 ≤ (x + 1).toInt ∧ (x + 1).toInt < 0
        omega
    · split
      · exact hb
      · exact lk_bn_up hb (lk_sv_bn (S.2 (4 * lk_a h0 m i + 3) (by omega)).2.1)
  · rw [q]
    refine l_ef_12 (c := (x, c.2)) I e6 (by omega) hb (hQ _ ?_ (lk_bn_up hb (hb _)))
    show -6 ≤ (x + 1).toInt ∧ (x + 1).toInt < 0
    omega
  · rw [q]
    refine l_ef_17g (c := (x, c.2)) I (hQ _ ?_ hb)
    show -6 ≤ x.toInt ∧ x.toInt < 0
    omega
