/-! THE REFERENCE: what its comings do to the frames -/
/-- a method that can be looked through -/
def lk_WM (h : mm_H) (m len : Nat) : Prop := m < 10 ∧ len ≤ 20 ∧ mm_a h 91 m = nI len ∧ lk_SV h ∧ lk_MV h m ∧ lk_GV h m ∧ (∀ i, i < len → lk_IV h m i) ∧ (∀ i, -1 ≤ lk_gd h m i ∧ lk_gd h m i < 20) ∧ mm_upo (mm_up h) ∧ mm_upz (mm_up h)
def lk_Rv (Φ : mm_F) (h : mm_H) (m len : Nat) (hd : Nat → Int32 × Int32 × Int32) (sv : Nat → mm_V) : Prop := lk_bn sv ∧ lk_In h m len (lk_fr hd sv) ∧ (∀ j, j < 20 → -7 ≤ (hd j).1.toInt ∧ (hd j).1.toInt ≤ 4) ∧ (∀ j, len ≤ j → j < 20 → (hd j).1 = -1) ∧ mm_fle (mm_up h) Φ (lk_fr hd sv 0)
theorem lk_cm_fu {up : Nat → Int} {len T : Nat} {cl : Prop} {c : mm_F} {e : Int32 × Int32 × Int32} {hd hd' : Nat → Int32 × Int32 × Int32} {sv sv' : Nat → mm_V} {b : Int32} (K : lk_cm up len T cl c e hd sv b hd' sv') : lk_fr hd' sv' = lk_fu (lk_fr hd sv) T (lk_fr hd' sv' T) := by
  funext j
  by_cases q : j = T
  · rw [q, lk_fu_t]
  · rw [lk_fu_f q]
    have e1 : hd' j = hd j := K.2.1 j q
    have e2 : ∀ v, sv' (10 * j + v % 10) = sv (10 * j + v % 10) := fun v => K.2.2.1 _ (fun z => by omega)
    show ((hd' j).1, (hd' j).2.1, (hd' j).2.2, fun v => sv' (10 * j + v % 10)) = ((hd j).1, (hd j).2.1, (hd j).2.2, fun v => sv (10 * j + v % 10))
    rw [e1, funext e2]
theorem lk_jn_eq {up : Nat → Int} {φ ψ ψ' ρ : mm_F} (E : mm_feq ψ ψ') (p : ψ.1 = -2 ∨ 0 ≤ ψ.1.toInt) (j : lk_jn up φ ψ ρ) : lk_jn up φ ψ' ρ := by
  rcases j with j | ⟨a, b, c⟩ | ⟨a, b, c⟩ | ⟨a, b, c⟩
  · exact Or.inl j
  · rw [E.1] at c
    exact Or.inr (Or.inl ⟨a, b, c⟩)
  · exact Or.inr (Or.inr (Or.inl ⟨a, b, mm_feq_trans (mm_feq_symm E) c⟩))
  · obtain ⟨e1, e2, e3⟩ := E.2 (by rw [← b]; exact a)
    refine Or.inr (Or.inr (Or.inr ⟨a, by rw [← E.1]; exact b, ?_⟩))
    obtain ⟨j1, j2, j3, j4⟩ := c
    refine ⟨j1, by rw [← e1, ← e2]; exact j2, by rw [← e1]; exact j3, fun v hv => ?_⟩
    rw [← e1, ← e3 v (by show (v : Int) < 6 + ψ.1.toInt; rw [← b]; exact hv)]
    exact j4 v hv
theorem lk_kc_eq {na : Int32 → Int32} {c : mm_F} (o : mm_fok na c) (p : 0 ≤ c.1.toInt) : mm_feq (lk_kc c) c := by
  refine ⟨rfl, fun _ => ⟨rfl, rfl, fun v hv => ?_⟩⟩
  show lk_kp v (c.2.2.2 v) = c.2.2.2 v
  unfold lk_kp
  split
  · rename_i q
    have := ((o p).2.2.2.2 v hv).2.2 q
    show ((c.2.2.2 v).1, (c.2.2.2 v).2.1, (c.2.2.2 v).2.2.1, (c.2.2.2 v).2.2.2.1, (-1 : Int32)) = c.2.2.2 v
    rw [← this]
  · rfl
theorem lk_cm_jn {up : Nat → Int} {na : Int32 → Int32} {len T : Nat} {cl : Prop} {c ψ : mm_F} {e : Int32 × Int32 × Int32} {hd hd' : Nat → Int32 × Int32 × Int32} {sv sv' : Nat → mm_V} {b : Int32} (hT : T < len) (hc : (cl ∧ ψ = lk_cl) ∨ (¬ cl ∧ mm_feq ψ c ∧ 0 ≤ ψ.1.toInt ∧ mm_fok na ψ)) (K : lk_cm up len T cl c e hd sv b hd' sv') : lk_jn up (lk_fr hd sv T) ψ (lk_fr hd' sv' T) ∧ ((b = 1 ∧ ¬ mm_feq (lk_fr hd sv T) (lk_fr hd' sv' T)) ∨ (b = e.2.2 ∧ hd' = hd ∧ sv' = sv)) := by
  obtain ⟨_, _, _, K⟩ := K
  have kc : ¬ cl → mm_feq (lk_kc c) ψ ∧ 0 ≤ c.1.toInt ∧ c.1.toInt ≤ 4 := by
    intro n
    rcases hc with hc | ⟨_, h1, h2, h3⟩
    · exact absurd hc.1 n
    · have p : 0 ≤ c.1.toInt := by rw [← h1.1]; exact h2
      exact ⟨mm_feq_trans (lk_kc_eq (mm_fok_eq h1 h3) p) (mm_feq_symm h1), p, by rw [← h1.1]; exact (h3 h2).1⟩
  rcases K with ⟨a, b1, b2, b3⟩ | ⟨_, a, b1, b2, b3, b4⟩ | ⟨_, a, n, b1, b2, b3, b4⟩ | ⟨_, n, b1, b2, b3, b4⟩
  · rcases a with a | a
    · omega
    · refine ⟨Or.inl ⟨a, ?_⟩, Or.inr ⟨b1, b2, b3⟩⟩
      rw [b2, b3]
      exact mm_feq_refl
  · refine ⟨Or.inr (Or.inl ⟨a, b3, ?_⟩), Or.inl ⟨b2, fun z => a (z.1.trans b3)⟩⟩
    rcases hc with ⟨_, hc⟩ | ⟨n, h1, _⟩
    · rw [hc]; exact Or.inl rfl
    · rcases b1 with b1 | ⟨b1, b5⟩
      · exact absurd b1 n
      · exact Or.inr ⟨b1, by rw [h1.1]; exact b5⟩
  · obtain ⟨k1, k2, k3⟩ := kc n
    have e1 : mm_feq (lk_kc c) (lk_fr hd' sv' T) := by
      refine ⟨?_, fun _ => ⟨?_, ?_, fun v hv => ?_⟩⟩
      · show c.1 = (hd' T).1
        rw [b3]
      · show c.2.1 = (hd' T).2.1
        rw [b3]
      · show c.2.2.1 = (hd' T).2.2
        rw [b3]
      · have hv' : (v : Int) < 6 + c.1.toInt := hv
        show lk_kp v (c.2.2.2 v) = sv' (10 * T + v % 10)
        rw [Nat.mod_eq_of_lt (by omega), b4 v hv']
    refine ⟨Or.inr (Or.inr (Or.inl ⟨a, b1, mm_feq_trans (mm_feq_symm k1) e1⟩)), Or.inl ⟨b2, fun z => ?_⟩⟩
    have z1 : (hd T).1 = (hd' T).1 := z.1
    rw [b3] at z1
    have z2 : (hd T).1 = c.1 := z1
    rw [z2] at b1
    omega
  · obtain ⟨k1, k2, k3⟩ := kc n
    exact ⟨lk_jn_eq k1 (Or.inr k2) (Or.inr (Or.inr (Or.inr ⟨b1, b2, b3⟩))), b4⟩
/-- the heights after a coming -/
theorem lk_cm_hh {up : Nat → Int} {len T : Nat} {cl : Prop} {c : mm_F} {e : Int32 × Int32 × Int32} {hd hd' : Nat → Int32 × Int32 × Int32} {sv sv' : Nat → mm_V} {b : Int32} (K : lk_cm up len T cl c e hd sv b hd' sv') : hd' T = hd T ∨ (hd' T).1 = -2 ∨ (¬ cl ∧ (hd' T).1 = c.1) := by
  rcases K.2.2.2 with ⟨_, _, h, _⟩ | ⟨_, _, _, _, h, _⟩ | ⟨_, _, n, _, _, h, _⟩ | ⟨_, n, _, h1, h2, _⟩
  · rw [h]; exact Or.inl rfl
  · exact Or.inr (Or.inl h)
  · rw [h]; exact Or.inr (Or.inr ⟨n, rfl⟩)
  · have : (hd' T).1 = (hd T).1 := h2.1
    exact Or.inr (Or.inr ⟨n, this.trans h1⟩)
theorem lk_cm_rv {Φ : mm_F} {h : mm_H} {m len T : Nat} {cl : Prop} {c : mm_F} {e : Int32 × Int32 × Int32} {hd hd' : Nat → Int32 × Int32 × Int32} {sv sv' : Nat → mm_V} {b : Int32} (R : lk_Rv Φ h m len hd sv) (K : lk_cm (mm_up h) len T cl c e hd sv b hd' sv') (hr : ¬ cl → -7 ≤ c.1.toInt ∧ c.1.toInt ≤ 4) (I' : lk_In h m len (lk_fr hd' sv')) (F' : mm_fle (mm_up h) Φ (lk_fr hd' sv' 0)) : lk_Rv Φ h m len hd' sv' := by
  obtain ⟨_, _, r3, r4, _⟩ := R
  refine ⟨K.1, I', fun j hj => ?_, fun j h1 h2 => ?_, F'⟩
  · by_cases q : j = T
    · rcases lk_cm_hh K with z | z | ⟨z1, z2⟩
      · rw [q, z, ← q]; exact r3 j hj
      · rw [q, z]; decide
      · rw [q, z2]; exact hr z1
    · rw [K.2.1 j q]; exact r3 j hj
  · by_cases q : j = T
    · rcases K.2.2.2 with ⟨_, _, z, _⟩ | ⟨z, _⟩ | ⟨z, _⟩ | ⟨z, _⟩
      · rw [z]; exact r4 j h1 h2
      · omega
      · omega
      · omega
    · rw [K.2.1 j q]; exact r4 j h1 h2
/-- a coming of what is as it must be -/
theorem lk_come {Φ : mm_F} {h : mm_H} {m len T : Nat} {cl : Prop} {c ψ : mm_F} {e : Int32 × Int32 × Int32} {hd hd' : Nat → Int32 × Int32 × Int32} {sv sv' : Nat → mm_V} {b : Int32} (U : mm_upo (mm_up h)) (R : lk_Rv Φ h m len hd sv) (hc : (cl ∧ ψ = lk_cl) ∨ (¬ cl ∧ mm_feq ψ c ∧ 0 ≤ ψ.1.toInt ∧ mm_fok (lk_na h m) ψ)) (l : T < len → ∀ Y, lk_VF h m len Y → lk_PF h m len Y → mm_fle (mm_up h) ψ (Y T)) (K : lk_cm (mm_up h) len T cl c e hd sv b hd' sv') : lk_Rv Φ h m len hd' sv' ∧ ((b = 1 ∧ lk_rs len (lk_fr hd sv) < lk_rs len (lk_fr hd' sv')) ∨ (b = e.2.2 ∧ hd' = hd ∧ sv' = sv ∧ (T < len → mm_fle (mm_up h) ψ (lk_fr hd sv T)))) := by
  have hr : ¬ cl → -7 ≤ c.1.toInt ∧ c.1.toInt ≤ 4 := by
    intro n
    rcases hc with hc | ⟨_, h1, h2, h3⟩
    · exact absurd hc.1 n
    · have := (h3 h2).1
      rw [h1.1] at this h2
      omega
  by_cases hT : T < len
  · obtain ⟨J, B⟩ := lk_cm_jn hT hc K
    have oψ : mm_fok (lk_na h m) ψ := by
      rcases hc with ⟨_, hc⟩ | ⟨_, _, _, h3⟩
      · rw [hc]; exact fun z => absurd z (by decide)
      · exact h3
    have pψ : ψ.1 = -2 ∨ 0 ≤ ψ.1.toInt := by
      rcases hc with ⟨_, hc⟩ | ⟨_, _, h2, _⟩
      · rw [hc]; exact Or.inl rfl
      · exact Or.inr h2
    have ef := lk_cm_fu K
    have I' : lk_In h m len (lk_fr hd' sv') := by
      rw [ef]
      exact lk_In_jn U R.2.1 hT oψ pψ J (l hT)
    have oT := R.2.1.1 T hT
    have F' : mm_fle (mm_up h) Φ (lk_fr hd' sv' 0) := by
      have r5 := R.2.2.2.2
      by_cases q0 : 0 = T
      · by_cases m1 : Φ.1 = -1
        · exact Or.inl m1
        · rw [← q0] at J oT
          have pr : lk_pr (lk_fr hd sv 0) := by
            rcases r5 with z | z | ⟨z1, z2, _⟩
            · exact absurd z m1
            · exact Or.inr (Or.inl z)
            · exact Or.inr (Or.inr (by rw [← z1]; exact z2))
          exact mm_fle_trans r5 ((lk_jn_up oT oψ pψ J).2 pr)
      · rw [ef, lk_fu_f q0]; exact r5
    refine ⟨lk_cm_rv R K hr I' F', ?_⟩
    rcases B with ⟨b1, b2⟩ | ⟨b1, b2, b3⟩
    · refine Or.inl ⟨b1, ?_⟩
      obtain ⟨k1, k2⟩ := lk_jn_rank U oT oψ pψ J
      obtain ⟨s1, s2⟩ := lk_rs_up (ρ := lk_fr hd' sv' T) hT k1
      rw [ef]
      rcases Nat.lt_or_ge (lk_rs len (lk_fr hd sv)) (lk_rs len (lk_fu (lk_fr hd sv) T (lk_fr hd' sv' T))) with z | z
      · exact z
      · exact absurd (k2 (s2 (by omega))) b2
    · refine Or.inr ⟨b1, b2, b3, fun _ => ?_⟩
      have := (lk_jn_up oT oψ pψ J).1
      rw [b2, b3] at this
      exact this
  · rcases K.2.2.2 with ⟨_, z1, z2, z3⟩ | ⟨z, _⟩ | ⟨z, _⟩ | ⟨z, _⟩
    · refine ⟨?_, Or.inr ⟨z1, z2, z3, fun q => absurd q hT⟩⟩
      rw [z2, z3]; exact R
    · exact absurd z hT
    · exact absurd z hT
    · exact absurd z hT
/-- a coming of what is no frame at all, where CLASH comes anyhow -/
theorem lk_come_g {Φ : mm_F} {h : mm_H} {m len T : Nat} {cl : Prop} {c : mm_F} {e : Int32 × Int32 × Int32} {hd hd' : Nat → Int32 × Int32 × Int32} {sv sv' : Nat → mm_V} {b : Int32} (R : lk_Rv Φ h m len hd sv) (ncl : ¬ cl) (hc : -7 ≤ c.1.toInt ∧ c.1.toInt < 0) (hT0 : ¬ T = 0) (l : T < len → ∀ Y, lk_VF h m len Y → lk_PF h m len Y → (Y T).1 = -2) (K : lk_cm (mm_up h) len T cl c e hd sv b hd' sv') : lk_Rv Φ h m len hd' sv' ∧ (b = 1 ∨ b = e.2.2) ∧ lk_rs len (lk_fr hd sv) ≤ lk_rs len (lk_fr hd' sv') := by
  have hr : ¬ cl → -7 ≤ c.1.toInt ∧ c.1.toInt ≤ 4 := fun _ => by omega
  have ef := lk_cm_fu K
  have F' : mm_fle (mm_up h) Φ (lk_fr hd' sv' 0) := by
    rw [ef, lk_fu_f (fun z => hT0 z.symm)]
    exact R.2.2.2.2
  rcases K.2.2.2 with ⟨_, z1, z2, z3⟩ | ⟨hT, z1, z2, z3, z4, z5⟩ | ⟨hT, z1, _, z2, z3, z4, z5⟩ | ⟨hT, _, z2, z3, _⟩
  · rw [z2, z3]; exact ⟨R, Or.inr z1, Nat.le_refl _⟩
  · have e1 : (lk_fr hd' sv' T).1 = -2 := z4
    refine ⟨lk_cm_rv R K hr ?_ F', Or.inl z3, ?_⟩
    · rw [ef]
      exact lk_In_ga R.2.1 (by rw [e1]; decide) (l hT)
    · rw [ef]
      refine (lk_rs_up hT ?_).1
      rw [lk_fn_top e1]
      exact lk_fn_max (R.2.1.1 T hT)
  · have e1 : (lk_fr hd' sv' T).1 = c.1 := by
      show (hd' T).1 = c.1
      rw [z4]
    refine ⟨lk_cm_rv R K hr ?_ F', Or.inl z3, ?_⟩
    · rw [ef]
      exact lk_In_ga R.2.1 (by rw [e1]; omega) (l hT)
    · rw [ef]
      refine (lk_rs_up hT ?_).1
      rw [lk_fn_bot (φ := lk_fr hd sv T) z1 z2]
      exact Nat.zero_le _
  · rw [z3] at z2
    omega
