/-! THE SAME STOCK in two heaps; frames that are the same have the same errors -/
def lk_c (h : mm_H) : mm_H := (fun _ => 0, fun _ _ => 0, fun _ _ => 0, fun _ => 0, fun k j => if 81 ≤ k ∧ k ≤ 101 ∧ ¬ k = 85 then mm_a h k j else 0, fun _ _ => 0, 0, 0)
def lk_sm (h h' : mm_H) : Prop := ∀ k, 81 ≤ k → k ≤ 101 → ¬ k = 85 → mm_a h k = mm_a h' k
theorem lk_c_eq {h h' : mm_H} (s : lk_sm h h') : lk_c h = lk_c h' := by
  unfold lk_c
  have e : (fun k j => if 81 ≤ k ∧ k ≤ 101 ∧ ¬ k = 85 then mm_a h k j else 0) = (fun k j => if 81 ≤ k ∧ k ≤ 101 ∧ ¬ k = 85 then mm_a h' k j else 0) := by
    funext k j
    by_cases q : 81 ≤ k ∧ k ≤ 101 ∧ ¬ k = 85
    · rw [if_pos q, if_pos q, s k q.1 q.2.1 q.2.2]
    · rw [if_neg q, if_neg q]
  rw [e]
theorem lk_c_up {h : mm_H} : mm_up h = mm_up (lk_c h) := rfl
theorem lk_c_o {h : mm_H} {m i : Nat} : lk_o h m i = lk_o (lk_c h) m i := rfl
theorem lk_c_a {h : mm_H} {m i : Nat} : lk_a h m i = lk_a (lk_c h) m i := rfl
theorem lk_c_np {h : mm_H} {a : Nat} : lk_np h a = lk_np (lk_c h) a := rfl
theorem lk_c_po {h : mm_H} {m o a : Nat} : lk_po h m o a = lk_po (lk_c h) m o a := rfl
theorem lk_c_pu {h : mm_H} {o a : Nat} : lk_pu h o a = lk_pu (lk_c h) o a := rfl
theorem lk_c_ef {h : mm_H} {m i H a o : Nat} {s f : Int32} {g : Nat → mm_V} : lk_ef h m i H a s f g o = lk_ef (lk_c h) m i H a s f g o := by
  unfold lk_ef
  split <;> rfl
theorem lk_c_na {h : mm_H} {m : Nat} : lk_na h m = lk_na (lk_c h) m := rfl
theorem lk_c_gd {h : mm_H} {m i : Nat} : lk_gd h m i = lk_gd (lk_c h) m i := rfl
theorem lk_c_w {h : mm_H} {m i w : Nat} : lk_w h m i w = lk_w (lk_c h) m i w := by
  rcases w with _ | _ | w
  · rfl
  · rfl
  · rfl
theorem lk_c_bad {h : mm_H} {m i : Nat} {x : Int} : lk_bad h m i x = lk_bad (lk_c h) m i x := rfl
theorem lk_c_out {h : mm_H} {m i w : Nat} {φ : mm_F} : lk_out h m i w φ = lk_out (lk_c h) m i w φ := by
  by_cases q : lk_bad h m i φ.1.toInt
  · rw [lk_out_b q, lk_out_b (h := lk_c h) (by rw [← lk_c_bad]; exact q)]
  · rw [lk_out_g q, lk_out_g (h := lk_c h) (by rw [← lk_c_bad]; exact q)]
    rcases w with _ | _ | w
    · show lk_is (lk_o h m i) _ _ lk_n0 (lk_ef h m i _ _ _ _ _ _) = lk_is (lk_o (lk_c h) m i) _ _ lk_n0 (lk_ef (lk_c h) m i _ _ _ _ _ _)
      rw [lk_c_ef]
      rfl
    · show lk_is (lk_o h m i) _ _ lk_nk (lk_ef h m i _ _ _ _ _ _) = lk_is (lk_o (lk_c h) m i) _ _ lk_nk (lk_ef (lk_c h) m i _ _ _ _ _ _)
      rw [lk_c_ef]
      rfl
    · rfl
theorem lk_c_sf {h : mm_H} {m : Nat} : lk_sf h m = lk_sf (lk_c h) m := rfl
theorem lk_c_VF {h : mm_H} {m len : Nat} {X : Nat → mm_F} : lk_VF h m len X ↔ lk_VF (lk_c h) m len X := Iff.rfl
theorem lk_c_PF {h : mm_H} {m len : Nat} {X : Nat → mm_F} : lk_PF h m len X ↔ lk_PF (lk_c h) m len X := by
  constructor
  · intro p
    refine ⟨p.1, fun i hi n w hw y1 y2 => ?_⟩
    rw [← lk_c_w] at y1 y2 ⊢
    rw [← lk_c_out, ← lk_c_up]
    exact p.2 i hi n w hw y1 y2
  · intro p
    refine ⟨p.1, fun i hi n w hw y1 y2 => ?_⟩
    rw [lk_c_w] at y1 y2 ⊢
    rw [lk_c_out, lk_c_up]
    exact p.2 i hi n w hw y1 y2
theorem lk_c_LF {h : mm_H} {m len : Nat} {X : Nat → mm_F} : lk_LF h m len X ↔ lk_LF (lk_c h) m len X := by
  constructor
  · intro p
    exact ⟨lk_c_VF.mp p.1, lk_c_PF.mp p.2.1, fun Y VY PY i hi => p.2.2 Y (lk_c_VF.mpr VY) (lk_c_PF.mpr PY) i hi⟩
  · intro p
    exact ⟨lk_c_VF.mpr p.1, lk_c_PF.mpr p.2.1, fun Y VY PY i hi => p.2.2 Y (lk_c_VF.mp VY) (lk_c_PF.mp PY) i hi⟩
theorem lk_LF_sm {h h' : mm_H} {m len : Nat} {X : Nat → mm_F} (s : lk_sm h h') (p : lk_LF h m len X) : lk_LF h' m len X := by
  rw [lk_c_LF] at p ⊢
  rw [← lk_c_eq s]
  exact p
theorem lk_c_wp {h : mm_H} {g : Nat → mm_V} {F a : Nat} : ∀ p, lk_wp h g F a p = lk_wp (lk_c h) g F a p := by
  intro p
  induction p with
  | zero => rfl
  | succ p ih =>
    show lk_mn (lk_wp h g F a p) _ = lk_mn (lk_wp (lk_c h) g F a p) _
    rw [ih]
    rfl
theorem lk_c_wc {h : mm_H} {g : Nat → mm_V} {H a : Nat} : lk_wc h g H a = lk_wc (lk_c h) g H a := by
  unfold lk_wc
  rw [lk_c_wp]
  rfl
theorem lk_c_vo {h : mm_H} {nF m a H o : Nat} {f : Int32} {g : Nat → mm_V} : lk_vo h nF m a H f g o = lk_vo (lk_c h) nF m a H f g o := by
  unfold lk_vo
  split <;> first | exact lk_c_wc | rfl
theorem lk_c_aw {h : mm_H} {m len i : Nat} : lk_aw h m len i ↔ lk_aw (lk_c h) m len i := by
  unfold lk_aw
  constructor
  · rintro ⟨w, h1, h2⟩
    exact ⟨w, h1, by rw [← lk_c_w]; exact h2⟩
  · rintro ⟨w, h1, h2⟩
    exact ⟨w, h1, by rw [lk_c_w]; exact h2⟩
theorem lk_c_er {h : mm_H} {nF m len i : Nat} {φ : mm_F} : lk_er h nF m len i φ = lk_er (lk_c h) nF m len i φ := by
  unfold lk_er
  by_cases a : lk_aw h m len i
  · rw [if_pos a, if_pos (lk_c_aw.mp a)]
  · rw [if_neg a, if_neg (fun y => a (lk_c_aw.mpr y))]
    by_cases b : φ.1 = -2
    · rw [if_pos b, if_pos b]
    · rw [if_neg b, if_neg b]
      by_cases c : lk_bad h m i φ.1.toInt
      · rw [if_pos c, if_pos (by rw [← lk_c_bad]; exact c)]
      · rw [if_neg c, if_neg (by rw [← lk_c_bad]; exact c), lk_c_vo]
        rfl
theorem lk_er_sm {h h' : mm_H} {nF m len i : Nat} {φ : mm_F} (s : lk_sm h h') : lk_er h nF m len i φ = lk_er h' nF m len i φ := by rw [lk_c_er, lk_c_eq s, ← lk_c_er]
theorem lk_c_os {h : mm_H} {m : Nat} : lk_os h m = lk_os (lk_c h) m := rfl
theorem lk_os_sm {h h' : mm_H} {m : Nat} (s : lk_sm h h') : lk_os h m = lk_os h' m := by rw [lk_c_os, lk_c_eq s, ← lk_c_os]
/-- the same frames, the same error -/
theorem lk_er_eq {h : mm_H} {nF m len i : Nat} {φ ψ : mm_F} (V : lk_IV h m i) (E : mm_feq φ ψ) (o : mm_fok (lk_na h m) φ) : lk_er h nF m len i φ = lk_er h nF m len i ψ := by
  unfold lk_er
  by_cases a : lk_aw h m len i
  · rw [if_pos a, if_pos a]
  · rw [if_neg a, if_neg a]
    by_cases b : φ.1 = -2
    · rw [if_pos b, if_pos (E.1.symm.trans b)]
    · rw [if_neg b, if_neg (fun y => b (E.1.trans y))]
      by_cases c : lk_bad h m i φ.1.toInt
      · rw [if_pos c, if_pos (by rw [← E.1]; exact c)]
      · rw [if_neg c, if_neg (by rw [← E.1]; exact c)]
        have g := lk_good c
        obtain ⟨_, e2, e3⟩ := E.2 g.1
        rw [← E.1, ← e2]
        exact lk_vo_eq (fun v hv => e3 v (by show (v : Int) < 6 + φ.1.toInt; omega)) g.2.1 (fun y => (V.2.2.1 y).2.2.2.2.1)
theorem lk_no_eq {h : mm_H} {nF m len : Nat} {X Y : Nat → mm_F} (V : ∀ i, i < len → lk_IV h m i) (E : ∀ i, i < len → mm_feq (X i) (Y i)) (o : ∀ i, i < len → mm_fok (lk_na h m) (X i)) (n : lk_no h nF m len X) : lk_no h nF m len Y := by
  intro j hj
  rcases n j hj with z | z
  · exact Or.inl ((E j hj).1.symm.trans z)
  · exact Or.inr (by rw [← lk_er_eq (V j hj) (E j hj) (o j hj)]; exact z)
theorem lk_fe_eq {h : mm_H} {nF m len i : Nat} {X Y : Nat → mm_F} (V : ∀ i, i < len → lk_IV h m i) (E : ∀ i, i < len → mm_feq (X i) (Y i)) (o : ∀ i, i < len → mm_fok (lk_na h m) (X i)) (n : lk_fe h nF m len X i) : lk_fe h nF m len Y i := by
  obtain ⟨h1, h2, h3, h4⟩ := n
  refine ⟨h1, fun z => h2 ((E i h1).1.trans z), ?_, fun j hj => ?_⟩
  · rw [← lk_er_eq (V i h1) (E i h1) (o i h1)]; exact h3
  · rcases h4 j hj with z | z
    · exact Or.inl ((E j (by omega)).1.symm.trans z)
    · exact Or.inr (by rw [← lk_er_eq (V j (by omega)) (E j (by omega)) (o j (by omega))]; exact z)
theorem lk_fe_uni {h : mm_H} {nF m len i j : Nat} {X : Nat → mm_F} (a : lk_fe h nF m len X i) (b : lk_fe h nF m len X j) : i = j := by
  obtain ⟨a1, a2, a3, a4⟩ := a
  obtain ⟨b1, b2, b3, b4⟩ := b
  rcases Nat.lt_trichotomy i j with q | q | q
  · rcases b4 i q with z | z
    · exact absurd z a2
    · exact absurd z a3
  · exact q
  · rcases a4 j q with z | z
    · exact absurd z b2
    · exact absurd z b3
theorem lk_fe_no {h : mm_H} {nF m len i : Nat} {X : Nat → mm_F} (a : lk_fe h nF m len X i) (n : lk_no h nF m len X) : False := by
  obtain ⟨a1, a2, a3, _⟩ := a
  rcases n i a1 with z | z
  · exact a2 z
  · exact a3 z
