/-! WAYS, and what comes along them -/
def lk_cl : mm_F := (-2, -1, 0, fun _ => (0, -1, 0, 0, -1))
def lk_hit (h : mm_H) (j i : Nat) : Prop := (mm_a h 99 j).toInt ≤ (i : Int) ∧ (i : Int) ≤ (mm_a h 100 j).toInt
noncomputable def lk_gd (h : mm_H) (m i : Nat) : Int := @ite _ (0 < (mm_a h 92 m).toInt ∧ lk_hit h (2 * m) i) (Classical.propDecidable _) (mm_a h 101 (2 * m)).toInt (@ite _ (1 < (mm_a h 92 m).toInt ∧ lk_hit h (2 * m + 1) i) (Classical.propDecidable _) (mm_a h 101 (2 * m + 1)).toInt (-1))
/-- where a way leads: to the next one, to the argument, to the guard's at -/
noncomputable def lk_w (h : mm_H) (m i : Nat) : Nat → Int
  | 0 => if lk_o h m i = 13 ∨ 16 ≤ lk_o h m i then -1 else (i : Int) + 1
  | 1 => if 13 ≤ lk_o h m i ∧ lk_o h m i ≤ 15 then (mm_a h 98 (20 * m + i)).toInt else -1
  | _ => if lk_o h m i = 11 ∨ lk_o h m i = 12 ∨ lk_o h m i = 17 then lk_gd h m i else -1
/-- too few values, or too many -/
def lk_bad (h : mm_H) (m i : Nat) (x : Int) : Prop := x < (lk_po h m (lk_o h m i) (lk_a h m i) : Int) ∨ 4 < x - (lk_po h m (lk_o h m i) (lk_a h m i) : Int) + (lk_pu h (lk_o h m i) (lk_a h m i) : Int)
def lk_n0 (x : mm_V) : mm_V := (x.1, x.2.1, 0, x.2.2.2.1, x.2.2.2.2)
def lk_nk (x : mm_V) : mm_V := if x.1 = 3 then (2, -1, x.2.2) else x
/-- ISNULL and the local that is the origin -/
def lk_is (o : Nat) (g : Nat → mm_V) (H : Nat) (F : mm_V → mm_V) (φ : mm_F) : mm_F := if o = 15 ∧ ¬ (g (5 + H)).2.2.2.2 = -1 then (φ.1, φ.2.1, φ.2.2.1, lk_up φ.2.2.2 (g (5 + H)).2.2.2.2.toInt.toNat (F (φ.2.2.2 (g (5 + H)).2.2.2.2.toInt.toNat))) else φ
noncomputable def lk_ew (h : mm_H) (m i H : Nat) (s f : Int32) (g : Nat → mm_V) : Nat → mm_F
  | 0 => lk_is (lk_o h m i) g H lk_n0 (lk_ef h m i H (lk_a h m i) s f g (lk_o h m i))
  | 1 => lk_is (lk_o h m i) g H lk_nk (lk_ef h m i H (lk_a h m i) s f g (lk_o h m i))
  | _ => (1, s, f, lk_up g 6 (3, 0, 0, 0, -1))
noncomputable def lk_out (h : mm_H) (m i w : Nat) (φ : mm_F) : mm_F := @ite _ (lk_bad h m i φ.1.toInt) (Classical.propDecidable _) lk_cl (lk_ew h m i φ.1.toInt.toNat φ.2.1 φ.2.2.1 φ.2.2.2 w)
theorem lk_out_b {h : mm_H} {m i w : Nat} {φ : mm_F} (q : lk_bad h m i φ.1.toInt) : lk_out h m i w φ = lk_cl := if_pos q
theorem lk_out_g {h : mm_H} {m i w : Nat} {φ : mm_F} (q : ¬ lk_bad h m i φ.1.toInt) : lk_out h m i w φ = lk_ew h m i φ.1.toInt.toNat φ.2.1 φ.2.2.1 φ.2.2.2 w := if_neg q
theorem lk_top {up : Nat → Int} {φ : mm_F} : mm_fle up φ lk_cl := Or.inr (Or.inl rfl)
theorem lk_bad_neg {h : mm_H} {m i : Nat} {x : Int} (q : x < 0) : lk_bad h m i x := Or.inl (by omega)
theorem lk_good {h : mm_H} {m i : Nat} {x : Int} (q : ¬ lk_bad h m i x) : 0 ≤ x ∧ lk_po h m (lk_o h m i) (lk_a h m i) ≤ x.toNat ∧ x.toNat - lk_po h m (lk_o h m i) (lk_a h m i) + lk_pu h (lk_o h m i) (lk_a h m i) ≤ 4 := by
  have q1 : ¬ x < (lk_po h m (lk_o h m i) (lk_a h m i) : Int) := fun z => q (Or.inl z)
  have q2 : ¬ 4 < x - (lk_po h m (lk_o h m i) (lk_a h m i) : Int) + (lk_pu h (lk_o h m i) (lk_a h m i) : Int) := fun z => q (Or.inr z)
  omega
theorem lk_n0_le {up : Nat → Int} {x y : mm_V} (hy : mm_vr y) (h : mm_vle up x y) : mm_vle up (lk_n0 x) (lk_n0 y) ∧ mm_vle up (lk_n0 x) y := by
  refine ⟨⟨h.1, Or.inl rfl, h.2.2⟩, ⟨h.1, ?_, h.2.2⟩⟩
  rcases hy.2.2.2.1 with q | q
  · exact Or.inl q.symm
  · exact Or.inr ⟨rfl, q⟩
theorem lk_nk_le {up : Nat → Int} {x y : mm_V} (hx : mm_vr x) (hy : mm_vr y) (h : mm_vle up x y) : mm_vle up (lk_nk x) (lk_nk y) ∧ mm_vle up (lk_nk x) y := by
  unfold lk_nk
  have key : x.1 = 3 → mm_kle up 2 (-1) y.1 y.2.1 := by
    intro q
    rcases h.1 with a | ⟨a, _⟩ | ⟨a, _⟩ | ⟨_, a, _⟩
    · exact Or.inl a
    · exact Or.inr (Or.inr (Or.inl ⟨rfl, a.symm.trans q⟩))
    · exact absurd (a.symm.trans q) (by decide)
    · exact Or.inr (Or.inr (Or.inl ⟨rfl, a⟩))
  by_cases q : x.1 = 3
  · rw [if_pos q]
    refine ⟨?_, ⟨key q, h.2⟩⟩
    by_cases q2 : y.1 = 3
    · rw [if_pos q2]; exact ⟨mm_kle_refl, h.2⟩
    · rw [if_neg q2]; exact ⟨key q, h.2⟩
  · rw [if_neg q]
    refine ⟨?_, h⟩
    by_cases q2 : y.1 = 3
    · rw [if_pos q2]
      refine ⟨?_, h.2⟩
      rcases h.1 with a | ⟨a, _⟩ | ⟨a, _⟩ | ⟨a, _⟩
      · exact absurd (a.symm.trans q2) (by decide)
      · exact absurd (a.trans q2) q
      · exact Or.inr (Or.inl ⟨a, hx.2.1 (by rw [a]; decide)⟩)
      · exact absurd a q
    · rw [if_neg q2]; exact h
theorem lk_org {x : mm_V} (h : mm_vr x) (q : ¬ x.2.2.2.2 = -1) : x.2.2.2.2.toInt.toNat < 6 ∧ x.2.2.2.2 = nI x.2.2.2.2.toInt.toNat := by
  have a := h.2.2.2.2.2
  have b : ¬ x.2.2.2.2.toInt = -1 := lk_nn (n := -1) q (by decide)
  refine ⟨by omega, Int32.toInt_inj.mp ?_⟩
  rw [mm_nt (by omega)]
  omega
theorem lk_is_mono {up : Nat → Int} {na : Int32 → Int32} {H : Nat} {s f s' f' : Int32} {g g' : Nat → mm_V} {F : mm_V → mm_V} (hF : ∀ x y, mm_vr x → mm_vr y → mm_vle up x y → mm_vle up (F x) (F y) ∧ mm_vle up (F x) y) (o1 : lk_ok na H s f g) (o2 : lk_ok na H s' f' g') (p : lk_P up H s f g s' f' g') (h1 : 1 ≤ H) : mm_fle up (lk_is 15 g H F (nI (H - 1), s, f, g)) (lk_is 15 g' H F (nI (H - 1), s', f', g')) := by
  have hH := o1.1
  have vt := o1.2.2.2.2 (5 + H) (by omega)
  have vt' := o2.2.2.2.2 (5 + H) (by omega)
  have pt := (p.2 (5 + H) (by omega)).2.2.2
  unfold lk_is
  by_cases q : (g (5 + H)).2.2.2.2 = -1
  · have q' : (g' (5 + H)).2.2.2.2 = -1 := by
      rcases pt with z | z
      · exact z
      · exact z.symm.trans q
    rw [if_neg (fun z => z.2 q), if_neg (fun z => z.2 q')]
    exact lk_P_to (by omega) (lk_P_pop p (by omega))
  · rw [if_pos ⟨rfl, q⟩]
    have lo := lk_org vt.1 q
    have pl := p.2 (g (5 + H)).2.2.2.2.toInt.toNat (by omega)
    have v1 := (o1.2.2.2.2 (g (5 + H)).2.2.2.2.toInt.toNat (by omega)).1
    have v2 := (o2.2.2.2.2 (g (5 + H)).2.2.2.2.toInt.toNat (by omega)).1
    by_cases q' : (g' (5 + H)).2.2.2.2 = -1
    · rw [if_neg (fun z => z.2 q')]
      refine lk_P_to (by omega) ⟨p.1, fun v hv => ?_⟩
      by_cases e : v = (g (5 + H)).2.2.2.2.toInt.toNat
      · rw [e, lk_up_t]; exact (hF _ _ v1 v2 pl).2
      · rw [lk_up_f e]; exact p.2 v (by omega)
    · rw [if_pos ⟨rfl, q'⟩]
      have eo : (g (5 + H)).2.2.2.2 = (g' (5 + H)).2.2.2.2 := by
        rcases pt with z | z
        · exact absurd z q'
        · exact z
      rw [← eo]
      exact lk_P_to (by omega) (lk_P_put (lk_P_pop p (by omega)) (hF _ _ v1 v2 pl).1)
theorem lk_is_n {o : Nat} {g : Nat → mm_V} {H : Nat} {F : mm_V → mm_V} {φ : mm_F} (h : ¬ o = 15) : lk_is o g H F φ = φ := if_neg (fun z => h z.1)
theorem lk_c3 : mm_vr (3, 0, 0, 0, -1) := by unfold mm_vr; decide
theorem lk_ew_mono {up : Nat → Int} {na : Int32 → Int32} {h : mm_H} {m i H w : Nat} {s f s' f' : Int32} {g g' : Nat → mm_V} (A : lk_AV h m i) (o1 : lk_ok na H s f g) (o2 : lk_ok na H s' f' g') (p : lk_P up H s f g s' f' g') (hpo : lk_po h m (lk_o h m i) (lk_a h m i) ≤ H) (hpu : H - lk_po h m (lk_o h m i) (lk_a h m i) + lk_pu h (lk_o h m i) (lk_a h m i) ≤ 4) : mm_fle up (lk_ew h m i H s f g w) (lk_ew h m i H s' f' g' w) := by
  have hH := o1.1
  have M := lk_ef_mono (m := m) (i := i) o1 o2 p A.1 A.2.1 hpo hpu
  have hb : ∀ F : mm_V → mm_V, (∀ x y, mm_vr x → mm_vr y → mm_vle up x y → mm_vle up (F x) (F y) ∧ mm_vle up (F x) y) → mm_fle up (lk_is (lk_o h m i) g H F (lk_ef h m i H (lk_a h m i) s f g (lk_o h m i))) (lk_is (lk_o h m i) g' H F (lk_ef h m i H (lk_a h m i) s' f' g' (lk_o h m i))) := by
    intro F hF
    by_cases q : lk_o h m i = 15
    · have h1 : 1 ≤ H := by
        rw [q] at hpo
        exact hpo
      rw [q]
      exact lk_is_mono hF o1 o2 p h1
    · rw [lk_is_n q, lk_is_n q]; exact M
  rcases w with _ | _ | w
  · exact hb lk_n0 (fun x y _ hy l => lk_n0_le hy l)
  · exact hb lk_nk (fun x y hx hy l => lk_nk_le hx hy l)
  · refine lk_P_to (H := 1) (by omega) ⟨p.1, fun v hv => ?_⟩
    by_cases e : v = 6
    · rw [e, lk_up_t, lk_up_t]; exact mm_vle_refl
    · rw [lk_up_f e, lk_up_f e]; exact p.2 v (by omega)
theorem lk_is_ok {na : Int32 → Int32} {H : Nat} {s f : Int32} {g : Nat → mm_V} {F : mm_V → mm_V} (hF : ∀ x, mm_vr x → mm_vr (F x) ∧ ((F x).1 = 4 → x.1 = 4 ∧ (F x).2.1 = x.2.1) ∧ (F x).2.2.2.2 = x.2.2.2.2) (o1 : lk_ok na H s f g) (h1 : 1 ≤ H) : mm_fok na (lk_is 15 g H F (nI (H - 1), s, f, g)) := by
  have hH := o1.1
  have vt := o1.2.2.2.2 (5 + H) (by omega)
  unfold lk_is
  by_cases q : (g (5 + H)).2.2.2.2 = -1
  · rw [if_neg (fun z => z.2 q)]
    exact lk_ok_to (lk_ok_pop o1 (by omega))
  · rw [if_pos ⟨rfl, q⟩]
    have lo := lk_org vt.1 q
    obtain ⟨v1, v2, v3⟩ := o1.2.2.2.2 (g (5 + H)).2.2.2.2.toInt.toNat (by omega)
    obtain ⟨f1, f2, f3⟩ := hF _ v1
    refine lk_ok_to ⟨by omega, o1.2.1, o1.2.2.1, o1.2.2.2.1, fun v hv => ?_⟩
    by_cases e : v = (g (5 + H)).2.2.2.2.toInt.toNat
    · rw [e, lk_up_t]
      exact ⟨f1, fun z => by rw [(f2 z).2]; exact v2 (f2 z).1, fun z => by rw [f3]; exact v3 z⟩
    · rw [lk_up_f e]; exact o1.2.2.2.2 v (by omega)
theorem lk_n0_ok (x : mm_V) (h : mm_vr x) : mm_vr (lk_n0 x) ∧ ((lk_n0 x).1 = 4 → x.1 = 4 ∧ (lk_n0 x).2.1 = x.2.1) ∧ (lk_n0 x).2.2.2.2 = x.2.2.2.2 := ⟨⟨h.1, h.2.1, h.2.2.1, Or.inl rfl, h.2.2.2.2⟩, fun z => ⟨z, rfl⟩, rfl⟩
theorem lk_nk_ok (x : mm_V) (h : mm_vr x) : mm_vr (lk_nk x) ∧ ((lk_nk x).1 = 4 → x.1 = 4 ∧ (lk_nk x).2.1 = x.2.1) ∧ (lk_nk x).2.2.2.2 = x.2.2.2.2 := by
  unfold lk_nk
  by_cases q : x.1 = 3
  · rw [if_pos q]
    exact ⟨⟨(by decide : 0 ≤ (2 : Int32).toInt ∧ (2 : Int32).toInt ≤ 4), fun _ => rfl, fun z => absurd z (by decide : ¬ 3 ≤ (2 : Int32).toInt), h.2.2.2⟩, fun z => absurd z (by decide : ¬ (2 : Int32) = 4), rfl⟩
  · rw [if_neg q]; exact ⟨h, fun z => ⟨z, rfl⟩, rfl⟩
theorem lk_ew_ok {h : mm_H} {m i H w : Nat} {s f : Int32} {g : Nat → mm_V} (S : lk_SV h) (hi : i < 20) (A : lk_AV h m i) (o1 : lk_ok (lk_na h m) H s f g) (hpo : lk_po h m (lk_o h m i) (lk_a h m i) ≤ H) (hpu : H - lk_po h m (lk_o h m i) (lk_a h m i) + lk_pu h (lk_o h m i) (lk_a h m i) ≤ 4) : mm_fok (lk_na h m) (lk_ew h m i H s f g w) := by
  have M := lk_ef_ok S hi o1 A.1 A.2.1 A.2.2.1 A.2.2.2.1 A.2.2.2.2 hpo hpu
  have hb : ∀ F : mm_V → mm_V, (∀ x, mm_vr x → mm_vr (F x) ∧ ((F x).1 = 4 → x.1 = 4 ∧ (F x).2.1 = x.2.1) ∧ (F x).2.2.2.2 = x.2.2.2.2) → mm_fok (lk_na h m) (lk_is (lk_o h m i) g H F (lk_ef h m i H (lk_a h m i) s f g (lk_o h m i))) := by
    intro F hF
    by_cases q : lk_o h m i = 15
    · have h1 : 1 ≤ H := by
        rw [q] at hpo
        exact hpo
      rw [q]
      exact lk_is_ok hF o1 h1
    · rw [lk_is_n q]; exact M
  rcases w with _ | _ | w
  · exact hb lk_n0 lk_n0_ok
  · exact hb lk_nk lk_nk_ok
  · refine lk_ok_to (H := 1) ⟨by omega, o1.2.1, o1.2.2.1, o1.2.2.2.1, fun v hv => ?_⟩
    by_cases e : v = 6
    · rw [e, lk_up_t]; exact ⟨lk_c3, fun z => absurd z (by decide), fun z => by omega⟩
    · rw [lk_up_f e]; exact o1.2.2.2.2 v (by omega)
/-- a frame that is none, CLASH, or there -/
def lk_pr (φ : mm_F) : Prop := φ.1 = -1 ∨ φ.1 = -2 ∨ 0 ≤ φ.1.toInt
theorem lk_nI_of {x : Int32} (h : 0 ≤ x.toInt) (h4 : x.toInt ≤ 4) : x = nI x.toInt.toNat := Int32.toInt_inj.mp (by rw [mm_nt (by omega)]; omega)
theorem lk_out_ok {h : mm_H} {m i w : Nat} {φ : mm_F} (S : lk_SV h) (hi : i < 20) (A : lk_AV h m i) (o1 : mm_fok (lk_na h m) φ) : mm_fok (lk_na h m) (lk_out h m i w φ) ∧ (lk_out h m i w φ).1 ≠ -1 := by
  by_cases q : lk_bad h m i φ.1.toInt
  · rw [lk_out_b q]
    exact ⟨fun z => absurd z (by decide), by decide⟩
  · rw [lk_out_g q]
    obtain ⟨g0, g1, g2⟩ := lk_good q
    have h4 := (o1 g0).1
    have e := lk_nI_of g0 h4
    have o2 : lk_ok (lk_na h m) φ.1.toInt.toNat φ.2.1 φ.2.2.1 φ.2.2.2 := lk_ok_of (by omega) (by rw [← e]; exact o1)
    refine ⟨lk_ew_ok S hi A o2 g1 g2, ?_⟩
    have hn : ∀ n : Nat, n ≤ 5 → nI n ≠ -1 := fun n hn => mm_not_m1 (by rw [mm_nt (by omega)]; omega)
    have he : ∀ o, o < 18 → (lk_ef h m i φ.1.toInt.toNat (lk_a h m i) φ.2.1 φ.2.2.1 φ.2.2.2 o).1 ≠ -1 := by
      intro o ho
      rcases lk_o_cases ho with rfl | rfl | rfl | rfl | rfl | rfl | rfl | rfl | rfl | rfl | rfl | rfl | rfl | rfl | rfl | rfl | rfl | rfl
      case _ => exact hn _ (by omega)
      case _ => exact hn _ (by omega)
      case _ => exact hn _ (by omega)
      case _ => exact hn _ (by omega)
      case _ => exact hn _ (by omega)
      case _ => exact hn _ (by omega)
      case _ => exact hn _ (by omega)
      case _ => exact hn _ (by omega)
      case _ => exact hn _ (by omega)
      case _ => exact hn _ (by omega)
      case _ => exact hn _ (by omega)
      case _ =>
        show (if mm_a h 93 (4 * lk_a h m i + 3) = -2 then _ else _ : mm_F).1 ≠ -1
        split
        · exact hn _ (by omega)
        · exact hn _ (by omega)
      case _ => exact hn _ (by omega)
      case _ => exact hn _ (by omega)
      case _ => exact hn _ (by omega)
      case _ => exact hn _ (by omega)
      case _ => exact hn _ (by omega)
      case _ => exact hn _ (by omega)
    have hs : ∀ F : mm_V → mm_V, (lk_is (lk_o h m i) φ.2.2.2 φ.1.toInt.toNat F (lk_ef h m i φ.1.toInt.toNat (lk_a h m i) φ.2.1 φ.2.2.1 φ.2.2.2 (lk_o h m i))).1 ≠ -1 := by
      intro F
      unfold lk_is
      split
      · exact he _ A.1
      · exact he _ A.1
    rcases w with _ | _ | w
    · exact hs lk_n0
    · exact hs lk_nk
    · exact (by decide : (1 : Int32) ≠ -1)
theorem lk_out_mono {up : Nat → Int} {h : mm_H} {m i w : Nat} {φ ψ : mm_F} (A : lk_AV h m i) (o1 : mm_fok (lk_na h m) φ) (o2 : mm_fok (lk_na h m) ψ) (n1 : ¬ φ.1 = -1) (l : mm_fle up φ ψ) : mm_fle up (lk_out h m i w φ) (lk_out h m i w ψ) := by
  rcases l with l | l | l
  · exact absurd l n1
  · rw [lk_out_b (φ := ψ) (lk_bad_neg (by rw [l]; decide))]
    exact lk_top
  · obtain ⟨e, p0, l3, l4⟩ := l
    by_cases q : lk_bad h m i φ.1.toInt
    · rw [lk_out_b (φ := ψ) (by rw [← e]; exact q)]
      exact lk_top
    · rw [lk_out_g q, lk_out_g (φ := ψ) (by rw [← e]; exact q)]
      obtain ⟨g0, g1, g2⟩ := lk_good q
      have h4 := (o1 g0).1
      have e1 := lk_nI_of g0 h4
      have e2 : ψ.1 = nI φ.1.toInt.toNat := e.symm.trans e1
      have k1 : lk_ok (lk_na h m) φ.1.toInt.toNat φ.2.1 φ.2.2.1 φ.2.2.2 := lk_ok_of (by omega) (by rw [← e1]; exact o1)
      have k2 : lk_ok (lk_na h m) φ.1.toInt.toNat ψ.2.1 ψ.2.2.1 ψ.2.2.2 := lk_ok_of (by omega) (by rw [← e2]; exact o2)
      have p : lk_P up φ.1.toInt.toNat φ.2.1 φ.2.2.1 φ.2.2.2 ψ.2.1 ψ.2.2.1 ψ.2.2.2 := ⟨l3, fun v hv => l4 v (by show (v : Int) < 6 + φ.1.toInt; omega)⟩
      rw [← e]
      exact lk_ew_mono A k1 k2 p g1 g2
