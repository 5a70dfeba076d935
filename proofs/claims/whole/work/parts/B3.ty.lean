/-! what holds while a run goes on -/
def WM (K : mm_H) (nC nF nM m len : Nat) (X : Nat → mm_F) : Prop := m < nM ∧ mm_a K 90 m = -1 ∧ lx_ML K nC nF nM m len ∧ lk_LF K m len X ∧ lk_no K nF m len X
def rsb (K : mm_H) (j a : Nat) : Prop := (mm_a K 93 (4 * j + 3) = -2 ↔ mm_a K 93 (4 * a + 3) = -2) ∧ (0 ≤ (mm_a K 93 (4 * a + 3)).toInt → 0 ≤ (mm_a K 93 (4 * j + 3)).toInt ∧ mm_bel (mm_up K) (mm_a K 93 (4 * j + 3)).toInt (mm_a K 93 (4 * a + 3)).toInt)
/-- the method at work w, at instruction i -/
def TW (K : mm_H) (nC nF nM : Nat) (s : mm_H) (n w m len : Nat) (X : Nat → mm_F) (i H : Nat) : Prop := WM K nC nF nM m len X ∧ i < len ∧ mm_a s 122 w = nI m ∧ mm_a s 121 w = nI i ∧ mm_a s 120 w = nI H ∧ H ≤ 4 ∧ (X i).1 = nI H ∧ ftb K nC s n (X i).2.2.2 H (fun v => mm_a s 118 (6 * w + v)) (fun j => mm_a s 119 (4 * w + j))
/-- one that has called: at call i of method a, done by mc -/
def SW (K : mm_H) (nC nF nM : Nat) (s : mm_H) (n w mc m len : Nat) (X : Nat → mm_F) (i B : Nat) : Prop := WM K nC nF nM m len X ∧ i < len ∧ lk_o K m i = 11 ∧ mm_a s 122 w = nI m ∧ mm_a s 121 w = nI (i + 1) ∧ mm_a s 120 w = nI B ∧ B + (lk_np K (lk_a K m i) + lk_of K (lk_a K m i)) ≤ 4 ∧ (X i).1 = nI (B + (lk_np K (lk_a K m i) + lk_of K (lk_a K m i))) ∧ ftb K nC s n (X i).2.2.2 B (fun v => mm_a s 118 (6 * w + v)) (fun j => mm_a s 119 (4 * w + j)) ∧ rsb K mc (lk_a K m i)
def SWs (K : mm_H) (nC nF nM : Nat) (s : mm_H) (n d : Nat) : Prop := ∀ w, w < d → ∃ mc m len X i B, mc < nM ∧ mm_a s 122 (w + 1) = nI mc ∧ SW K nC nF nM s n w mc m len X i B
def OB (K : mm_H) (nC nF : Nat) (s : mm_H) (n : Nat) : Prop := n ≤ 24 ∧ mm_i s 629 80 = nI n ∧ (∀ o, 0 < o → o ≤ n → ∃ c, c < nC ∧ mm_a s 116 o = nI c) ∧ ∀ o f, 0 < o → o ≤ n → f < nF → 0 ≤ (mm_a K 83 f).toInt → rt K nC s n (mm_a K 83 f).toInt (mm_a s 117 (12 * (o - 1) + f))
def SC (s : mm_H) (d k : Nat) : Prop := d < 6 ∧ mm_i s 633 80 = nI (d + 1) ∧ mm_i s 635 80 = -1 ∧ (∃ T P, mm_i s 630 80 = nI T ∧ T ≤ k ∧ mm_i s 631 80 = nI P ∧ P ≤ k) ∧ ∃ e, mm_i s 634 80 = nI e ∧ d + 1 ≤ e ∧ e ≤ 6
def TY (K : mm_H) (nC nF nM : Nat) (s : mm_H) (k : Nat) : Prop := ∃ d n m len X i H, SC s d k ∧ OB K nC nF s n ∧ TW K nC nF nM s n d m len X i H ∧ SWs K nC nF nM s n d
theorem WM_vr {K : mm_H} {nC nF nM m len i H v : Nat} {X : Nat → mm_F} (W : WM K nC nF nM m len X) (hi : i < len) (e : (X i).1 = nI H) (h4 : H ≤ 4) (hv : v < 6 + H) : mm_vr ((X i).2.2.2 v) := by
  have z := (W.2.2.2.1.1 i hi).1
  have t : (nI H).toInt = (H : Int) := mm_nt (by omega)
  exact (((z (by rw [e]; omega)).2.2.2.2 v (by show (v : Int) < 6 + (X i).1.toInt; rw [e]; omega))).1
theorem no_i {K : mm_H} {nC nF nM m len i H : Nat} {X : Nat → mm_F} (W : WM K nC nF nM m len X) (hi : i < len) (e : (X i).1 = nI H) (h4 : H ≤ 4) : ¬ lk_aw K m len i ∧ ¬ lk_bad K m i (H : Int) ∧ lk_vo K nF m (lk_a K m i) H (X i).2.2.1 (X i).2.2.2 (lk_o K m i) = 9 := by
  have t : (nI H).toInt = (H : Int) := mm_nt (by omega)
  rcases W.2.2.2.2 i hi with z | z
  · rw [e] at z
    have := congrArg Int32.toInt z
    rw [t, show (-1 : Int32).toInt = -1 by decide] at this
    omega
  · unfold lk_er at z
    by_cases q1 : lk_aw K m len i
    · rw [if_pos q1] at z; exact absurd z (by decide)
    · rw [if_neg q1] at z
      by_cases q2 : (X i).1 = -2
      · rw [if_pos q2] at z; exact absurd z (by decide)
      · rw [if_neg q2] at z
        by_cases q3 : lk_bad K m i (X i).1.toInt
        · rw [if_pos q3] at z; exact absurd z (by decide)
        · rw [if_neg q3] at z
          rw [e, t] at q3 z
          rw [Int.toNat_natCast] at z
          exact ⟨q1, q3, z⟩
/-- on a way to t -/
theorem go_on {K s : mm_H} {nC nF nM n m len i H H' q t : Nat} {X : Nat → mm_F} {φ : mm_F} {L S : Nat → Int32} (W : WM K nC nF nM m len X) (hi : i < len) (e : (X i).1 = nI H) (h4 : H ≤ 4) (hq : q < 3) (et : lk_w K m i q = (t : Int)) (eo : lk_ew K m i H (X i).2.1 (X i).2.2.1 (X i).2.2.2 q = φ) (e1 : φ.1 = nI H') (h4' : H' ≤ 4) (f : ftb K nC s n φ.2.2.2 H' L S) : t < len ∧ (X t).1 = nI H' ∧ ftb K nC s n (X t).2.2.2 H' L S := by
  have tH : (nI H).toInt = (H : Int) := mm_nt (by omega)
  have t' : (nI H').toInt = (H' : Int) := mm_nt (by omega)
  obtain ⟨n1, n2, _⟩ := no_i W hi e h4
  have lt : t < len := by
    refine Nat.lt_of_not_le (fun z => n1 ⟨q, hq, ?_⟩)
    rw [et]; omega
  have re : ¬ (X i).1 = -1 := fun z => by
    rw [e] at z
    have := congrArg Int32.toInt z
    rw [tH, show (-1 : Int32).toInt = -1 by decide] at this
    omega
  have out : lk_out K m i q (X i) = φ := by
    rw [lk_out_g (by rw [e, tH]; exact n2), e, tH, Int.toNat_natCast]
    exact eo
  have p := W.2.2.2.1.2.1.2 i hi re q hq (by rw [et]; omega) (by rw [et]; omega)
  rw [out, et, Int.toNat_natCast] at p
  rcases p with z | z | ⟨z1, z2, z3, z4⟩
  · rw [e1] at z
    have := congrArg Int32.toInt z
    rw [t', show (-1 : Int32).toInt = -1 by decide] at this
    omega
  · rcases W.2.2.2.2 t lt with y | y
    · rw [z] at y; exact absurd y (by decide)
    · unfold lk_er at y
      by_cases q1 : lk_aw K m len t
      · rw [if_pos q1] at y; exact absurd y (by decide)
      · rw [if_neg q1, if_pos z] at y; exact absurd y (by decide)
  · refine ⟨lt, z1.symm.trans e1, ftb_le (fun v hv => z4 v ?_) f⟩
    show (v : Int) < 6 + φ.1.toInt
    rw [e1, t']
    omega
/-- frames below stay -/
def lf (s s' : mm_H) (d : Nat) : Prop := (∀ j, j < 6 * d → mm_a s' 118 j = mm_a s 118 j) ∧ (∀ j, j < 4 * d → mm_a s' 119 j = mm_a s 119 j) ∧ ∀ w, w < d → mm_a s' 120 w = mm_a s 120 w ∧ mm_a s' 121 w = mm_a s 121 w ∧ mm_a s' 122 w = mm_a s 122 w
theorem lf_rf {s : mm_H} {d : Nat} : lf s s d := ⟨fun _ _ => rfl, fun _ _ => rfl, fun _ _ => ⟨rfl, rfl, rfl⟩⟩
theorem lf_sa {s g : mm_H} {d a j : Nat} {x : Int32} (h : lf s g d) (o : (a = 118 → 6 * d ≤ j) ∧ (a = 119 → 4 * d ≤ j) ∧ (a = 120 ∨ a = 121 ∨ a = 122 → d ≤ j)) : lf s (mm_sa g a j x) d := ⟨fun i hi => (mm_a2 (by omega)).trans (h.1 i hi), fun i hi => (mm_a2 (by omega)).trans (h.2.1 i hi), fun w hw => ⟨(mm_a2 (by omega)).trans (h.2.2 w hw).1, (mm_a2 (by omega)).trans (h.2.2 w hw).2.1, (mm_a2 (by omega)).trans (h.2.2 w hw).2.2⟩⟩
theorem lf_si {s g : mm_H} {d f a : Nat} {x : Int32} (h : lf s g d) : lf s (mm_si g f a x) d := h
theorem lf_fill {s g : mm_H} {d a lo p : Nat} {F : Nat → Int32} (h : lf s g d) (o : (a = 118 → 6 * d ≤ lo) ∧ (a = 119 → 4 * d ≤ lo) ∧ ¬ (a = 120 ∨ a = 121 ∨ a = 122)) : lf s (rs_fill g a lo p F) d := ⟨fun i hi => (rs_fill_a (by omega)).trans (h.1 i hi), fun i hi => (rs_fill_a (by omega)).trans (h.2.1 i hi), fun w hw => ⟨(rs_fill_a (by omega)).trans (h.2.2 w hw).1, (rs_fill_a (by omega)).trans (h.2.2 w hw).2.1, (rs_fill_a (by omega)).trans (h.2.2 w hw).2.2⟩⟩
theorem SW_lf {K s s' : mm_H} {nC nF nM n n' d w mc m len i B : Nat} {X : Nat → mm_F} (l : lf s s' d) (g : sg s n s' n') (hw : w < d) (h : SW K nC nF nM s n w mc m len X i B) : SW K nC nF nM s' n' w mc m len X i B := by
  obtain ⟨W, hi, eo, e2, e1, e0, h4, eX, f, rb⟩ := h
  obtain ⟨l1, l2, l3⟩ := l
  obtain ⟨a0, a1, a2⟩ := l3 w hw
  exact ⟨W, hi, eo, a2.trans e2, a1.trans e1, a0.trans e0, h4, eX, ftb_cg g (fun v hv => l1 _ (by omega)) (fun j hj => l2 _ (by omega)) (fun j hj => WM_vr W hi eX h4 (by omega)) f, rb⟩
theorem SWs_lf {K s s' : mm_H} {nC nF nM n n' d d' : Nat} (l : lf s s' d) (g : sg s n s' n') (le : d' ≤ d) (top : 0 < d' → mm_a s' 122 d' = mm_a s 122 d') (h : SWs K nC nF nM s n d) : SWs K nC nF nM s' n' d' := by
  intro w hw
  obtain ⟨mc, m, len, X, i, B, h1, h2, h3⟩ := h w (by omega)
  refine ⟨mc, m, len, X, i, B, h1, ?_, SW_lf l g (by omega) h3⟩
  by_cases q : w + 1 < d
  · exact (l.2.2 (w + 1) q).2.2.trans h2
  · have : w + 1 = d' := by omega
    rw [this] at h2 ⊢
    exact (top (by omega)).trans h2
/-- a step within the method at work -/
theorem TY_top {K s s' : mm_H} {nC nF nM n n' d m len i H k k' t H' q : Nat} {X : Nat → mm_F} {φ : mm_F} (sc : SC s d k) (sws : SWs K nC nF nM s n d) (tw : TW K nC nF nM s n d m len X i H)
    (g : sg s n s' n') (l : lf s s' d) (e2 : mm_a s' 122 d = mm_a s 122 d) (sc' : SC s' d k') (ob' : OB K nC nF s' n')
    (hq : q < 3) (et : lk_w K m i q = (t : Int)) (eo : lk_ew K m i H (X i).2.1 (X i).2.2.1 (X i).2.2.2 q = φ) (e1 : φ.1 = nI H') (h4' : H' ≤ 4) (f : ftb K nC s' n' φ.2.2.2 H' (fun v => mm_a s' 118 (6 * d + v)) (fun j => mm_a s' 119 (4 * d + j))) (c1 : mm_a s' 121 d = nI t) (c0 : mm_a s' 120 d = nI H') : TY K nC nF nM s' k' := by
  obtain ⟨W, hi, a2, a1, a0, h4, eX, _⟩ := tw
  obtain ⟨b1, b2, b3⟩ := go_on W hi eX h4 hq et eo e1 h4' f
  exact ⟨d, n', m, len, X, t, H', sc', ob', ⟨W, b1, e2.trans a2, c1, c0, h4', b2, b3⟩, SWs_lf l g (Nat.le_refl _) (fun _ => e2) sws⟩
