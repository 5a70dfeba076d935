/-! RUNNING: the class beside the reference -/
/-- outside of what runs use all stays -/
def AR (h0 h : mm_H) : Prop := (mm_k h = mm_k h0 ∧ mm_n h = mm_n h0 ∧ mm_q h = mm_q h0 ∧ mm_t h = mm_t h0 ∧ mm_s h = mm_s h0) ∧ (∀ f a, ¬ f = 384 ∨ 124 ≤ a → mm_r h f a = mm_r h0 f a) ∧ (∀ f a, ¬ (56 ≤ a ∧ a < 80) ∨ f = 322 → mm_i h f a = mm_i h0 f a) ∧ ∀ a, ¬ (58 ≤ a ∧ a < 80) → mm_a h a = mm_a h0 a
theorem AR_rf {h : mm_H} : AR h h := ⟨⟨rfl, rfl, rfl, rfl, rfl⟩, fun _ _ _ => rfl, fun _ _ _ => rfl, fun _ _ => rfl⟩
theorem AR_si {h0 h : mm_H} {f a : Nat} {x : Int32} (o : (56 ≤ a ∧ a < 80) ∧ ¬ f = 322) (r : AR h0 h) : AR h0 (mm_si h f a x) := ⟨r.1, r.2.1, fun g b z => (mm_i2 (by omega)).trans (r.2.2.1 g b z), r.2.2.2⟩
theorem AR_sa {h0 h : mm_H} {a j : Nat} {x : Int32} (o : 58 ≤ a ∧ a < 80) (r : AR h0 h) : AR h0 (mm_sa h a j x) := ⟨r.1, r.2.1, r.2.2.1, fun b z => (funext (fun i => mm_a2 (by omega))).trans (r.2.2.2 b z)⟩
theorem AR_sr {h0 h : mm_H} {a x : Nat} (o : a < 124) (r : AR h0 h) : AR h0 (mm_sr h 384 a x) := ⟨r.1, fun f b z => (mm_r2 (by omega)).trans (r.2.1 f b z), r.2.2⟩
theorem AR_fill {h0 h : mm_H} {a lo p : Nat} {F : Nat → Int32} (o : 58 ≤ a ∧ a < 80) (r : AR h0 h) : AR h0 (rs_fill h a lo p F) := ⟨r.1, r.2.1, r.2.2.1, fun b z => (funext (fun i => rs_fill_a (by omega))).trans (r.2.2.2 b z)⟩
theorem AR_SH {h0 h : mm_H} (r : AR h0 h) (I : mm_SH h0) : mm_SH h := by
  obtain ⟨⟨a, b, c, _⟩, d, _⟩ := r
  obtain ⟨i1, i2, i3, i4, i5⟩ := I
  have n : ∀ t ∈ sh_r, ¬ t.1 = 384 := by decide
  exact ⟨by rw [a]; exact i1, by rw [b]; exact i2, fun t ht => (d _ _ (Or.inl (n t ht))).trans (i3 t ht), by rw [c]; exact i4, by rw [c]; exact i5⟩
theorem AR_ag {h0 h : mm_H} (r : AR h0 h) : mm_ag h0 h := by
  obtain ⟨⟨a, b, c, _⟩, d, e, f⟩ := r
  exact ⟨a, fun g q z => d g q (Or.inr z), b, c, fun g q z => e g q (by omega), fun g z => e g 80 (by omega), fun q z => f q (by omega)⟩
theorem AR_T {ro : mm_Ro} {h0 h : mm_H} {nC nF nM : Nat} {qm : Nat → Nat} (r : AR h0 h) (T : lx_T ro h0 nC nF nM qm) : lx_T ro h nC nF nM qm := lx_T_ag (AR_ag r) (AR_SH r T.1) T
/-- D methods at work, T values on their stacks, n objects, P outputs -/
def CX (qm : Nat → Nat) (nM : Nat) (h s : mm_H) (T : Nat → Nat) (D n P : Nat) : Prop := (∀ w, w < D → ∃ m, m < nM ∧ mm_a s 122 w = nI m ∧ mm_r h 384 (62 + 3 * w) = qm m) ∧ (∀ w v, w < D → v < 6 → mm_a h (63 + 3 * w) v = mm_a s 118 (6 * w + v)) ∧ (∀ w j, w < D → j < T w → j < 4 → mm_a h (64 + 3 * w) j = mm_a s 119 (4 * w + j)) ∧ (∀ w, w < D → mm_i h 388 (62 + 3 * w) = mm_a s 120 w) ∧ (∀ o, o < n → mm_a h 59 o = mm_a s 116 (o + 1)) ∧ (∀ j, j < 12 * n → mm_a h 60 j = mm_a s 117 j) ∧ ∀ j, j < P → j < 16 → mm_a h 58 j = mm_a s 123 j
section
variable {qm T T' : Nat → Nat} {nM D n P w : Nat} {h s : mm_H} {x y : Int32}
theorem cx_dn {D' n' P' : Nat} (c : CX qm nM h s T D n P) (hD : D' ≤ D) (hn : n' ≤ n) (hP : P' ≤ P) (hT : ∀ w, w < D' → T' w ≤ T w) : CX qm nM h s T' D' n' P' := by
  obtain ⟨c1, c2, c3, c4, c5, c6, c7⟩ := c
  exact ⟨fun w hw => c1 w (by omega), fun w v hw hv => c2 w v (by omega) hv, fun w j hw hj h4 => c3 w j (by omega) (by have := hT w hw; omega) h4, fun w hw => c4 w (by omega), fun o ho => c5 o (by omega), fun j hj => c6 j (by omega), fun j hj h6 => c7 j (by omega) h6⟩
theorem cx_at {a : Nat} (c : CX qm nM h s T D n P) : CX qm nM (mm_si h 385 a x) s T D n P := by
  obtain ⟨c1, c2, c3, c4, c5, c6, c7⟩ := c
  exact ⟨c1, c2, c3, fun w hw => (mm_i2 (by omega)).trans (c4 w hw), c5, c6, c7⟩
theorem cx_a1 {a : Nat} (c : CX qm nM h s T D n P) : CX qm nM h (mm_sa s 121 a x) T D n P := by
  obtain ⟨c1, c2, c3, c4, c5, c6, c7⟩ := c
  exact ⟨fun w hw => by rw [mm_a2 (by omega)]; exact c1 w hw, fun w v hw hv => (c2 w v hw hv).trans (mm_a2 (by omega)).symm, fun w j hw hj h4 => (c3 w j hw hj h4).trans (mm_a2 (by omega)).symm, fun w hw => (c4 w hw).trans (mm_a2 (by omega)).symm, fun o ho => (c5 o ho).trans (mm_a2 (by omega)).symm, fun j hj => (c6 j hj).trans (mm_a2 (by omega)).symm, fun j hj h6 => (c7 j hj h6).trans (mm_a2 (by omega)).symm⟩
theorem cx_sc {f : Nat} (c : CX qm nM h s T D n P) : CX qm nM (mm_si h f 56 x) s T D n P := by
  obtain ⟨c1, c2, c3, c4, c5, c6, c7⟩ := c
  exact ⟨c1, c2, c3, fun w hw => (mm_i2 (by omega)).trans (c4 w hw), c5, c6, c7⟩
theorem cx_s8 {f a : Nat} (c : CX qm nM h s T D n P) : CX qm nM h (mm_si s f a x) T D n P := c
theorem cx_hgt (hw : w < D) (c : CX qm nM h s T D n P) : CX qm nM (mm_si h 388 (62 + 3 * w) y) (mm_sa s 120 w y) T D n P := by
  obtain ⟨c1, c2, c3, c4, c5, c6, c7⟩ := c
  refine ⟨fun u hu => by rw [mm_a2 (by omega)]; exact c1 u hu, fun u v hu hv => (c2 u v hu hv).trans (mm_a2 (by omega)).symm, fun u j hu hj h4 => (c3 u j hu hj h4).trans (mm_a2 (by omega)).symm, fun u hu => ?_, fun o ho => (c5 o ho).trans (mm_a2 (by omega)).symm, fun j hj => (c6 j hj).trans (mm_a2 (by omega)).symm, fun j hj h6 => (c7 j hj h6).trans (mm_a2 (by omega)).symm⟩
  by_cases q : u = w
  · rw [q, mm_i1, mm_a1]
  · rw [mm_i2 (by omega), mm_a2 (by omega)]; exact c4 u hu
theorem cx_stk {j : Nat} (hw : w < D) (hD : D ≤ 6) (hj : j < 4) (c : CX qm nM h s T D n P) (hT : ∀ u, u < D → T' u ≤ (if u = w then max (T w) (if j = T w then j + 1 else 0) else T u)) : CX qm nM (mm_sa h (64 + 3 * w) j x) (mm_sa s 119 (4 * w + j) x) T' D n P := by
  obtain ⟨c1, c2, c3, c4, c5, c6, c7⟩ := c
  refine ⟨fun u hu => by rw [mm_a2 (by omega)]; exact c1 u hu, fun u v hu hv => ?_, fun u i hu hi h4 => ?_, fun u hu => (c4 u hu).trans (mm_a2 (by omega)).symm, fun o ho => ?_, fun i hi => ?_, fun i hi h6 => ?_⟩
  · rw [mm_a2 (by omega), mm_a2 (by omega)]; exact c2 u v hu hv
  · have t := hT u hu
    by_cases q : u = w
    · rw [if_pos q] at t
      by_cases q2 : i = j
      · rw [q, q2, mm_a1, mm_a1]
      · rw [mm_a2 (by omega), mm_a2 (by omega)]
        refine c3 u i hu ?_ h4
        rw [q] at hi ⊢
        rw [q] at t
        by_cases q3 : j = T w
        · rw [if_pos q3] at t; omega
        · rw [if_neg q3] at t; omega
    · rw [if_neg q] at t
      rw [mm_a2 (by omega), mm_a2 (by omega)]
      exact c3 u i hu (by omega) h4
  · rw [mm_a2 (by omega), mm_a2 (by omega)]; exact c5 o ho
  · rw [mm_a2 (by omega), mm_a2 (by omega)]; exact c6 i hi
  · rw [mm_a2 (by omega), mm_a2 (by omega)]; exact c7 i hi h6
theorem cx_loc {v : Nat} (hw : w < D) (hD : D ≤ 6) (hv : v < 6) (c : CX qm nM h s T D n P) : CX qm nM (mm_sa h (63 + 3 * w) v x) (mm_sa s 118 (6 * w + v) x) T D n P := by
  obtain ⟨c1, c2, c3, c4, c5, c6, c7⟩ := c
  refine ⟨fun u hu => by rw [mm_a2 (by omega)]; exact c1 u hu, fun u t hu ht => ?_, fun u i hu hi h4 => ?_, fun u hu => (c4 u hu).trans (mm_a2 (by omega)).symm, fun o ho => ?_, fun i hi => ?_, fun i hi h6 => ?_⟩
  · by_cases q : u = w ∧ t = v
    · rw [q.1, q.2, mm_a1, mm_a1]
    · rw [mm_a2 (by omega), mm_a2 (by omega)]; exact c2 u t hu ht
  · rw [mm_a2 (by omega), mm_a2 (by omega)]; exact c3 u i hu hi h4
  · rw [mm_a2 (by omega), mm_a2 (by omega)]; exact c5 o ho
  · rw [mm_a2 (by omega), mm_a2 (by omega)]; exact c6 i hi
  · rw [mm_a2 (by omega), mm_a2 (by omega)]; exact c7 i hi h6
theorem cx_held {q : Nat} (c : CX qm nM h s T D n P) : CX qm nM (mm_sa h 60 q x) (mm_sa s 117 q x) T D n P := by
  obtain ⟨c1, c2, c3, c4, c5, c6, c7⟩ := c
  refine ⟨fun u hu => by rw [mm_a2 (by omega)]; exact c1 u hu, fun u t hu ht => ?_, fun u i hu hi h4 => ?_, fun u hu => (c4 u hu).trans (mm_a2 (by omega)).symm, fun o ho => ?_, fun i hi => ?_, fun i hi h6 => ?_⟩
  · rw [mm_a2 (by omega), mm_a2 (by omega)]; exact c2 u t hu ht
  · rw [mm_a2 (by omega), mm_a2 (by omega)]; exact c3 u i hu hi h4
  · rw [mm_a2 (by omega), mm_a2 (by omega)]; exact c5 o ho
  · by_cases z : i = q
    · rw [z, mm_a1, mm_a1]
    · rw [mm_a2 (by omega), mm_a2 (by omega)]; exact c6 i hi
  · rw [mm_a2 (by omega), mm_a2 (by omega)]; exact c7 i hi h6
theorem cx_out {q : Nat} (c : CX qm nM h s T D n P) : CX qm nM (mm_sa h 58 q x) (mm_sa s 123 q x) T D n P := by
  obtain ⟨c1, c2, c3, c4, c5, c6, c7⟩ := c
  refine ⟨fun u hu => by rw [mm_a2 (by omega)]; exact c1 u hu, fun u t hu ht => ?_, fun u i hu hi h4 => ?_, fun u hu => (c4 u hu).trans (mm_a2 (by omega)).symm, fun o ho => ?_, fun i hi => ?_, fun i hi h6 => ?_⟩
  · rw [mm_a2 (by omega), mm_a2 (by omega)]; exact c2 u t hu ht
  · rw [mm_a2 (by omega), mm_a2 (by omega)]; exact c3 u i hu hi h4
  · rw [mm_a2 (by omega), mm_a2 (by omega)]; exact c5 o ho
  · rw [mm_a2 (by omega), mm_a2 (by omega)]; exact c6 i hi
  · by_cases z : i = q
    · rw [z, mm_a1, mm_a1]
    · rw [mm_a2 (by omega), mm_a2 (by omega)]; exact c7 i hi h6
theorem cx_lay {H : Nat} (hw : w < D) (hD : D ≤ 6) (h4 : H < 4) (tH : T w = H) (c : CX qm nM h s T D n P) (hT : ∀ u, u < D → T' u ≤ (if u = w then H + 1 else T u)) : CX qm nM (ac_ps h (62 + 3 * w) H x) (rs_lay s w H x) T' D n P := by
  have z := cx_stk (x := x) (j := H) (T' := T') hw hD h4 c (fun u hu => by
    have t := hT u hu
    by_cases q : u = w
    · rw [if_pos q] at t ⊢; rw [if_pos tH.symm]; omega
    · rw [if_neg q] at t ⊢; exact t)
  have e : 62 + 3 * w + 2 = 64 + 3 * w := by omega
  unfold ac_ps
  rw [e]
  exact cx_hgt hw z
end
