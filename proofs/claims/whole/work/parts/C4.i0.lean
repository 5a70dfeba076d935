/-! Where both objects begin -/
set_option maxRecDepth 100000 in
theorem i0_109 (v : Nat) : mm_a mm_iM 109 v = 0 := by with_unfolding_all rfl
set_option maxRecDepth 100000 in
theorem i0_114 (v : Nat) : mm_a mm_iM 114 v = 0 := by with_unfolding_all rfl
theorem i0_n : mm_i mm_iM 64 2 = 1 ∧ mm_i mm_iM 69 2 = 0 ∧ mm_i mm_iM 72 2 = 0 ∧ mm_i mm_iM 576 80 = 1 ∧ mm_i mm_iM 577 80 = 0 ∧ mm_i mm_iM 578 80 = 0 ∧ mm_i mm_iM 68 2 = 0 := by decide +kernel
theorem i0_sv : (∀ a, a < 12 → mm_a mm_iM 83 a = 0 ∧ mm_a mm_iM 86 a = 0 ∧ mm_a mm_iM 84 a = 0) ∧ ∀ p, p < 40 → mm_a mm_iM 93 p = 0 ∧ mm_a mm_iM 96 p = 0 ∧ mm_a mm_iM 94 p = 0 := by decide +kernel
theorem i0_c : mm_a mm_iM 4 0 = 1 ∧ mm_a mm_iM 81 0 = -1 ∧ mm_a mm_iM 3 0 = -1 ∧ (∀ z, z < 6 → 0 < z → mm_a mm_iM 81 z = 0) ∧ ∀ c, c < 6 → mm_a mm_iM 5 c = 0 ∧ mm_a mm_iM 85 c = 0 := by decide +kernel
theorem i0_U : ∀ m, m < 10 → (mm_a mm_iM 89 m = 0 ∧ mm_a mm_iM 91 m = 0 ∧ mm_a mm_iM 92 m = 0) ∧ (mm_a mm_iM 96 (4 * m + 3) = 0 ∧ mm_a mm_iM 94 (4 * m + 3) = 0) ∧ (∀ i, i < 20 → mm_a mm_iM 97 (20 * m + i) = 0 ∧ mm_a mm_iM 98 (20 * m + i) = 0) ∧ ∀ j, j < 2 → mm_a mm_iM 99 (2 * m + j) = 0 ∧ mm_a mm_iM 100 (2 * m + j) = 0 ∧ mm_a mm_iM 101 (2 * m + j) = 0 := by decide +kernel
theorem i0_M : mm_i mm_iM 322 56 = 0 ∧ mm_i mm_iM 628 80 = 0 ∧ mm_i mm_iM 327 56 = 0 ∧ mm_i mm_iM 631 80 = 0 ∧ mm_i mm_iM 324 56 = mm_i mm_iM 636 80 ∧ mm_i mm_iM 325 56 = mm_i mm_iM 632 80 ∧ mm_i mm_iM 326 56 = mm_i mm_iM 629 80 ∧ mm_i mm_iM 328 56 = mm_i mm_iM 630 80 ∧ mm_i mm_iM 329 56 = mm_i mm_iM 634 80 := by decide +kernel
theorem i0_V : (∀ a, a < 56 → lx_is a → (mm_i mm_iM 193 a = -1 ∧ mm_i mm_iM 194 a = -1 ∧ mm_i mm_iM 195 a = 0 ∧ mm_i mm_iM 196 a = 0) ∧ ∀ j, j < 10 → mm_a mm_iM (a + 1) j = 0) ∧ mm_i mm_iM 3 1 = -1 ∧ mm_i mm_iM 609 80 = -1 ∧ mm_i mm_iM 608 80 = -1 := by
  unfold lx_is
  decide +kernel
def i0_P : Nat → mm_F × Int32 := fun _ => ((-1, -1, 0, fun _ => (0, -1, 0, 0, -1)), 0)
theorem i0_T {ro : mm_Ro} (RO : lx_RO ro) : lx_T ro mm_iM 1 0 0 (fun _ => 0) := by
  have I := mm_init_SH
  have N := i0_n
  have S := i0_sv
  have C := i0_c
  generalize mm_iM = h at *
  obtain ⟨n1, n2, n3, n4, n5, n6, n7⟩ := N
  obtain ⟨s1, s2⟩ := S
  obtain ⟨c1, c2, c3, c4, c5⟩ := C
  have no : ∀ m, ¬ m < 0 := fun m z => absurd z (Nat.not_lt_zero m)
  have U : mm_upo (mm_up h) := by
    intro z hz
    show (mm_a h 81 z).toInt < _
    by_cases q : z = 0
    · rw [q, c2]; decide
    · rw [c4 z hz (by omega)]
      show (0 : Int) < _
      omega
  refine ⟨I, ⟨n1, n2, n3, by omega, by omega, by omega, by omega⟩, ⟨n4, n5, n6, by omega, by omega, by omega, by omega⟩, ⟨RO, ⟨by omega, by omega⟩, ⟨by omega, fun m z => absurd z (no m)⟩, ⟨by omega, fun m z => absurd z (no m)⟩, ⟨fun m z => absurd z (no m), fun m z => absurd z (no m)⟩, ⟨fun a ha => ?_, fun p hp => ?_⟩, ⟨by omega, fun c hc => ?_⟩, U, ?_, fun m z => absurd z (no m)⟩, fun m z => absurd z (no m), fun m z => absurd z (no m), ⟨c2, fun c hc => ?_, fun c z1 z2 => absurd z2 (by omega)⟩⟩
  · obtain ⟨a1, a2, a3⟩ := s1 a ha
    rw [a1, a2, a3]
    decide
  · obtain ⟨a1, a2, a3⟩ := s2 p hp
    rw [a1, a2, a3]
    decide
  · have e : c = 0 := by omega
    subst e
    refine ⟨1, by omega, c1, fun d hd => ?_⟩
    by_cases q : d = 0
    · rw [q]
      exact ⟨fun _ => mm_bel_refl (by omega), fun _ => rfl⟩
    · refine ⟨fun y => absurd y ?_, fun y => absurd (mm_bel_le U (by decide) y) (by omega)⟩
      have : ∀ d, d < 6 → ¬ d = 0 → ¬ Nat.testBit 1 d = true := by decide
      exact this d hd q
  · intro z z1 z2
    show 0 ≤ (mm_a h 81 z).toInt
    rw [c4 z z2 z1]
    decide
  · have e : c = 0 := by omega
    rw [e, c2, c3]
theorem i0_rr {ro : mm_Ro} (RO : lx_RO ro) : rr ro mm_iM := by
  have t := mm_init_ok.2.2.2
  have T := i0_T RO
  have N := i0_n.2.2.2.2.2.2
  have C := i0_c.2.2.2.2
  have U := i0_U
  have M := i0_M
  have V := i0_V
  have b1 := i0_109
  have b2 := i0_114
  generalize mm_iM = h at *
  have no : ∀ m, ¬ m < 0 := fun m z => absurd z (Nat.not_lt_zero m)
  obtain ⟨m1, m2, m3, m4, m5⟩ := M
  obtain ⟨v1, v2, v3, v4⟩ := V
  refine ⟨1, 0, 0, fun _ => 0, i0_P, T, ⟨by omega, fun m z => absurd z (no m), fun m m' z => absurd z (no m), fun m p z => absurd z (no m), fun m z => absurd z (no m), fun m m' z => absurd z (no m)⟩, fun m _ hm => U m hm, ⟨fun c hc => ?_, ⟨fun _ => ?_, fun _ => N⟩, fun c _ hc => (C c hc).2, fun c z1 z2 => absurd z2 (by omega), fun m c z => absurd z (no m)⟩, ⟨fun a q => ?_, fun a q => ⟨Or.inl rfl, fun v hv => ?_⟩, fun v => Or.inl (b1 v), fun v => Or.inl (b2 v), by rw [v2, v3], fun k hk => ⟨?_, by show ((-1 : Int32)).toInt ≤ 4; decide⟩⟩, ⟨⟨0, by omega, m1, m2, fun j z => absurd z (no j)⟩, ⟨0, by omega, m3, m4, fun j _ z => absurd z (no j)⟩, m5⟩⟩
  · rw [(C c hc).1, (C c hc).2]
    exact ⟨rfl, Or.inl rfl⟩
  · rintro ⟨x, hx, y⟩
    exact y (C x hx).2
  · obtain ⟨w1, w2⟩ := v1 a (by omega) q
    exact ⟨w1, fun j hj => (w2 j hj).trans (show (0 : Int32) = lx_pk (0, -1, 0, 0, -1) by decide)⟩
  · show lx_vr 1 (0, -1, 0, 0, -1)
    unfold lx_vr mm_vr
    decide
  · rw [v4]
    exact ⟨rfl, fun z => absurd z (by show ¬ 0 ≤ (-1 : Int32).toInt; decide)⟩
