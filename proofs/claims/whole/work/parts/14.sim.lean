theorem mm_fk_le : (List.range 10).all (fun c => (List.range (mm_fks.getD c []).length).all (fun k => decide (mm_fk (64 * c + k) ≤ 2))) = true := by decide +kernel
theorem mm_wf_new {h : mm_H} {k n : Nat} (hw : mm_wf h) : mm_wf (mm_new h k n) := by
  intro a ha
  show 1 ≤ a ∧ a ≤ mm_t h + 1
  by_cases e : a = mm_t h + 1
  · omega
  · have h1 : mm_k (mm_new h k n) a = mm_k h a := if_neg e
    rw [h1] at ha
    have := hw a ha
    omega
theorem mm_ty3 {t : FieldType} (h : mm_tyk t = 0 ∨ mm_tyk t = 1) : defaultValue t = .int 0 := by
  cases t <;> first | rfl | (rcases h with h | h <;> cases h)
theorem mm_RA_one {U : State} {a b : ClassId} {ty : FieldType} (h1 : va_RA U a ty) (h2 : va_RA U b ty) : a = b := by
  cases ty with
  | object C =>
    obtain ⟨_, _, _, _, _, e1⟩ := h1
    obtain ⟨_, _, _, _, _, e2⟩ := h2
    exact Option.some.inj (e1.symm.trans e2)
  | _ =>
    exact Option.some.inj (Eq.trans (Eq.symm h1) h2)
section SIM
variable {p : Program} {l : Launch} {e : Env} {R : Room} {s : State} {m : MethodId} {args : Array Value} {below : List Frame} {meth : Method} {c : Code} {H : Heap} {locs : List Loc} {Q : State → Prop} {M : mm_M} {B : Nat} {ra : Nat → Nat} {ro : mm_Ro} {D : va_G} {cA : Nat → ClassId} {t0 s0 : Nat} {pc pc' len idx : Nat} {i : Instr} {L L' S S' : List Value} {h h' : mm_H} {ls : Array Slot}
/-- behind a row that made a cell -/
theorem mm_made {g : JFrame} {q k n : Nat} {ev : va_E} {H1 : Heap} (hsz : s.heap.size = B + t0 + 1) (ht : t0 ≤ mm_t h) (hs : s0 ≤ mm_s h) (hw : mm_wf h) (hce : mm_ce B cA (mm_new h k n) (mm_t h + 1) = ev) (g1 : va_P D mm_cl (mm_ww B cA h ++ [(q, ev)]) H1) (g2 : va_D (fun q => B < q) (mm_ww B cA h ++ [(q, ev)])) (g3 : va_S (fun q => B < q) s.heap H1 locs)
    (kk : q = B + (mm_t h + 1) → mm_J B cA D (mm_new h k n) s H1 locs → W p l e R s m args below meth c H1 locs (mm_t (mm_new h k n) - t0) (mm_s (mm_new h k n) - s0) Q g) : W p l e R s m args below meth c H1 locs (mm_t h - t0 + 1) (mm_s h - s0 + n) Q g := by
  refine mm_size (fun hz => ?_)
  have hq : q = B + (mm_t h + 1) := mm_fresh rfl g1 g2 (by omega)
  have e1 : mm_t h - t0 + 1 = mm_t (mm_new h k n) - t0 := by show _ = mm_t h + 1 - t0; omega
  have e2 : mm_s h - s0 + n = mm_s (mm_new h k n) - s0 := by show _ = mm_s h + n - s0; omega
  rw [e1, e2]
  refine kk hq ⟨?_, g3, mm_wf_new hw⟩
  rw [mm_ww_new, hce, ← hq]
  exact g1
theorem mm_simn (X : mm_X p s m args meth c M B ra ro D cA t0) (he : mm_ok1 M (pc, len, idx, i) = true) (hst : mm_st ro i pc L S h = some (pc', L', S', h')) (hi : match i with | .new _ => True | .newarray _ => True | .anewarray _ => True | _ => False) (J : mm_J B cA D h s H locs) (ht : t0 ≤ mm_t h) (hs : s0 ≤ mm_s h) (hcl : mm_t h' - t0 ≤ R.cells) (hsl : mm_s h' - s0 ≤ R.slots)
    (kk : ∀ H', L' = L → mm_J B cA D h' s H' locs → W p l e R s m args below meth c H' locs (mm_t h' - t0) (mm_s h' - s0) Q (F0 m pc' ls (S'.map (mm_rv B ra)))) : W p l e R s m args below meth c H locs (mm_t h - t0) (mm_s h - s0) Q (F0 m pc ls (S.map (mm_rv B ra))) := by
  obtain ⟨hx, hb, hml, hown, hts, hK, hE, hsz, hnm⟩ := X
  obtain ⟨hP, hS, hw⟩ := J
  have hlk := mm_lkd he
  have hD := mm_D B cA h
  have hA : ∀ q, s.heap.size ≤ q → (fun q => B < q) q := fun q hq => by show B < q; omega
  have hrv : mm_rv B ra (.ref (mm_t h + 1)) = .ref (B + (mm_t h + 1)) := mm_rv_s (by omega)
  cases i <;> first | exact absurd hi id | skip
  case new ci =>
    have hd : decode M.2.1 pc = .ok (.new idx, 3) := mm_dec he rfl
    obtain ⟨w, hw1⟩ := mm_has3_of (show mm_has3 mm_nc M.2.2.2.2.1.1 idx ci = true from hlk)
    have h1 := List.all_eq_true.mp mm_nc_ok _ hw1
    simp only [Bool.and_eq_true, decide_eq_true_eq] at h1
    have hwl := mm_G_of h1.1 rfl
    unfold mm_st at hst
    dsimp only at hst
    rw [if_pos h1.2] at hst
    cases hst
    obtain ⟨C, T, N, ty, c1, c2, c3, c4, c5, c6, c7⟩ := mm_Ck_all ci h1.2
    have h2 := List.all_eq_true.mp mm_ins_ok ci (List.mem_range.mpr h1.2)
    simp only [Bool.and_eq_true, decide_eq_true_eq] at h2
    rw [← c3, ← c2] at h2
    rw [← c2] at hwl
    have w1 : (Jvm.Cond.instantiable C N).before args s = true := hts _ (List.mem_filter.mpr ⟨h2.1, rfl⟩)
    have w2 : (Jvm.Cond.initialized C).before args s = true := hts _ (List.mem_filter.mpr ⟨h2.2, rfl⟩)
    have hk1 : mm_k (mm_new h (ci + 1) (mm_fks.getD ci []).length) (mm_t h + 1) = ci + 1 := if_pos rfl
    have hfs : ∀ j, j < N → defaultValue (ty j) = vp_V (mm_fv B (mm_new h (ci + 1) (mm_fks.getD ci []).length) ci (mm_t h + 1)) j := by
      intro j hj
      rw [c3] at hj
      unfold vp_V
      rw [List.getD_eq_getElem?_getD, mm_fv_get hj]
      obtain ⟨-, -, -, d4⟩ := c7 j (by rw [c3]; exact hj)
      have hle := List.all_eq_true.mp mm_fk_le ci (List.mem_range.mpr h1.2)
      have hle := List.all_eq_true.mp hle j (List.mem_range.mpr hj)
      simp only [decide_eq_true_eq] at hle
      have z1 : mm_r (mm_new h (ci + 1) (mm_fks.getD ci []).length) (64 * ci + j) (mm_t h + 1) = 0 := if_pos rfl
      have z2 : mm_i (mm_new h (ci + 1) (mm_fks.getD ci []).length) (64 * ci + j) (mm_t h + 1) = 0 := if_pos rfl
      rw [z1, z2]
      by_cases h2 : mm_fk (64 * ci + j) = 2
      · rw [if_pos h2]; exact (mm_ty2 (d4.trans h2) none).2.2
      · rw [if_neg h2]; exact mm_ty3 (by omega)
    have hsl' : mm_s h + N - s0 ≤ R.slots := by rw [c3]; exact hsl
    have hcl' : mm_t h + 1 - t0 ≤ R.cells := hcl
    refine va_new (D := D) (ci := ci) (C := C) (T := T) (N := N) hx hb hts c4 ty c5 hown (hts _ hwl) w1 w2 hK hP hD hS hA c1 hfs (by omega) (by omega) hd (fun q H1 g1 g2 g3 => ?_)
    rw [c3]
    refine mm_made hsz ht hs hw (mm_ce_obj hk1 h1.2) g1 g2 g3 (fun hq j => ?_)
    have k2 := kk H1 rfl j
    rw [List.map_cons, hrv, ← hq] at k2
    exact k2
  case newarray at0 =>
    have hd : decode M.2.1 pc = .ok (.newarray at0, 2) := mm_dec he rfl
    unfold mm_st at hst
    dsimp only at hst
    split at hst
    · rename_i x S0
      rcases mm_if hst with ⟨hk, hst⟩ | ⟨-, hst⟩
      · cases hst
        obtain ⟨k1, k2, k3⟩ := hk
        have hcl' : mm_t h + 1 - t0 ≤ R.cells := hcl
        have hsl' : mm_s h + x.toNatClampNeg - s0 ≤ R.slots := hsl
        rcases k3 with rfl | rfl
        · refine va_newa (D := D) (atype := .int) (ty := .int) (a0 := (x.toNatClampNeg, .inl (fun _ => 0))) hx hb (hts _ mm_G_3.1) rfl hK hP hD hS hA (fun _ => rfl) k1 rfl ?_ (by omega) (by omega) hd (fun q cA' H1 g0 g1 g2 g3 => ?_)
          · have e : componentBytes .int = 4 := by decide
            rw [e]; omega
          · have ec : cA' = cA 0 := mm_RA_one (g0.2 6 _ rfl).2 (g0.2 0 _ rfl).2
            subst ec
            have hk1 : mm_k (mm_new h 20 x.toNatClampNeg) (mm_t h + 1) = 20 + 0 := if_pos rfl
            have z1 : mm_n (mm_new h 20 x.toNatClampNeg) (mm_t h + 1) = x.toNatClampNeg := if_pos rfl
            have z2 : mm_a (mm_new h 20 x.toNatClampNeg) (mm_t h + 1) = fun _ => 0 := if_pos rfl
            refine mm_made (k := 20) hsz ht hs hw (by rw [mm_ce_int hk1 (by omega), z1, z2]) g1 g2 g3 (fun hq j => ?_)
            have k2 := kk H1 rfl j
            rw [List.map_cons, hrv, ← hq] at k2
            exact k2
        · refine va_newa (D := D) (atype := .boolean) (ty := .boolean) (a0 := (x.toNatClampNeg, .inl (fun _ => 0))) hx hb (hts _ mm_G_3.2.1) rfl hK hP hD hS hA (fun _ => rfl) k1 rfl ?_ (by omega) (by omega) hd (fun q cA' H1 g0 g1 g2 g3 => ?_)
          · have e : componentBytes .boolean = 1 := by decide
            rw [e]; omega
          · have ec : cA' = cA 1 := mm_RA_one (g0.2 6 _ rfl).2 (g0.2 1 _ rfl).2
            subst ec
            have hk1 : mm_k (mm_new h 21 x.toNatClampNeg) (mm_t h + 1) = 20 + 1 := if_pos rfl
            have z1 : mm_n (mm_new h 21 x.toNatClampNeg) (mm_t h + 1) = x.toNatClampNeg := if_pos rfl
            have z2 : mm_a (mm_new h 21 x.toNatClampNeg) (mm_t h + 1) = fun _ => 0 := if_pos rfl
            refine mm_made (k := 21) hsz ht hs hw (by rw [mm_ce_int hk1 (by omega), z1, z2]) g1 g2 g3 (fun hq j => ?_)
            have k2 := kk H1 rfl j
            rw [List.map_cons, hrv, ← hq] at k2
            exact k2
      · cases hst
    · cases hst
  case anewarray t =>
    have hd : decode M.2.1 pc = .ok (.anewarray idx, 3) := mm_dec he rfl
    obtain ⟨w, hw1⟩ := mm_has3_of (show mm_has3 mm_na M.2.2.2.2.1.1 idx t = true from hlk)
    have h1 := List.all_eq_true.mp mm_na_ok _ hw1
    simp only [Bool.and_eq_true, decide_eq_true_eq] at h1
    have hwl := mm_G_of h1.1 rfl
    have hao : va_AO (mm_N.getD (mm_ac.getD t 0) "") s := hE.2.2.2 _ (mm_G_4 t h1.2.1 h1.2.2)
    unfold mm_st at hst
    dsimp only at hst
    split at hst
    · rename_i x S0
      rcases mm_if hst with ⟨hk, hst⟩ | ⟨-, hst⟩
      · cases hst
        obtain ⟨k1, k2, k3, k4⟩ := hk
        have hcl' : mm_t h + 1 - t0 ≤ R.cells := hcl
        have hsl' : mm_s h + x.toNatClampNeg - s0 ≤ R.slots := hsl
        refine va_newq (D := D) hx hb hown (hts _ hwl) hao hK hP hD hS hA k1 rfl (by omega) (by omega) (by omega) hd (fun q cA' H1 g0 g1 g2 g3 => ?_)
        have ec : cA' = cA t := by
          rcases (show t = 2 ∨ t = 3 ∨ t = 4 ∨ t = 5 by omega) with rfl | rfl | rfl | rfl
          · exact mm_RA_one (g0.2 6 _ rfl).2 (g0.2 2 _ rfl).2
          · exact mm_RA_one (g0.2 6 _ rfl).2 (g0.2 3 _ rfl).2
          · exact mm_RA_one (g0.2 6 _ rfl).2 (g0.2 4 _ rfl).2
          · exact mm_RA_one (g0.2 6 _ rfl).2 (g0.2 5 _ rfl).2
        subst ec
        have hk1 : mm_k (mm_new h (20 + t) x.toNatClampNeg) (mm_t h + 1) = 20 + t := if_pos rfl
        have z1 : mm_n (mm_new h (20 + t) x.toNatClampNeg) (mm_t h + 1) = x.toNatClampNeg := if_pos rfl
        have z2 : mm_q (mm_new h (20 + t) x.toNatClampNeg) (mm_t h + 1) = fun _ => 0 := if_pos rfl
        refine mm_made (k := 20 + t) hsz ht hs hw (by rw [mm_ce_ref hk1 k3, z1, z2]; rfl) g1 g2 g3 (fun hq j => ?_)
        have k2 := kk H1 rfl j
        rw [List.map_cons, hrv, ← hq] at k2
        exact k2
      · cases hst
    · cases hst
end SIM
