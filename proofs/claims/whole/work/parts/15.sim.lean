def mm_is0 (i : Instr) : Bool := match i with
  | .iload _ | .iload_n _ | .aload _ | .aload_n _ | .istore _ | .istore_n _ | .astore _ | .astore_n _ | .iinc _ _ | .iconst _ | .bipush _ | .sipush _ | .aconst_null | .dup | .dup2 | .pop | .iadd | .isub | .imul | .iand | .ior | .ixor | .ishl | .ishr => true
  | _ => false
theorem mm_st_h0 {ro : mm_Ro} {i : Instr} {pc pc' : Nat} {L L' S S' : List Value} {h h' : mm_H} (hi : (mm_is0 i || mm_isj i) = true) (hst : mm_st ro i pc L S h = some (pc', L', S', h')) : h' = h := by
  cases i <;> first | (cases hi; done) | skip
  all_goals
    unfold mm_st at hst
    dsimp only at hst
    (repeat' split at hst) <;> first | (cases hst; done) | (cases hst; rfl)
theorem mm_st_mono {ro : mm_Ro} {i : Instr} {pc pc' : Nat} {L L' S S' : List Value} {h h' : mm_H} (hst : mm_st ro i pc L S h = some (pc', L', S', h')) : mm_t h ≤ mm_t h' ∧ mm_s h ≤ mm_s h' := by
  cases i
  case newarray t =>
    unfold mm_st at hst
    dsimp only at hst
    split at hst
    · rcases mm_if hst with ⟨hk, hst⟩ | ⟨-, hst⟩
      · cases hst; exact ⟨Nat.le_succ _, Nat.le_add_right _ _⟩
      · cases hst
    · cases hst
  case anewarray t =>
    unfold mm_st at hst
    dsimp only at hst
    split at hst
    · rcases mm_if hst with ⟨hk, hst⟩ | ⟨-, hst⟩
      · cases hst; exact ⟨Nat.le_succ _, Nat.le_add_right _ _⟩
      · cases hst
    · cases hst
  case new c =>
    unfold mm_st at hst
    dsimp only at hst
    rcases mm_if hst with ⟨hk, hst⟩ | ⟨-, hst⟩
    · cases hst; exact ⟨Nat.le_succ _, Nat.le_add_right _ _⟩
    · cases hst
  all_goals
    unfold mm_st at hst
    dsimp only at hst
    first
      | (cases hst; done)
      | ((repeat' split at hst) <;> first | (cases hst; done) | (cases hst; exact ⟨Nat.le_refl _, Nat.le_refl _⟩))
section SIM
variable {p : Program} {l : Launch} {e : Env} {R : Room} {s : State} {m : MethodId} {args : Array Value} {below : List Frame} {meth : Method} {c : Code} {H : Heap} {locs : List Loc} {Q : State → Prop} {M : mm_M} {B : Nat} {ra : Nat → Nat} {ro : mm_Ro} {D : va_G} {cA : Nat → ClassId} {t0 s0 : Nat} {pc pc' len idx : Nat} {i : Instr} {L L' S S' : List Value} {h h' : mm_H} {ls : Array Slot}
theorem mm_sim1 (X : mm_X p s m args meth c M B ra ro D cA t0) (he : mm_ok1 M (pc, len, idx, i) = true) (hst : mm_st ro i pc L S h = some (pc', L', S', h')) (J : mm_J B cA D h s H locs) (HL : mm_L B ra M.2.2.1 ls L) (ht : t0 ≤ mm_t h) (hs : s0 ≤ mm_s h) (hfr : 1 ≤ R.frames) (hlo : 39 ≤ R.locals) (hcl : mm_t h' - t0 ≤ R.cells) (hsl : mm_s h' - s0 ≤ R.slots)
    (kk : ∀ H' locs' ls', mm_J B cA D h' s H' locs' → mm_L B ra M.2.2.1 ls' L' → W p l e R s m args below meth c H' locs' (mm_t h' - t0) (mm_s h' - s0) Q (F0 m pc' ls' (S'.map (mm_rv B ra)))) : W p l e R s m args below meth c H locs (mm_t h - t0) (mm_s h - s0) Q (F0 m pc ls (S.map (mm_rv B ra))) := by
  have hmono := mm_st_mono hst
  by_cases hj : mm_isj i = true
  · have e0 := mm_st_h0 (by rw [hj, Bool.or_true]) hst
    subst e0
    exact mm_simj X he hst hj HL (fun ls' hl => kk H locs ls' J hl)
  by_cases h0 : mm_is0 i = true
  · have e0 := mm_st_h0 (by rw [h0, Bool.true_or]) hst
    subst e0
    refine mm_sim0 X he hst ?_ HL (fun ls' hl => kk H locs ls' J hl)
    cases i <;> first | (cases h0; done) | trivial
  by_cases ha : mm_isa i = true
  · have hmt : mm_t h' = mm_t h ∧ mm_s h' = mm_s h := by
      cases i <;> first | (cases ha; done) | skip
      all_goals
        unfold mm_st at hst
        dsimp only at hst
        (repeat' split at hst) <;> first | (cases hst; done) | (cases hst; exact ⟨rfl, rfl⟩)
    refine mm_sima X he hst ha J HL.1 hfr hlo (by omega) (by omega) (fun H' locs' e1 j => ?_)
    subst e1
    have k2 := kk H' locs' ls j HL
    rw [hmt.1, hmt.2] at k2
    exact k2
  cases i
  case getfield f =>
    refine mm_simg X he hst J (fun e1 e2 => ?_)
    subst e1; subst e2
    exact kk H locs ls J HL
  case putfield f =>
    have hmt : mm_t h' = mm_t h ∧ mm_s h' = mm_s h := by
      unfold mm_st at hst
      dsimp only at hst
      (repeat' split at hst) <;> first | (cases hst; done) | (cases hst; exact ⟨rfl, rfl⟩)
    refine mm_simp X he hst J (fun H' locs' e1 j => ?_)
    subst e1
    have k2 := kk H' locs' ls j HL
    rw [hmt.1, hmt.2] at k2
    exact k2
  case new a =>
    refine mm_simn X he hst trivial J ht hs hcl hsl (fun H' e1 j => ?_)
    subst e1
    exact kk H' locs ls j HL
  case newarray a =>
    refine mm_simn X he hst trivial J ht hs hcl hsl (fun H' e1 j => ?_)
    subst e1
    exact kk H' locs ls j HL
  case anewarray a =>
    refine mm_simn X he hst trivial J ht hs hcl hsl (fun H' e1 j => ?_)
    subst e1
    exact kk H' locs ls j HL
  all_goals first | exact absurd rfl h0 | exact absurd rfl hj | exact absurd rfl ha | (unfold mm_st at hst; cases hst; done)
end SIM
