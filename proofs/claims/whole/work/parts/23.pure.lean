/-! runs that read nothing of the arrays that are only read: they can be computed -/
def mm_ro0 : mm_Ro := fun _ => (0, fun _ => 0)
def mm_st0 (i : Instr) (pc : Nat) (L S : List Value) (h : mm_H) : Option (Nat × List Value × List Value × mm_H) :=
  match i with
  | .iaload => match S with
    | .int x :: .ref a :: S => if mm_k h a = 20 ∧ mm_in x (mm_n h a) then some (pc + 1, L, .int (mm_a h a x.toNatClampNeg) :: S, h) else none
    | _ => none
  | .arraylength => match S with
    | .ref a :: S => if 20 ≤ mm_k h a ∧ mm_k h a < 26 then some (pc + 1, L, .int (Int32.ofNat (mm_n h a)) :: S, h) else none
    | _ => none
  | i => mm_st mm_ro0 i pc L S h
theorem mm_st0_ok {ro : mm_Ro} {i : Instr} {pc : Nat} {L S : List Value} {h : mm_H} {y : Nat × List Value × List Value × mm_H} (hs : mm_st0 i pc L S h = some y) : mm_st ro i pc L S h = some y := by
  cases i
  case iaload =>
    unfold mm_st0 at hs
    dsimp only at hs
    split at hs
    · exact hs
    · cases hs
  case arraylength =>
    unfold mm_st0 at hs
    dsimp only at hs
    split at hs
    · exact hs
    · cases hs
  all_goals exact hs
def mm_ex0 (call : Nat → List Value → mm_H → Option (Value × mm_H)) (M : mm_M) : Nat → Nat → List Value → List Value → mm_H → Option (Value × mm_H)
  | 0, _, _, _, _ => none
  | n + 1, pc, L, S, h => match mm_at M pc with
    | none => none
    | some (_, _, i) => match mm_rt M.2.2.2.1 i S with
      | some r => some (r, h)
      | none => match mm_ca i with
        | some z => match mm_ms[z]? with
          | none => none
          | some Z => if mm_na' Z ≤ S.length ∧ S.length ≤ mm_na' Z + 8 ∧ (S.drop (mm_na' Z)).all mm_c1 = true ∧ mm_rc Z h (S.take (mm_na' Z)).reverse = true then (match call z (S.take (mm_na' Z)).reverse h with
            | none => none
            | some (r, h1) => mm_ex0 call M n (pc + 3) L (if Z.2.2.2.1 = none then S.drop (mm_na' Z) else r :: S.drop (mm_na' Z)) h1) else none
        | none => match mm_st0 i pc L S h with
          | none => none
          | some (pc', L', S', h') => mm_ex0 call M n pc' L' S' h'
def mm_run0 : Nat → Nat → Nat → List Value → mm_H → Option (Value × mm_H)
  | 0, _, _, _, _ => none
  | d + 1, n, z, As, h => match mm_ms[z]? with
    | none => none
    | some Z => if As.length = mm_na' Z ∧ As.length ≤ Z.2.2.1 ∧ As.all mm_c1 = true then mm_ex0 (mm_run0 d n) Z n 0 (As ++ List.replicate (Z.2.2.1 - As.length) .null) [] h else none
theorem mm_ex0_ok {ro : mm_Ro} {f g : Nat → List Value → mm_H → Option (Value × mm_H)} {M : mm_M} (hfg : mm_le f g) : ∀ (k pc : Nat) (L S : List Value) (h : mm_H) (x : Value × mm_H), mm_ex0 f M k pc L S h = some x → mm_ex mm_ms ro g M k pc L S h = some x := by
  intro k
  induction k with
  | zero => intro pc L S h x hex; cases hex
  | succ k ih =>
    intro pc L S h x hex
    unfold mm_ex0 at hex
    unfold mm_ex
    split at hex
    · cases hex
    · rename_i hat
      rw [hat]
      dsimp only
      split at hex
      · rename_i hrt
        rw [hrt]
        exact hex
      · rename_i hrt
        rw [hrt]
        dsimp only
        split at hex
        · rename_i hca
          rw [hca]
          dsimp only
          split at hex
          · cases hex
          · rename_i hZ
            rw [hZ]
            dsimp only
            rcases mm_if hex with ⟨hc, hex⟩ | ⟨-, hex⟩
            · rw [if_pos hc]
              split at hex
              · cases hex
              · rename_i r1 h1 hcall
                rw [hfg _ _ _ _ hcall]
                exact ih _ _ _ _ _ hex
            · cases hex
        · rename_i hca
          rw [hca]
          dsimp only
          split at hex
          · cases hex
          · rename_i hst
            rw [mm_st0_ok hst]
            exact ih _ _ _ _ _ hex
theorem mm_run0_ok {ro : mm_Ro} : ∀ (d n : Nat), mm_le (mm_run0 d n) (mm_run mm_ms ro d n) := by
  intro d
  induction d with
  | zero => intro n z As h x hr; cases hr
  | succ d ih =>
    intro n z As h x hr
    unfold mm_run0 at hr
    unfold mm_run
    split at hr
    · cases hr
    · rename_i hZ
      rw [hZ]
      dsimp only
      rcases mm_if hr with ⟨hc, hr⟩ | ⟨-, hr⟩
      · rw [if_pos hc]
        exact mm_ex0_ok (ih n) _ _ _ _ _ _ hr
      · cases hr
/-- a run that is computed -/
theorem mm_ev0 {ro : mm_Ro} {d z : Nat} {As : List Value} {h : mm_H} {Q : Value → mm_H → Prop} (n : Nat) (hs : (mm_run0 d n z As h).isSome = true) (hq : ∀ r h', mm_run0 d n z As h = some (r, h') → Q r h') : mm_ev ro d z As h Q := by
  obtain ⟨x, hx⟩ := Option.isSome_iff_exists.mp hs
  exact ⟨n, x.1, x.2, mm_run0_ok d n _ _ _ _ hx, hq x.1 x.2 hx⟩
