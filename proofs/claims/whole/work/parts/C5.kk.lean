/-! Kinds stay -/
def kk (h h' : mm_H) : Prop := mm_t h ≤ mm_t h' ∧ ∀ a, a ≤ mm_t h → mm_k h' a = mm_k h a
theorem kk_rf {h : mm_H} : kk h h := ⟨Nat.le_refl _, fun _ _ => rfl⟩
theorem kk_tr {h g k : mm_H} (a : kk h g) (b : kk g k) : kk h k := ⟨Nat.le_trans a.1 b.1, fun x hx => (b.2 x (Nat.le_trans hx a.1)).trans (a.2 x hx)⟩
theorem kk_new {h : mm_H} {k n : Nat} : kk h (mm_new h k n) := ⟨Nat.le_succ _, fun a ha => by
  show mm_u1 (mm_k h) (mm_t h + 1) k a = _
  unfold mm_u1
  exact if_neg (by omega)⟩
theorem kk_if {p : Prop} [Decidable p] {α : Type} {x y : α} : (if p then some x else none) = some y → x = y := by
  intro h
  split at h
  · exact Option.some.inj h
  · cases h
theorem kk_st {ro : mm_Ro} {i : Instr} {pc pc' : Nat} {L L' S S' : List Value} {h h' : mm_H} (hst : mm_st ro i pc L S h = some (pc', L', S', h')) : kk h h' := by
  cases i
  case newarray t =>
    unfold mm_st at hst
    dsimp only at hst
    split at hst
    · have e := kk_if hst
      cases e
      exact kk_new
    · cases hst
  case anewarray t =>
    unfold mm_st at hst
    dsimp only at hst
    split at hst
    · have e := kk_if hst
      cases e
      exact kk_new
    · cases hst
  case new c =>
    unfold mm_st at hst
    dsimp only at hst
    have e := kk_if hst
    cases e
    exact kk_new
  all_goals
    unfold mm_st at hst
    dsimp only at hst
    first
      | (cases hst; done)
      | ((repeat' split at hst) <;> first | (cases hst; done) | (cases hst; exact kk_rf))
theorem kk_ex {ms : List mm_M} {ro : mm_Ro} {call : Nat → List Value → mm_H → Option (Value × mm_H)} {M : mm_M} (hc : ∀ z As h r h', call z As h = some (r, h') → kk h h') : ∀ (k pc : Nat) (L S : List Value) (h : mm_H) (r : Value) (h' : mm_H), mm_ex ms ro call M k pc L S h = some (r, h') → kk h h' := by
  intro k
  induction k with
  | zero => intro pc L S h r h' hex; cases hex
  | succ k ih =>
    intro pc L S h r h' hex
    unfold mm_ex at hex
    split at hex
    · cases hex
    · split at hex
      · cases hex; exact kk_rf
      · split at hex
        · split at hex
          · cases hex
          · split at hex
            · split at hex
              · cases hex
              · rename_i r1 h1 hcall
                exact kk_tr (hc _ _ _ _ _ hcall) (ih _ _ _ _ _ _ hex)
            · cases hex
        · split at hex
          · cases hex
          · rename_i hst
            exact kk_tr (kk_st hst) (ih _ _ _ _ _ _ hex)
theorem kk_run {ms : List mm_M} {ro : mm_Ro} : ∀ (d n z : Nat) (As : List Value) (h : mm_H) (r : Value) (h' : mm_H), mm_run ms ro d n z As h = some (r, h') → kk h h' := by
  intro d
  induction d with
  | zero => intro n z As h r h' hr; cases hr
  | succ d ih =>
    intro n z As h r h' hr
    unfold mm_run at hr
    split at hr
    · cases hr
    · split at hr
      · exact kk_ex (fun z As h r h' q => ih n z As h r h' q) _ _ _ _ _ _ _ hr
      · cases hr
theorem kk_ev {ro : mm_Ro} {d z : Nat} {As : List Value} {h : mm_H} {Q : Value → mm_H → Prop} (e : mm_ev ro d z As h Q) : mm_ev ro d z As h (fun r h' => kk h h' ∧ Q r h') := by
  obtain ⟨n, r, h', e1, e2⟩ := e
  exact ⟨n, r, h', e1, kk_run _ _ _ _ _ _ _ e1, e2⟩
theorem rr_k {ro : mm_Ro} {h : mm_H} (R : rr ro h) : mm_k h 1 = 1 ∧ mm_k h 80 = 10 ∧ 123 ≤ mm_t h := by
  obtain ⟨_, _, _, _, _, T, D, _⟩ := R
  exact ⟨T.1.k 1 (by decide), T.1.k 80 (by decide), D.1⟩
/-- both calls, with the kind of the reference's object between them -/
theorem rr_two {ro : mm_Ro} {D zx zm : Nat} {As : List Value} {h : mm_H} {Q : Value → mm_H → Prop} (R : rr ro h) (t : rr_2 ro D zx zm As h) (hQ : ∀ v h1, mm_k h1 80 = 10 → (∀ Q' : Value → mm_H → Prop, (∀ h2, rr_P ro h h2 → Q' (.int v) h2) → mm_ev ro D zm (.ref 80 :: As) h1 Q') → Q (.int v) h1) : mm_ev ro D zx (.ref 1 :: As) h Q := by
  obtain ⟨_, k2, k3⟩ := rr_k R
  refine mm_ev_mono (kk_ev t) (fun r h1 q => ?_)
  obtain ⟨q1, v, q2, q3⟩ := q
  rw [q2]
  exact hQ v h1 ((q1.2 80 (by omega)).trans k2) (fun Q' y => mm_ev_mono q3 (fun r' h2 w => by rw [w.1]; exact y h2 w.2))
