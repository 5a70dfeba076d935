/-! WEAKEST PRECONDITIONS over the small machine -/
def mm_le (f g : Nat → List Value → mm_H → Option (Value × mm_H)) : Prop := ∀ z As h x, f z As h = some x → g z As h = some x
theorem mm_ex_le {ms : List mm_M} {ro : mm_Ro} {f g : Nat → List Value → mm_H → Option (Value × mm_H)} {M : mm_M} (hfg : mm_le f g) : ∀ (k k' pc : Nat) (L S : List Value) (h : mm_H) (x : Value × mm_H), k ≤ k' → mm_ex ms ro f M k pc L S h = some x → mm_ex ms ro g M k' pc L S h = some x := by
  intro k
  induction k with
  | zero => intro k' pc L S h x _ hex; cases hex
  | succ k ih =>
    intro k' pc L S h x hk hex
    obtain ⟨k', rfl⟩ : ∃ q, k' = q + 1 := ⟨k' - 1, by omega⟩
    have hk1 : k ≤ k' := by omega
    unfold mm_ex at hex ⊢
    split at hex
    · cases hex
    · split at hex
      · exact hex
      · split at hex
        · split at hex
          · cases hex
          · rcases mm_if hex with ⟨hc, hex⟩ | ⟨-, hex⟩
            · rename_i hat _ hrt _ z hca _ Z hZ
              rw [if_pos hc]
              split at hex
              · cases hex
              · rename_i r1 h1 hcall
                rw [hfg _ _ _ _ hcall]
                exact ih _ _ _ _ _ _ hk1 hex
            · cases hex
        · split at hex
          · cases hex
          · exact ih _ _ _ _ _ _ hk1 hex
theorem mm_run_le {ms : List mm_M} {ro : mm_Ro} : ∀ (d n n' : Nat), n ≤ n' → mm_le (mm_run ms ro d n) (mm_run ms ro d n') := by
  intro d
  induction d with
  | zero => intro n n' _ z As h x hr; cases hr
  | succ d ih =>
    intro n n' hn z As h x hr
    unfold mm_run at hr ⊢
    split at hr
    · cases hr
    · rcases mm_if hr with ⟨hc, hr⟩ | ⟨-, hr⟩
      · rw [if_pos hc]
        exact mm_ex_le (ih n n' hn) _ _ _ _ _ _ _ hn hr
      · cases hr
/-- a method's code from a place on comes to an end with Q -/
def mm_go (ro : mm_Ro) (d : Nat) (M : mm_M) (pc : Nat) (L S : List Value) (h : mm_H) (Q : Value → mm_H → Prop) : Prop := ∃ n r h', mm_ex mm_ms ro (mm_run mm_ms ro d n) M n pc L S h = some (r, h') ∧ Q r h'
/-- a call of a method comes to an end with Q -/
def mm_ev (ro : mm_Ro) (d : Nat) (z : Nat) (As : List Value) (h : mm_H) (Q : Value → mm_H → Prop) : Prop := ∃ n r h', mm_run mm_ms ro d n z As h = some (r, h') ∧ Q r h'
theorem mm_ev_mono {ro : mm_Ro} {d z : Nat} {As : List Value} {h : mm_H} {Q Q' : Value → mm_H → Prop} (he : mm_ev ro d z As h Q) (hq : ∀ r h', Q r h' → Q' r h') : mm_ev ro d z As h Q' := by
  obtain ⟨n, r, h', h1, h2⟩ := he
  exact ⟨n, r, h', h1, hq r h' h2⟩
theorem mm_go_mono {ro : mm_Ro} {d pc : Nat} {M : mm_M} {L S : List Value} {h : mm_H} {Q Q' : Value → mm_H → Prop} (he : mm_go ro d M pc L S h Q) (hq : ∀ r h', Q r h' → Q' r h') : mm_go ro d M pc L S h Q' := by
  obtain ⟨n, r, h', h1, h2⟩ := he
  exact ⟨n, r, h', h1, hq r h' h2⟩
theorem mm_go_ret {ro : mm_Ro} {d pc : Nat} {M : mm_M} {L S : List Value} {h : mm_H} {Q : Value → mm_H → Prop} {x : Nat × Nat × Instr} {r : Value} (ha : mm_at M pc = some x) (hr : mm_rt M.2.2.2.1 x.2.2 S = some r) (hq : Q r h) : mm_go ro d M pc L S h Q := by
  refine ⟨1, r, h, ?_, hq⟩
  unfold mm_ex
  rw [ha]
  dsimp only
  rw [hr]
theorem mm_go_st {ro : mm_Ro} {d pc pc' : Nat} {M : mm_M} {L S L' S' : List Value} {h h' : mm_H} {Q : Value → mm_H → Prop} {x : Nat × Nat × Instr} (ha : mm_at M pc = some x) (hr : mm_rt M.2.2.2.1 x.2.2 S = none) (hc : mm_ca x.2.2 = none) (hs : mm_st ro x.2.2 pc L S h = some (pc', L', S', h')) (hg : mm_go ro d M pc' L' S' h' Q) : mm_go ro d M pc L S h Q := by
  obtain ⟨n, r, h1, h2, h3⟩ := hg
  refine ⟨n + 1, r, h1, ?_, h3⟩
  unfold mm_ex
  rw [ha]
  dsimp only
  rw [hr]
  dsimp only
  rw [hc]
  dsimp only
  rw [hs]
  exact mm_ex_le (mm_run_le d n (n + 1) (by omega)) _ _ _ _ _ _ _ (Nat.le_refl _) h2
theorem mm_go_call {ro : mm_Ro} {d pc z : Nat} {M Z : mm_M} {L S As S0 : List Value} {h : mm_H} {Q : Value → mm_H → Prop} {x : Nat × Nat × Instr} (ha : mm_at M pc = some x) (hr : mm_rt M.2.2.2.1 x.2.2 S = none) (hc : mm_ca x.2.2 = some z) (hZ : mm_ms[z]? = some Z) (hS : S = As.reverse ++ S0) (hn : As.length = mm_na' Z) (h8 : S0.length ≤ 8) (hc1 : S0.all mm_c1 = true) (hrc : mm_rc Z h As = true)
    (hg : mm_ev ro d z As h (fun r h1 => mm_go ro d M (pc + 3) L (if Z.2.2.2.1 = none then S0 else r :: S0) h1 Q)) : mm_go ro d M pc L S h Q := by
  obtain ⟨n1, r1, h1, hrun, n2, r, h2, hex, hq⟩ := hg
  refine ⟨n1 + n2 + 1, r, h2, ?_, hq⟩
  have e1 : (S.take (mm_na' Z)).reverse = As := by
    rw [hS, ← hn, ← List.length_reverse, List.take_left, List.reverse_reverse]
  have e2 : S.drop (mm_na' Z) = S0 := by
    rw [hS, ← hn, ← List.length_reverse, List.drop_left]
  have e3 : S.length = mm_na' Z + S0.length := by rw [hS, List.length_append, List.length_reverse, hn]
  unfold mm_ex
  rw [ha]
  dsimp only
  rw [hr]
  dsimp only
  rw [hc]
  dsimp only
  rw [hZ]
  dsimp only
  rw [e1, e2, if_pos ⟨by omega, by omega, hc1, hrc⟩, mm_run_le d n1 (n1 + n2 + 1) (by omega) _ _ _ _ hrun]
  exact mm_ex_le (mm_run_le d n2 (n1 + n2 + 1) (by omega)) _ _ _ _ _ _ _ (by omega) hex
theorem mm_ev_of {ro : mm_Ro} {d z : Nat} {Z : mm_M} {As : List Value} {h : mm_H} {Q : Value → mm_H → Prop} (hZ : mm_ms[z]? = some Z) (hn : As.length = mm_na' Z) (hl : As.length ≤ Z.2.2.1) (hc : As.all mm_c1 = true) (hg : mm_go ro d Z 0 (As ++ List.replicate (Z.2.2.1 - As.length) .null) [] h Q) : mm_ev ro (d + 1) z As h Q := by
  obtain ⟨n, r, h1, hex, hq⟩ := hg
  refine ⟨n, r, h1, ?_, hq⟩
  unfold mm_run
  rw [hZ]
  dsimp only
  rw [if_pos ⟨hn, hl, hc⟩]
  exact hex
/-- the code's places follow each other -/
def mm_lay : List mm_I → Bool
  | [] => true
  | e :: es => decide (0 < e.2.1) && (match es with
    | [] => true
    | e' :: _ => decide (e'.1 = e.1 + e.2.1)) && mm_lay es
theorem mm_lay_ms : mm_ms.all (fun M => mm_lay M.2.2.2.2.2.2) = true := by decide +kernel
theorem mm_lay_law : mm_lay mm_c_La_law = true := by decide +kernel
