theorem mm_dec {M : mm_M} {pc len idx : Nat} {i : Instr} (he : mm_ok1 M (pc, len, idx, i) = true) {n : Nat} (hn : mm_ln i = n + 1) : decode M.2.1 pc = .ok (mm_or idx i, n + 1) := by
  simp only [mm_ok1, Bool.and_eq_true, Bool.or_eq_true, decide_eq_true_eq] at he
  obtain ⟨⟨h1, h2⟩, -⟩ := he
  rcases h2 with h2 | h2
  · omega
  · rw [h1, ← h2, hn]
theorem mm_lkd {M : mm_M} {pc len idx : Nat} {i : Instr} (he : mm_ok1 M (pc, len, idx, i) = true) : mm_lk M pc idx i = true := by
  simp only [mm_ok1, Bool.and_eq_true] at he
  exact he.2
theorem mm_tg_ok {pc : Nat} {off : Int} (h : 0 ≤ (pc : Int) + off) : (pc : Int) + off = (mm_tg pc off : Int) := by
  unfold mm_tg
  omega
theorem mm_rv_cat (B : Nat) (ra : Nat → Nat) (x : Nat) : (mm_rv B ra (.ref x)).category = 1 := by
  rw [mm_rv_ref]
  cases mm_ob B x <;> rfl
section SIM
variable {p : Program} {l : Launch} {e : Env} {R : Room} {s : State} {m : MethodId} {args : Array Value} {below : List Frame} {meth : Method} {c : Code} {H : Heap} {locs : List Loc} {cells slots : Nat} {Q : State → Prop} {M : mm_M} {B : Nat} {ra : Nat → Nat} {ro : mm_Ro} {D : va_G} {cA : Nat → ClassId} {t0 : Nat} {pc pc' len idx : Nat} {i : Instr} {L L' S S' : List Value} {h h' : mm_H} {ls : Array Slot}
/-- the instructions that leave the heap alone -/
theorem mm_sim0 (X : mm_X p s m args meth c M B ra ro D cA t0) (he : mm_ok1 M (pc, len, idx, i) = true) (hst : mm_st ro i pc L S h = some (pc', L', S', h)) (hi : match i with | .iload _ | .iload_n _ | .aload _ | .aload_n _ | .istore _ | .istore_n _ | .astore _ | .astore_n _ | .iinc _ _ | .iconst _ | .bipush _ | .sipush _ | .aconst_null | .dup | .dup2 | .pop | .iadd | .isub | .imul | .iand | .ior | .ixor | .ishl | .ishr => True | _ => False) (HL : mm_L B ra M.2.2.1 ls L)
    (kk : ∀ ls', mm_L B ra M.2.2.1 ls' L' → W p l e R s m args below meth c H locs cells slots Q (F0 m pc' ls' (S'.map (mm_rv B ra)))) : W p l e R s m args below meth c H locs cells slots Q (F0 m pc ls (S.map (mm_rv B ra))) := by
  obtain ⟨hx, hb, -⟩ := X
  have hlk := mm_lkd he
  cases i <;> first | exact absurd hi id | skip
  case iload k =>
    have hd : decode M.2.1 pc = .ok (.iload k, 2) := mm_dec he rfl
    unfold mm_st at hst
    dsimp only at hst
    split at hst
    · rename_i x hk
      cases hst
      exact lv_iload hx hb hd (HL.at hk (fun q => by cases q)) (kk ls HL)
    · cases hst
  case iload_n k =>
    have hd : decode M.2.1 pc = .ok (.iload_n k, 1) := mm_dec he rfl
    unfold mm_st at hst
    dsimp only at hst
    split at hst
    · rename_i x hk
      cases hst
      exact lv_iload_n hx hb hd rfl (HL.at hk (fun q => by cases q)) (kk ls HL)
    · cases hst
  case aload k =>
    have hd : decode M.2.1 pc = .ok (.aload k, 2) := mm_dec he rfl
    unfold mm_st at hst
    dsimp only at hst
    split at hst
    · rename_i x hk
      cases hst
      have h1 := HL.at hk (fun q => by cases q)
      have k2 := kk ls HL
      by_cases h0 : x = 0
      · subst h0
        exact lv_aloadN hx hb hd h1 k2
      · rw [List.map_cons, mm_rv_s h0] at k2
        rw [mm_rv_s h0] at h1
        exact lv_aload hx hb hd h1 k2
    · rename_i x hk
      cases hst
      exact lv_aload hx hb hd (HL.at hk (fun q => by cases q)) (kk ls HL)
    · cases hst
  case aload_n k =>
    have hd : decode M.2.1 pc = .ok (.aload_n k, 1) := mm_dec he rfl
    unfold mm_st at hst
    dsimp only at hst
    split at hst
    · rename_i x hk
      cases hst
      have h1 := HL.at hk (fun q => by cases q)
      have k2 := kk ls HL
      by_cases h0 : x = 0
      · subst h0
        exact lv_aload_nN hx hb hd rfl h1 k2
      · rw [List.map_cons, mm_rv_s h0] at k2
        rw [mm_rv_s h0] at h1
        exact lv_aload_n hx hb hd rfl h1 k2
    · rename_i x hk
      cases hst
      exact lv_aload_n hx hb hd rfl (HL.at hk (fun q => by cases q)) (kk ls HL)
    · cases hst
  case istore k =>
    have hd : decode M.2.1 pc = .ok (.istore k, 2) := mm_dec he rfl
    have hn : k < M.2.2.1 := by simpa [mm_lk] using hlk
    unfold mm_st at hst
    dsimp only at hst
    split at hst
    · cases hst
      exact lv_istore hx hb hd HL.has hn rfl (fun ls' hl => kk ls' (HL.set (v := .int _) rfl hl))
    · cases hst
  case istore_n k =>
    have hd : decode M.2.1 pc = .ok (.istore_n k, 1) := mm_dec he rfl
    have hn : k.val < M.2.2.1 := by simpa [mm_lk] using hlk
    unfold mm_st at hst
    dsimp only at hst
    split at hst
    · cases hst
      exact lv_istore_n hx hb hd rfl HL.has hn rfl (fun ls' hl => kk ls' (HL.set (v := .int _) rfl hl))
    · cases hst
  case astore k =>
    have hd : decode M.2.1 pc = .ok (.astore k, 2) := mm_dec he rfl
    have hn : k < M.2.2.1 := by simpa [mm_lk] using hlk
    unfold mm_st at hst
    dsimp only at hst
    split at hst
    · rename_i x S0
      cases hst
      by_cases h0 : x = 0
      · subst h0
        exact lv_astoreN hx hb hd HL.has hn rfl (fun ls' hl => kk ls' (HL.set (v := .ref 0) rfl hl))
      · rw [List.map_cons, mm_rv_s h0]
        exact lv_astore hx hb hd HL.has hn rfl (fun ls' hl => kk ls' (HL.set (v := .ref x) (mm_rv_cat B ra x) (by rw [mm_rv_s h0]; exact hl)))
    · cases hst
  case astore_n k =>
    have hd : decode M.2.1 pc = .ok (.astore_n k, 1) := mm_dec he rfl
    have hn : k.val < M.2.2.1 := by simpa [mm_lk] using hlk
    unfold mm_st at hst
    dsimp only at hst
    split at hst
    · rename_i x S0
      cases hst
      by_cases h0 : x = 0
      · subst h0
        exact lv_astore_nN hx hb hd rfl HL.has hn rfl (fun ls' hl => kk ls' (HL.set (v := .ref 0) rfl hl))
      · rw [List.map_cons, mm_rv_s h0]
        exact lv_astore_n hx hb hd rfl HL.has hn rfl (fun ls' hl => kk ls' (HL.set (v := .ref x) (mm_rv_cat B ra x) (by rw [mm_rv_s h0]; exact hl)))
    · cases hst
  case iinc k n =>
    have hd : decode M.2.1 pc = .ok (.iinc k n, 3) := mm_dec he rfl
    have hn : k < M.2.2.1 := by simpa [mm_lk] using hlk
    unfold mm_st at hst
    dsimp only at hst
    split at hst
    · rename_i x hk
      cases hst
      obtain ⟨j, hj⟩ := List.getElem?_of_mem (mm_ll_mem (B := B) (ra := ra) (q := (k, .int x)).mpr ⟨.int x, hk, (fun q => by cases q), rfl⟩)
      exact lv_iinc hx hb hd HL.has hj rfl hn rfl (fun ls' hl => kk ls' (HL.set (v := .int _) rfl hl))
    · cases hst
  case iconst n =>
    have hd : decode M.2.1 pc = .ok (.iconst n, 1) := mm_dec he rfl
    cases hst
    exact lv_iconst hx hb hd rfl (kk ls HL)
  case bipush n =>
    have hd : decode M.2.1 pc = .ok (.bipush n, 2) := mm_dec he rfl
    cases hst
    exact lv_bipush hx hb hd rfl (kk ls HL)
  case sipush n =>
    have hd : decode M.2.1 pc = .ok (.sipush n, 3) := mm_dec he rfl
    cases hst
    exact lv_sipush hx hb hd rfl (kk ls HL)
  case aconst_null =>
    have hd : decode M.2.1 pc = .ok (.aconst_null, 1) := mm_dec he rfl
    cases hst
    exact lv_null hx hb hd (kk ls HL)
  case dup =>
    have hd : decode M.2.1 pc = .ok (.dup, 1) := mm_dec he rfl
    unfold mm_st at hst
    dsimp only at hst
    split at hst
    · cases hst
      exact lv_dup hx hb hd rfl (kk ls HL)
    · cases hst
      exact lv_dup hx hb hd (mm_rv_cat B ra _) (kk ls HL)
    · cases hst
  case dup2 =>
    have hd : decode M.2.1 pc = .ok (.dup2, 1) := mm_dec he rfl
    unfold mm_st at hst
    dsimp only at hst
    split at hst
    · cases hst
      exact lv_dup2_11 hx hb hd rfl (mm_rv_cat B ra _) (kk ls HL)
    · cases hst
  case pop =>
    have hd : decode M.2.1 pc = .ok (.pop, 1) := mm_dec he rfl
    unfold mm_st at hst
    dsimp only at hst
    split at hst
    · cases hst
      exact lv_pop (va := .int _) hx hb hd rfl (kk ls HL)
    · cases hst
      exact lv_pop hx hb hd (mm_rv_cat B ra _) (kk ls HL)
    · cases hst
  case iadd =>
    have hd : decode M.2.1 pc = .ok (.iadd, 1) := mm_dec he rfl
    unfold mm_st at hst
    dsimp only at hst
    split at hst
    · cases hst
      exact lv_iadd hx hb hd (kk ls HL)
    · cases hst
  case isub =>
    have hd : decode M.2.1 pc = .ok (.isub, 1) := mm_dec he rfl
    unfold mm_st at hst
    dsimp only at hst
    split at hst
    · cases hst
      exact lv_isub hx hb hd (kk ls HL)
    · cases hst
  case imul =>
    have hd : decode M.2.1 pc = .ok (.imul, 1) := mm_dec he rfl
    unfold mm_st at hst
    dsimp only at hst
    split at hst
    · cases hst
      exact lv_imul hx hb hd (kk ls HL)
    · cases hst
  case iand =>
    have hd : decode M.2.1 pc = .ok (.iand, 1) := mm_dec he rfl
    unfold mm_st at hst
    dsimp only at hst
    split at hst
    · cases hst
      exact lv_iand hx hb hd (kk ls HL)
    · cases hst
  case ior =>
    have hd : decode M.2.1 pc = .ok (.ior, 1) := mm_dec he rfl
    unfold mm_st at hst
    dsimp only at hst
    split at hst
    · cases hst
      exact lv_ior hx hb hd (kk ls HL)
    · cases hst
  case ixor =>
    have hd : decode M.2.1 pc = .ok (.ixor, 1) := mm_dec he rfl
    unfold mm_st at hst
    dsimp only at hst
    split at hst
    · cases hst
      exact lv_ixor hx hb hd (kk ls HL)
    · cases hst
  case ishl =>
    have hd : decode M.2.1 pc = .ok (.ishl, 1) := mm_dec he rfl
    unfold mm_st at hst
    dsimp only at hst
    split at hst
    · cases hst
      exact lv_ishl hx hb hd (kk ls HL)
    · cases hst
  case ishr =>
    have hd : decode M.2.1 pc = .ok (.ishr, 1) := mm_dec he rfl
    unfold mm_st at hst
    dsimp only at hst
    split at hst
    · cases hst
      exact lv_ishr hx hb hd (kk ls HL)
    · cases hst
end SIM
