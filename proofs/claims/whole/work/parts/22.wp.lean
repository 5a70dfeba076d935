/-- a stretch of a method's code -/
def mm_sf (M : mm_M) (es : List mm_I) : Prop := mm_lay es = true ∧ ∀ e ∈ es, mm_at M e.1 = some e.2 ∧ (mm_ln e.2.2.2 = 0 ∨ mm_ln e.2.2.2 = e.2.1)
theorem mm_sf_tail {M : mm_M} {e : mm_I} {es : List mm_I} (h : mm_sf M (e :: es)) : mm_sf M es := ⟨mm_lay_tail h.1, fun x hx => h.2 x (List.mem_cons_of_mem _ hx)⟩
def mm_pc (es : List mm_I) : Nat := match es with
  | [] => 0
  | e :: _ => e.1
/-- what goes on behind an instruction -/
def mm_on (ro : mm_Ro) (d : Nat) (M : mm_M) (Q : Value → mm_H → Prop) (sp : Nat) (es : List mm_I) (L S : List Value) (h : mm_H) : Prop := bif mm_isp sp es then mm_go ro d M sp L S h Q else mm_wp ro d M Q sp es L S h
theorem mm_nx {ro : mm_Ro} {d : Nat} {M : mm_M} {Q : Value → mm_H → Prop} {sp pc len idx n : Nat} {i : Instr} {es : List mm_I} {L S : List Value} {h : mm_H} (hf : mm_sf M ((pc, len, idx, i) :: es)) (hn : mm_ln i = n + 1) (hw : mm_on ro d M Q sp es L S h) : mm_pc es = pc + (n + 1) := by
  cases es with
  | nil => exact False.elim hw
  | cons b es =>
    have h1 := hf.1
    rw [mm_lay, Bool.and_eq_true, Bool.and_eq_true] at h1
    have h2 : b.1 = pc + len := of_decide_eq_true h1.1.2
    have h3 := (hf.2 (pc, len, idx, i) List.mem_cons_self).2
    have h4 : len = n + 1 := by
      rcases h3 with h3 | h3
      · have : mm_ln i = 0 := h3
        omega
      · have : mm_ln i = len := h3
        omega
    show b.1 = _
    rw [h2, h4]
theorem mm_on_go {ro : mm_Ro} {d : Nat} {M : mm_M} {Q : Value → mm_H → Prop} {sp : Nat} {es : List mm_I} {L S : List Value} {h : mm_H} (ih : mm_wp ro d M Q sp es L S h → mm_go ro d M (mm_pc es) L S h Q) (hw : mm_on ro d M Q sp es L S h) : mm_go ro d M (mm_pc es) L S h Q := by
  unfold mm_on at hw
  cases hi : mm_isp sp es with
  | false => rw [hi] at hw; exact ih hw
  | true =>
    rw [hi] at hw
    cases es with
    | nil => cases hi
    | cons b es =>
      have : b.1 = sp := Nat.eq_of_beq_eq_true hi
      show mm_go ro d M b.1 L S h Q
      rw [this]
      exact hw
theorem mm_vin {x : Int32} {lo hi : Int} {offs : List Int} (h1 : ¬ (x.toInt < lo ∨ hi < x.toInt)) (h2 : (hi - lo + 1).toNat ≤ offs.length) : ∃ o, offs[(x.toInt - lo).toNat]? = some o := by
  have : (x.toInt - lo).toNat < offs.length := by omega
  exact ⟨offs[(x.toInt - lo).toNat], List.getElem?_eq_getElem this⟩
theorem mm_st_mm {ro : mm_Ro} {z pc : Nat} {L S0 : List Value} {h : mm_H} {y x : Int32} (hne : ∀ (b : Addr) (sp : Int32) (a : Addr) (S : List Value), S0 = Value.ref b :: Value.int sp :: Value.ref a :: S → False) : mm_st ro (.invokestatic z) pc L (.int y :: .int x :: S0) h = (if z = 1002 ∧ S0.length ≤ 8 then some (pc + 3, L, .int (if x < y then y else x) :: S0, h) else if z = 1003 ∧ S0.length ≤ 8 then some (pc + 3, L, .int (if y < x then y else x) :: S0, h) else none) := by
  cases S0 with
  | nil => rfl
  | cons v1 S1 =>
    cases v1 <;> first | rfl | skip
    cases S1 with
    | nil => rfl
    | cons v2 S2 =>
      cases v2 <;> first | rfl | skip
      cases S2 with
      | nil => rfl
      | cons v3 S3 =>
        cases v3 <;> first | rfl | exact (hne _ _ _ _ rfl).elim
set_option maxHeartbeats 4000000 in
theorem mm_wp_ok {ro : mm_Ro} {d : Nat} {M : mm_M} {Q : Value → mm_H → Prop} {sp : Nat} : ∀ (es : List mm_I) (L S : List Value) (h : mm_H), mm_sf M es → mm_wp ro d M Q sp es L S h → mm_go ro d M (mm_pc es) L S h Q := by
  intro es
  induction es with
  | nil => intro L S h _ hw; exact hw.elim
  | cons e es ih =>
    obtain ⟨pc, len, idx, i⟩ := e
    intro L S h hf hw
    have ht := mm_sf_tail hf
    have hat : mm_at M pc = some (len, idx, i) := (hf.2 (pc, len, idx, i) List.mem_cons_self).1
    have st : ∀ {n : Nat} {L' S' : List Value} {h' : mm_H}, mm_rt M.2.2.2.1 i S = none → mm_ca i = none → mm_ln i = n + 1 → mm_on ro d M Q sp es L' S' h' → mm_st ro i pc L S h = some (pc + (n + 1), L', S', h') → mm_go ro d M pc L S h Q := by
      intro n L' S' h' r1 r2 r3 r4 r5
      refine mm_go_st hat r1 r2 r5 ?_
      rw [← mm_nx hf r3 r4]
      exact mm_on_go (ih _ _ _ ht) r4
    have jp : ∀ {pc' : Nat} {L' S' : List Value} {h' : mm_H}, mm_rt M.2.2.2.1 i S = none → mm_ca i = none → mm_go ro d M pc' L' S' h' Q → mm_st ro i pc L S h = some (pc', L', S', h') → mm_go ro d M pc L S h Q := fun r1 r2 r4 r5 => mm_go_st hat r1 r2 r5 r4
    have cl : ∀ {z : Nat} {Z : mm_M} {As S0 : List Value}, mm_rt M.2.2.2.1 i S = none → mm_ca i = some z → mm_ln i = 3 → mm_ms[z]? = some Z → mm_tk (mm_na' Z) S [] = some (As, S0) → mm_okr 8 S0 = true → mm_rcp Z h As → mm_ev ro d z As h (fun r h1 => mm_on ro d M Q sp es L (match Z.2.2.2.1 with | none => S0 | some _ => r :: S0) h1) → mm_go ro d M pc L S h Q := by
      intro z Z As S0 r1 r2 r3 r4 r5 r6 r7 r8
      obtain ⟨Bs, q1, q2, q3⟩ := mm_tk_ok _ _ _ _ _ r5
      rw [List.append_nil] at q2
      subst q2
      have q4 := mm_okr_ok _ _ r6
      refine mm_go_call hat r1 r2 r4 q1 q3 q4.1 q4.2 (mm_rcp_ok r7) (mm_ev_mono r8 (fun r h1 hw1 => ?_))
      have e1 := mm_nx (n := 2) hf r3 hw1
      have e2 : (if Z.2.2.2.1 = none then S0 else r :: S0) = (match Z.2.2.2.1 with | none => S0 | some _ => r :: S0) := by
        cases Z.2.2.2.1 <;> rfl
      rw [e2, ← e1]
      exact mm_on_go (ih _ _ _ ht) hw1
    show mm_go ro d M pc L S h Q
    cases i
    case goto off => exact jp rfl rfl hw rfl
    case ifCond c off =>
      unfold mm_wp at hw
      dsimp only at hw
      split at hw
      · rename_i x S0
        by_cases hc : mm_cp c x 0
        · exact jp rfl rfl (hw.1 hc) (by show some ((if mm_cc c x 0 = true then _ else _), _) = _; rw [if_pos (mm_cp_iff.mpr hc)])
        · exact st rfl rfl (n := 2) rfl (hw.2 hc) (by show some ((if mm_cc c x 0 = true then _ else _), _) = _; rw [if_neg (fun z => hc (mm_cp_iff.mp z))])
      · exact hw.elim
    case if_icmp c off =>
      unfold mm_wp at hw
      dsimp only at hw
      split at hw
      · rename_i y x S0
        by_cases hc : mm_cp c x y
        · exact jp rfl rfl (hw.1 hc) (by show some ((if mm_cc c x y = true then _ else _), _) = _; rw [if_pos (mm_cp_iff.mpr hc)])
        · exact st rfl rfl (n := 2) rfl (hw.2 hc) (by show some ((if mm_cc c x y = true then _ else _), _) = _; rw [if_neg (fun z => hc (mm_cp_iff.mp z))])
      · exact hw.elim
    case ifnull off =>
      unfold mm_wp at hw
      dsimp only at hw
      split at hw
      · rename_i x S0
        by_cases hc : x = 0
        · exact jp rfl rfl (hw.1 hc) (by show some ((if x = 0 then _ else _), _) = _; rw [if_pos hc])
        · exact st rfl rfl (n := 2) rfl (hw.2 hc) (by show some ((if x = 0 then _ else _), _) = _; rw [if_neg hc])
      · exact hw.elim
    case ifnonnull off =>
      unfold mm_wp at hw
      dsimp only at hw
      split at hw
      · rename_i x S0
        by_cases hc : x = 0
        · exact st rfl rfl (n := 2) rfl (hw.2 hc) (by show some ((if x = 0 then _ else _), _) = _; rw [if_pos hc])
        · exact jp rfl rfl (hw.1 hc) (by show some ((if x = 0 then _ else _), _) = _; rw [if_neg hc])
      · exact hw.elim
    case tableswitch df lo hi offs =>
      unfold mm_wp at hw
      dsimp only at hw
      split at hw
      · rename_i x S0
        by_cases hc : x.toInt < lo ∨ hi < x.toInt
        · exact jp rfl rfl (hw.1 hc) (by show (if _ then _ else _) = _; rw [if_pos hc])
        · obtain ⟨o, ho⟩ := mm_vin hc hw.2.1
          have hp := mm_tsw_ok _ _ hw.2.2 _ o ho (by omega)
          refine jp rfl rfl hp ?_
          show (if _ then _ else _) = _
          rw [if_neg hc, ← Array.getElem?_toList, ho]
      · exact hw.elim
    case lookupswitch df ps =>
      unfold mm_wp at hw
      dsimp only at hw
      split at hw
      · exact jp rfl rfl (mm_lsw_ok _ hw) rfl
      · exact hw.elim
    case invokevirtual z =>
      unfold mm_wp at hw
      dsimp only at hw
      split at hw
      · split at hw
        · rename_i h1 _ As S0 h2
          exact cl rfl rfl rfl h1 h2 hw.1.1 hw.1.2 hw.2
        · exact hw.elim
      · exact hw.elim
    case invokespecial z =>
      unfold mm_wp at hw
      dsimp only at hw
      split at hw
      · rename_i hz
        have hz := of_decide_eq_true hz
        split at hw
        · split at hw
          · rename_i h1 _ As S0 h2
            exact cl rfl (by show (if z < 1000 then some z else none) = _; rw [if_pos hz]) rfl h1 h2 hw.1.1 hw.1.2 hw.2
          · exact hw.elim
        · exact hw.elim
      · rename_i hz
        have hz := of_decide_eq_false hz
        split at hw
        · exact st rfl (by show (if z < 1000 then some z else none) = _; rw [if_neg hz]) (n := 2) rfl hw.2 (by show (if _ then _ else _) = _; rw [if_pos hw.1])
        · exact hw.elim
    case invokestatic z =>
      unfold mm_wp at hw
      dsimp only at hw
      split at hw
      · rename_i hz
        have hz := of_decide_eq_true hz
        split at hw
        · split at hw
          · rename_i h1 _ As S0 h2
            exact cl rfl (by show (if z < 1000 then some z else none) = _; rw [if_pos hz]) rfl h1 h2 hw.1.1 hw.1.2 hw.2
          · exact hw.elim
        · exact hw.elim
      · rename_i hz
        have hz := of_decide_eq_false hz
        have hcn : mm_ca (.invokestatic z) = none := by show (if z < 1000 then some z else none) = _; rw [if_neg hz]
        split at hw
        · exact st rfl hcn (n := 2) rfl hw.2 (by show (if _ then _ else _) = _; rw [if_pos hw.1])
        · rename_i y x S0 hne
          obtain ⟨hw1, hw2⟩ := hw
          split at hw2
          · refine st rfl hcn (n := 2) rfl hw2 ?_
            rw [mm_st_mm hne, if_pos ⟨rfl, hw1⟩]
          · refine st rfl hcn (n := 2) rfl hw2 ?_
            rw [mm_st_mm hne, if_neg (fun z => by cases z.1), if_pos ⟨rfl, hw1⟩]
          · exact hw2.elim
        · exact hw.elim
    case ireturn =>
      unfold mm_wp at hw
      dsimp only at hw
      split at hw
      · split at hw
        · rename_i hr
          exact mm_go_ret hat (by show (if _ then _ else _) = _; rw [if_pos (Or.inl hr)]) hw
        · rename_i hr
          exact mm_go_ret hat (by show (if _ then _ else _) = _; rw [if_pos (Or.inr ⟨hr, hw.1⟩)]) hw.2
        · exact hw.elim
      · exact hw.elim
    case areturn =>
      unfold mm_wp at hw
      dsimp only at hw
      split at hw
      · split at hw
        · rename_i hr
          exact mm_go_ret hat (by show (if _ then _ else _) = _; rw [hr, if_neg (fun z => by rcases z with z | z | z <;> cases z)]) hw
        · exact hw.elim
      · exact hw.elim
    case return_ =>
      unfold mm_wp at hw
      dsimp only at hw
      split at hw
      · split at hw
        · rename_i hr
          exact mm_go_ret hat (by show (if _ then _ else _) = _; rw [if_pos hr]) hw
        · exact hw.elim
      · exact hw.elim
    case putfield f =>
      unfold mm_wp at hw
      dsimp only at hw
      split at hw
      · split at hw
        · rename_i hk
          exact st rfl rfl (n := 2) rfl hw.2 (by show (if _ then _ else _) = _; rw [if_pos ⟨hw.1, Or.inl hk⟩])
        · rename_i hk
          exact st rfl rfl (n := 2) rfl hw.2.2 (by show (if _ then _ else _) = _; rw [if_pos ⟨hw.1, Or.inr ⟨hk, hw.2.1⟩⟩])
        · exact hw.elim
      · split at hw
        · rename_i hk
          exact st rfl rfl (n := 2) rfl hw.2 (by show (if _ then _ else _) = _; rw [if_pos ⟨hw.1, hk⟩])
        · exact hw.elim
      · exact hw.elim
    case new c =>
      unfold mm_wp at hw
      exact st rfl rfl (n := 2) rfl hw.2 (by show (if _ then _ else _) = _; rw [if_pos hw.1])
    case getstatic k => exact st rfl rfl (n := 2) rfl hw rfl
    case newarray t =>
      unfold mm_wp at hw
      dsimp only at hw
      split at hw
      · exact st rfl rfl (n := 1) rfl hw.2 (by show (if _ then _ else _) = _; rw [if_pos hw.1])
      · exact hw.elim
    case anewarray t =>
      unfold mm_wp at hw
      dsimp only at hw
      split at hw
      · exact st rfl rfl (n := 2) rfl hw.2 (by show (if _ then _ else _) = _; rw [if_pos hw.1])
      · exact hw.elim
    case iload k =>
      unfold mm_wp at hw
      dsimp only at hw
      split at hw
      · rename_i hk
        exact st rfl rfl (n := 1) rfl hw (by unfold mm_st; dsimp only; rw [hk])
      · exact hw.elim
    case iload_n k =>
      unfold mm_wp at hw
      dsimp only at hw
      split at hw
      · rename_i hk
        exact st rfl rfl (n := 0) rfl hw (by unfold mm_st; dsimp only; rw [hk])
      · exact hw.elim
    case aload k =>
      unfold mm_wp at hw
      dsimp only at hw
      split at hw
      · rename_i hk
        exact st rfl rfl (n := 1) rfl hw (by unfold mm_st; dsimp only; rw [hk])
      · rename_i hk
        exact st rfl rfl (n := 1) rfl hw (by unfold mm_st; dsimp only; rw [hk])
      · exact hw.elim
    case aload_n k =>
      unfold mm_wp at hw
      dsimp only at hw
      split at hw
      · rename_i hk
        exact st rfl rfl (n := 0) rfl hw (by unfold mm_st; dsimp only; rw [hk])
      · rename_i hk
        exact st rfl rfl (n := 0) rfl hw (by unfold mm_st; dsimp only; rw [hk])
      · exact hw.elim
    case iinc k n =>
      unfold mm_wp at hw
      dsimp only at hw
      split at hw
      · rename_i hk
        exact st rfl rfl (n := 2) rfl hw (by unfold mm_st; dsimp only; rw [hk])
      · exact hw.elim
    case istore k =>
      unfold mm_wp at hw
      dsimp only at hw
      split at hw
      · exact st rfl rfl (n := 1) rfl hw rfl
      · exact hw.elim
    case istore_n k =>
      unfold mm_wp at hw
      dsimp only at hw
      split at hw
      · exact st rfl rfl (n := 0) rfl hw rfl
      · exact hw.elim
    case astore k =>
      unfold mm_wp at hw
      dsimp only at hw
      split at hw
      · exact st rfl rfl (n := 1) rfl hw rfl
      · exact hw.elim
    case astore_n k =>
      unfold mm_wp at hw
      dsimp only at hw
      split at hw
      · exact st rfl rfl (n := 0) rfl hw rfl
      · exact hw.elim
    case iadd =>
      unfold mm_wp at hw
      dsimp only at hw
      split at hw
      · exact st rfl rfl (n := 0) rfl hw rfl
      · exact hw.elim
    case isub =>
      unfold mm_wp at hw
      dsimp only at hw
      split at hw
      · exact st rfl rfl (n := 0) rfl hw rfl
      · exact hw.elim
    case imul =>
      unfold mm_wp at hw
      dsimp only at hw
      split at hw
      · exact st rfl rfl (n := 0) rfl hw rfl
      · exact hw.elim
    case iand =>
      unfold mm_wp at hw
      dsimp only at hw
      split at hw
      · exact st rfl rfl (n := 0) rfl hw rfl
      · exact hw.elim
    case ior =>
      unfold mm_wp at hw
      dsimp only at hw
      split at hw
      · exact st rfl rfl (n := 0) rfl hw rfl
      · exact hw.elim
    case ixor =>
      unfold mm_wp at hw
      dsimp only at hw
      split at hw
      · exact st rfl rfl (n := 0) rfl hw rfl
      · exact hw.elim
    case ishl =>
      unfold mm_wp at hw
      dsimp only at hw
      split at hw
      · exact st rfl rfl (n := 0) rfl hw rfl
      · exact hw.elim
    case ishr =>
      unfold mm_wp at hw
      dsimp only at hw
      split at hw
      · exact st rfl rfl (n := 0) rfl hw rfl
      · exact hw.elim
    case dup2 =>
      unfold mm_wp at hw
      dsimp only at hw
      split at hw
      · exact st rfl rfl (n := 0) rfl hw rfl
      · exact hw.elim
    case dup =>
      unfold mm_wp at hw
      dsimp only at hw
      split at hw
      · exact st rfl rfl (n := 0) rfl hw rfl
      · exact st rfl rfl (n := 0) rfl hw rfl
      · exact hw.elim
    case pop =>
      unfold mm_wp at hw
      dsimp only at hw
      split at hw
      · exact st rfl rfl (n := 0) rfl hw rfl
      · exact st rfl rfl (n := 0) rfl hw rfl
      · exact hw.elim
    case iconst n => exact st rfl rfl (n := 0) rfl hw rfl
    case bipush n => exact st rfl rfl (n := 1) rfl hw rfl
    case sipush n => exact st rfl rfl (n := 2) rfl hw rfl
    case aconst_null => exact st rfl rfl (n := 0) rfl hw rfl
    case getfield f =>
      unfold mm_wp at hw
      dsimp only at hw
      split at hw
      · split at hw
        · rename_i hk
          exact st rfl rfl (n := 2) rfl (hw.2 _ rfl) (by show (if _ then _ else _) = _; rw [if_pos hw.1]; unfold mm_gv; rw [if_pos hk])
        · rename_i hk
          exact st rfl rfl (n := 2) rfl (hw.2 _ rfl) (by show (if _ then _ else _) = _; rw [if_pos hw.1]; unfold mm_gv; rw [if_neg hk])
      · exact hw.elim
    case iaload =>
      unfold mm_wp at hw
      dsimp only at hw
      split at hw
      · exact st rfl rfl (n := 0) rfl (hw.2 _ rfl) (by show (if _ then _ else _) = _; rw [if_pos hw.1])
      · exact st rfl rfl (n := 0) rfl (hw.2 _ rfl) (by show (if _ then _ else _) = _; rw [if_pos hw.1])
      · exact hw.elim
    case baload =>
      unfold mm_wp at hw
      dsimp only at hw
      split at hw
      · exact st rfl rfl (n := 0) rfl (hw.2 _ rfl) (by show (if _ then _ else _) = _; rw [if_pos hw.1])
      · exact hw.elim
    case aaload =>
      unfold mm_wp at hw
      dsimp only at hw
      split at hw
      · exact st rfl rfl (n := 0) rfl (hw.2 _ rfl) (by show (if _ then _ else _) = _; rw [if_pos hw.1])
      · exact hw.elim
    case iastore =>
      unfold mm_wp at hw
      dsimp only at hw
      split at hw
      · exact st rfl rfl (n := 0) rfl hw.2 (by show (if _ then _ else _) = _; rw [if_pos hw.1])
      · exact hw.elim
    case bastore =>
      unfold mm_wp at hw
      dsimp only at hw
      split at hw
      · exact st rfl rfl (n := 0) rfl hw.2 (by show (if _ then _ else _) = _; rw [if_pos hw.1])
      · exact hw.elim
    case aastore =>
      unfold mm_wp at hw
      dsimp only at hw
      split at hw
      · exact st rfl rfl (n := 0) rfl hw.2 (by show (if _ then _ else _) = _; rw [if_pos hw.1])
      · exact hw.elim
    case arraylength =>
      unfold mm_wp at hw
      dsimp only at hw
      split at hw
      · exact st rfl rfl (n := 0) rfl hw.2 (by show (if _ then _ else _) = _; rw [if_pos hw.1])
      · exact st rfl rfl (n := 0) rfl hw rfl
      · exact hw.elim
    all_goals exact hw.elim
theorem mm_at_code {M : mm_M} (hM : mm_okM M) {e : mm_I} (he : e ∈ M.2.2.2.2.2.2) : mm_at M e.1 = some e.2 := by
  unfold mm_at
  rw [mm_lay_find hM.1 e he]
  rfl
def mm_from (M : mm_M) (pc : Nat) : List mm_I := M.2.2.2.2.2.2.dropWhile (fun e => !(e.1 == pc))
theorem mm_lay_drop {f : mm_I → Bool} : ∀ {l : List mm_I}, mm_lay l = true → mm_lay (l.dropWhile f) = true := by
  intro l
  induction l with
  | nil => intro _; rfl
  | cons a l ih =>
    intro h
    rw [List.dropWhile_cons]
    split
    · exact ih (mm_lay_tail h)
    · exact h
theorem mm_go_at {ro : mm_Ro} {d : Nat} {M : mm_M} {Q : Value → mm_H → Prop} {pc : Nat} {L S : List Value} {h : mm_H} (sp : Nat) (hM : mm_okM M) (hw : mm_wp ro d M Q sp (mm_from M pc) L S h) : mm_go ro d M pc L S h Q := by
  have h1 : mm_sf M (mm_from M pc) := ⟨mm_lay_drop hM.1, fun e he => ⟨mm_at_code hM ((List.dropWhile_sublist _).subset he), hM.2 e ((List.dropWhile_sublist _).subset he)⟩⟩
  have h2 := mm_wp_ok _ _ _ _ h1 hw
  have h3 : mm_pc (mm_from M pc) = pc := by
    cases hf : mm_from M pc with
    | nil => rw [hf] at hw; exact hw.elim
    | cons e es =>
      show e.1 = pc
      have hne : mm_from M pc ≠ [] := by rw [hf]; exact fun z => by cases z
      have := List.head_dropWhile_not (fun e : mm_I => !(e.1 == pc)) (l := M.2.2.2.2.2.2) hne
      have e1 : (mm_from M pc).head hne = e := by simp [hf]
      have e2 : (!(((mm_from M pc).head hne).1 == pc)) = false := this
      rw [e1] at e2
      simpa using e2
  rw [h3] at h2
  exact h2
theorem mm_go_from {ro : mm_Ro} {d : Nat} {M : mm_M} {Q : Value → mm_H → Prop} {pc : Nat} {L S : List Value} {h : mm_H} (hM : mm_okM M) (hw : mm_wp ro d M Q 99999 (mm_from M pc) L S h) : mm_go ro d M pc L S h Q := mm_go_at 99999 hM hw
theorem mm_ev_at {ro : mm_Ro} {d z : Nat} {Z : mm_M} {As : List Value} {h : mm_H} {Q : Value → mm_H → Prop} (sp : Nat) (hZ : mm_ms[z]? = some Z) (hn : As.length = mm_na' Z) (hl : As.length ≤ Z.2.2.1) (hc : As.all mm_c1 = true) (hw : mm_wp ro d Z Q sp (mm_from Z 0) (As ++ List.replicate (Z.2.2.1 - As.length) .null) [] h) : mm_ev ro (d + 1) z As h Q := mm_ev_of hZ hn hl hc (mm_go_at sp (mm_hM z hZ) hw)
theorem mm_ev_in {ro : mm_Ro} {d z : Nat} {Z : mm_M} {As : List Value} {h : mm_H} {Q : Value → mm_H → Prop} (hZ : mm_ms[z]? = some Z) (hn : As.length = mm_na' Z) (hl : As.length ≤ Z.2.2.1) (hc : As.all mm_c1 = true) (hw : mm_wp ro d Z Q 99999 (mm_from Z 0) (As ++ List.replicate (Z.2.2.1 - As.length) .null) [] h) : mm_ev ro (d + 1) z As h Q := mm_ev_at 99999 hZ hn hl hc hw
theorem mm_rf {α : Type} {P : α → Prop} {v b : α} (e : v = b) (h : P b) : ∀ x, x = v → P x := fun x hx => by rw [hx, e]; exact h
theorem mm_inb {x : Int32} {n : Nat} (N : Nat) (e : n = N) (h : 0 ≤ x.toInt ∧ x.toInt < (N : Int)) : mm_in x n := by rw [e]; exact h
theorem mm_qq {Q : Value → mm_H → Prop} {v v' : Value} {h h' : mm_H} (hQ : Q v h) (e1 : v' = v) (e2 : h' = h) : Q v' h' := by rw [e1, e2]; exact hQ
