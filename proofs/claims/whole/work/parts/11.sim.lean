def mm_isj (i : Instr) : Bool := match i with
  | .goto _ | .ifCond _ _ | .if_icmp _ _ | .ifnull _ | .ifnonnull _ | .tableswitch _ _ _ _ | .lookupswitch _ _ => true
  | _ => false
section SIM
variable {p : Program} {l : Launch} {e : Env} {R : Room} {s : State} {m : MethodId} {args : Array Value} {below : List Frame} {meth : Method} {c : Code} {H : Heap} {locs : List Loc} {cells slots : Nat} {Q : State → Prop} {M : mm_M} {B : Nat} {ra : Nat → Nat} {ro : mm_Ro} {D : va_G} {cA : Nat → ClassId} {t0 : Nat} {pc pc' len idx : Nat} {i : Instr} {L L' S S' : List Value} {h h' : mm_H} {ls : Array Slot}
/-- the jumps -/
theorem mm_simj (X : mm_X p s m args meth c M B ra ro D cA t0) (he : mm_ok1 M (pc, len, idx, i) = true) (hst : mm_st ro i pc L S h = some (pc', L', S', h)) (hi : mm_isj i = true) (HL : mm_L B ra M.2.2.1 ls L)
    (kk : ∀ ls', mm_L B ra M.2.2.1 ls' L' → W p l e R s m args below meth c H locs cells slots Q (F0 m pc' ls' (S'.map (mm_rv B ra)))) : W p l e R s m args below meth c H locs cells slots Q (F0 m pc ls (S.map (mm_rv B ra))) := by
  obtain ⟨hx, hb, -⟩ := X
  have hlk := mm_lkd he
  cases i <;> first | (cases hi; done) | skip
  case goto off =>
    have hd : decode M.2.1 pc = .ok (.goto off, 3) := mm_dec he rfl
    have ho : 0 ≤ (pc : Int) + off := by simpa [mm_lk] using hlk
    cases hst
    exact lv_goto hx hb hd (mm_tg_ok ho) (kk ls HL)
  case ifCond cd off =>
    have hd : decode M.2.1 pc = .ok (.ifCond cd off, 3) := mm_dec he rfl
    have ho : 0 ≤ (pc : Int) + off := by simpa [mm_lk] using hlk
    unfold mm_st at hst
    dsimp only at hst
    split at hst
    · rename_i x S0
      cases hst
      have k2 := kk ls HL
      cases cd
      · exact lv_if_eq hx hb hd (mm_tg_ok ho) (fun q => by rw [if_pos (show mm_cc .eq x 0 = true from decide_eq_true q)] at k2; exact k2) (fun q => by rw [if_neg (show ¬ mm_cc .eq x 0 = true from fun z => q (of_decide_eq_true z))] at k2; exact k2)
      · exact lv_if_ne hx hb hd (mm_tg_ok ho) (fun q => by rw [if_pos (show mm_cc .ne x 0 = true from decide_eq_true q)] at k2; exact k2) (fun q => by rw [if_neg (show ¬ mm_cc .ne x 0 = true from fun z => of_decide_eq_true z q)] at k2; exact k2)
      · exact lv_if_lt hx hb hd (mm_tg_ok ho) (fun q => by rw [if_pos (show mm_cc .lt x 0 = true from decide_eq_true q)] at k2; exact k2) (fun q => by rw [if_neg (show ¬ mm_cc .lt x 0 = true from fun z => q (of_decide_eq_true z))] at k2; exact k2)
      · exact lv_if_ge hx hb hd (mm_tg_ok ho) (fun q => by rw [if_pos (show mm_cc .ge x 0 = true from decide_eq_true q)] at k2; exact k2) (fun q => by rw [if_neg (show ¬ mm_cc .ge x 0 = true from fun z => q (of_decide_eq_true z))] at k2; exact k2)
      · exact lv_if_gt hx hb hd (mm_tg_ok ho) (fun q => by rw [if_pos (show mm_cc .gt x 0 = true from decide_eq_true q)] at k2; exact k2) (fun q => by rw [if_neg (show ¬ mm_cc .gt x 0 = true from fun z => q (of_decide_eq_true z))] at k2; exact k2)
      · exact lv_if_le hx hb hd (mm_tg_ok ho) (fun q => by rw [if_pos (show mm_cc .le x 0 = true from decide_eq_true q)] at k2; exact k2) (fun q => by rw [if_neg (show ¬ mm_cc .le x 0 = true from fun z => q (of_decide_eq_true z))] at k2; exact k2)
    · cases hst
  case if_icmp cd off =>
    have hd : decode M.2.1 pc = .ok (.if_icmp cd off, 3) := mm_dec he rfl
    have ho : 0 ≤ (pc : Int) + off := by simpa [mm_lk] using hlk
    unfold mm_st at hst
    dsimp only at hst
    split at hst
    · rename_i y x S0
      cases hst
      have k2 := kk ls HL
      cases cd
      · exact lv_icmp_eq hx hb hd (mm_tg_ok ho) (fun q => by rw [if_pos (show mm_cc .eq x y = true from decide_eq_true q)] at k2; exact k2) (fun q => by rw [if_neg (show ¬ mm_cc .eq x y = true from fun z => q (of_decide_eq_true z))] at k2; exact k2)
      · exact lv_icmp_ne hx hb hd (mm_tg_ok ho) (fun q => by rw [if_pos (show mm_cc .ne x y = true from decide_eq_true q)] at k2; exact k2) (fun q => by rw [if_neg (show ¬ mm_cc .ne x y = true from fun z => of_decide_eq_true z q)] at k2; exact k2)
      · exact lv_icmp_lt hx hb hd (mm_tg_ok ho) (fun q => by rw [if_pos (show mm_cc .lt x y = true from decide_eq_true q)] at k2; exact k2) (fun q => by rw [if_neg (show ¬ mm_cc .lt x y = true from fun z => q (of_decide_eq_true z))] at k2; exact k2)
      · exact lv_icmp_ge hx hb hd (mm_tg_ok ho) (fun q => by rw [if_pos (show mm_cc .ge x y = true from decide_eq_true q)] at k2; exact k2) (fun q => by rw [if_neg (show ¬ mm_cc .ge x y = true from fun z => q (of_decide_eq_true z))] at k2; exact k2)
      · exact lv_icmp_gt hx hb hd (mm_tg_ok ho) (fun q => by rw [if_pos (show mm_cc .gt x y = true from decide_eq_true q)] at k2; exact k2) (fun q => by rw [if_neg (show ¬ mm_cc .gt x y = true from fun z => q (of_decide_eq_true z))] at k2; exact k2)
      · exact lv_icmp_le hx hb hd (mm_tg_ok ho) (fun q => by rw [if_pos (show mm_cc .le x y = true from decide_eq_true q)] at k2; exact k2) (fun q => by rw [if_neg (show ¬ mm_cc .le x y = true from fun z => q (of_decide_eq_true z))] at k2; exact k2)
    · cases hst
  case ifnull off =>
    have hd : decode M.2.1 pc = .ok (.ifnull off, 3) := mm_dec he rfl
    have ho : 0 ≤ (pc : Int) + off := by simpa [mm_lk] using hlk
    unfold mm_st at hst
    dsimp only at hst
    split at hst
    · rename_i x S0
      cases hst
      have k2 := kk ls HL
      by_cases h0 : x = 0
      · rw [if_pos h0] at k2
        subst h0
        exact lv_ifnullN hx hb hd (mm_tg_ok ho) k2
      · rw [if_neg h0] at k2
        rw [List.map_cons, mm_rv_s h0]
        exact lv_ifnull hx hb hd k2
    · cases hst
  case ifnonnull off =>
    have hd : decode M.2.1 pc = .ok (.ifnonnull off, 3) := mm_dec he rfl
    have ho : 0 ≤ (pc : Int) + off := by simpa [mm_lk] using hlk
    unfold mm_st at hst
    dsimp only at hst
    split at hst
    · rename_i x S0
      cases hst
      have k2 := kk ls HL
      by_cases h0 : x = 0
      · rw [if_pos h0] at k2
        subst h0
        exact lv_ifnonnullN hx hb hd k2
      · rw [if_neg h0] at k2
        rw [List.map_cons, mm_rv_s h0]
        exact lv_ifnonnull hx hb hd (mm_tg_ok ho) k2
    · cases hst
  case tableswitch d lo hj offs =>
    have hd : decode M.2.1 pc = .ok (.tableswitch d lo hj offs, len) := by
      simp only [mm_ok1, Bool.and_eq_true, decide_eq_true_eq] at he
      exact he.1.1
    simp only [mm_lk, Bool.and_eq_true, decide_eq_true_eq, List.all_eq_true] at hlk
    unfold mm_st at hst
    dsimp only at hst
    split at hst
    · rename_i x S0
      split at hst
      · rename_i ho
        cases hst
        exact lv_tableOut hx hb hd ho (mm_tg_ok hlk.1) (kk ls HL)
      · rename_i ho
        split at hst
        · rename_i off hoff
          cases hst
          have hm : off ∈ offs.toList := by
            rw [← Array.getElem?_toList] at hoff
            exact List.mem_of_getElem? hoff
          exact lv_tableIn hx hb hd (fun q => ho (Or.inl q)) (fun q => ho (Or.inr q)) hoff (mm_tg_ok (hlk.2 off hm)) (kk ls HL)
        · cases hst
    · cases hst
  case lookupswitch d ps =>
    have hd : decode M.2.1 pc = .ok (.lookupswitch d ps, len) := by
      simp only [mm_ok1, Bool.and_eq_true, decide_eq_true_eq] at he
      exact he.1.1
    simp only [mm_lk, Bool.and_eq_true, decide_eq_true_eq, List.all_eq_true] at hlk
    unfold mm_st at hst
    dsimp only at hst
    split at hst
    · rename_i x S0
      cases hst
      have ho : ∀ (qs : List (Int × Int)) (v : Int), (∀ o ∈ qs, 0 ≤ (pc : Int) + o.2) → 0 ≤ (pc : Int) + Op.lookupswitch.offset qs d v := by
        intro qs v
        induction qs with
        | nil => intro _; exact hlk.1.1
        | cons q qs ih =>
          intro hq
          obtain ⟨a, o⟩ := q
          unfold Op.lookupswitch.offset
          split
          · exact hq (a, o) List.mem_cons_self
          · exact ih (fun o' h' => hq o' (List.mem_cons_of_mem _ h'))
      exact lv_lookup hx hb hd (List.all_eq_true.mpr (fun q hq => by obtain ⟨a, b⟩ := q; exact decide_eq_true (hlk.2 (a, b) hq))) rfl (mm_tg_ok (ho ps.toList x.toInt (fun o h' => hlk.1.2 o h'))) (kk ls HL)
    · cases hst
end SIM
