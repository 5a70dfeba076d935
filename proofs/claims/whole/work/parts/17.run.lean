theorem mm_at_mem {M : mm_M} {pc : Nat} {x : Nat × Nat × Instr} (h : mm_at M pc = some x) : (pc, x.1, x.2.1, x.2.2) ∈ M.2.2.2.2.2.2 := by
  unfold mm_at at h
  cases hf : M.2.2.2.2.2.2.find? (fun e => e.1 == pc) with
  | none => rw [hf] at h; cases h
  | some e =>
    rw [hf] at h
    cases h
    have h1 := List.find?_some hf
    have h2 := List.mem_of_find?_eq_some hf
    have h3 : e.1 = pc := by simpa using h1
    rw [← h3]
    exact h2
theorem mm_ex_mono {ms : List mm_M} {ro : mm_Ro} {call : Nat → List Value → mm_H → Option (Value × mm_H)} {M : mm_M} (hc : ∀ z As h r h', call z As h = some (r, h') → mm_t h ≤ mm_t h' ∧ mm_s h ≤ mm_s h') : ∀ (k pc : Nat) (L S : List Value) (h : mm_H) (r : Value) (h' : mm_H), mm_ex ms ro call M k pc L S h = some (r, h') → mm_t h ≤ mm_t h' ∧ mm_s h ≤ mm_s h' := by
  intro k
  induction k with
  | zero => intro pc L S h r h' hex; cases hex
  | succ k ih =>
    intro pc L S h r h' hex
    unfold mm_ex at hex
    split at hex
    · cases hex
    · split at hex
      · cases hex; exact ⟨Nat.le_refl _, Nat.le_refl _⟩
      · split at hex
        · split at hex
          · cases hex
          · rcases mm_if hex with ⟨-, hex⟩ | ⟨-, hex⟩
            · split at hex
              · cases hex
              · rename_i r1 h1 hcall
                have e1 := hc _ _ _ _ _ hcall
                have e2 := ih _ _ _ _ _ _ hex
                omega
            · cases hex
        · split at hex
          · cases hex
          · rename_i hst
            have e1 := mm_st_mono hst
            have e2 := ih _ _ _ _ _ _ hex
            omega
theorem mm_run_mono {ms : List mm_M} {ro : mm_Ro} : ∀ (d n z : Nat) (As : List Value) (h : mm_H) (r : Value) (h' : mm_H), mm_run ms ro d n z As h = some (r, h') → mm_t h ≤ mm_t h' ∧ mm_s h ≤ mm_s h' := by
  intro d
  induction d with
  | zero => intro n z As h r h' hr; cases hr
  | succ d ih =>
    intro n z As h r h' hr
    unfold mm_run at hr
    split at hr
    · cases hr
    · rcases mm_if hr with ⟨-, hr⟩ | ⟨-, hr⟩
      · exact mm_ex_mono (fun z As h r h' q => ih n z As h r h' q) _ _ _ _ _ _ _ hr
      · cases hr
section SIM
variable {p : Program} {l : Launch} {e : Env} {R : Room} {s : State} {m : MethodId} {args : Array Value} {below : List Frame} {meth : Method} {c : Code} {Q : State → Prop} {M : mm_M} {B : Nat} {ra : Nat → Nat} {ro : mm_Ro} {D : va_G} {cA : Nat → ClassId} {t0 s0 : Nat}
theorem mm_sim_ex {d n : Nat} {r : Value} {hf : mm_H}
    (IH : ∀ (z : Nat) (As : List Value) (h : mm_H) (r : Value) (h1 : mm_H) (Z : mm_M), mm_run mm_ms ro d n z As h = some (r, h1) → mm_ms[z]? = some Z → Met l Z.1 (mm_ws Z) (mm_rm d (mm_t h1 - mm_t h) (mm_s h1 - mm_s h)) (mm_PC B ra ro D cA As h) (mm_QC B ra D cA Z.2.2.2.1 r h1) (mm_t h1 - mm_t h) (mm_s h1 - mm_s h) (fun q => B < q))
    (X : mm_X p s m args meth c M B ra ro D cA t0) (hok : ∀ x ∈ M.2.2.2.2.2.2, mm_ok1 M x = true) (hfr : d + 1 ≤ R.frames) (hlo : 39 * (d + 1) ≤ R.locals) (hcl : mm_t hf - t0 ≤ R.cells) (hsl : mm_s hf - s0 ≤ R.slots)
    (hQ : ∀ (pc len idx : Nat) (i : Instr) (ls : Array Slot) (S : List Value) (H : Heap) (locs : List Loc), (pc, len, idx, i) ∈ M.2.2.2.2.2.2 → mm_rt M.2.2.2.1 i S = some r → mm_J B cA D hf s H locs → W p l e R s m args below meth c H locs (mm_t hf - t0) (mm_s hf - s0) Q (F0 m pc ls (S.map (mm_rv B ra)))) :
    ∀ (k pc : Nat) (L S : List Value) (h : mm_H) (H : Heap) (locs : List Loc) (ls : Array Slot), mm_ex mm_ms ro (mm_run mm_ms ro d n) M k pc L S h = some (r, hf) → mm_J B cA D h s H locs → mm_L B ra M.2.2.1 ls L → t0 ≤ mm_t h → s0 ≤ mm_s h → W p l e R s m args below meth c H locs (mm_t h - t0) (mm_s h - s0) Q (F0 m pc ls (S.map (mm_rv B ra))) := by
  intro k
  induction k with
  | zero => intro pc L S h H locs ls hex; cases hex
  | succ k ih =>
    intro pc L S h H locs ls hex J HL ht hs
    unfold mm_ex at hex
    split at hex
    · cases hex
    · rename_i len idx i hat
      have hmem := mm_at_mem hat
      have hi1 := hok _ hmem
      split at hex
      · rename_i r1 hrt
        cases hex
        exact hQ pc len idx i ls S H locs hmem hrt J
      · split at hex
        · rename_i z hca
          split at hex
          · cases hex
          · rename_i Z hZ
            rcases mm_if hex with ⟨hcond, hex⟩ | ⟨-, hex⟩
            · obtain ⟨c1, c2, c3, c4⟩ := hcond
              split at hex
              · cases hex
              · rename_i r1 h1 hcall
                have m1 := mm_run_mono _ _ _ _ _ _ _ hcall
                have m2 := mm_ex_mono (fun z As h r h' q => mm_run_mono d n z As h r h' q) _ _ _ _ _ _ _ hex
                refine mm_call (S0 := S.drop (mm_na' Z)) X hi1 hca hZ (IH _ _ _ _ _ _ hcall hZ) (by rw [List.reverse_reverse, List.take_append_drop]) (by rw [List.length_reverse, List.length_take]; omega) (by rw [List.length_drop]; omega) c3 c4 J HL.1 ht hs m1.1 m1.2 hfr hlo (by omega) (by omega) (fun H' locs' j => ?_)
                exact ih _ _ _ _ _ _ _ hex j HL (by omega) (by omega)
            · cases hex
        · split at hex
          · cases hex
          · rename_i pc' L' S' h' hst
            have m2 := mm_ex_mono (fun z As h r h' q => mm_run_mono d n z As h r h' q) _ _ _ _ _ _ _ hex
            have m1 := mm_st_mono hst
            exact mm_sim1 X hi1 hst J HL ht hs (by omega) (by omega) (by omega) (by omega) (fun H' locs' ls' j hl => ih _ _ _ _ _ _ _ hex j hl (by omega) (by omega))
end SIM
theorem mm_ms_ret : mm_ms.all (fun Z => match Z.2.2.2.1 with | none => true | some t => decide (mm_tyk t ≤ 2)) = true := by decide +kernel
theorem mm_lg {B : Nat} {ra : Nat → Nat} : ∀ {As : List Value}, As.all mm_c1 = true → lg_sl (As.map (mm_rv B ra)) = (As.map (mm_rv B ra)).map Slot.val := by
  intro As
  induction As with
  | nil => intro _; rfl
  | cons v As ih =>
    intro hS
    simp only [List.all_cons, Bool.and_eq_true] at hS
    have hc : (mm_rv B ra v).category = 1 := by
      cases v <;> first | (cases hS.1; done) | rfl | exact mm_rv_cat B ra _
    have e := ih hS.2
    unfold lg_sl at e ⊢
    rw [List.map_cons, List.flatMap_cons, e, if_neg (by omega)]
    rfl
theorem mm_L_entry {B : Nat} {ra : Nat → Nat} {nL : Nat} {As : List Value} (hc : As.all mm_c1 = true) (hl : As.length ≤ nL) : mm_L B ra nL ((lg_sl (As.map (mm_rv B ra)) ++ List.replicate (nL - (lg_sl (As.map (mm_rv B ra))).length) Slot.unset).toArray) (As ++ List.replicate (nL - As.length) .null) := by
  have he := lv_entry (As.map (mm_rv B ra)) (n := nL) (by rw [mm_lg hc, List.length_map, List.length_map]; exact hl)
  refine ⟨he.1, by rw [List.length_append, List.length_replicate]; omega, he.2.1, fun i v hv hn => ?_⟩
  have hi : As[i]? = some v := by
    by_cases q : i < As.length
    · rwa [List.getElem?_append_left q] at hv
    · rw [List.getElem?_append_right (by omega)] at hv
      exact absurd (List.eq_of_mem_replicate (List.mem_of_getElem? hv)) hn
  have hm : mm_c1 v = true := List.all_eq_true.mp hc v (List.mem_of_getElem? hi)
  have hc : (mm_rv B ra v).category = 1 := by
    cases v <;> first | (cases hm; done) | rfl | exact mm_rv_cat B ra _
  refine ⟨?_, hc⟩
  rw [List.getElem?_toArray, mm_lg ‹_›, List.getElem?_append_left (by rw [List.length_map, List.length_map]; exact (List.getElem?_eq_some_iff.mp hi).1), List.getElem?_map, List.getElem?_map, hi]
  rfl
theorem mm_met {l : Launch} {B : Nat} {ra : Nat → Nat} {ro : mm_Ro} {D : va_G} {cA : Nat → ClassId} (n : Nat) : ∀ (d z : Nat) (As : List Value) (h : mm_H) (r : Value) (h1 : mm_H) (Z : mm_M), mm_run mm_ms ro d n z As h = some (r, h1) → mm_ms[z]? = some Z → Met l Z.1 (mm_ws Z) (mm_rm d (mm_t h1 - mm_t h) (mm_s h1 - mm_s h)) (mm_PC B ra ro D cA As h) (mm_QC B ra D cA Z.2.2.2.1 r h1) (mm_t h1 - mm_t h) (mm_s h1 - mm_s h) (fun q => B < q) := by
  intro d
  induction d with
  | zero => intro z As h r h1 Z hr; cases hr
  | succ d ih =>
    intro z As h r h1 Z hrun hZ
    have hmz := List.mem_of_getElem? hZ
    obtain ⟨o1, o2, o3, o4, o5, o6, o7, o8, o9, o10⟩ := mm_ms_2 Z hmz
    unfold mm_run at hrun
    rw [hZ] at hrun
    dsimp only at hrun
    rcases mm_if hrun with ⟨⟨k1, k2, k3⟩, hrun⟩ | ⟨-, hrun⟩
    · refine Met.ofW (cc := Z.2.1) (maxL := Z.2.2.1) (ret := Z.2.2.2.1) o6 rfl ?_
      intro p e s m args below meth c s₁ Bd hml hv
      obtain ⟨rfl, hsz, hP, hK, hE, hw⟩ := hv
      have hx := Bd.exec
      have hb := Bd.bytes
      have hr := Bd.returns
      have hts := atoms_spec (ws := mm_ws Z) Bd.pre
      have hown : s.vm.findClass Z.1.cls = some m.cls := findClass_of_methodNamed Bd.named
      have hlocks := Bd.notSynchronized
      have hnm : meth.name = Z.1.name := (name_of_methodNamed Bd.named Bd.method).1
      have hN : mm_N.getD Z.2.2.2.2.1.1 "" = Z.1.cls := by rw [List.getD_eq_getElem?_getD, o5]; rfl
      have X : mm_X p s m (As.map (mm_rv B ra)).toArray meth c Z B ra ro D cA (mm_t h) := ⟨hx, hb, hml, by rw [hN]; exact hown, fun w hw' => hts w (List.mem_cons_of_mem _ hw'), hK, hE, hsz, fun q => hnm.trans q⟩
      have J : mm_J B cA D h s s.heap [] := ⟨hP, va_S.rf, hw⟩
      rw [lg_entry_eq]
      have key := mm_sim_ex (p := p) (l := l) (e := e) (R := mm_rm (d + 1) (mm_t h1 - mm_t h) (mm_s h1 - mm_s h)) (s := s) (m := m) (below := below) (Q := MQ below (mm_QC B ra D cA Z.2.2.2.1 r h1) (As.map (mm_rv B ra)).toArray s (mm_t h1 - mm_t h) (mm_s h1 - mm_s h) (fun q => B < q)) (t0 := mm_t h) (s0 := mm_s h) ih X (mm_ms_1 Z hmz) (Nat.le_refl _) (Nat.le_refl _) (Nat.le_refl _) (Nat.le_refl _) ?_ n 0 _ [] h s.heap [] _ hrun J (mm_L_entry k3 k2) (Nat.le_refl _) (Nat.le_refl _)
      · rw [Nat.sub_self, Nat.sub_self] at key
        exact key
      · intro pc len idx i ls S H locs hmem hrt J1
        have he := mm_ms_1 Z hmz _ hmem
        have hq : ∀ t : State, t.heap = H → s.WarmedH t.vm → mm_QC B ra D cA Z.2.2.2.1 r h1 (As.map (mm_rv B ra)).toArray s (.returned (mm_rr B ra Z.2.2.2.1 r)) t := fun t ht _ => ⟨rfl, by rw [ht]; exact J1.1, J1.2.2, J1.2.1.F ht⟩
        unfold mm_rt at hrt
        split at hrt
        · rename_i x
          have hd : decode Z.2.1 pc = .ok (.ireturn, 1) := mm_dec he rfl
          rcases mm_if hrt with ⟨hk, hrt⟩ | ⟨-, hrt⟩
          · cases hrt
            rcases hk with hk | hk
            · rw [hk] at hr hq ⊢
              exact W.iret hx hb hr hq J1.2.1.2.2 hd (hlocks := hlocks)
            · rw [hk.1] at hr hq ⊢
              exact W.zret hx hb hr (by rcases hk.2 with rfl | rfl <;> decide) hq J1.2.1.2.2 hd (hlocks := hlocks)
          · cases hrt
        · rename_i a
          have hd : decode Z.2.1 pc = .ok (.areturn, 1) := mm_dec he rfl
          rcases mm_if hrt with ⟨-, hrt⟩ | ⟨hk, hrt⟩
          · cases hrt
          · cases hrt
            have hty := List.all_eq_true.mp mm_ms_ret Z hmz
            cases hret : Z.2.2.2.1 with
            | none => exact absurd (Or.inl hret) hk
            | some t =>
              rw [hret] at hr hty hk
              try rw [hret] at hq
              have hty2 : mm_tyk t ≤ 2 := of_decide_eq_true hty
              have hrt2 : (∃ n, t = .object n) ∨ ∃ t', t = .array t' := by
                cases t <;> first | exact Or.inl ⟨_, rfl⟩ | exact Or.inr ⟨_, rfl⟩ | exact absurd (Or.inr (Or.inl rfl)) hk | exact absurd (Or.inr (Or.inr rfl)) hk | exact absurd hty2 (by decide)
              have hv : mm_rv B ra (.ref a) = .null ∨ ∃ q, mm_rv B ra (.ref a) = .ref q := by
                by_cases q : a = 0
                · subst q; exact Or.inl rfl
                · exact Or.inr ⟨_, mm_rv_s q⟩
              exact W.aret hx hb hr hrt2 hv hq J1.2.1.2.2 hd (hlocks := hlocks)
        · have hd : decode Z.2.1 pc = .ok (.return_, 1) := mm_dec he rfl
          rcases mm_if hrt with ⟨hk, hrt⟩ | ⟨-, hrt⟩
          · cases hrt
            rw [hk] at hr hq ⊢
            exact W.vret hx hb hr hq J1.2.1.2.2 hd (hlocks := hlocks)
          · cases hrt
        · cases hrt
    · cases hrun
