def mm_ws (Z : mm_M) : List Jvm.Cond := .code Z.1 Z.2.1 Z.2.2.1 Z.2.2.2.1 :: mm_G
def mm_rm (d mc ms : Nat) : Room := { frames := d, cells := mc, slots := ms, locals := 39 * d }
def mm_PC (B : Nat) (ra : Nat → Nat) (ro : mm_Ro) (D : va_G) (cA : Nat → ClassId) (As : List Value) (h : mm_H) : Array Value → State → Prop := va_Pc (As.map (mm_rv B ra)) (fun U => U.heap.size = B + mm_t h + 1 ∧ va_P D mm_cl (mm_ww B cA h) U.heap ∧ va_K D mm_cl (mm_tys cA) U ∧ mm_E B ra ro U ∧ mm_wf h)
def mm_rr (B : Nat) (ra : Nat → Nat) (ret : Option FieldType) (r : Value) : Option Value := match ret with
  | none => none
  | some _ => some (mm_rv B ra r)
def mm_QC (B : Nat) (ra : Nat → Nat) (D : va_G) (cA : Nat → ClassId) (ret : Option FieldType) (r : Value) (h' : mm_H) : Array Value → State → Outcome → State → Prop := fun _ st oc t => oc = .returned (mm_rr B ra ret r) ∧ va_P D mm_cl (mm_ww B cA h') t.heap ∧ mm_wf h' ∧ va_F (fun q => B < q) st t
theorem mm_good {ws : List Jvm.Cond} (h : ∀ w ∈ ws, w ∈ mm_G) : GoodIn mm_G ws := fun w hw => ⟨h w hw, good_of_word (List.mem_filter.mp (h w hw)).2⟩
theorem mm_Bw_to {w : Jvm.Cond} (hw : w ∈ mm_Bw) {s U : State} (hW : s.WarmedH U.vm) (h : va_Nw w s) : va_Nw w U := by
  have hb := (List.mem_filter.mp hw).2
  cases w <;> first | (cases hb; done) | skip
  case fieldLinkNest => exact va_Nw.warmF hW h
  case methodLinkNest => exact va_Nw.warmM hW h
  case arrayOver t =>
    cases t <;> first | (cases hb; done) | skip
    case object C => exact va_AO.moved hW.alike h
theorem mm_Bw_same {w : Jvm.Cond} (hw : w ∈ mm_Bw) {s U : State} (hW : s.vm = U.vm) (h : va_Nw w s) : va_Nw w U := by
  have hb := (List.mem_filter.mp hw).2
  cases w <;> first | (cases hb; done) | skip
  case fieldLinkNest => exact va_Nw.same rfl hW h
  case methodLinkNest => exact va_Nw.same rfl hW h
  case arrayOver t =>
    cases t <;> first | (cases hb; done) | skip
    case object C => exact va_AO.moved (by rw [hW]; exact Vm.Alike.refl _) h
theorem mm_E.to {B : Nat} {ra : Nat → Nat} {ro : mm_Ro} {s U : State} (h : mm_E B ra ro s) (hW : s.WarmedH U.vm) (hH : ∀ q : Nat, q < s.heap.size → ¬ (B < q) → U.heap[q]? = s.heap[q]?) : mm_E B ra ro U :=
  ⟨fun k => ((h.1 k).kept hH).moved hW.alike, (h.2.1.kept hH).moved hW.alike, (h.2.2.1.kept hH).moved hW.alike, fun w hw => mm_Bw_to hw hW (h.2.2.2 w hw)⟩
theorem mm_blind (B : Nat) (ra : Nat → Nat) (ro : mm_Ro) (D : va_G) (cA : Nat → ClassId) (As : List Value) (h : mm_H) : FrameBlind (mm_PC B ra ro D cA As h) := by
  intro a U g mk q
  obtain ⟨q0, q1, qP, qK, qE, qw⟩ := q
  refine ⟨q0, q1, qP, va_K.moved (u := U) (U := U.calling g mk a) (Vm.Alike.refl U.vm) qK, ⟨fun k => (qE.1 k).moved (U := U.calling g mk a) (Vm.Alike.refl U.vm), qE.2.1.moved (U := U.calling g mk a) (Vm.Alike.refl U.vm), qE.2.2.1.moved (U := U.calling g mk a) (Vm.Alike.refl U.vm), fun w hw => mm_Bw_same (s := U) (U := U.calling g mk a) hw rfl (qE.2.2.2 w hw)⟩, qw⟩
section SIM
variable {p : Program} {l : Launch} {e : Env} {R : Room} {s : State} {m : MethodId} {args : Array Value} {below : List Frame} {meth : Method} {c : Code} {H : Heap} {locs : List Loc} {Q : State → Prop} {M Z : mm_M} {B : Nat} {ra : Nat → Nat} {ro : mm_Ro} {D : va_G} {cA : Nat → ClassId} {t0 s0 : Nat} {pc pc' len idx : Nat} {i : Instr} {L L' S S' : List Value} {h h' h1 : mm_H} {ls : Array Slot}
theorem mm_goon {cells slots mc ms : Nat} {st0 rest : List Value} {ret : Option FieldType} {r : Value} {a : Array Value} (hr : va_Run p l e R s m args below meth c H locs cells slots mc ms (F0 m pc ls st0) rest (mm_QC B ra D cA ret r h1 a) (fun q => B < q)) (hS : va_S (fun q => B < q) s.heap H locs)
    (kk : ∀ H' locs', mm_J B cA D h1 s H' locs' → W p l e R s m args below meth c H' locs' (cells + mc) (slots + ms) Q (F0 m (pc + 3) ls ((mm_rr B ra ret r).toList ++ rest))) : W p l e R s m args below meth c H locs cells slots Q (F0 m pc ls st0) := by
  intro T hT X
  obtain ⟨v, st₀, t, T', L, h0, X', hL, e1, e2, ⟨hv, hP1, hw1, hz, hk⟩, st⟩ := hr T hT X
  cases hv
  rw [h0] at hz hk
  obtain ⟨t2, a1, b1⟩ := kk T'.heap (locs ++ L) ⟨by rw [e1]; exact hP1, ⟨Nat.le_trans hS.1 (by rw [e1]; exact hz), fun q g1 g2 => by rw [e1, hk q (Nat.lt_of_lt_of_le g1 hS.1) g2]; exact hS.2.1 q g1 g2, fun q hq => by
      rcases List.mem_append.mp hq with g | g
      · exact hS.2.2 q g
      · exact hL q g⟩, hw1⟩ T' rfl X'
  exact ⟨t2, st t2 a1, b1⟩
theorem mm_Hsize {cells : Nat} (hsz : s.heap.size = B + t0 + 1) (ht : t0 ≤ mm_t h) (J : mm_J B cA D h s H locs) (hz : H.size ≤ s.heap.size + (mm_t h - t0)) : H.size = B + mm_t h + 1 := by
  have h1 : B + mm_t h < H.size := by
    rcases Nat.eq_zero_or_pos (mm_t h) with q | q
    · have := J.2.1.1
      omega
    · exact (J.1 _ _ (mm_ww_at B cA h (a := mm_t h) q (Nat.le_refl _))).lt
  omega
theorem mm_cat1 (B : Nat) (ra : Nat → Nat) {S : List Value} (hS : S.all mm_c1 = true) : ((S.map (mm_rv B ra)).map fun v => v.category).sum = S.length := by
  induction S with
  | nil => rfl
  | cons v S ih =>
    simp only [List.all_cons, Bool.and_eq_true] at hS
    rw [List.map_cons, List.map_cons, List.sum_cons, List.length_cons, ih hS.2]
    have : (mm_rv B ra v).category = 1 := by
      cases v <;> first | (cases hS.1; done) | rfl | exact mm_rv_cat B ra _
    omega
theorem mm_call {d z : Nat} {As S0 : List Value} {r : Value} (X : mm_X p s m args meth c M B ra ro D cA t0) (he : mm_ok1 M (pc, len, idx, i) = true) (hca : mm_ca i = some z) (hZ : mm_ms[z]? = some Z)
    (hM : Met l Z.1 (mm_ws Z) (mm_rm d (mm_t h1 - mm_t h) (mm_s h1 - mm_s h)) (mm_PC B ra ro D cA As h) (mm_QC B ra D cA Z.2.2.2.1 r h1) (mm_t h1 - mm_t h) (mm_s h1 - mm_s h) (fun q => B < q))
    (hS : S = As.reverse ++ S0) (hn : As.length = mm_na' Z) (h8 : S0.length ≤ 8) (hc1 : S0.all mm_c1 = true) (hrc : mm_rc Z h As = true) (J : mm_J B cA D h s H locs) (hls : ls.size = M.2.2.1) (ht : t0 ≤ mm_t h) (hs : s0 ≤ mm_s h) (ht1 : mm_t h ≤ mm_t h1) (hs1 : mm_s h ≤ mm_s h1) (hfr : d + 1 ≤ R.frames) (hlo : 39 * (d + 1) ≤ R.locals) (hcl : mm_t h1 - t0 ≤ R.cells) (hsl : mm_s h1 - s0 ≤ R.slots)
    (kk : ∀ H' locs', mm_J B cA D h1 s H' locs' → W p l e R s m args below meth c H' locs' (mm_t h1 - t0) (mm_s h1 - s0) Q (F0 m (pc + 3) ls ((if Z.2.2.2.1 = none then S0 else r :: S0).map (mm_rv B ra)))) : W p l e R s m args below meth c H locs (mm_t h - t0) (mm_s h - s0) Q (F0 m pc ls (S.map (mm_rv B ra))) := by
  refine mm_size (fun hz => ?_)
  obtain ⟨hx, hb, hml, hown, hts, hK, hE, hsz, hnm⟩ := X
  have hH := mm_Hsize (cells := 0) hsz ht J hz
  obtain ⟨hP, hS', hw⟩ := J
  have hlk := mm_lkd he
  obtain ⟨o1, o2, o3, o4, o5, o6, o7, o8, o9, o10⟩ := mm_ms_2 Z (List.mem_of_getElem? hZ)
  have w1 := mm_G_of o1 rfl
  have w4 := mm_G_of o4 rfl
  have hpre : ∀ U : State, U.heap = H → s.WarmedH U.vm → mm_PC B ra ro D cA As h (As.map (mm_rv B ra)).toArray U := fun U hU hW => ⟨rfl, by rw [hU]; exact hH, by rw [hU]; exact hP, va_K.moved hW.alike hK, hE.to hW (fun q g1 g2 => by rw [hU]; exact hS'.2.1 q g1 g2), hw⟩
  have hW8 : 2 * (F0 m pc ls (S.map (mm_rv B ra))).monitorRoom + ((S0.map (mm_rv B ra)).map fun v => v.category).sum ≤ 8 := by
    rw [mm_cat1 B ra hc1]
    show 2 * 0 + S0.length ≤ 8
    omega
  have hR : (mm_rm d (mm_t h1 - mm_t h) (mm_s h1 - mm_s h)).frames + 1 ≤ R.frames ∧ 8 + (Z.2.2.1 + 11) + (mm_rm d (mm_t h1 - mm_t h) (mm_s h1 - mm_s h)).locals ≤ R.locals := ⟨hfr, by show 8 + (Z.2.2.1 + 11) + 39 * d ≤ R.locals; omega⟩
  have hG : GoodIn mm_G (mm_ws Z) := mm_good (fun w hw' => by rcases List.mem_cons.mp hw' with rfl | q; exact w1; exact q)
  have hf : mm_t h - t0 + (mm_t h1 - mm_t h) ≤ R.cells ∧ mm_s h - s0 + (mm_s h1 - mm_s h) ≤ R.slots := ⟨by omega, by omega⟩
  have hfix : CallFix p m c M.2.1 M.2.2.1 s args mm_G (mm_N.getD M.2.2.2.2.1.1 "") := ⟨hx, hb, hml, hown, hts⟩
  have e1 : mm_t h - t0 + (mm_t h1 - mm_t h) = mm_t h1 - t0 := by omega
  have e2 : mm_s h - s0 + (mm_s h1 - mm_s h) = mm_s h1 - s0 := by omega
  have hrest : (mm_rr B ra Z.2.2.2.1 r).toList ++ S0.map (mm_rv B ra) = (if Z.2.2.2.1 = none then S0 else r :: S0).map (mm_rv B ra) := by
    cases Z.2.2.2.1 with
    | none => rfl
    | some t => rfl
  have fin : va_Run p l e R s m args below meth c H locs (mm_t h - t0) (mm_s h - s0) (mm_t h1 - mm_t h) (mm_s h1 - mm_s h) (F0 m pc ls (S.map (mm_rv B ra))) (S0.map (mm_rv B ra)) (mm_QC B ra D cA Z.2.2.2.1 r h1 (As.map (mm_rv B ra)).toArray) (fun q => B < q) → W p l e R s m args below meth c H locs (mm_t h - t0) (mm_s h - s0) Q (F0 m pc ls (S.map (mm_rv B ra))) := by
    intro hr
    refine mm_goon hr hS' (fun H' locs' j => ?_)
    rw [e1, e2, hrest]
    exact kk H' locs' j
  -- the receiver
  have recv : Z.2.2.2.2.1.2.2 = false → ∃ (b : Nat) (As' : List Value), As = .ref b :: As' ∧ mm_k h b = Z.2.2.2.2.1.1 + 1 ∧ As'.length = Z.2.2.2.2.1.2.1 := by
    intro hst
    unfold mm_rc at hrc
    unfold mm_na' at hn
    rw [hst] at hrc hn
    cases As with
    | nil => cases hrc
    | cons v As' =>
      cases v <;> first | (cases hrc; done) | skip
      case ref b =>
        refine ⟨b, As', rfl, of_decide_eq_true hrc, ?_⟩
        have : As'.length + 1 = Z.2.2.2.2.1.2.1 + 1 := hn
        omega
  have stat : Z.2.2.2.2.1.2.2 = true → As.length = Z.2.2.2.2.1.2.1 := by
    intro hst
    unfold mm_na' at hn
    rw [hst] at hn
    exact hn
  have hnme : mm_nme z = some Z.1 := by
    have hlt : z < mm_ms.length := (List.getElem?_eq_some_iff.mp hZ).1
    have hln : mm_ms.length = 190 := by decide +kernel
    unfold mm_nme
    rw [if_neg (by omega), if_neg (by omega), if_neg (by omega), if_neg (by omega), hZ]
    rfl
  have hz1 : z < 1000 := by
    have hlt : z < mm_ms.length := (List.getElem?_eq_some_iff.mp hZ).1
    have hln : mm_ms.length = 190 := by decide +kernel
    omega
  have hstk : ∀ (b : Nat) (As' : List Value), As = .ref b :: As' → b ≠ 0 → S.map (mm_rv B ra) = (As'.map (mm_rv B ra)).reverse ++ .ref (B + b) :: S0.map (mm_rv B ra) := by
    intro b As' e3 hb0
    rw [hS, e3, List.map_append, List.map_reverse, List.map_cons, List.reverse_cons, mm_rv_s hb0, List.append_assoc]
    rfl
  cases i <;> first | (cases hca; done) | skip
  case invokevirtual z' =>
    cases hca
    have hd : decode M.2.1 pc = .ok (.invokevirtual idx, 3) := mm_dec he rfl
    simp only [mm_lk, hZ, Bool.and_eq_true, Bool.not_eq_true', beq_eq_false_iff_ne] at hlk
    obtain ⟨hl1, hl2, hl3⟩ := hlk
    obtain ⟨y, hy, hwl⟩ := mm_ml_w hl1
    rw [hnme] at hy
    cases hy
    obtain ⟨b, As', e3, hkb, hlen⟩ := recv hl2
    have w3 := mm_G_of (o3 hl3) rfl
    rw [hl2] at o2
    have w2 := mm_G_of o2 rfl
    have hb0 : b ≠ 0 := mm_pos hw (by omega)
    have hc10 : Z.2.2.2.2.1.1 < 10 := by
      have hall : mm_ms.all (fun Z => Z.2.2.2.2.1.2.2 || decide (Z.2.2.2.2.1.1 < 10)) = true := by decide +kernel
      have := List.all_eq_true.mp hall Z (List.mem_of_getElem? hZ)
      rw [hl2] at this
      simpa using this
    obtain ⟨C, T, N, ty, c1, c2, -⟩ := mm_Ck_all Z.2.2.2.2.1.1 hc10
    have hC : C = Z.1.cls := by
      rw [c2, List.getD_eq_getElem?_getD, o5]; rfl
    refine fin ?_
    have hp : PreV s H Z.1.cls (B + b) (mm_PC B ra ro D cA As h) (As'.map (mm_rv B ra)) := by
      refine ⟨mm_blind B ra ro D cA As h, ?_, fun U g1 g2 => ?_⟩
      · have := va_recv hK hP c1 (mm_ww_obj hw hkb hc10)
        rw [← hC]; exact this
      · have := hpre U g1 g2
        rw [e3, List.map_cons, mm_rv_s hb0] at this
        rw [e3]; exact this
    have hr := va_runV (C := Z.1.cls) (b := B + b) (As := As'.map (mm_rv B ra)) (rest := S0.map (mm_rv B ra)) (g := F0 m pc ls (S.map (mm_rv B ra))) (n := Z.2.2.2.2.1.2.1) (locs := locs) (cells := mm_t h - t0) (slots := mm_s h - s0) (below := below) (meth := meth) (e := e) hfix hM ⟨callB_of Z.2.2.2.2.1.2.1 hts hG rfl rfl rfl (hts _ w4) (hts _ hwl) ⟨o7, o8, o9⟩ hR, hts _ w2, hts _ w3⟩ hp rfl (by rw [List.length_map]; exact hlen) hls (hstk b As' e3 hb0) hW8 hd hf
    have e4 : (Value.ref (B + b) :: As'.map (mm_rv B ra)).toArray = (As.map (mm_rv B ra)).toArray := by rw [e3, List.map_cons, mm_rv_s hb0]
    rw [e4] at hr
    exact hr
  case invokespecial z' =>
    have hzz : z' = z := by
      unfold mm_ca at hca
      dsimp only at hca
      split at hca
      · cases hca; rfl
      · cases hca
    subst hzz
    have hd : decode M.2.1 pc = .ok (.invokespecial idx, 3) := mm_dec he rfl
    simp only [mm_lk, hZ, Bool.and_eq_true, Bool.or_eq_true, Bool.not_eq_true', beq_iff_eq] at hlk
    rw [if_neg (by omega)] at hlk
    simp only [Bool.and_eq_true, Bool.not_eq_true', beq_iff_eq] at hlk
    obtain ⟨hl1, ⟨hl2, hl3⟩, hl4⟩ := hlk
    have hret : Z.2.2.2.1 = none := by
      revert hl4
      cases Z.2.2.2.1 with
      | none => intro _; rfl
      | some t => intro q; cases q
    obtain ⟨b, As', e3, hkb, hlen⟩ := recv hl2
    rw [hl2] at o2
    have w2 := mm_G_of o2 rfl
    have hb0 : b ≠ 0 := mm_pos hw (by omega)
    refine fin ?_
    have hp : PreS s H (mm_PC B ra ro D cA As h) (.ref (B + b) :: As'.map (mm_rv B ra)) := by
      refine ⟨mm_blind B ra ro D cA As h, fun U g1 g2 => ?_⟩
      have := hpre U g1 g2
      rw [e3, List.map_cons, mm_rv_s hb0] at this
      rw [e3]; exact this
    have e4 : (Value.ref (B + b) :: As'.map (mm_rv B ra)).toArray = (As.map (mm_rv B ra)).toArray := by rw [e3, List.map_cons, mm_rv_s hb0]
    have hws : mm_ws Z = Jvm.Cond.code Z.1 Z.2.1 Z.2.2.1 none :: mm_G := by unfold mm_ws; rw [hret]
    rcases hl1 with hl1 | hl1
    · obtain ⟨y, hy, hwl⟩ := mm_ml_w hl1
      rw [hnme] at hy
      cases hy
      have hr := va_runI (b := B + b) (As := As'.map (mm_rv B ra)) (rest := S0.map (mm_rv B ra)) (g := F0 m pc ls (S.map (mm_rv B ra))) (n := Z.2.2.2.2.1.2.1) (locs := locs) (cells := mm_t h - t0) (slots := mm_s h - s0) (below := below) (meth := meth) (e := e) hfix hM ⟨callB_of (ws' := mm_G) Z.2.2.2.2.1.2.1 hts hG hws rfl rfl (hts _ w4) (hts _ hwl) ⟨o7, o8, o9⟩ hR, hl3, hts _ w2⟩ hp rfl (by rw [List.length_map]; exact hlen) hls (hstk b As' e3 hb0) hW8 hd hf
      rw [e4] at hr
      exact hr
    · have hm := List.all_eq_true.mp mm_mn_ok _ (mm_hasn_of hl1)
      dsimp only at hm
      rw [hnme] at hm
      have hwl : va_Nw _ s := hE.2.2.2 _ (List.mem_filter.mpr ⟨of_decide_eq_true hm, rfl⟩)
      have hr := va_runIN (b := B + b) (As := As'.map (mm_rv B ra)) (rest := S0.map (mm_rv B ra)) (g := F0 m pc ls (S.map (mm_rv B ra))) (n := Z.2.2.2.2.1.2.1) (locs := locs) (cells := mm_t h - t0) (slots := mm_s h - s0) (below := below) (meth := meth) (e := e) hfix hM ⟨va_cnB (ws' := mm_G) Z.2.2.2.2.1.2.1 hts hG hws rfl rfl hwl (hts _ w4) ⟨o7, o8, o9⟩ hR, hl3, hts _ w2⟩ hp rfl (by rw [List.length_map]; exact hlen) hls (hstk b As' e3 hb0) hW8 hd hf
      rw [e4] at hr
      exact hr
  case invokestatic z' =>
    have hzz : z' = z := by
      unfold mm_ca at hca
      dsimp only at hca
      split at hca
      · cases hca; rfl
      · cases hca
    subst hzz
    have hd : decode M.2.1 pc = .ok (.invokestatic idx, 3) := mm_dec he rfl
    simp only [mm_lk, hZ, Bool.and_eq_true, Bool.or_eq_true] at hlk
    rw [if_neg (by omega)] at hlk
    obtain ⟨hl1, hl2⟩ := hlk
    have hlen := stat hl2
    rw [hl2] at o2
    have w2 := mm_G_of o2 rfl
    refine fin ?_
    have hp : PreS s H (mm_PC B ra ro D cA As h) (As.map (mm_rv B ra)) := ⟨mm_blind B ra ro D cA As h, fun U g1 g2 => hpre U g1 g2⟩
    have hstk2 : S.map (mm_rv B ra) = (As.map (mm_rv B ra)).reverse ++ S0.map (mm_rv B ra) := by rw [hS, List.map_append, List.map_reverse]
    rcases hl1 with hl1 | hl1
    · obtain ⟨y, hy, hwl⟩ := mm_ml_w hl1
      rw [hnme] at hy
      cases hy
      exact va_runS (As := As.map (mm_rv B ra)) (rest := S0.map (mm_rv B ra)) (g := F0 m pc ls (S.map (mm_rv B ra))) (n := Z.2.2.2.2.1.2.1) hfix hM ⟨callB_of Z.2.2.2.2.1.2.1 hts hG rfl rfl rfl (hts _ w4) (hts _ hwl) ⟨o7, o8, o9⟩ hR, hts _ w2⟩ hp rfl (by rw [List.length_map]; exact hlen) hls hstk2 hW8 hd hf
    · have hm := List.all_eq_true.mp mm_mn_ok _ (mm_hasn_of hl1)
      dsimp only at hm
      rw [hnme] at hm
      have hwl : va_Nw _ s := hE.2.2.2 _ (List.mem_filter.mpr ⟨of_decide_eq_true hm, rfl⟩)
      exact va_runSN (As := As.map (mm_rv B ra)) (rest := S0.map (mm_rv B ra)) (g := F0 m pc ls (S.map (mm_rv B ra))) (n := Z.2.2.2.2.1.2.1) hfix hM ⟨va_cnB Z.2.2.2.2.1.2.1 hts hG rfl rfl rfl hwl (hts _ w4) ⟨o7, o8, o9⟩ hR, hts _ w2, trivial⟩ hp rfl (by rw [List.length_map]; exact hlen) hls hstk2 hW8 hd hf
end SIM
