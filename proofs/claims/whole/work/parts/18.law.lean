/-! THE CLAIM OUT OF ONE WALK OF THE LAW'S BODY. Your part is whole_start (and what it stands on); all else here is the same for every law, but numbers. -/
def R_law : String := "QualifierGateLaw"
def lw_P (b : Addr) (xs : List Int32) (args : Array Value) (s : State) : Prop := args = #[.ref b] ∧ s.IntsAt b xs ∧ xs.length ≤ 2560 ∧ (Jvm.Cond.and given_1 narrow_1).before args s = true
def lw_Q (_ : Array Value) (s : State) (o : Outcome) (t : State) : Prop := o = .returned (some (.int 1)) ∧ Framed s o t [] 600000 7302250
def lw_Z (below : List Frame) (a : Array Value) (s : State) : State → Prop := fun t => ∃ o, t.status = .running ∧ Ended t below o ∧ lw_Q a s o t
/-- the law's own end, with 1 on the stack, nothing written that was there before, its room as the claim has it -/
theorem lw_ret {p : Program} {l : Launch} {e : Env} {s : State} {m : MethodId} {below : List Frame} {meth : Method} {c : Code} {b : Nat} (hx : p.tables.exec = Jvm.exec) (hb : c.code = code) (hr : meth.sig.returnType = ret) (hlocks : meth.locks = false) {pc : Nat} {H : Heap} {ls : Array Slot} (hdg : decode code pc = .ok (.ireturn, 1)) : W p l e room_1 s m #[Value.ref b] below meth c H [] 600000 7302250 (lw_Z below #[Value.ref b] s) (F0 m pc ls [.int 1]) := by
  intro T hT X
  obtain ⟨fs, hret, hrun, hended, hW, hframe⟩ := X.leave (v := some (.int 1)) (hlocks := hlocks) (fun h => by rw [hr] at h; cases h)
  have hmeth' : T.vm.method? m = some meth := X.method'
  refine ⟨T.setFrames fs, ?_, .returned (some (.int 1)), hrun, hended, rfl, ⟨_, rfl⟩, hW, hframe⟩
  jvm_step X.here [X.here.top, hx, hb, hdg, hmeth', hr, ret, narrow_b1]
  (try refine ⟨rfl, ?_⟩); (try refine ⟨rfl, ?_⟩)
  first | (intro acts; rw [hret _ acts rfl rfl rfl]) | rw [hret _ _ rfl rfl rfl]
  exact Steps.refl _
/-- what holds at the law's entry: the machine, the code, the tables' words (any of lw_tbl by 'hts w (by decide +kernel)'), the script of L ints xs at the cell b, what the Statement gives of the start (any of its parts by flat_of_before) -/
def lw_At (p : Program) (s : State) (m : MethodId) (meth : Method) (c : Code) (b L : Nat) (xs : Nat → Int32) : Prop :=
  p.tables.exec = Jvm.exec ∧ c.code = code ∧ meth.sig.returnType = ret ∧ c.maxLocals = 4 ∧ s.vm.findClass R_law = some m.cls ∧ (∀ w ∈ lw_tbl, w.before #[Value.ref b] s = true) ∧ va_X b L xs s s.heap ∧ b < s.heap.size ∧ meth.locks = false ∧ (Jvm.Cond.and given_1 narrow_1).before #[Value.ref b] s = true
def mm_po : List Int32 := [0, 0, 0, 1, 1, 1, 2, 0, 1, 1, 2, 0, 1, 0, 1, 1, 0, 1]
def mm_pu : List Int32 := [1, 1, 1, 0, 2, 0, 1, 1, 1, 1, 0, 0, 1, 0, 0, 0, 0, 0]
/-- what is only read: the script, POPS, PUSHES -/
def mm_ro (L : Nat) (xs : Nat → Int32) : mm_Ro := fun k => if k = 1 then (18, fun j => mm_po.getD j 0) else if k = 2 then (18, fun j => mm_pu.getD j 0) else (L, xs)
/-- the heap at the start -/
def mm_h0 : mm_H := (fun _ => 0, fun _ _ => 0, fun _ _ => 0, fun _ => 0, fun _ _ => 0, fun _ _ => 0, 0, 0)
theorem mm_st_po {args : Array Value} {s : State} {A : Nat → Prop} (hts : ∀ w ∈ lw_tbl, w.before args s = true) (hgv : (Jvm.Cond.and given_1 narrow_1).before args s = true) (hA : ∀ a : Nat, a < s.heap.size → ¬ A a) : ∃ t : Nat, va_T .int t 18 (fun j => .int (mm_po.getD j 0)) A s s.heap ∧ va_Z "QualifierGate$Op" "POPS" "[I" (.ref t) A s s.heap := by
  have hs := flat_of_before _ hgv
  have h1 : (Jvm.Cond.arrayOf (.static "QualifierGate$Op" "POPS" "[I") .int).before args s = true := hs _ (by decide +kernel)
  have h2 : (Jvm.Cond.eq (.length (.static "QualifierGate$Op" "POPS" "[I")) (.int 18)).before args s = true := hs _ (by decide +kernel)
  have hel : ∀ j : Nat, j < 18 → (Term.elem (.static "QualifierGate$Op" "POPS" "[I") (.int (Int32.ofNat j))).eval args s none [] s = some (.int (mm_po.getD j 0)) := by
    intro j hj
    have hall : (List.range 18).all (fun j => decide (Jvm.Cond.eq (.elem (.static "QualifierGate$Op" "POPS" "[I") (.int (Int32.ofNat j))) (.int (mm_po.getD j 0)) ∈ flatC (Jvm.Cond.and given_1 narrow_1))) = true := by decide +kernel
    have := List.all_eq_true.mp hall j (List.mem_range.mpr hj)
    exact va_eqt (hs _ (of_decide_eq_true this))
  obtain ⟨t, ht, hT⟩ := va_Tof (N := 18) (by decide) h1 (va_eqt h2) hel hA
  exact ⟨t, hT, va_Zof (hts _ (by decide +kernel)) (hts _ (by decide +kernel)) ht hA⟩
theorem mm_st_pu {args : Array Value} {s : State} {A : Nat → Prop} (hts : ∀ w ∈ lw_tbl, w.before args s = true) (hgv : (Jvm.Cond.and given_1 narrow_1).before args s = true) (hA : ∀ a : Nat, a < s.heap.size → ¬ A a) : ∃ t : Nat, va_T .int t 18 (fun j => .int (mm_pu.getD j 0)) A s s.heap ∧ va_Z "QualifierGate$Op" "PUSHES" "[I" (.ref t) A s s.heap := by
  have hs := flat_of_before _ hgv
  have h1 : (Jvm.Cond.arrayOf (.static "QualifierGate$Op" "PUSHES" "[I") .int).before args s = true := hs _ (by decide +kernel)
  have h2 : (Jvm.Cond.eq (.length (.static "QualifierGate$Op" "PUSHES" "[I")) (.int 18)).before args s = true := hs _ (by decide +kernel)
  have hel : ∀ j : Nat, j < 18 → (Term.elem (.static "QualifierGate$Op" "PUSHES" "[I") (.int (Int32.ofNat j))).eval args s none [] s = some (.int (mm_pu.getD j 0)) := by
    intro j hj
    have hall : (List.range 18).all (fun j => decide (Jvm.Cond.eq (.elem (.static "QualifierGate$Op" "PUSHES" "[I") (.int (Int32.ofNat j))) (.int (mm_pu.getD j 0)) ∈ flatC (Jvm.Cond.and given_1 narrow_1))) = true := by decide +kernel
    have := List.all_eq_true.mp hall j (List.mem_range.mpr hj)
    exact va_eqt (hs _ (of_decide_eq_true this))
  obtain ⟨t, ht, hT⟩ := va_Tof (N := 18) (by decide) h1 (va_eqt h2) hel hA
  exact ⟨t, hT, va_Zof (hts _ (by decide +kernel)) (hts _ (by decide +kernel)) ht hA⟩
theorem mm_Kof {args : Array Value} {s : State} (hts : ∀ w ∈ lw_tbl, w.before args s = true) : ∃ (D : va_G) (cA : Nat → ClassId), va_K D mm_cl (mm_tys cA) s := by
  have hG : ∀ w ∈ mm_G, w.before args s = true := fun w hw => hts w (List.mem_filter.mp hw).1
  have h1 : ∀ c : Nat, ∃ x : ClassId × (Nat → Nat), ∀ q : vw_C, mm_cl[c]? = some q → u_Kn s q.1 q.2.1 q.2.2 x.1 x.2 := by
    intro c
    by_cases hc : c < 10
    · obtain ⟨C, T, N, ty, c1, c2, c3, c4, -⟩ := mm_Ck_all c hc
      have h2 := List.all_eq_true.mp mm_ins_ok c (List.mem_range.mpr hc)
      simp only [Bool.and_eq_true, decide_eq_true_eq] at h2
      rw [← c3, ← c2] at h2
      obtain ⟨cC, iS, hk⟩ := u_known (C := C) (T := T) (N := N) (n := N) hG c4 (hts _ h2.1)
      refine ⟨(cC, iS), fun q hq => ?_⟩
      rw [c1] at hq
      cases hq
      exact hk
    · refine ⟨(0, fun _ => 0), fun q hq => ?_⟩
      have := (List.getElem?_eq_some_iff.mp hq).1
      exact absurd this (by show ¬ c < 10; exact hc)
  have h2 : ∀ t : Nat, ∃ x : ClassId, ∀ ty : FieldType, mm_aty[t]? = some ty → ArrOfT s x ty ∧ va_RA s x ty := by
    intro t
    have prim : ∀ ty : FieldType, (ty = .int ∨ ty = .boolean) → Jvm.Cond.arrayClass ty ∈ lw_tbl → ∃ x : ClassId, ArrOfT s x ty ∧ va_RA s x ty := by
      intro ty hty hw
      obtain ⟨c, k, comp, e1, e2, e3⟩ := Cond.arrayClass_spec (hts _ hw)
      refine ⟨c, fun n z => ⟨(fun k h => by cases h), k, e2, comp, e3⟩, ?_⟩
      rcases hty with rfl | rfl <;> exact e1
    have refs : ∀ C : String, Jvm.Cond.arrayOver (.object C) ∈ lw_tbl → ∃ x : ClassId, ArrOfT s x (.object C) ∧ va_RA s x (.object C) := by
      intro C hw
      obtain ⟨comp, cArr, kArr, e1, e2, e3, e4, e5⟩ := Cond.arrayOver_spec (hts _ hw)
      exact ⟨cArr, fun n z => ⟨(fun k h => by cases h), kArr, e3, comp, e4⟩, kArr, comp, e3, e4, e1, e5⟩
    rcases (show t = 0 ∨ t = 1 ∨ t = 2 ∨ t = 3 ∨ t = 4 ∨ t = 5 ∨ 6 ≤ t by omega) with rfl | rfl | rfl | rfl | rfl | rfl | ht
    · obtain ⟨x, hx⟩ := prim .int (Or.inl rfl) (by decide +kernel)
      exact ⟨x, fun ty h => by cases h; exact hx⟩
    · obtain ⟨x, hx⟩ := prim .boolean (Or.inr rfl) (by decide +kernel)
      exact ⟨x, fun ty h => by cases h; exact hx⟩
    · obtain ⟨x, hx⟩ := refs "QualifierGate$Place" (by decide +kernel)
      exact ⟨x, fun ty h => by cases h; exact hx⟩
    · obtain ⟨x, hx⟩ := refs "QualifierGate$Method" (by decide +kernel)
      exact ⟨x, fun ty h => by cases h; exact hx⟩
    · obtain ⟨x, hx⟩ := refs "QualifierGate$Frame" (by decide +kernel)
      exact ⟨x, fun ty h => by cases h; exact hx⟩
    · obtain ⟨x, hx⟩ := refs "QualifierGate$Activation" (by decide +kernel)
      exact ⟨x, fun ty h => by cases h; exact hx⟩
    · refine ⟨0, fun ty hq => ?_⟩
      have := (List.getElem?_eq_some_iff.mp hq).1
      exact absurd this (by show ¬ t < 6; omega)
  obtain ⟨f, hf⟩ := Classical.axiomOfChoice h1
  obtain ⟨cA, hA⟩ := Classical.axiomOfChoice h2
  refine ⟨(fun c => (f c).1, fun c => (f c).2), cA, fun c q hq => hf c q hq, fun k q hq => ?_⟩
  have hk : k < 6 := (List.getElem?_eq_some_iff.mp hq).1
  rcases (show k = 0 ∨ k = 1 ∨ k = 2 ∨ k = 3 ∨ k = 4 ∨ k = 5 by omega) with rfl | rfl | rfl | rfl | rfl | rfl
  · cases hq; exact hA 0 _ rfl
  · cases hq; exact hA 1 _ rfl
  · cases hq; exact hA 2 _ rfl
  · cases hq; exact hA 3 _ rfl
  · cases hq; exact hA 4 _ rfl
  · cases hq; exact hA 5 _ rfl
/-- THE LAW, WALKED BY THE SMALL MACHINE, IS WALKED BY THE GREAT ONE -/
theorem mm_law {p : Program} {e : Env} {s : State} {m : MethodId} {below : List Frame} {meth : Method} {c : Code} (l : Launch) {b L : Nat} {xs : Nat → Int32} (hL : L ≤ 2560) (C0 : lw_At p s m meth c b L xs)
    (hrun : ∃ (n : Nat) (hf : mm_H), mm_ex mm_ms (mm_ro L xs) (mm_run mm_ms (mm_ro L xs) 9 n) mm_m_La_law n 0 [.retAddr 0, .null, .null, .null] [] mm_h0 = some (.int 1, hf) ∧ mm_t hf ≤ 600000 ∧ mm_s hf ≤ 7302250) : W p l e room_1 s m #[Value.ref b] below meth c s.heap [] 0 0 (lw_Z below #[Value.ref b] s) (entryFrame m ([Value.ref b] : List Value).toArray 4) := by
  obtain ⟨hx, hb, hr, hml, hown, hts, hX, hbl, hlocks, hgv⟩ := C0
  obtain ⟨n, hf, hex, hcl, hsl⟩ := hrun
  obtain ⟨B, hB⟩ : ∃ B, s.heap.size = B + 1 := ⟨s.heap.size - 1, by omega⟩
  have hA : ∀ a : Nat, a < s.heap.size → ¬ (fun q => B < q) a := fun a ha q => by
    have : B < a := q
    omega
  obtain ⟨D, cA, hK⟩ := mm_Kof hts
  obtain ⟨a1, hT1, hZ1⟩ := mm_st_po (A := fun q => B < q) hts hgv hA
  obtain ⟨a2, hT2, hZ2⟩ := mm_st_pu (A := fun q => B < q) hts hgv hA
  have hT0 : va_T .int b L (fun j => .int (xs j)) (fun q => B < q) s s.heap := by
    obtain ⟨scr, h1, h2, h3, h4, h5⟩ := hX
    exact ⟨scr, h1, h2, h3, by omega, by rw [h4] <;> rfl, h5, hA b hbl⟩
  have hE : mm_E B (fun k => if k = 1 then a1 else if k = 2 then a2 else b) (mm_ro L xs) s := by
    refine ⟨fun k => ?_, hZ1, hZ2, fun w hw => ?_⟩
    · by_cases k1 : k = 1
      · subst k1; exact hT1
      · by_cases k2 : k = 2
        · subst k2; exact hT2
        · have e1 : (if k = 1 then a1 else if k = 2 then a2 else b) = b := by rw [if_neg k1, if_neg k2]
          have e2 : mm_ro L xs k = (L, xs) := by unfold mm_ro; rw [if_neg k1, if_neg k2]
          show va_T .int (if k = 1 then a1 else if k = 2 then a2 else b) _ _ _ s s.heap
          rw [e1, e2]
          exact hT0
    · have hb1 := (List.mem_filter.mp hw)
      have h1 := hts w hb1.1
      have h2 := hb1.2
      cases w <;> first | (cases h2; done) | skip
      case fieldLinkNest => exact va_Nw.of rfl h1
      case methodLinkNest => exact va_Nw.of rfl h1
      case arrayOver t =>
        cases t <;> first | (cases h2; done) | skip
        case object C => exact va_AO.of h1
  have X : mm_X p s m #[Value.ref b] meth c mm_m_La_law B (fun k => if k = 1 then a1 else if k = 2 then a2 else b) (mm_ro L xs) D cA 0 := ⟨hx, hb, hml, hown, fun w hw => hts w (List.mem_filter.mp hw).1, hK, hE, by rw [hB], fun q => absurd q (by decide)⟩
  have J : mm_J B cA D mm_h0 s s.heap [] := ⟨(fun k q hq => by have h9 : ([] : va_W)[k]? = some q := hq; rw [List.getElem?_nil] at h9; cases h9), va_S.rf, fun a ha => absurd rfl ha⟩
  rw [lg_entry_eq]
  have HL := mm_L_entry (B := B) (ra := fun k => if k = 1 then a1 else if k = 2 then a2 else b) (nL := 4) (As := [.retAddr 0]) rfl (by decide)
  have key := mm_sim_ex (p := p) (l := l) (e := e) (R := room_1) (s := s) (m := m) (below := below) (meth := meth) (c := c) (Q := lw_Z below #[Value.ref b] s) (t0 := 0) (s0 := 0) (d := 9) (n := n) (r := .int 1) (hf := hf) (fun z As h r h1 Z q1 q2 => mm_met n 9 z As h r h1 Z q1 q2) X mm_d_La_law (by decide) (by decide) (by show mm_t hf - 0 ≤ 600000; omega) (by show mm_s hf - 0 ≤ 7302250; omega) ?_ n 0 _ [] mm_h0 s.heap [] _ hex J HL (Nat.le_refl _) (Nat.le_refl _)
  · exact key
  · intro pc len idx i ls S H locs hmem hrt J1
    have he := mm_d_La_law _ hmem
    unfold mm_rt at hrt
    split at hrt
    · rename_i x
      have hd : decode code pc = .ok (.ireturn, 1) := mm_dec he rfl
      rcases mm_if hrt with ⟨hk, hrt⟩ | ⟨-, hrt⟩
      · cases hrt
        refine va_forget (fun q hq => ?_) ?_
        · have : B < q.base := J1.2.1.2.2 q hq
          omega
        · refine W.widen (k := 600000) (n := 7302250) (by omega) (by omega) ?_
          exact lw_ret hx hb hr hlocks hd
      · cases hrt
    · rcases mm_if hrt with ⟨-, hrt⟩ | ⟨-, hrt⟩ <;> cases hrt
    · rcases mm_if hrt with ⟨-, hrt⟩ | ⟨-, hrt⟩ <;> cases hrt
    · cases hrt
