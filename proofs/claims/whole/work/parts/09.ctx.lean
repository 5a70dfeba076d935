/-! what holds while a method runs -/
/-- the kind of a type -/
def mm_tyk (t : FieldType) : Nat := match t with
  | .int => 0
  | .boolean => 1
  | .object _ => 2
  | .array _ => 2
  | _ => 3
/-- what is known of a class of the worlds -/
def mm_Ck (c : Nat) (C : String) (T : u_T) (N : Nat) (ty : Nat → FieldType) : Prop :=
  mm_cl[c]? = some (C, T, N) ∧ C = mm_N.getD c "" ∧ N = (mm_fks.getD c []).length ∧ (∀ w ∈ u_ws C T N, w ∈ mm_G) ∧ (∀ k, k < N → parseFieldDescriptor (T k).2.2.1 = some (ty k)) ∧ (∀ a, a < N → ∀ b, b < N → a ≠ b → (T a).2.1 ≠ (T b).2.1) ∧
  ∀ k, k < N → (T k).1 = C ∧ (T k).2.2.2 = (mm_fin.getD c []).getD k true ∧ mm_fdC (64 * c + k) = (C, (T k).2.1, (T k).2.2.1) ∧ mm_tyk (ty k) = mm_fk (64 * c + k)
theorem mm_Ck_all : ∀ c, c < 10 → ∃ (C : String) (T : u_T) (N : Nat) (ty : Nat → FieldType), mm_Ck c C T N ty := by
  intro c hc
  rcases (show c = 0 ∨ c = 1 ∨ c = 2 ∨ c = 3 ∨ c = 4 ∨ c = 5 ∨ c = 6 ∨ c = 7 ∨ c = 8 ∨ c = 9 by omega) with rfl | rfl | rfl | rfl | rfl | rfl | rfl | rfl | rfl | rfl
  · exact ⟨"QualifierGate", mm_T0, 4, mm_y0, rfl, rfl, rfl, mm_in0, mm_tk0, mm_nm0, by decide +kernel⟩
  · exact ⟨"QualifierGate$Stock", mm_T1, 10, mm_y1, rfl, rfl, rfl, mm_in1, mm_tk1, mm_nm1, by decide +kernel⟩
  · exact ⟨"QualifierGate$Look", mm_T2, 7, mm_y2, rfl, rfl, rfl, mm_in2, mm_tk2, mm_nm2, by decide +kernel⟩
  · exact ⟨"QualifierGate$Frame", mm_T3, 5, mm_y3, rfl, rfl, rfl, mm_in3, mm_tk3, mm_nm3, by decide +kernel⟩
  · exact ⟨"QualifierGate$Rules", mm_T4, 1, mm_y4, rfl, rfl, rfl, mm_in4, mm_tk4, mm_nm4, by decide +kernel⟩
  · exact ⟨"QualifierGate$Machine", mm_T5, 15, mm_y5, rfl, rfl, rfl, mm_in5, mm_tk5, mm_nm5, by decide +kernel⟩
  · exact ⟨"QualifierGate$Activation", mm_T6, 5, mm_y6, rfl, rfl, rfl, mm_in6, mm_tk6, mm_nm6, by decide +kernel⟩
  · exact ⟨"QualifierGate$Place", mm_T7, 3, mm_y7, rfl, rfl, rfl, mm_in7, mm_tk7, mm_nm7, by decide +kernel⟩
  · exact ⟨"QualifierGate$Method", mm_T8, 14, mm_y8, rfl, rfl, rfl, mm_in8, mm_tk8, mm_nm8, by decide +kernel⟩
  · exact ⟨"QualifierGateModel", mm_T9, 61, mm_y9, rfl, rfl, rfl, mm_in9, mm_tk9, mm_nm9, by decide +kernel⟩
theorem mm_ty2 {t : FieldType} (h : mm_tyk t = 2) (r : Option Nat) : narrow t (va_rf r) = va_rf r ∧ fits t (va_rf r) = true ∧ defaultValue t = .null := by
  cases t <;> first | (cases h; done) | (cases r <;> exact ⟨rfl, rfl, rfl⟩)
theorem mm_ty0 {t : FieldType} (h : mm_tyk t = 0) (x : Int32) : narrow t (.int x) = .int x ∧ fits t (.int x) = true ∧ defaultValue t = .int 0 := by
  cases t <;> first | (cases h; done) | exact ⟨vp_nar_int x, rfl, rfl⟩
theorem mm_ty1 {t : FieldType} (h : mm_tyk t = 1) {x : Int32} (hx : x = 0 ∨ x = 1) : narrow t (.int x) = .int x ∧ fits t (.int x) = true ∧ defaultValue t = .int 0 := by
  cases t <;> first | (cases h; done) | (rcases hx with rfl | rfl <;> exact ⟨by decide, by decide, rfl⟩)
/-- arrays and statics that are only read, words that don't stay by themselves -/
def mm_E (B : Nat) (ra : Nat → Nat) (ro : mm_Ro) (s : State) : Prop :=
  (∀ k, va_T .int (ra k) (ro k).1 (fun j => .int ((ro k).2 j)) (fun q => B < q) s s.heap) ∧ va_Z "QualifierGate$Op" "POPS" "[I" (.ref (ra 1)) (fun q => B < q) s s.heap ∧ va_Z "QualifierGate$Op" "PUSHES" "[I" (.ref (ra 2)) (fun q => B < q) s s.heap ∧ ∀ w ∈ mm_Bw, va_Nw w s
/-- the method's own: machine, code, words, classes, how much was there when it began -/
def mm_X (p : Program) (s : State) (m : MethodId) (args : Array Value) (meth : Method) (c : Code) (M : mm_M) (B : Nat) (ra : Nat → Nat) (ro : mm_Ro) (D : va_G) (cA : Nat → ClassId) (t0 : Nat) : Prop :=
  p.tables.exec = Jvm.exec ∧ c.code = M.2.1 ∧ c.maxLocals = M.2.2.1 ∧ s.vm.findClass (mm_N.getD M.2.2.2.2.1.1 "") = some m.cls ∧ (∀ w ∈ mm_G, w.before args s = true) ∧ va_K D mm_cl (mm_tys cA) s ∧ mm_E B ra ro s ∧ s.heap.size = B + t0 + 1 ∧ (M.1.name = "<init>" → meth.name = "<init>")
/-- the heap as it is -/
def mm_J (B : Nat) (cA : Nat → ClassId) (D : va_G) (h : mm_H) (s : State) (H : Heap) (locs : List Loc) : Prop :=
  va_P D mm_cl (mm_ww B cA h) H ∧ va_S (fun q => B < q) s.heap H locs ∧ mm_wf h
/-- the locals -/
def mm_L (B : Nat) (ra : Nat → Nat) (nL : Nat) (ls : Array Slot) (L : List Value) : Prop :=
  ls.size = nL ∧ L.length = nL ∧ lv_wf ls ∧ ∀ (i : Nat) (v : Value), L[i]? = some v → v ≠ .null → ls[i]? = some (.val (mm_rv B ra v)) ∧ (mm_rv B ra v).category = 1
theorem mm_D (B : Nat) (cA : Nat → ClassId) (h : mm_H) : va_D (fun q => B < q) (mm_ww B cA h) := by
  have key : ∀ (i : Nat) (q : Nat × va_E), (mm_ww B cA h)[i]? = some q → q.1 = B + (i + 1) := by
    intro i q hq
    have hi : i < mm_t h := by
      have := (List.getElem?_eq_some_iff.mp hq).1
      rwa [mm_ww_len] at this
    have e := mm_ww_at B cA h (a := i + 1) (by omega) (by omega)
    rw [Nat.add_sub_cancel, hq] at e
    rw [Option.some.inj e]
  exact ⟨fun i j x y hi hj hxy => by have := key i x hi; have := key j y hj; omega, fun i x hi => by have := key i x hi; show B < x.1; omega⟩
def mm_ll (B : Nat) (ra : Nat → Nat) (L : List Value) : List (Nat × Value) := (List.range L.length).filterMap (fun i => match L[i]? with
  | some v => if v = .null then none else some (i, mm_rv B ra v)
  | none => none)
theorem mm_ll_mem {B : Nat} {ra : Nat → Nat} {L : List Value} {q : Nat × Value} : q ∈ mm_ll B ra L ↔ ∃ v, L[q.1]? = some v ∧ v ≠ .null ∧ q.2 = mm_rv B ra v := by
  unfold mm_ll
  rw [List.mem_filterMap]
  constructor
  · rintro ⟨i, hi, hq⟩
    cases hL : L[i]? with
    | none => rw [hL] at hq; cases hq
    | some v =>
      rw [hL] at hq
      dsimp only at hq
      by_cases hv : v = .null
      · rw [if_pos hv] at hq; cases hq
      · rw [if_neg hv] at hq
        cases hq
        exact ⟨v, hL, hv, rfl⟩
  · rintro ⟨v, h1, h2, h3⟩
    refine ⟨q.1, List.mem_range.mpr (List.getElem?_eq_some_iff.mp h1).1, ?_⟩
    rw [h1]
    dsimp only
    rw [if_neg h2, ← h3]
theorem mm_L.has {B : Nat} {ra : Nat → Nat} {nL : Nat} {ls : Array Slot} {L : List Value} (h : mm_L B ra nL ls L) : lv_has ls nL (mm_ll B ra L) := by
  refine ⟨h.1, h.2.2.1, fun q hq => ?_⟩
  obtain ⟨v, h1, h2, h3⟩ := mm_ll_mem.mp hq
  rw [h3]
  exact (h.2.2.2 q.1 v h1 h2).1
theorem mm_L.set {B : Nat} {ra : Nat → Nat} {nL : Nat} {ls ls' : Array Slot} {L : List Value} {i : Nat} {v : Value} (h : mm_L B ra nL ls L) (hc : (mm_rv B ra v).category = 1) (hl : lv_has ls' nL ((i, mm_rv B ra v) :: (mm_ll B ra L).filter (fun q => !(q.1 == i) && !(q.1 + 1 == i && q.2.category == 2)))) : mm_L B ra nL ls' (L.set i v) := by
  refine ⟨hl.1, by rw [List.length_set]; exact h.2.1, hl.2.1, fun j w hj hw => ?_⟩
  by_cases hij : i = j
  · subst hij
    have hlt : i < L.length := by
      have := (List.getElem?_eq_some_iff.mp hj).1
      rwa [List.length_set] at this
    rw [List.getElem?_set_self hlt] at hj
    cases hj
    exact ⟨hl.2.2 (i, mm_rv B ra v) List.mem_cons_self, hc⟩
  · rw [List.getElem?_set_ne hij] at hj
    obtain ⟨h1, h2⟩ := h.2.2.2 j w hj hw
    refine ⟨hl.2.2 (j, mm_rv B ra w) (List.mem_cons_of_mem _ (List.mem_filter.mpr ⟨mm_ll_mem.mpr ⟨w, hj, hw, rfl⟩, ?_⟩)), h2⟩
    have e1 : (j == i) = false := by simp; exact fun e => hij e.symm
    simp [e1, h2]
theorem mm_L.at {B : Nat} {ra : Nat → Nat} {nL : Nat} {ls : Array Slot} {L : List Value} {i : Nat} {v : Value} (h : mm_L B ra nL ls L) (hv : L[i]? = some v) (hn : v ≠ .null) : ls[i]? = some (.val (mm_rv B ra v)) := (h.2.2.2 i v hv hn).1
theorem mm_size {p : Program} {l : Launch} {e : Env} {R : Room} {s : State} {m : MethodId} {args : Array Value} {below : List Frame} {meth : Method} {c : Code} {H : Heap} {locs : List Loc} {cells slots : Nat} {Q : State → Prop} {g : JFrame} (k : H.size ≤ s.heap.size + cells → W p l e R s m args below meth c H locs cells slots Q g) : W p l e R s m args below meth c H locs cells slots Q g := fun T hT X => k (by rw [← hT]; exact X.heapSize) T hT X
/-- where a new cell lies -/
theorem mm_fresh {B t : Nat} {cA : Nat → ClassId} {h : mm_H} {D : va_G} {q : Nat} {e : va_E} {H : Heap} (ht : mm_t h = t) (hP : va_P D mm_cl (mm_ww B cA h ++ [(q, e)]) H) (hD : va_D (fun q => B < q) (mm_ww B cA h ++ [(q, e)])) (hs : H.size ≤ B + t + 2) : q = B + (t + 1) := by
  have hq : (mm_ww B cA h ++ [(q, e)])[t]? = some (q, e) := by
    rw [List.getElem?_append_right (by rw [mm_ww_len]; omega), mm_ww_len, ht, Nat.sub_self]; rfl
  have h1 : q < H.size := (hP t _ hq).lt
  have h2 : B < q := hD.2 t _ hq
  rcases Nat.lt_or_ge (B + t) q with h3 | h3
  · omega
  · exfalso
    have e2 := mm_ww_at B cA h (a := q - B) (by omega) (by omega)
    have e3 : (mm_ww B cA h ++ [(q, e)])[q - B - 1]? = some (B + (q - B), mm_ce B cA h (q - B)) := by
      rw [List.getElem?_append_left (by rw [mm_ww_len]; omega)]; exact e2
    have := hD.1 _ _ _ _ e3 hq (show B + (q - B) = q by omega)
    omega
