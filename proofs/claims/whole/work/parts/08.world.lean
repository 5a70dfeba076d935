/-! the small machine's heap as a picture of the great one: cell a lies at B + a -/
def mm_rv (B : Nat) (ra : Nat → Nat) (v : Value) : Value := match v with
  | .ref n => if n = 0 then .null else .ref (B + n)
  | .retAddr k => .ref (ra k)
  | v => v
def mm_ob (B n : Nat) : Option Nat := if n = 0 then none else some (B + n)
theorem mm_rv_ref (B : Nat) (ra : Nat → Nat) (n : Nat) : mm_rv B ra (.ref n) = va_rf (mm_ob B n) := by
  unfold mm_rv mm_ob
  by_cases h : n = 0 <;> simp [h, va_rf]
theorem mm_rv_0 (B : Nat) (ra : Nat → Nat) : mm_rv B ra (.ref 0) = .null := rfl
theorem mm_rv_s {B : Nat} {ra : Nat → Nat} {n : Nat} (h : n ≠ 0) : mm_rv B ra (.ref n) = .ref (B + n) := by
  show (if n = 0 then Value.null else .ref (B + n)) = _
  rw [if_neg h]
def mm_fv (B : Nat) (h : mm_H) (c a : Nat) : List Value := (List.range (mm_fks.getD c []).length).map (fun k => if mm_fk (64 * c + k) = 2 then va_rf (mm_ob B (mm_r h (64 * c + k) a)) else .int (mm_i h (64 * c + k) a))
def mm_ce (B : Nat) (cA : Nat → ClassId) (h : mm_H) (a : Nat) : va_E :=
  if mm_k h a < 20 then .inr (mm_k h a - 1, mm_fv B h (mm_k h a - 1) a)
  else if mm_k h a < 22 then .inl (cA (mm_k h a - 20), mm_n h a, .inl (mm_a h a))
  else .inl (cA (mm_k h a - 20), mm_n h a, .inr (.inr (.inr (.inr (fun j => mm_ob B (mm_q h a j))))))
def mm_ww (B : Nat) (cA : Nat → ClassId) (h : mm_H) : va_W := (List.range (mm_t h)).map (fun i => (B + (i + 1), mm_ce B cA h (i + 1)))
def mm_wf (h : mm_H) : Prop := ∀ a, mm_k h a ≠ 0 → 1 ≤ a ∧ a ≤ mm_t h
theorem mm_ww_len (B : Nat) (cA : Nat → ClassId) (h : mm_H) : (mm_ww B cA h).length = mm_t h := by simp [mm_ww]
theorem mm_ww_at (B : Nat) (cA : Nat → ClassId) (h : mm_H) {a : Nat} (h1 : 1 ≤ a) (h2 : a ≤ mm_t h) : (mm_ww B cA h)[a - 1]? = some (B + a, mm_ce B cA h a) := by
  have e : a - 1 + 1 = a := by omega
  simp [mm_ww, List.getElem?_map, List.getElem?_range (show a - 1 < mm_t h by omega), e]
theorem mm_ww_get {B : Nat} {cA : Nat → ClassId} {h : mm_H} {a : Nat} (hw : mm_wf h) (hk : mm_k h a ≠ 0) : (mm_ww B cA h)[a - 1]? = some (B + a, mm_ce B cA h a) := mm_ww_at B cA h (hw a hk).1 (hw a hk).2
theorem mm_ww_obj {B : Nat} {cA : Nat → ClassId} {h : mm_H} {a c : Nat} (hw : mm_wf h) (hk : mm_k h a = c + 1) (hc : c < 10) : (mm_ww B cA h)[a - 1]? = some (B + a, .inr (c, mm_fv B h c a)) := by
  rw [mm_ww_get hw (by omega)]
  unfold mm_ce
  rw [if_pos (by omega), hk]
  rfl
theorem mm_ww_int {B : Nat} {cA : Nat → ClassId} {h : mm_H} {a t : Nat} (hw : mm_wf h) (hk : mm_k h a = 20 + t) (hc : t < 2) : (mm_ww B cA h)[a - 1]? = some (B + a, .inl (cA t, mm_n h a, .inl (mm_a h a))) := by
  rw [mm_ww_get hw (by omega)]
  unfold mm_ce
  rw [if_neg (by omega), if_pos (by omega), hk, Nat.add_sub_cancel_left]
theorem mm_ww_ref {B : Nat} {cA : Nat → ClassId} {h : mm_H} {a t : Nat} (hw : mm_wf h) (hk : mm_k h a = 20 + t) (hc : 2 ≤ t) : (mm_ww B cA h)[a - 1]? = some (B + a, .inl (cA t, mm_n h a, .inr (.inr (.inr (.inr (fun j => mm_ob B (mm_q h a j))))))) := by
  rw [mm_ww_get hw (by omega)]
  unfold mm_ce
  rw [if_neg (by omega), if_neg (by omega), hk, Nat.add_sub_cancel_left]
theorem mm_ce_eq {B : Nat} {cA : Nat → ClassId} {h h' : mm_H} {b : Nat} (hk : mm_k h' b = mm_k h b) (hn : mm_n h' b = mm_n h b) (ha : mm_a h' b = mm_a h b) (hq : mm_q h' b = mm_q h b) (hi : ∀ f, mm_i h' f b = mm_i h f b) (hr : ∀ f, mm_r h' f b = mm_r h f b) : mm_ce B cA h' b = mm_ce B cA h b := by
  unfold mm_ce mm_fv
  simp only [hk, hn, ha, hq, hi, hr]
theorem mm_ww_set {B : Nat} {cA : Nat → ClassId} {h h' : mm_H} {a : Nat} (h1 : 1 ≤ a) (h2 : a ≤ mm_t h) (ht : mm_t h' = mm_t h) (hc : ∀ b, b ≠ a → mm_ce B cA h' b = mm_ce B cA h b) : mm_ww B cA h' = (mm_ww B cA h).set (a - 1) (B + a, mm_ce B cA h' a) := by
  apply List.ext_getElem?
  intro i
  by_cases hi : i < mm_t h
  · have e1 := mm_ww_at B cA h' (a := i + 1) (by omega) (by omega)
    rw [Nat.add_sub_cancel] at e1
    rw [e1]
    by_cases hia : i = a - 1
    · subst hia
      rw [List.getElem?_set_self (by rw [mm_ww_len]; exact hi), show a - 1 + 1 = a by omega]
    · have e2 := mm_ww_at B cA h (a := i + 1) (by omega) (by omega)
      rw [Nat.add_sub_cancel] at e2
      rw [List.getElem?_set_ne (Ne.symm hia), e2, hc (i + 1) (by omega)]
  · rw [List.getElem?_eq_none (by rw [mm_ww_len]; omega), List.getElem?_eq_none (by rw [List.length_set, mm_ww_len]; omega)]
theorem mm_ww_new (B : Nat) (cA : Nat → ClassId) (h : mm_H) (k n : Nat) : mm_ww B cA (mm_new h k n) = mm_ww B cA h ++ [(B + (mm_t h + 1), mm_ce B cA (mm_new h k n) (mm_t h + 1))] := by
  show (List.range (mm_t h + 1)).map _ = _
  rw [List.range_succ, List.map_append]
  congr 1
  apply List.map_congr_left
  intro i hi
  have hi := List.mem_range.mp hi
  have hne : i + 1 ≠ mm_t h + 1 := by omega
  have e : mm_ce B cA (mm_new h k n) (i + 1) = mm_ce B cA h (i + 1) := by
    refine mm_ce_eq ?_ ?_ ?_ ?_ (fun f => ?_) (fun f => ?_)
    · exact if_neg hne
    · exact if_neg hne
    · exact if_neg hne
    · exact if_neg hne
    · exact if_neg hne
    · exact if_neg hne
  rw [e]
/-- types of arrays with their classes -/
def mm_tys (cA : Nat → ClassId) : List (ClassId × FieldType) := [(cA 0, .int), (cA 1, .boolean), (cA 2, .object "QualifierGate$Place"), (cA 3, .object "QualifierGate$Method"), (cA 4, .object "QualifierGate$Frame"), (cA 5, .object "QualifierGate$Activation")]
/-- words that don't stay by themselves -/
def mm_isB (w : Jvm.Cond) : Bool := match w with
  | .fieldLinkNest .. => true
  | .methodLinkNest .. => true
  | .arrayOver (.object _) => true
  | _ => false
def mm_Bw : List Jvm.Cond := lw_tbl.filter mm_isB
theorem mm_G_1 : (Jvm.Cond.native arraycopyName ∈ mm_G ∧ Jvm.Cond.static arraycopyName ∈ mm_G) ∧ Jvm.Cond.initialized "java/lang/System" ∈ mm_G ∧ Jvm.Cond.initialized "java/lang/Math" ∈ mm_G := by decide +kernel
theorem mm_G_2 : Jvm.Cond.static Lib.Math.max.name ∈ mm_G ∧ Jvm.Cond.static Lib.Math.min.name ∈ mm_G ∧ Jvm.Cond.code Lib.Math.max.name Lib.Math.max.code 2 (some .int) ∈ mm_G ∧ Jvm.Cond.code Lib.Math.min.name Lib.Math.min.code 2 (some .int) ∈ mm_G := by decide +kernel
theorem mm_G_3 : Jvm.Cond.arrayClass .int ∈ mm_G ∧ Jvm.Cond.arrayClass .boolean ∈ mm_G ∧ Jvm.Cond.instanceMethod objectInit ∈ mm_G ∧ Jvm.Cond.code objectInit ⟨#[0xb1]⟩ 1 none ∈ mm_G := by decide +kernel
theorem mm_G_4 : ∀ t, 2 ≤ t → t < 6 → Jvm.Cond.arrayOver (.object (mm_N.getD (mm_ac.getD t 0) "")) ∈ mm_Bw := by
  intro t h1 h2
  have h : (List.range 6).all (fun t => decide (t < 2) || decide (Jvm.Cond.arrayOver (.object (mm_N.getD (mm_ac.getD t 0) "")) ∈ mm_Bw)) = true := by decide +kernel
  have h3 := List.all_eq_true.mp h t (List.mem_range.mpr h2)
  simp only [Bool.or_eq_true, decide_eq_true_eq] at h3
  rcases h3 with h3 | h3
  · omega
  · exact h3
theorem mm_G_of {i : Nat} {w : Jvm.Cond} (h : lw_tbl[i]? = some w) (hg : goodWord w = true) : w ∈ mm_G := List.mem_filter.mpr ⟨List.mem_of_getElem? h, hg⟩
