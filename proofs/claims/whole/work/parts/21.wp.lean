theorem mm_lay_lt : ∀ {l : List mm_I} {a : mm_I}, mm_lay (a :: l) = true → ∀ e ∈ l, a.1 < e.1 := by
  intro l
  induction l with
  | nil => intro a _ e he; cases he
  | cons b l ih =>
    intro a h e he
    have h1 : (0 < a.2.1 ∧ b.1 = a.1 + a.2.1) ∧ mm_lay (b :: l) = true := by
      rw [mm_lay, Bool.and_eq_true, Bool.and_eq_true] at h
      exact ⟨⟨of_decide_eq_true h.1.1, of_decide_eq_true h.1.2⟩, h.2⟩
    rcases List.mem_cons.mp he with rfl | he
    · omega
    · have := ih h1.2 e he
      omega
theorem mm_lay_tail {l : List mm_I} {a : mm_I} (h : mm_lay (a :: l) = true) : mm_lay l = true := by
  cases l with
  | nil => rfl
  | cons b l =>
    rw [mm_lay, Bool.and_eq_true] at h
    exact h.2
theorem mm_lay_find : ∀ {l : List mm_I}, mm_lay l = true → ∀ e ∈ l, l.find? (fun x => x.1 == e.1) = some e := by
  intro l
  induction l with
  | nil => intro _ e he; cases he
  | cons a l ih =>
    intro h e he
    rcases List.mem_cons.mp he with rfl | he
    · simp
    · have h1 := mm_lay_lt h e he
      rw [List.find?_cons_of_neg (by simp; omega)]
      exact ih (mm_lay_tail h) e he
/-- what is known of a method's code -/
def mm_okM (M : mm_M) : Prop := mm_lay M.2.2.2.2.2.2 = true ∧ ∀ e ∈ M.2.2.2.2.2.2, mm_ln e.2.2.2 = 0 ∨ mm_ln e.2.2.2 = e.2.1
theorem mm_hM (z : Nat) {M : mm_M} (hZ : mm_ms[z]? = some M) : mm_okM M := by
  have hm := List.mem_of_getElem? hZ
  refine ⟨List.all_eq_true.mp mm_lay_ms M hm, fun e he => ?_⟩
  have h1 := mm_ms_1 M hm e he
  simp only [mm_ok1, Bool.and_eq_true, Bool.or_eq_true, decide_eq_true_eq] at h1
  exact h1.1.2
theorem mm_hL : mm_okM mm_m_La_law := by
  refine ⟨mm_lay_law, fun e he => ?_⟩
  have h1 := mm_d_La_law e he
  simp only [mm_ok1, Bool.and_eq_true, Bool.or_eq_true, decide_eq_true_eq] at h1
  exact h1.1.2
/-- a comparison, over the integers -/
def mm_cp (c : Jvm.ClassFile.Cond) (x y : Int32) : Prop := match c with
  | .eq => x = y
  | .ne => ¬ x = y
  | .lt => x.toInt < y.toInt
  | .ge => y.toInt ≤ x.toInt
  | .gt => y.toInt < x.toInt
  | .le => x.toInt ≤ y.toInt
theorem mm_cp_iff {c : Jvm.ClassFile.Cond} {x y : Int32} : mm_cc c x y = true ↔ mm_cp c x y := by
  cases c
  · exact decide_eq_true_iff
  · exact decide_eq_true_iff
  · exact decide_eq_true_iff.trans Int32.lt_iff_toInt_lt
  · exact decide_eq_true_iff.trans Int32.le_iff_toInt_le
  · exact decide_eq_true_iff.trans Int32.lt_iff_toInt_lt
  · exact decide_eq_true_iff.trans Int32.le_iff_toInt_le
/-- the top n values, the lowest first, and the rest -/
def mm_tk : Nat → List Value → List Value → Option (List Value × List Value)
  | 0, S, acc => some (acc, S)
  | n + 1, S, acc => match S with
    | v :: S => mm_tk n S (v :: acc)
    | [] => none
theorem mm_tk_ok : ∀ (n : Nat) (S acc As S0 : List Value), mm_tk n S acc = some (As, S0) → ∃ Bs, S = Bs.reverse ++ S0 ∧ As = Bs ++ acc ∧ Bs.length = n := by
  intro n
  induction n with
  | zero => intro S acc As S0 h; cases h; exact ⟨[], rfl, rfl, rfl⟩
  | succ n ih =>
    intro S acc As S0 h
    cases S with
    | nil => cases h
    | cons v S =>
      obtain ⟨Bs, h1, h2, h3⟩ := ih S (v :: acc) As S0 h
      refine ⟨Bs ++ [v], ?_, ?_, ?_⟩
      · rw [h1, List.reverse_append]; rfl
      · rw [h2, List.append_assoc]; rfl
      · rw [List.length_append, h3]; rfl
/-- at most k values, each of one word -/
def mm_okr : Nat → List Value → Bool
  | _, [] => true
  | 0, _ :: _ => false
  | k + 1, v :: S => match v with
    | .int _ => mm_okr k S
    | .ref _ => mm_okr k S
    | .retAddr _ => mm_okr k S
    | _ => false
theorem mm_okr_ok : ∀ (k : Nat) (S : List Value), mm_okr k S = true → S.length ≤ k ∧ S.all mm_c1 = true := by
  intro k
  induction k with
  | zero =>
    intro S h
    cases S with
    | nil => exact ⟨Nat.le_refl _, rfl⟩
    | cons v S => cases h
  | succ k ih =>
    intro S h
    cases S with
    | nil => exact ⟨Nat.zero_le _, rfl⟩
    | cons v S =>
      cases v <;> first | (cases h; done) | skip
      all_goals
        have := ih S h
        exact ⟨Nat.succ_le_succ this.1, by rw [List.all_cons, this.2]; rfl⟩
def mm_rcp (Z : mm_M) (h : mm_H) (As : List Value) : Prop := match Z.2.2.2.2.1.2.2 with
  | true => True
  | false => match As with
    | .ref b :: _ => mm_k h b = Z.2.2.2.2.1.1 + 1
    | _ => False
theorem mm_rcp_ok {Z : mm_M} {h : mm_H} {As : List Value} (hr : mm_rcp Z h As) : mm_rc Z h As = true := by
  unfold mm_rcp at hr
  unfold mm_rc
  split at hr
  · rename_i e; rw [e]; rfl
  · rename_i e
    rw [e]
    split at hr
    · exact decide_eq_true hr
    · exact hr.elim
/-- a table of ways -/
def mm_tsw (x : Int) (P : Int → Prop) : Int → List Int → Prop
  | _, [] => True
  | v, o :: os => (x = v → P o) ∧ mm_tsw x P (v + 1) os
theorem mm_tsw_ok {x : Int} {P : Int → Prop} : ∀ (os : List Int) (v : Int), mm_tsw x P v os → ∀ (j : Nat) (o : Int), os[j]? = some o → x = v + j → P o := by
  intro os
  induction os with
  | nil => intro v _ j o h; simp at h
  | cons a os ih =>
    intro v h j o hj hx
    cases j with
    | zero => rw [List.getElem?_cons_zero] at hj; cases hj; exact h.1 (by simpa using hx)
    | succ j => rw [List.getElem?_cons_succ] at hj; exact ih (v + 1) h.2 j o hj (by rw [hx]; push_cast; omega)
def mm_lsw (x d : Int) (P : Int → Prop) : List (Int × Int) → Prop
  | [] => P d
  | q :: qs => (x = q.1 → P q.2) ∧ (¬ x = q.1 → mm_lsw x d P qs)
theorem mm_lsw_ok {x d : Int} {P : Int → Prop} : ∀ (qs : List (Int × Int)), mm_lsw x d P qs → P (Op.lookupswitch.offset qs d x) := by
  intro qs
  induction qs with
  | nil => intro h; exact h
  | cons q qs ih =>
    intro h
    obtain ⟨a, o⟩ := q
    unfold Op.lookupswitch.offset
    split
    · rename_i hq; exact h.1 (Eq.symm (by simpa using hq))
    · rename_i hq; exact ih (h.2 (fun z => hq (by simpa using z.symm)))
/-- does a stretch of code begin at a place -/
def mm_isp (sp : Nat) (es : List mm_I) : Bool := match es with
  | [] => false
  | e :: _ => Nat.beq e.1 sp
/-- WHAT MUST HOLD IN FRONT OF A STRETCH OF CODE for Q to hold at the end; where it comes to the place sp it is asked of what goes on there -/
def mm_wp (ro : mm_Ro) (d : Nat) (M : mm_M) (Q : Value → mm_H → Prop) (sp : Nat) : List mm_I → List Value → List Value → mm_H → Prop
  | [], _, _, _ => False
  | (pc, _, _, i) :: es, L, S, h => match i with
    | .iload k => match L[k]? with
      | some (.int x) => (bif mm_isp sp es then mm_go ro d M sp L (.int x :: S) h Q else mm_wp ro d M Q sp es L (.int x :: S) h)
      | _ => False
    | .iload_n k => match L[k.val]? with
      | some (.int x) => (bif mm_isp sp es then mm_go ro d M sp L (.int x :: S) h Q else mm_wp ro d M Q sp es L (.int x :: S) h)
      | _ => False
    | .aload k => match L[k]? with
      | some (.ref x) => (bif mm_isp sp es then mm_go ro d M sp L (.ref x :: S) h Q else mm_wp ro d M Q sp es L (.ref x :: S) h)
      | some (.retAddr x) => (bif mm_isp sp es then mm_go ro d M sp L (.retAddr x :: S) h Q else mm_wp ro d M Q sp es L (.retAddr x :: S) h)
      | _ => False
    | .aload_n k => match L[k.val]? with
      | some (.ref x) => (bif mm_isp sp es then mm_go ro d M sp L (.ref x :: S) h Q else mm_wp ro d M Q sp es L (.ref x :: S) h)
      | some (.retAddr x) => (bif mm_isp sp es then mm_go ro d M sp L (.retAddr x :: S) h Q else mm_wp ro d M Q sp es L (.retAddr x :: S) h)
      | _ => False
    | .istore k => match S with
      | .int x :: S => (bif mm_isp sp es then mm_go ro d M sp (L.set k (.int x)) S h Q else mm_wp ro d M Q sp es (L.set k (.int x)) S h)
      | _ => False
    | .istore_n k => match S with
      | .int x :: S => (bif mm_isp sp es then mm_go ro d M sp (L.set k.val (.int x)) S h Q else mm_wp ro d M Q sp es (L.set k.val (.int x)) S h)
      | _ => False
    | .astore k => match S with
      | .ref x :: S => (bif mm_isp sp es then mm_go ro d M sp (L.set k (.ref x)) S h Q else mm_wp ro d M Q sp es (L.set k (.ref x)) S h)
      | _ => False
    | .astore_n k => match S with
      | .ref x :: S => (bif mm_isp sp es then mm_go ro d M sp (L.set k.val (.ref x)) S h Q else mm_wp ro d M Q sp es (L.set k.val (.ref x)) S h)
      | _ => False
    | .iinc k n => match L[k]? with
      | some (.int x) => (bif mm_isp sp es then mm_go ro d M sp (L.set k (.int (x + Int32.ofInt n))) S h Q else mm_wp ro d M Q sp es (L.set k (.int (x + Int32.ofInt n))) S h)
      | _ => False
    | .iconst n => (bif mm_isp sp es then mm_go ro d M sp L (.int (Int32.ofInt n) :: S) h Q else mm_wp ro d M Q sp es L (.int (Int32.ofInt n) :: S) h)
    | .bipush n => (bif mm_isp sp es then mm_go ro d M sp L (.int (Int8.ofInt n).toInt32 :: S) h Q else mm_wp ro d M Q sp es L (.int (Int8.ofInt n).toInt32 :: S) h)
    | .sipush n => (bif mm_isp sp es then mm_go ro d M sp L (.int (Int16.ofInt n).toInt32 :: S) h Q else mm_wp ro d M Q sp es L (.int (Int16.ofInt n).toInt32 :: S) h)
    | .aconst_null => (bif mm_isp sp es then mm_go ro d M sp L (.ref 0 :: S) h Q else mm_wp ro d M Q sp es L (.ref 0 :: S) h)
    | .dup => match S with
      | .int x :: S => (bif mm_isp sp es then mm_go ro d M sp L (.int x :: .int x :: S) h Q else mm_wp ro d M Q sp es L (.int x :: .int x :: S) h)
      | .ref x :: S => (bif mm_isp sp es then mm_go ro d M sp L (.ref x :: .ref x :: S) h Q else mm_wp ro d M Q sp es L (.ref x :: .ref x :: S) h)
      | _ => False
    | .dup2 => match S with
      | .int x :: .ref y :: S => (bif mm_isp sp es then mm_go ro d M sp L (.int x :: .ref y :: .int x :: .ref y :: S) h Q else mm_wp ro d M Q sp es L (.int x :: .ref y :: .int x :: .ref y :: S) h)
      | _ => False
    | .pop => match S with
      | .int _ :: S => (bif mm_isp sp es then mm_go ro d M sp L S h Q else mm_wp ro d M Q sp es L S h)
      | .ref _ :: S => (bif mm_isp sp es then mm_go ro d M sp L S h Q else mm_wp ro d M Q sp es L S h)
      | _ => False
    | .iadd => match S with
      | .int y :: .int x :: S => (bif mm_isp sp es then mm_go ro d M sp L (.int (x + y) :: S) h Q else mm_wp ro d M Q sp es L (.int (x + y) :: S) h)
      | _ => False
    | .isub => match S with
      | .int y :: .int x :: S => (bif mm_isp sp es then mm_go ro d M sp L (.int (x - y) :: S) h Q else mm_wp ro d M Q sp es L (.int (x - y) :: S) h)
      | _ => False
    | .imul => match S with
      | .int y :: .int x :: S => (bif mm_isp sp es then mm_go ro d M sp L (.int (x * y) :: S) h Q else mm_wp ro d M Q sp es L (.int (x * y) :: S) h)
      | _ => False
    | .iand => match S with
      | .int y :: .int x :: S => (bif mm_isp sp es then mm_go ro d M sp L (.int (x &&& y) :: S) h Q else mm_wp ro d M Q sp es L (.int (x &&& y) :: S) h)
      | _ => False
    | .ior => match S with
      | .int y :: .int x :: S => (bif mm_isp sp es then mm_go ro d M sp L (.int (x ||| y) :: S) h Q else mm_wp ro d M Q sp es L (.int (x ||| y) :: S) h)
      | _ => False
    | .ixor => match S with
      | .int y :: .int x :: S => (bif mm_isp sp es then mm_go ro d M sp L (.int (x ^^^ y) :: S) h Q else mm_wp ro d M Q sp es L (.int (x ^^^ y) :: S) h)
      | _ => False
    | .ishl => match S with
      | .int y :: .int x :: S => (bif mm_isp sp es then mm_go ro d M sp L (.int (x <<< (y &&& 31)) :: S) h Q else mm_wp ro d M Q sp es L (.int (x <<< (y &&& 31)) :: S) h)
      | _ => False
    | .ishr => match S with
      | .int y :: .int x :: S => (bif mm_isp sp es then mm_go ro d M sp L (.int (x >>> (y &&& 31)) :: S) h Q else mm_wp ro d M Q sp es L (.int (x >>> (y &&& 31)) :: S) h)
      | _ => False
    | .goto off => mm_go ro d M (mm_tg pc off) L S h Q
    | .ifCond c off => match S with
      | .int x :: S => (mm_cp c x 0 → mm_go ro d M (mm_tg pc off) L S h Q) ∧ (¬ mm_cp c x 0 → (bif mm_isp sp es then mm_go ro d M sp L S h Q else mm_wp ro d M Q sp es L S h))
      | _ => False
    | .if_icmp c off => match S with
      | .int y :: .int x :: S => (mm_cp c x y → mm_go ro d M (mm_tg pc off) L S h Q) ∧ (¬ mm_cp c x y → (bif mm_isp sp es then mm_go ro d M sp L S h Q else mm_wp ro d M Q sp es L S h))
      | _ => False
    | .ifnull off => match S with
      | .ref x :: S => (x = 0 → mm_go ro d M (mm_tg pc off) L S h Q) ∧ (¬ x = 0 → (bif mm_isp sp es then mm_go ro d M sp L S h Q else mm_wp ro d M Q sp es L S h))
      | _ => False
    | .ifnonnull off => match S with
      | .ref x :: S => (¬ x = 0 → mm_go ro d M (mm_tg pc off) L S h Q) ∧ (x = 0 → (bif mm_isp sp es then mm_go ro d M sp L S h Q else mm_wp ro d M Q sp es L S h))
      | _ => False
    | .tableswitch df lo hi offs => match S with
      | .int x :: S => (x.toInt < lo ∨ hi < x.toInt → mm_go ro d M (mm_tg pc df) L S h Q) ∧ (hi - lo + 1).toNat ≤ offs.toList.length ∧ mm_tsw x.toInt (fun o => mm_go ro d M (mm_tg pc o) L S h Q) lo offs.toList
      | _ => False
    | .lookupswitch df ps => match S with
      | .int x :: S => mm_lsw x.toInt df (fun o => mm_go ro d M (mm_tg pc o) L S h Q) ps.toList
      | _ => False
    | .getfield f => match S with
      | .ref a :: S => match mm_fk f with
        | 2 => mm_k h a = f / 64 + 1 ∧ ∀ b, b = mm_r h f a → (bif mm_isp sp es then mm_go ro d M sp L (.ref b :: S) h Q else mm_wp ro d M Q sp es L (.ref b :: S) h)
        | _ => mm_k h a = f / 64 + 1 ∧ ∀ x, x = mm_i h f a → (bif mm_isp sp es then mm_go ro d M sp L (.int x :: S) h Q else mm_wp ro d M Q sp es L (.int x :: S) h)
      | _ => False
    | .putfield f => match S with
      | .int x :: .ref a :: S => match mm_fk f with
        | 0 => mm_k h a = f / 64 + 1 ∧ (bif mm_isp sp es then mm_go ro d M sp L S (mm_si h f a x) Q else mm_wp ro d M Q sp es L S (mm_si h f a x))
        | 1 => mm_k h a = f / 64 + 1 ∧ (x = 0 ∨ x = 1) ∧ (bif mm_isp sp es then mm_go ro d M sp L S (mm_si h f a x) Q else mm_wp ro d M Q sp es L S (mm_si h f a x))
        | _ => False
      | .ref x :: .ref a :: S => match mm_fk f with
        | 2 => mm_k h a = f / 64 + 1 ∧ (bif mm_isp sp es then mm_go ro d M sp L S (mm_sr h f a x) Q else mm_wp ro d M Q sp es L S (mm_sr h f a x))
        | _ => False
      | _ => False
    | .getstatic k => (bif mm_isp sp es then mm_go ro d M sp L (.retAddr k :: S) h Q else mm_wp ro d M Q sp es L (.retAddr k :: S) h)
    | .iaload => match S with
      | .int x :: .ref a :: S => (mm_k h a = 20 ∧ mm_in x (mm_n h a)) ∧ ∀ y, y = mm_a h a x.toNatClampNeg → (bif mm_isp sp es then mm_go ro d M sp L (.int y :: S) h Q else mm_wp ro d M Q sp es L (.int y :: S) h)
      | .int x :: .retAddr k :: S => mm_in x (ro k).1 ∧ ∀ y, y = (ro k).2 x.toNatClampNeg → (bif mm_isp sp es then mm_go ro d M sp L (.int y :: S) h Q else mm_wp ro d M Q sp es L (.int y :: S) h)
      | _ => False
    | .baload => match S with
      | .int x :: .ref a :: S => (mm_k h a = 21 ∧ mm_in x (mm_n h a)) ∧ ∀ y, y = mm_a h a x.toNatClampNeg → (bif mm_isp sp es then mm_go ro d M sp L (.int y :: S) h Q else mm_wp ro d M Q sp es L (.int y :: S) h)
      | _ => False
    | .aaload => match S with
      | .int x :: .ref a :: S => ((22 ≤ mm_k h a ∧ mm_k h a < 26) ∧ mm_in x (mm_n h a)) ∧ ∀ b, b = mm_q h a x.toNatClampNeg → (bif mm_isp sp es then mm_go ro d M sp L (.ref b :: S) h Q else mm_wp ro d M Q sp es L (.ref b :: S) h)
      | _ => False
    | .iastore => match S with
      | .int v :: .int x :: .ref a :: S => (mm_k h a = 20 ∧ mm_in x (mm_n h a)) ∧ (bif mm_isp sp es then mm_go ro d M sp L S (mm_sa h a x.toNatClampNeg v) Q else mm_wp ro d M Q sp es L S (mm_sa h a x.toNatClampNeg v))
      | _ => False
    | .bastore => match S with
      | .int v :: .int x :: .ref a :: S => (mm_k h a = 21 ∧ mm_in x (mm_n h a) ∧ (v = 0 ∨ v = 1)) ∧ (bif mm_isp sp es then mm_go ro d M sp L S (mm_sa h a x.toNatClampNeg v) Q else mm_wp ro d M Q sp es L S (mm_sa h a x.toNatClampNeg v))
      | _ => False
    | .aastore => match S with
      | .ref v :: .int x :: .ref a :: S => ((22 ≤ mm_k h a ∧ mm_k h a < 26) ∧ mm_in x (mm_n h a) ∧ mm_k h v = mm_ac.getD (mm_k h a - 20) 0 + 1) ∧ (bif mm_isp sp es then mm_go ro d M sp L S (mm_sq h a x.toNatClampNeg v) Q else mm_wp ro d M Q sp es L S (mm_sq h a x.toNatClampNeg v))
      | _ => False
    | .arraylength => match S with
      | .ref a :: S => (20 ≤ mm_k h a ∧ mm_k h a < 26) ∧ (bif mm_isp sp es then mm_go ro d M sp L (.int (Int32.ofNat (mm_n h a)) :: S) h Q else mm_wp ro d M Q sp es L (.int (Int32.ofNat (mm_n h a)) :: S) h)
      | .retAddr k :: S => (bif mm_isp sp es then mm_go ro d M sp L (.int (Int32.ofNat (ro k).1) :: S) h Q else mm_wp ro d M Q sp es L (.int (Int32.ofNat (ro k).1) :: S) h)
      | _ => False
    | .newarray t => match S with
      | .int x :: S => (¬ x < 0 ∧ x.toNatClampNeg ≤ 100000 ∧ (t = .int ∨ t = .boolean)) ∧ (bif mm_isp sp es then mm_go ro d M sp L (.ref (mm_t h + 1) :: S) (mm_new h (if t = .int then 20 else 21) x.toNatClampNeg) Q else mm_wp ro d M Q sp es L (.ref (mm_t h + 1) :: S) (mm_new h (if t = .int then 20 else 21) x.toNatClampNeg))
      | _ => False
    | .anewarray t => match S with
      | .int x :: S => (¬ x < 0 ∧ x.toNatClampNeg ≤ 100000 ∧ 2 ≤ t ∧ t < 6) ∧ (bif mm_isp sp es then mm_go ro d M sp L (.ref (mm_t h + 1) :: S) (mm_new h (20 + t) x.toNatClampNeg) Q else mm_wp ro d M Q sp es L (.ref (mm_t h + 1) :: S) (mm_new h (20 + t) x.toNatClampNeg))
      | _ => False
    | .new c => c < 10 ∧ (bif mm_isp sp es then mm_go ro d M sp L (.ref (mm_t h + 1) :: S) (mm_new h (c + 1) (mm_fks.getD c []).length) Q else mm_wp ro d M Q sp es L (.ref (mm_t h + 1) :: S) (mm_new h (c + 1) (mm_fks.getD c []).length))
    | .invokespecial z => match decide (z < 1000) with
      | true => match mm_ms[z]? with
        | some Z => match mm_tk (mm_na' Z) S [] with
          | some (As, S0) => (mm_okr 8 S0 = true ∧ mm_rcp Z h As) ∧ mm_ev ro d z As h (fun r h1 => (bif mm_isp sp es then mm_go ro d M sp L (match Z.2.2.2.1 with | none => S0 | some _ => r :: S0) h1 Q else mm_wp ro d M Q sp es L (match Z.2.2.2.1 with | none => S0 | some _ => r :: S0) h1))
          | none => False
        | none => False
      | false => match S with
        | .ref a :: S => (z = 1000 ∧ mm_k h a ≠ 0 ∧ mm_k h a < 20 ∧ S.length ≤ 8) ∧ (bif mm_isp sp es then mm_go ro d M sp L S h Q else mm_wp ro d M Q sp es L S h)
        | _ => False
    | .invokestatic z => match decide (z < 1000) with
      | true => match mm_ms[z]? with
        | some Z => match mm_tk (mm_na' Z) S [] with
          | some (As, S0) => (mm_okr 8 S0 = true ∧ mm_rcp Z h As) ∧ mm_ev ro d z As h (fun r h1 => (bif mm_isp sp es then mm_go ro d M sp L (match Z.2.2.2.1 with | none => S0 | some _ => r :: S0) h1 Q else mm_wp ro d M Q sp es L (match Z.2.2.2.1 with | none => S0 | some _ => r :: S0) h1))
          | none => False
        | none => False
      | false => match S with
        | .int n :: .int dp :: .ref b :: .int s9 :: .ref a :: S => (z = 1001 ∧ mm_k h a = 20 ∧ mm_k h b = 20 ∧ ¬ s9 < 0 ∧ ¬ dp < 0 ∧ ¬ n < 0 ∧ s9.toNatClampNeg + n.toNatClampNeg ≤ mm_n h a ∧ dp.toNatClampNeg + n.toNatClampNeg ≤ mm_n h b ∧ S.length ≤ 8) ∧ (bif mm_isp sp es then mm_go ro d M sp L S (mm_sc h a b s9.toNatClampNeg dp.toNatClampNeg n.toNatClampNeg) Q else mm_wp ro d M Q sp es L S (mm_sc h a b s9.toNatClampNeg dp.toNatClampNeg n.toNatClampNeg))
        | .int y :: .int x :: S => S.length ≤ 8 ∧ (match z with
          | 1002 => (bif mm_isp sp es then mm_go ro d M sp L (.int (if x < y then y else x) :: S) h Q else mm_wp ro d M Q sp es L (.int (if x < y then y else x) :: S) h)
          | 1003 => (bif mm_isp sp es then mm_go ro d M sp L (.int (if y < x then y else x) :: S) h Q else mm_wp ro d M Q sp es L (.int (if y < x then y else x) :: S) h)
          | _ => False)
        | _ => False
    | .invokevirtual z => match mm_ms[z]? with
      | some Z => match mm_tk (mm_na' Z) S [] with
        | some (As, S0) => (mm_okr 8 S0 = true ∧ mm_rcp Z h As) ∧ mm_ev ro d z As h (fun r h1 => (bif mm_isp sp es then mm_go ro d M sp L (match Z.2.2.2.1 with | none => S0 | some _ => r :: S0) h1 Q else mm_wp ro d M Q sp es L (match Z.2.2.2.1 with | none => S0 | some _ => r :: S0) h1))
        | none => False
      | none => False
    | .ireturn => match S with
      | [.int x] => match M.2.2.2.1 with
        | some .int => Q (.int x) h
        | some .boolean => (x = 0 ∨ x = 1) ∧ Q (.int x) h
        | _ => False
      | _ => False
    | .areturn => match S with
      | [.ref a] => match M.2.2.2.1 with
        | some (.object _) => Q (.ref a) h
        | _ => False
      | _ => False
    | .return_ => match S with
      | [] => match M.2.2.2.1 with
        | none => Q .null h
        | _ => False
      | _ => False
    | _ => False
