/-! THE SMALL MACHINE: a heap of numbered cells (0 is null), frames of ints and references; what the code does on it -/
/-- a heap: kinds of cells (0 none, 1 + c an object of class c, 20 + t an array of type t), int fields (field, cell), reference fields, lengths, ints of arrays (cell, place), references of arrays, how many cells, how many slots -/
abbrev mm_H : Type := (Nat → Nat) × (Nat → Nat → Int32) × (Nat → Nat → Nat) × (Nat → Nat) × (Nat → Nat → Int32) × (Nat → Nat → Nat) × Nat × Nat
def mm_k (h : mm_H) : Nat → Nat := h.1
def mm_i (h : mm_H) : Nat → Nat → Int32 := h.2.1
def mm_r (h : mm_H) : Nat → Nat → Nat := h.2.2.1
def mm_n (h : mm_H) : Nat → Nat := h.2.2.2.1
def mm_a (h : mm_H) : Nat → Nat → Int32 := h.2.2.2.2.1
def mm_q (h : mm_H) : Nat → Nat → Nat := h.2.2.2.2.2.1
def mm_t (h : mm_H) : Nat := h.2.2.2.2.2.2.1
def mm_s (h : mm_H) : Nat := h.2.2.2.2.2.2.2
/-- one place of a table of two keys gets a value -/
def mm_u {α : Type} (g : Nat → Nat → α) (x y : Nat) (v : α) : Nat → Nat → α := fun a b => if a = x ∧ b = y then v else g a b
def mm_u1 {α : Type} (g : Nat → α) (x : Nat) (v : α) : Nat → α := fun a => if a = x then v else g a
/-- an int field, a reference field, an int of an array, a reference of an array is written -/
def mm_si (h : mm_H) (f a : Nat) (x : Int32) : mm_H := (mm_k h, mm_u (mm_i h) f a x, mm_r h, mm_n h, mm_a h, mm_q h, mm_t h, mm_s h)
def mm_sr (h : mm_H) (f a : Nat) (x : Nat) : mm_H := (mm_k h, mm_i h, mm_u (mm_r h) f a x, mm_n h, mm_a h, mm_q h, mm_t h, mm_s h)
def mm_sa (h : mm_H) (a j : Nat) (x : Int32) : mm_H := (mm_k h, mm_i h, mm_r h, mm_n h, mm_u (mm_a h) a j x, mm_q h, mm_t h, mm_s h)
def mm_sq (h : mm_H) (a j : Nat) (x : Nat) : mm_H := (mm_k h, mm_i h, mm_r h, mm_n h, mm_a h, mm_u (mm_q h) a j x, mm_t h, mm_s h)
/-- a row of ints of an array is copied -/
def mm_sc (h : mm_H) (a b sp dp n : Nat) : mm_H := (mm_k h, mm_i h, mm_r h, mm_n h, mm_u1 (mm_a h) b (va_cpy (mm_a h a) (mm_a h b) sp dp n), mm_q h, mm_t h, mm_s h)
/-- a new cell of a kind, of n places: an object (lengths stay), an array -/
def mm_new (h : mm_H) (k n : Nat) : mm_H := (mm_u1 (mm_k h) (mm_t h + 1) k, (fun f a => if a = mm_t h + 1 then 0 else mm_i h f a), (fun f a => if a = mm_t h + 1 then 0 else mm_r h f a), mm_u1 (mm_n h) (mm_t h + 1) n, mm_u1 (mm_a h) (mm_t h + 1) (fun _ => 0), mm_u1 (mm_q h) (mm_t h + 1) (fun _ => 0), mm_t h + 1, mm_s h + n)
/-- the kind of a field -/
def mm_fk (f : Nat) : Nat := (mm_fks.getD (f / 64) []).getD (f % 64) 3
/-- arrays that are only read: length and contents (0 the script, 1 POPS, 2 PUSHES) -/
abbrev mm_Ro : Type := Nat → Nat × (Nat → Int32)
def mm_gv (h : mm_H) (f a : Nat) : Value := if mm_fk f = 2 then .ref (mm_r h f a) else .int (mm_i h f a)
/-- an index within -/
abbrev mm_in (x : Int32) (n : Nat) : Prop := 0 ≤ x.toInt ∧ x.toInt < n
def mm_tg (pc : Nat) (off : Int) : Nat := ((pc : Int) + off).toNat
def mm_cc (c : Jvm.ClassFile.Cond) (x y : Int32) : Bool := match c with
  | .eq => decide (x = y)
  | .ne => decide (¬ x = y)
  | .lt => decide (x < y)
  | .ge => decide (y ≤ x)
  | .gt => decide (y < x)
  | .le => decide (x ≤ y)
/-- one step that is no call and no end -/
def mm_st (ro : mm_Ro) (i : Instr) (pc : Nat) (L S : List Value) (h : mm_H) : Option (Nat × List Value × List Value × mm_H) :=
  match i with
  | .iload k => match L[k]? with
    | some (.int x) => some (pc + 2, L, .int x :: S, h)
    | _ => none
  | .iload_n k => match L[k.val]? with
    | some (.int x) => some (pc + 1, L, .int x :: S, h)
    | _ => none
  | .aload k => match L[k]? with
    | some (.ref x) => some (pc + 2, L, .ref x :: S, h)
    | some (.retAddr x) => some (pc + 2, L, .retAddr x :: S, h)
    | _ => none
  | .aload_n k => match L[k.val]? with
    | some (.ref x) => some (pc + 1, L, .ref x :: S, h)
    | some (.retAddr x) => some (pc + 1, L, .retAddr x :: S, h)
    | _ => none
  | .istore k => match S with
    | .int x :: S => some (pc + 2, L.set k (.int x), S, h)
    | _ => none
  | .istore_n k => match S with
    | .int x :: S => some (pc + 1, L.set k.val (.int x), S, h)
    | _ => none
  | .astore k => match S with
    | .ref x :: S => some (pc + 2, L.set k (.ref x), S, h)
    | _ => none
  | .astore_n k => match S with
    | .ref x :: S => some (pc + 1, L.set k.val (.ref x), S, h)
    | _ => none
  | .iinc k n => match L[k]? with
    | some (.int x) => some (pc + 3, L.set k (.int (x + Int32.ofInt n)), S, h)
    | _ => none
  | .iconst n => some (pc + 1, L, .int (Int32.ofInt n) :: S, h)
  | .bipush n => some (pc + 2, L, .int (Int8.ofInt n).toInt32 :: S, h)
  | .sipush n => some (pc + 3, L, .int (Int16.ofInt n).toInt32 :: S, h)
  | .aconst_null => some (pc + 1, L, .ref 0 :: S, h)
  | .dup => match S with
    | .int x :: S => some (pc + 1, L, .int x :: .int x :: S, h)
    | .ref x :: S => some (pc + 1, L, .ref x :: .ref x :: S, h)
    | _ => none
  | .dup2 => match S with
    | .int x :: .ref y :: S => some (pc + 1, L, .int x :: .ref y :: .int x :: .ref y :: S, h)
    | _ => none
  | .pop => match S with
    | .int _ :: S => some (pc + 1, L, S, h)
    | .ref _ :: S => some (pc + 1, L, S, h)
    | _ => none
  | .iadd => match S with
    | .int y :: .int x :: S => some (pc + 1, L, .int (x + y) :: S, h)
    | _ => none
  | .isub => match S with
    | .int y :: .int x :: S => some (pc + 1, L, .int (x - y) :: S, h)
    | _ => none
  | .imul => match S with
    | .int y :: .int x :: S => some (pc + 1, L, .int (x * y) :: S, h)
    | _ => none
  | .iand => match S with
    | .int y :: .int x :: S => some (pc + 1, L, .int (x &&& y) :: S, h)
    | _ => none
  | .ior => match S with
    | .int y :: .int x :: S => some (pc + 1, L, .int (x ||| y) :: S, h)
    | _ => none
  | .ixor => match S with
    | .int y :: .int x :: S => some (pc + 1, L, .int (x ^^^ y) :: S, h)
    | _ => none
  | .ishl => match S with
    | .int y :: .int x :: S => some (pc + 1, L, .int (x <<< (y &&& 31)) :: S, h)
    | _ => none
  | .ishr => match S with
    | .int y :: .int x :: S => some (pc + 1, L, .int (x >>> (y &&& 31)) :: S, h)
    | _ => none
  | .goto off => some (mm_tg pc off, L, S, h)
  | .ifCond c off => match S with
    | .int x :: S => some (if mm_cc c x 0 then mm_tg pc off else pc + 3, L, S, h)
    | _ => none
  | .if_icmp c off => match S with
    | .int y :: .int x :: S => some (if mm_cc c x y then mm_tg pc off else pc + 3, L, S, h)
    | _ => none
  | .ifnull off => match S with
    | .ref x :: S => some (if x = 0 then mm_tg pc off else pc + 3, L, S, h)
    | _ => none
  | .ifnonnull off => match S with
    | .ref x :: S => some (if x = 0 then pc + 3 else mm_tg pc off, L, S, h)
    | _ => none
  | .tableswitch d lo hi offs => match S with
    | .int x :: S => if x.toInt < lo ∨ hi < x.toInt then some (mm_tg pc d, L, S, h) else match offs[(x.toInt - lo).toNat]? with
      | some off => some (mm_tg pc off, L, S, h)
      | none => none
    | _ => none
  | .lookupswitch d ps => match S with
    | .int x :: S => some (mm_tg pc (Op.lookupswitch.offset ps.toList d x.toInt), L, S, h)
    | _ => none
  | .getfield f => match S with
    | .ref a :: S => if mm_k h a = f / 64 + 1 then some (pc + 3, L, mm_gv h f a :: S, h) else none
    | _ => none
  | .putfield f => match S with
    | .int x :: .ref a :: S => if mm_k h a = f / 64 + 1 ∧ (mm_fk f = 0 ∨ mm_fk f = 1 ∧ (x = 0 ∨ x = 1)) then some (pc + 3, L, S, mm_si h f a x) else none
    | .ref x :: .ref a :: S => if mm_k h a = f / 64 + 1 ∧ mm_fk f = 2 then some (pc + 3, L, S, mm_sr h f a x) else none
    | _ => none
  | .getstatic k => some (pc + 3, L, .retAddr k :: S, h)
  | .iaload => match S with
    | .int x :: .ref a :: S => if mm_k h a = 20 ∧ mm_in x (mm_n h a) then some (pc + 1, L, .int (mm_a h a x.toNatClampNeg) :: S, h) else none
    | .int x :: .retAddr k :: S => if mm_in x (ro k).1 then some (pc + 1, L, .int ((ro k).2 x.toNatClampNeg) :: S, h) else none
    | _ => none
  | .baload => match S with
    | .int x :: .ref a :: S => if mm_k h a = 21 ∧ mm_in x (mm_n h a) then some (pc + 1, L, .int (mm_a h a x.toNatClampNeg) :: S, h) else none
    | _ => none
  | .aaload => match S with
    | .int x :: .ref a :: S => if (22 ≤ mm_k h a ∧ mm_k h a < 26) ∧ mm_in x (mm_n h a) then some (pc + 1, L, .ref (mm_q h a x.toNatClampNeg) :: S, h) else none
    | _ => none
  | .iastore => match S with
    | .int v :: .int x :: .ref a :: S => if mm_k h a = 20 ∧ mm_in x (mm_n h a) then some (pc + 1, L, S, mm_sa h a x.toNatClampNeg v) else none
    | _ => none
  | .bastore => match S with
    | .int v :: .int x :: .ref a :: S => if mm_k h a = 21 ∧ mm_in x (mm_n h a) ∧ (v = 0 ∨ v = 1) then some (pc + 1, L, S, mm_sa h a x.toNatClampNeg v) else none
    | _ => none
  | .aastore => match S with
    | .ref v :: .int x :: .ref a :: S => if (22 ≤ mm_k h a ∧ mm_k h a < 26) ∧ mm_in x (mm_n h a) ∧ mm_k h v = mm_ac.getD (mm_k h a - 20) 0 + 1 then some (pc + 1, L, S, mm_sq h a x.toNatClampNeg v) else none
    | _ => none
  | .arraylength => match S with
    | .ref a :: S => if 20 ≤ mm_k h a ∧ mm_k h a < 26 then some (pc + 1, L, .int (Int32.ofNat (mm_n h a)) :: S, h) else none
    | .retAddr k :: S => some (pc + 1, L, .int (Int32.ofNat (ro k).1) :: S, h)
    | _ => none
  | .newarray t => match S with
    | .int x :: S => if ¬ x < 0 ∧ x.toNatClampNeg ≤ 100000 ∧ (t = .int ∨ t = .boolean) then some (pc + 2, L, .ref (mm_t h + 1) :: S, mm_new h (if t = .int then 20 else 21) x.toNatClampNeg) else none
    | _ => none
  | .anewarray t => match S with
    | .int x :: S => if ¬ x < 0 ∧ x.toNatClampNeg ≤ 100000 ∧ 2 ≤ t ∧ t < 6 then some (pc + 3, L, .ref (mm_t h + 1) :: S, mm_new h (20 + t) x.toNatClampNeg) else none
    | _ => none
  | .new c => if c < 10 then some (pc + 3, L, .ref (mm_t h + 1) :: S, mm_new h (c + 1) (mm_fks.getD c []).length) else none
  | .invokespecial z => match S with
    | .ref a :: S => if z = 1000 ∧ mm_k h a ≠ 0 ∧ mm_k h a < 20 ∧ S.length ≤ 8 then some (pc + 3, L, S, h) else none
    | _ => none
  | .invokestatic z => match S with
    | .int n :: .int dp :: .ref b :: .int sp :: .ref a :: S => if z = 1001 ∧ mm_k h a = 20 ∧ mm_k h b = 20 ∧ ¬ sp < 0 ∧ ¬ dp < 0 ∧ ¬ n < 0 ∧ sp.toNatClampNeg + n.toNatClampNeg ≤ mm_n h a ∧ dp.toNatClampNeg + n.toNatClampNeg ≤ mm_n h b ∧ S.length ≤ 8 then some (pc + 3, L, S, mm_sc h a b sp.toNatClampNeg dp.toNatClampNeg n.toNatClampNeg) else none
    | .int y :: .int x :: S => if z = 1002 ∧ S.length ≤ 8 then some (pc + 3, L, .int (if x < y then y else x) :: S, h) else if z = 1003 ∧ S.length ≤ 8 then some (pc + 3, L, .int (if y < x then y else x) :: S, h) else none
    | _ => none
  | _ => none
/-- an end: what is given (null where nothing is) -/
def mm_rt (ret : Option FieldType) (i : Instr) (S : List Value) : Option Value :=
  match i, S with
  | .ireturn, [.int x] => if ret = some .int ∨ ret = some .boolean ∧ (x = 0 ∨ x = 1) then some (.int x) else none
  | .areturn, [.ref a] => if ret = none ∨ ret = some .int ∨ ret = some .boolean then none else some (.ref a)
  | .return_, [] => if ret = none then some .null else none
  | _, _ => none
/-- a call: the number of the method -/
def mm_ca (i : Instr) : Option Nat := match i with
  | .invokevirtual z => some z
  | .invokespecial z => if z < 1000 then some z else none
  | .invokestatic z => if z < 1000 then some z else none
  | _ => none
def mm_at (M : mm_M) (pc : Nat) : Option (Nat × Nat × Instr) := (M.2.2.2.2.2.2.find? (fun e => e.1 == pc)).map (fun e => e.2)
/-- a value of one word -/
def mm_c1 (v : Value) : Bool := match v with
  | .int _ => true
  | .ref _ => true
  | .retAddr _ => true
  | _ => false
/-- how many values a call takes, its receiver too -/
def mm_na' (M : mm_M) : Nat := M.2.2.2.2.1.2.1 + (if M.2.2.2.2.1.2.2 then 0 else 1)
def mm_rc (M : mm_M) (h : mm_H) (As : List Value) : Bool := if M.2.2.2.2.1.2.2 then true else match As with
  | .ref b :: _ => decide (mm_k h b = M.2.2.2.2.1.1 + 1)
  | _ => false
/-- a method's code from a place on, with what calls do -/
def mm_ex (ms : List mm_M) (ro : mm_Ro) (call : Nat → List Value → mm_H → Option (Value × mm_H)) (M : mm_M) : Nat → Nat → List Value → List Value → mm_H → Option (Value × mm_H)
  | 0, _, _, _, _ => none
  | n + 1, pc, L, S, h => match mm_at M pc with
    | none => none
    | some (_, _, i) => match mm_rt M.2.2.2.1 i S with
      | some r => some (r, h)
      | none => match mm_ca i with
        | some z => match ms[z]? with
          | none => none
          | some Z => if mm_na' Z ≤ S.length ∧ S.length ≤ mm_na' Z + 8 ∧ (S.drop (mm_na' Z)).all mm_c1 = true ∧ mm_rc Z h (S.take (mm_na' Z)).reverse = true then (match call z (S.take (mm_na' Z)).reverse h with
            | none => none
            | some (r, h1) => mm_ex ms ro call M n (pc + 3) L (if Z.2.2.2.1 = none then S.drop (mm_na' Z) else r :: S.drop (mm_na' Z)) h1) else none
        | none => match mm_st ro i pc L S h with
          | none => none
          | some (pc', L', S', h') => mm_ex ms ro call M n pc' L' S' h'
/-- a method from its start: d calls deep at most, n steps in each -/
def mm_run (ms : List mm_M) (ro : mm_Ro) : Nat → Nat → Nat → List Value → mm_H → Option (Value × mm_H)
  | 0, _, _, _, _ => none
  | d + 1, n, z, As, h => match ms[z]? with
    | none => none
    | some Z => if As.length = mm_na' Z ∧ As.length ≤ Z.2.2.1 ∧ As.all mm_c1 = true then mm_ex ms ro (mm_run ms ro d n) Z n 0 (As ++ List.replicate (Z.2.2.1 - As.length) .null) [] h else none
