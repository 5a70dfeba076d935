theorem mm_dr1 {α : Type} (bs : List UInt8) (p : Nat) (b : UInt8) (r : List UInt8) (h : bs.drop p = b :: r) (k : Nat → Decoder α) : Reader.runAt ((Reader.u1 : Decoder Nat) >>= k) ⟨bs.toArray⟩ p = Reader.runAt (k b.toNat) ⟨bs.toArray⟩ (p + 1) := by
  have hp : p < bs.length := by
    rcases Nat.lt_or_ge p bs.length with q | q
    · exact q
    · rw [List.drop_eq_nil_of_le q] at h; cases h
  have hb : bs[p] = b := by
    rw [List.drop_eq_getElem_cons hp] at h
    exact (List.cons.inj h).1
  have hs : p < (ByteArray.mk bs.toArray).size := by
    show p < bs.toArray.size
    simpa using hp
  have hg : (ByteArray.mk bs.toArray)[p] = b := by
    show (bs.toArray)[p]'(by simpa using hp) = b
    simpa using hb
  unfold Reader.runAt Reader.u1
  simp only [ReaderT.run, StateT.run, Bind.bind, ReaderT.bind, StateT.bind, MonadReader.read, readThe, MonadReaderOf.read, ReaderT.read, MonadState.get, getThe, MonadStateOf.get, StateT.get, Pure.pure, Except.pure, StateT.pure, Except.bind, liftM, monadLift, MonadLift.monadLift, StateT.lift, ReaderT.pure, MonadState.set, MonadStateOf.set, StateT.set, hs, dif_pos, hg]
theorem mm_dr2 (bs : List UInt8) (p : Nat) (b : UInt8) (r : List UInt8) (h : bs.drop p = b :: r) : bs.drop (p + 1) = r := by
  rw [← List.drop_drop, h]; rfl
theorem mm_drb {α β : Type} (x : Decoder α) (k : α → Decoder β) (c : ByteArray) (p : Nat) : Reader.runAt (x >>= k) c p = Except.bind (Reader.runAt x c p) (fun z => Reader.runAt (k z.1) c z.2) := rfl
theorem mm_dru2' (bs : List UInt8) (p : Nat) (b c : UInt8) (r : List UInt8) (h : bs.drop p = b :: c :: r) : Reader.runAt (Reader.u2 : Decoder Nat) ⟨bs.toArray⟩ p = .ok (b.toNat * 256 + c.toNat, p + 1 + 1) := by
  unfold Reader.u2
  rw [mm_dr1 bs p b _ h, mm_dr1 bs (p + 1) c _ (mm_dr2 _ _ _ _ h)]
  rfl
theorem mm_dru2 {α : Type} (bs : List UInt8) (p : Nat) (b c : UInt8) (r : List UInt8) (h : bs.drop p = b :: c :: r) (k : Nat → Decoder α) : Reader.runAt ((Reader.u2 : Decoder Nat) >>= k) ⟨bs.toArray⟩ p = Reader.runAt (k (b.toNat * 256 + c.toNat)) ⟨bs.toArray⟩ (p + 1 + 1) := by
  rw [mm_drb, mm_dru2' bs p b c r h]
  rfl
theorem mm_drs1 {α : Type} (bs : List UInt8) (p : Nat) (b : UInt8) (r : List UInt8) (h : bs.drop p = b :: r) (k : Int → Decoder α) : Reader.runAt ((Reader.s1 : Decoder Int) >>= k) ⟨bs.toArray⟩ p = Reader.runAt (k (Reader.signed 8 b.toNat)) ⟨bs.toArray⟩ (p + 1) := by
  unfold Reader.s1
  rw [bind_map_left, mm_dr1 bs p b _ h]
theorem mm_drs2 {α : Type} (bs : List UInt8) (p : Nat) (b c : UInt8) (r : List UInt8) (h : bs.drop p = b :: c :: r) (k : Int → Decoder α) : Reader.runAt ((Reader.s2 : Decoder Int) >>= k) ⟨bs.toArray⟩ p = Reader.runAt (k (Reader.signed 16 (b.toNat * 256 + c.toNat))) ⟨bs.toArray⟩ (p + 1 + 1) := by
  unfold Reader.s2
  rw [bind_map_left, mm_dru2 bs p b c _ h]
theorem mm_dc_1 {bs : List UInt8} {p : Nat} {r : List UInt8} (h : bs.drop p = 1 :: r) : decode ⟨bs.toArray⟩ p = .ok (.aconst_null, 1) := by
  unfold decode Decoder.instr
  rw [mm_dr1 bs p 1 r h]
  show (Except.ok (_, p + 1 - p) : Except DecodeError (Instr × Nat)) = _
  rw [Nat.add_sub_cancel_left]
theorem mm_dc_2 {bs : List UInt8} {p : Nat} {r : List UInt8} (h : bs.drop p = 2 :: r) : decode ⟨bs.toArray⟩ p = .ok (.iconst (-1), 1) := by
  unfold decode Decoder.instr
  rw [mm_dr1 bs p 2 r h]
  show (Except.ok (_, p + 1 - p) : Except DecodeError (Instr × Nat)) = _
  rw [Nat.add_sub_cancel_left]
theorem mm_dc_3 {bs : List UInt8} {p : Nat} {r : List UInt8} (h : bs.drop p = 3 :: r) : decode ⟨bs.toArray⟩ p = .ok (.iconst (0), 1) := by
  unfold decode Decoder.instr
  rw [mm_dr1 bs p 3 r h]
  show (Except.ok (_, p + 1 - p) : Except DecodeError (Instr × Nat)) = _
  rw [Nat.add_sub_cancel_left]
theorem mm_dc_4 {bs : List UInt8} {p : Nat} {r : List UInt8} (h : bs.drop p = 4 :: r) : decode ⟨bs.toArray⟩ p = .ok (.iconst (1), 1) := by
  unfold decode Decoder.instr
  rw [mm_dr1 bs p 4 r h]
  show (Except.ok (_, p + 1 - p) : Except DecodeError (Instr × Nat)) = _
  rw [Nat.add_sub_cancel_left]
theorem mm_dc_5 {bs : List UInt8} {p : Nat} {r : List UInt8} (h : bs.drop p = 5 :: r) : decode ⟨bs.toArray⟩ p = .ok (.iconst (2), 1) := by
  unfold decode Decoder.instr
  rw [mm_dr1 bs p 5 r h]
  show (Except.ok (_, p + 1 - p) : Except DecodeError (Instr × Nat)) = _
  rw [Nat.add_sub_cancel_left]
theorem mm_dc_6 {bs : List UInt8} {p : Nat} {r : List UInt8} (h : bs.drop p = 6 :: r) : decode ⟨bs.toArray⟩ p = .ok (.iconst (3), 1) := by
  unfold decode Decoder.instr
  rw [mm_dr1 bs p 6 r h]
  show (Except.ok (_, p + 1 - p) : Except DecodeError (Instr × Nat)) = _
  rw [Nat.add_sub_cancel_left]
theorem mm_dc_7 {bs : List UInt8} {p : Nat} {r : List UInt8} (h : bs.drop p = 7 :: r) : decode ⟨bs.toArray⟩ p = .ok (.iconst (4), 1) := by
  unfold decode Decoder.instr
  rw [mm_dr1 bs p 7 r h]
  show (Except.ok (_, p + 1 - p) : Except DecodeError (Instr × Nat)) = _
  rw [Nat.add_sub_cancel_left]
theorem mm_dc_8 {bs : List UInt8} {p : Nat} {r : List UInt8} (h : bs.drop p = 8 :: r) : decode ⟨bs.toArray⟩ p = .ok (.iconst (5), 1) := by
  unfold decode Decoder.instr
  rw [mm_dr1 bs p 8 r h]
  show (Except.ok (_, p + 1 - p) : Except DecodeError (Instr × Nat)) = _
  rw [Nat.add_sub_cancel_left]
theorem mm_dc_16 {bs : List UInt8} {p : Nat} {b : UInt8} {r : List UInt8} (h : bs.drop p = 16 :: b :: r) : decode ⟨bs.toArray⟩ p = .ok (.bipush (Reader.signed 8 b.toNat), 2) := by
  unfold decode Decoder.instr
  rw [mm_dr1 bs p 16 _ h]
  show (Except.bind (Reader.runAt ((Reader.s1 : Decoder Int) >>= fun x => (pure (Instr.bipush x) : Decoder Instr) : Decoder Instr) ⟨bs.toArray⟩ (p + 1)) (fun z => Except.ok (z.1, z.2 - p)) : Except DecodeError (Instr × Nat)) = _
  rw [mm_drs1 bs (p + 1) b _ (mm_dr2 _ _ _ _ h)]
  show (Except.ok (_, p + 1 + 1 - p) : Except DecodeError (Instr × Nat)) = _
  rw [show p + 1 + 1 - p = 2 by omega]
theorem mm_dc_17 {bs : List UInt8} {p : Nat} {b c : UInt8} {r : List UInt8} (h : bs.drop p = 17 :: b :: c :: r) : decode ⟨bs.toArray⟩ p = .ok (.sipush (Reader.signed 16 (b.toNat * 256 + c.toNat)), 3) := by
  unfold decode Decoder.instr
  rw [mm_dr1 bs p 17 _ h]
  show (Except.bind (Reader.runAt ((Reader.s2 : Decoder Int) >>= fun x => (pure (Instr.sipush x) : Decoder Instr) : Decoder Instr) ⟨bs.toArray⟩ (p + 1)) (fun z => Except.ok (z.1, z.2 - p)) : Except DecodeError (Instr × Nat)) = _
  rw [mm_drs2 bs (p + 1) b c _ (mm_dr2 _ _ _ _ h)]
  show (Except.ok (_, p + 1 + 1 + 1 - p) : Except DecodeError (Instr × Nat)) = _
  rw [show p + 1 + 1 + 1 - p = 3 by omega]
theorem mm_dc_21 {bs : List UInt8} {p : Nat} {b : UInt8} {r : List UInt8} (h : bs.drop p = 21 :: b :: r) : decode ⟨bs.toArray⟩ p = .ok (.iload b.toNat, 2) := by
  unfold decode Decoder.instr
  rw [mm_dr1 bs p 21 _ h]
  show (Except.bind (Reader.runAt ((Reader.u1 : Decoder Nat) >>= fun x => (pure (Instr.iload x) : Decoder Instr) : Decoder Instr) ⟨bs.toArray⟩ (p + 1)) (fun z => Except.ok (z.1, z.2 - p)) : Except DecodeError (Instr × Nat)) = _
  rw [mm_dr1 bs (p + 1) b _ (mm_dr2 _ _ _ _ h)]
  show (Except.ok (_, p + 1 + 1 - p) : Except DecodeError (Instr × Nat)) = _
  rw [show p + 1 + 1 - p = 2 by omega]
theorem mm_dc_25 {bs : List UInt8} {p : Nat} {b : UInt8} {r : List UInt8} (h : bs.drop p = 25 :: b :: r) : decode ⟨bs.toArray⟩ p = .ok (.aload b.toNat, 2) := by
  unfold decode Decoder.instr
  rw [mm_dr1 bs p 25 _ h]
  show (Except.bind (Reader.runAt ((Reader.u1 : Decoder Nat) >>= fun x => (pure (Instr.aload x) : Decoder Instr) : Decoder Instr) ⟨bs.toArray⟩ (p + 1)) (fun z => Except.ok (z.1, z.2 - p)) : Except DecodeError (Instr × Nat)) = _
  rw [mm_dr1 bs (p + 1) b _ (mm_dr2 _ _ _ _ h)]
  show (Except.ok (_, p + 1 + 1 - p) : Except DecodeError (Instr × Nat)) = _
  rw [show p + 1 + 1 - p = 2 by omega]
theorem mm_dc_26 {bs : List UInt8} {p : Nat} {r : List UInt8} (h : bs.drop p = 26 :: r) : decode ⟨bs.toArray⟩ p = .ok (.iload_n 0, 1) := by
  unfold decode Decoder.instr
  rw [mm_dr1 bs p 26 r h]
  show (Except.ok (_, p + 1 - p) : Except DecodeError (Instr × Nat)) = _
  rw [Nat.add_sub_cancel_left]
theorem mm_dc_27 {bs : List UInt8} {p : Nat} {r : List UInt8} (h : bs.drop p = 27 :: r) : decode ⟨bs.toArray⟩ p = .ok (.iload_n 1, 1) := by
  unfold decode Decoder.instr
  rw [mm_dr1 bs p 27 r h]
  show (Except.ok (_, p + 1 - p) : Except DecodeError (Instr × Nat)) = _
  rw [Nat.add_sub_cancel_left]
theorem mm_dc_28 {bs : List UInt8} {p : Nat} {r : List UInt8} (h : bs.drop p = 28 :: r) : decode ⟨bs.toArray⟩ p = .ok (.iload_n 2, 1) := by
  unfold decode Decoder.instr
  rw [mm_dr1 bs p 28 r h]
  show (Except.ok (_, p + 1 - p) : Except DecodeError (Instr × Nat)) = _
  rw [Nat.add_sub_cancel_left]
theorem mm_dc_29 {bs : List UInt8} {p : Nat} {r : List UInt8} (h : bs.drop p = 29 :: r) : decode ⟨bs.toArray⟩ p = .ok (.iload_n 3, 1) := by
  unfold decode Decoder.instr
  rw [mm_dr1 bs p 29 r h]
  show (Except.ok (_, p + 1 - p) : Except DecodeError (Instr × Nat)) = _
  rw [Nat.add_sub_cancel_left]
theorem mm_dc_42 {bs : List UInt8} {p : Nat} {r : List UInt8} (h : bs.drop p = 42 :: r) : decode ⟨bs.toArray⟩ p = .ok (.aload_n 0, 1) := by
  unfold decode Decoder.instr
  rw [mm_dr1 bs p 42 r h]
  show (Except.ok (_, p + 1 - p) : Except DecodeError (Instr × Nat)) = _
  rw [Nat.add_sub_cancel_left]
theorem mm_dc_43 {bs : List UInt8} {p : Nat} {r : List UInt8} (h : bs.drop p = 43 :: r) : decode ⟨bs.toArray⟩ p = .ok (.aload_n 1, 1) := by
  unfold decode Decoder.instr
  rw [mm_dr1 bs p 43 r h]
  show (Except.ok (_, p + 1 - p) : Except DecodeError (Instr × Nat)) = _
  rw [Nat.add_sub_cancel_left]
theorem mm_dc_44 {bs : List UInt8} {p : Nat} {r : List UInt8} (h : bs.drop p = 44 :: r) : decode ⟨bs.toArray⟩ p = .ok (.aload_n 2, 1) := by
  unfold decode Decoder.instr
  rw [mm_dr1 bs p 44 r h]
  show (Except.ok (_, p + 1 - p) : Except DecodeError (Instr × Nat)) = _
  rw [Nat.add_sub_cancel_left]
theorem mm_dc_45 {bs : List UInt8} {p : Nat} {r : List UInt8} (h : bs.drop p = 45 :: r) : decode ⟨bs.toArray⟩ p = .ok (.aload_n 3, 1) := by
  unfold decode Decoder.instr
  rw [mm_dr1 bs p 45 r h]
  show (Except.ok (_, p + 1 - p) : Except DecodeError (Instr × Nat)) = _
  rw [Nat.add_sub_cancel_left]
theorem mm_dc_46 {bs : List UInt8} {p : Nat} {r : List UInt8} (h : bs.drop p = 46 :: r) : decode ⟨bs.toArray⟩ p = .ok (.iaload, 1) := by
  unfold decode Decoder.instr
  rw [mm_dr1 bs p 46 r h]
  show (Except.ok (_, p + 1 - p) : Except DecodeError (Instr × Nat)) = _
  rw [Nat.add_sub_cancel_left]
theorem mm_dc_50 {bs : List UInt8} {p : Nat} {r : List UInt8} (h : bs.drop p = 50 :: r) : decode ⟨bs.toArray⟩ p = .ok (.aaload, 1) := by
  unfold decode Decoder.instr
  rw [mm_dr1 bs p 50 r h]
  show (Except.ok (_, p + 1 - p) : Except DecodeError (Instr × Nat)) = _
  rw [Nat.add_sub_cancel_left]
theorem mm_dc_51 {bs : List UInt8} {p : Nat} {r : List UInt8} (h : bs.drop p = 51 :: r) : decode ⟨bs.toArray⟩ p = .ok (.baload, 1) := by
  unfold decode Decoder.instr
  rw [mm_dr1 bs p 51 r h]
  show (Except.ok (_, p + 1 - p) : Except DecodeError (Instr × Nat)) = _
  rw [Nat.add_sub_cancel_left]
theorem mm_dc_54 {bs : List UInt8} {p : Nat} {b : UInt8} {r : List UInt8} (h : bs.drop p = 54 :: b :: r) : decode ⟨bs.toArray⟩ p = .ok (.istore b.toNat, 2) := by
  unfold decode Decoder.instr
  rw [mm_dr1 bs p 54 _ h]
  show (Except.bind (Reader.runAt ((Reader.u1 : Decoder Nat) >>= fun x => (pure (Instr.istore x) : Decoder Instr) : Decoder Instr) ⟨bs.toArray⟩ (p + 1)) (fun z => Except.ok (z.1, z.2 - p)) : Except DecodeError (Instr × Nat)) = _
  rw [mm_dr1 bs (p + 1) b _ (mm_dr2 _ _ _ _ h)]
  show (Except.ok (_, p + 1 + 1 - p) : Except DecodeError (Instr × Nat)) = _
  rw [show p + 1 + 1 - p = 2 by omega]
theorem mm_dc_58 {bs : List UInt8} {p : Nat} {b : UInt8} {r : List UInt8} (h : bs.drop p = 58 :: b :: r) : decode ⟨bs.toArray⟩ p = .ok (.astore b.toNat, 2) := by
  unfold decode Decoder.instr
  rw [mm_dr1 bs p 58 _ h]
  show (Except.bind (Reader.runAt ((Reader.u1 : Decoder Nat) >>= fun x => (pure (Instr.astore x) : Decoder Instr) : Decoder Instr) ⟨bs.toArray⟩ (p + 1)) (fun z => Except.ok (z.1, z.2 - p)) : Except DecodeError (Instr × Nat)) = _
  rw [mm_dr1 bs (p + 1) b _ (mm_dr2 _ _ _ _ h)]
  show (Except.ok (_, p + 1 + 1 - p) : Except DecodeError (Instr × Nat)) = _
  rw [show p + 1 + 1 - p = 2 by omega]
theorem mm_dc_59 {bs : List UInt8} {p : Nat} {r : List UInt8} (h : bs.drop p = 59 :: r) : decode ⟨bs.toArray⟩ p = .ok (.istore_n 0, 1) := by
  unfold decode Decoder.instr
  rw [mm_dr1 bs p 59 r h]
  show (Except.ok (_, p + 1 - p) : Except DecodeError (Instr × Nat)) = _
  rw [Nat.add_sub_cancel_left]
theorem mm_dc_60 {bs : List UInt8} {p : Nat} {r : List UInt8} (h : bs.drop p = 60 :: r) : decode ⟨bs.toArray⟩ p = .ok (.istore_n 1, 1) := by
  unfold decode Decoder.instr
  rw [mm_dr1 bs p 60 r h]
  show (Except.ok (_, p + 1 - p) : Except DecodeError (Instr × Nat)) = _
  rw [Nat.add_sub_cancel_left]
theorem mm_dc_61 {bs : List UInt8} {p : Nat} {r : List UInt8} (h : bs.drop p = 61 :: r) : decode ⟨bs.toArray⟩ p = .ok (.istore_n 2, 1) := by
  unfold decode Decoder.instr
  rw [mm_dr1 bs p 61 r h]
  show (Except.ok (_, p + 1 - p) : Except DecodeError (Instr × Nat)) = _
  rw [Nat.add_sub_cancel_left]
theorem mm_dc_62 {bs : List UInt8} {p : Nat} {r : List UInt8} (h : bs.drop p = 62 :: r) : decode ⟨bs.toArray⟩ p = .ok (.istore_n 3, 1) := by
  unfold decode Decoder.instr
  rw [mm_dr1 bs p 62 r h]
  show (Except.ok (_, p + 1 - p) : Except DecodeError (Instr × Nat)) = _
  rw [Nat.add_sub_cancel_left]
theorem mm_dc_75 {bs : List UInt8} {p : Nat} {r : List UInt8} (h : bs.drop p = 75 :: r) : decode ⟨bs.toArray⟩ p = .ok (.astore_n 0, 1) := by
  unfold decode Decoder.instr
  rw [mm_dr1 bs p 75 r h]
  show (Except.ok (_, p + 1 - p) : Except DecodeError (Instr × Nat)) = _
  rw [Nat.add_sub_cancel_left]
theorem mm_dc_76 {bs : List UInt8} {p : Nat} {r : List UInt8} (h : bs.drop p = 76 :: r) : decode ⟨bs.toArray⟩ p = .ok (.astore_n 1, 1) := by
  unfold decode Decoder.instr
  rw [mm_dr1 bs p 76 r h]
  show (Except.ok (_, p + 1 - p) : Except DecodeError (Instr × Nat)) = _
  rw [Nat.add_sub_cancel_left]
theorem mm_dc_77 {bs : List UInt8} {p : Nat} {r : List UInt8} (h : bs.drop p = 77 :: r) : decode ⟨bs.toArray⟩ p = .ok (.astore_n 2, 1) := by
  unfold decode Decoder.instr
  rw [mm_dr1 bs p 77 r h]
  show (Except.ok (_, p + 1 - p) : Except DecodeError (Instr × Nat)) = _
  rw [Nat.add_sub_cancel_left]
theorem mm_dc_78 {bs : List UInt8} {p : Nat} {r : List UInt8} (h : bs.drop p = 78 :: r) : decode ⟨bs.toArray⟩ p = .ok (.astore_n 3, 1) := by
  unfold decode Decoder.instr
  rw [mm_dr1 bs p 78 r h]
  show (Except.ok (_, p + 1 - p) : Except DecodeError (Instr × Nat)) = _
  rw [Nat.add_sub_cancel_left]
theorem mm_dc_79 {bs : List UInt8} {p : Nat} {r : List UInt8} (h : bs.drop p = 79 :: r) : decode ⟨bs.toArray⟩ p = .ok (.iastore, 1) := by
  unfold decode Decoder.instr
  rw [mm_dr1 bs p 79 r h]
  show (Except.ok (_, p + 1 - p) : Except DecodeError (Instr × Nat)) = _
  rw [Nat.add_sub_cancel_left]
theorem mm_dc_83 {bs : List UInt8} {p : Nat} {r : List UInt8} (h : bs.drop p = 83 :: r) : decode ⟨bs.toArray⟩ p = .ok (.aastore, 1) := by
  unfold decode Decoder.instr
  rw [mm_dr1 bs p 83 r h]
  show (Except.ok (_, p + 1 - p) : Except DecodeError (Instr × Nat)) = _
  rw [Nat.add_sub_cancel_left]
theorem mm_dc_84 {bs : List UInt8} {p : Nat} {r : List UInt8} (h : bs.drop p = 84 :: r) : decode ⟨bs.toArray⟩ p = .ok (.bastore, 1) := by
  unfold decode Decoder.instr
  rw [mm_dr1 bs p 84 r h]
  show (Except.ok (_, p + 1 - p) : Except DecodeError (Instr × Nat)) = _
  rw [Nat.add_sub_cancel_left]
theorem mm_dc_87 {bs : List UInt8} {p : Nat} {r : List UInt8} (h : bs.drop p = 87 :: r) : decode ⟨bs.toArray⟩ p = .ok (.pop, 1) := by
  unfold decode Decoder.instr
  rw [mm_dr1 bs p 87 r h]
  show (Except.ok (_, p + 1 - p) : Except DecodeError (Instr × Nat)) = _
  rw [Nat.add_sub_cancel_left]
theorem mm_dc_89 {bs : List UInt8} {p : Nat} {r : List UInt8} (h : bs.drop p = 89 :: r) : decode ⟨bs.toArray⟩ p = .ok (.dup, 1) := by
  unfold decode Decoder.instr
  rw [mm_dr1 bs p 89 r h]
  show (Except.ok (_, p + 1 - p) : Except DecodeError (Instr × Nat)) = _
  rw [Nat.add_sub_cancel_left]
theorem mm_dc_92 {bs : List UInt8} {p : Nat} {r : List UInt8} (h : bs.drop p = 92 :: r) : decode ⟨bs.toArray⟩ p = .ok (.dup2, 1) := by
  unfold decode Decoder.instr
  rw [mm_dr1 bs p 92 r h]
  show (Except.ok (_, p + 1 - p) : Except DecodeError (Instr × Nat)) = _
  rw [Nat.add_sub_cancel_left]
theorem mm_dc_96 {bs : List UInt8} {p : Nat} {r : List UInt8} (h : bs.drop p = 96 :: r) : decode ⟨bs.toArray⟩ p = .ok (.iadd, 1) := by
  unfold decode Decoder.instr
  rw [mm_dr1 bs p 96 r h]
  show (Except.ok (_, p + 1 - p) : Except DecodeError (Instr × Nat)) = _
  rw [Nat.add_sub_cancel_left]
theorem mm_dc_100 {bs : List UInt8} {p : Nat} {r : List UInt8} (h : bs.drop p = 100 :: r) : decode ⟨bs.toArray⟩ p = .ok (.isub, 1) := by
  unfold decode Decoder.instr
  rw [mm_dr1 bs p 100 r h]
  show (Except.ok (_, p + 1 - p) : Except DecodeError (Instr × Nat)) = _
  rw [Nat.add_sub_cancel_left]
theorem mm_dc_104 {bs : List UInt8} {p : Nat} {r : List UInt8} (h : bs.drop p = 104 :: r) : decode ⟨bs.toArray⟩ p = .ok (.imul, 1) := by
  unfold decode Decoder.instr
  rw [mm_dr1 bs p 104 r h]
  show (Except.ok (_, p + 1 - p) : Except DecodeError (Instr × Nat)) = _
  rw [Nat.add_sub_cancel_left]
theorem mm_dc_120 {bs : List UInt8} {p : Nat} {r : List UInt8} (h : bs.drop p = 120 :: r) : decode ⟨bs.toArray⟩ p = .ok (.ishl, 1) := by
  unfold decode Decoder.instr
  rw [mm_dr1 bs p 120 r h]
  show (Except.ok (_, p + 1 - p) : Except DecodeError (Instr × Nat)) = _
  rw [Nat.add_sub_cancel_left]
theorem mm_dc_122 {bs : List UInt8} {p : Nat} {r : List UInt8} (h : bs.drop p = 122 :: r) : decode ⟨bs.toArray⟩ p = .ok (.ishr, 1) := by
  unfold decode Decoder.instr
  rw [mm_dr1 bs p 122 r h]
  show (Except.ok (_, p + 1 - p) : Except DecodeError (Instr × Nat)) = _
  rw [Nat.add_sub_cancel_left]
theorem mm_dc_126 {bs : List UInt8} {p : Nat} {r : List UInt8} (h : bs.drop p = 126 :: r) : decode ⟨bs.toArray⟩ p = .ok (.iand, 1) := by
  unfold decode Decoder.instr
  rw [mm_dr1 bs p 126 r h]
  show (Except.ok (_, p + 1 - p) : Except DecodeError (Instr × Nat)) = _
  rw [Nat.add_sub_cancel_left]
theorem mm_dc_128 {bs : List UInt8} {p : Nat} {r : List UInt8} (h : bs.drop p = 128 :: r) : decode ⟨bs.toArray⟩ p = .ok (.ior, 1) := by
  unfold decode Decoder.instr
  rw [mm_dr1 bs p 128 r h]
  show (Except.ok (_, p + 1 - p) : Except DecodeError (Instr × Nat)) = _
  rw [Nat.add_sub_cancel_left]
theorem mm_dc_130 {bs : List UInt8} {p : Nat} {r : List UInt8} (h : bs.drop p = 130 :: r) : decode ⟨bs.toArray⟩ p = .ok (.ixor, 1) := by
  unfold decode Decoder.instr
  rw [mm_dr1 bs p 130 r h]
  show (Except.ok (_, p + 1 - p) : Except DecodeError (Instr × Nat)) = _
  rw [Nat.add_sub_cancel_left]
theorem mm_dc_132 {bs : List UInt8} {p : Nat} {b c : UInt8} {r : List UInt8} (h : bs.drop p = 132 :: b :: c :: r) : decode ⟨bs.toArray⟩ p = .ok (.iinc b.toNat (Reader.signed 8 c.toNat), 3) := by
  unfold decode Decoder.instr
  rw [mm_dr1 bs p 132 _ h]
  show (Except.bind (Reader.runAt ((Reader.u1 : Decoder Nat) >>= fun x => ((Reader.s1 : Decoder Int) >>= fun y => (pure (Instr.iinc x y) : Decoder Instr)) : Decoder Instr) ⟨bs.toArray⟩ (p + 1)) (fun z => Except.ok (z.1, z.2 - p)) : Except DecodeError (Instr × Nat)) = _
  rw [mm_dr1 bs (p + 1) b _ (mm_dr2 _ _ _ _ h), mm_drs1 bs (p + 1 + 1) c _ (mm_dr2 _ _ _ _ (mm_dr2 _ _ _ _ h))]
  show (Except.ok (_, p + 1 + 1 + 1 - p) : Except DecodeError (Instr × Nat)) = _
  rw [show p + 1 + 1 + 1 - p = 3 by omega]
theorem mm_dc_153 {bs : List UInt8} {p : Nat} {b c : UInt8} {r : List UInt8} (h : bs.drop p = 153 :: b :: c :: r) : decode ⟨bs.toArray⟩ p = .ok (.ifCond .eq (Reader.signed 16 (b.toNat * 256 + c.toNat)), 3) := by
  unfold decode Decoder.instr
  rw [mm_dr1 bs p 153 _ h]
  show (Except.bind (Reader.runAt ((Reader.s2 : Decoder Int) >>= fun x => (pure (Instr.ifCond .eq x) : Decoder Instr) : Decoder Instr) ⟨bs.toArray⟩ (p + 1)) (fun z => Except.ok (z.1, z.2 - p)) : Except DecodeError (Instr × Nat)) = _
  rw [mm_drs2 bs (p + 1) b c _ (mm_dr2 _ _ _ _ h)]
  show (Except.ok (_, p + 1 + 1 + 1 - p) : Except DecodeError (Instr × Nat)) = _
  rw [show p + 1 + 1 + 1 - p = 3 by omega]
theorem mm_dc_154 {bs : List UInt8} {p : Nat} {b c : UInt8} {r : List UInt8} (h : bs.drop p = 154 :: b :: c :: r) : decode ⟨bs.toArray⟩ p = .ok (.ifCond .ne (Reader.signed 16 (b.toNat * 256 + c.toNat)), 3) := by
  unfold decode Decoder.instr
  rw [mm_dr1 bs p 154 _ h]
  show (Except.bind (Reader.runAt ((Reader.s2 : Decoder Int) >>= fun x => (pure (Instr.ifCond .ne x) : Decoder Instr) : Decoder Instr) ⟨bs.toArray⟩ (p + 1)) (fun z => Except.ok (z.1, z.2 - p)) : Except DecodeError (Instr × Nat)) = _
  rw [mm_drs2 bs (p + 1) b c _ (mm_dr2 _ _ _ _ h)]
  show (Except.ok (_, p + 1 + 1 + 1 - p) : Except DecodeError (Instr × Nat)) = _
  rw [show p + 1 + 1 + 1 - p = 3 by omega]
theorem mm_dc_155 {bs : List UInt8} {p : Nat} {b c : UInt8} {r : List UInt8} (h : bs.drop p = 155 :: b :: c :: r) : decode ⟨bs.toArray⟩ p = .ok (.ifCond .lt (Reader.signed 16 (b.toNat * 256 + c.toNat)), 3) := by
  unfold decode Decoder.instr
  rw [mm_dr1 bs p 155 _ h]
  show (Except.bind (Reader.runAt ((Reader.s2 : Decoder Int) >>= fun x => (pure (Instr.ifCond .lt x) : Decoder Instr) : Decoder Instr) ⟨bs.toArray⟩ (p + 1)) (fun z => Except.ok (z.1, z.2 - p)) : Except DecodeError (Instr × Nat)) = _
  rw [mm_drs2 bs (p + 1) b c _ (mm_dr2 _ _ _ _ h)]
  show (Except.ok (_, p + 1 + 1 + 1 - p) : Except DecodeError (Instr × Nat)) = _
  rw [show p + 1 + 1 + 1 - p = 3 by omega]
theorem mm_dc_156 {bs : List UInt8} {p : Nat} {b c : UInt8} {r : List UInt8} (h : bs.drop p = 156 :: b :: c :: r) : decode ⟨bs.toArray⟩ p = .ok (.ifCond .ge (Reader.signed 16 (b.toNat * 256 + c.toNat)), 3) := by
  unfold decode Decoder.instr
  rw [mm_dr1 bs p 156 _ h]
  show (Except.bind (Reader.runAt ((Reader.s2 : Decoder Int) >>= fun x => (pure (Instr.ifCond .ge x) : Decoder Instr) : Decoder Instr) ⟨bs.toArray⟩ (p + 1)) (fun z => Except.ok (z.1, z.2 - p)) : Except DecodeError (Instr × Nat)) = _
  rw [mm_drs2 bs (p + 1) b c _ (mm_dr2 _ _ _ _ h)]
  show (Except.ok (_, p + 1 + 1 + 1 - p) : Except DecodeError (Instr × Nat)) = _
  rw [show p + 1 + 1 + 1 - p = 3 by omega]
theorem mm_dc_157 {bs : List UInt8} {p : Nat} {b c : UInt8} {r : List UInt8} (h : bs.drop p = 157 :: b :: c :: r) : decode ⟨bs.toArray⟩ p = .ok (.ifCond .gt (Reader.signed 16 (b.toNat * 256 + c.toNat)), 3) := by
  unfold decode Decoder.instr
  rw [mm_dr1 bs p 157 _ h]
  show (Except.bind (Reader.runAt ((Reader.s2 : Decoder Int) >>= fun x => (pure (Instr.ifCond .gt x) : Decoder Instr) : Decoder Instr) ⟨bs.toArray⟩ (p + 1)) (fun z => Except.ok (z.1, z.2 - p)) : Except DecodeError (Instr × Nat)) = _
  rw [mm_drs2 bs (p + 1) b c _ (mm_dr2 _ _ _ _ h)]
  show (Except.ok (_, p + 1 + 1 + 1 - p) : Except DecodeError (Instr × Nat)) = _
  rw [show p + 1 + 1 + 1 - p = 3 by omega]
theorem mm_dc_158 {bs : List UInt8} {p : Nat} {b c : UInt8} {r : List UInt8} (h : bs.drop p = 158 :: b :: c :: r) : decode ⟨bs.toArray⟩ p = .ok (.ifCond .le (Reader.signed 16 (b.toNat * 256 + c.toNat)), 3) := by
  unfold decode Decoder.instr
  rw [mm_dr1 bs p 158 _ h]
  show (Except.bind (Reader.runAt ((Reader.s2 : Decoder Int) >>= fun x => (pure (Instr.ifCond .le x) : Decoder Instr) : Decoder Instr) ⟨bs.toArray⟩ (p + 1)) (fun z => Except.ok (z.1, z.2 - p)) : Except DecodeError (Instr × Nat)) = _
  rw [mm_drs2 bs (p + 1) b c _ (mm_dr2 _ _ _ _ h)]
  show (Except.ok (_, p + 1 + 1 + 1 - p) : Except DecodeError (Instr × Nat)) = _
  rw [show p + 1 + 1 + 1 - p = 3 by omega]
theorem mm_dc_159 {bs : List UInt8} {p : Nat} {b c : UInt8} {r : List UInt8} (h : bs.drop p = 159 :: b :: c :: r) : decode ⟨bs.toArray⟩ p = .ok (.if_icmp .eq (Reader.signed 16 (b.toNat * 256 + c.toNat)), 3) := by
  unfold decode Decoder.instr
  rw [mm_dr1 bs p 159 _ h]
  show (Except.bind (Reader.runAt ((Reader.s2 : Decoder Int) >>= fun x => (pure (Instr.if_icmp .eq x) : Decoder Instr) : Decoder Instr) ⟨bs.toArray⟩ (p + 1)) (fun z => Except.ok (z.1, z.2 - p)) : Except DecodeError (Instr × Nat)) = _
  rw [mm_drs2 bs (p + 1) b c _ (mm_dr2 _ _ _ _ h)]
  show (Except.ok (_, p + 1 + 1 + 1 - p) : Except DecodeError (Instr × Nat)) = _
  rw [show p + 1 + 1 + 1 - p = 3 by omega]
theorem mm_dc_160 {bs : List UInt8} {p : Nat} {b c : UInt8} {r : List UInt8} (h : bs.drop p = 160 :: b :: c :: r) : decode ⟨bs.toArray⟩ p = .ok (.if_icmp .ne (Reader.signed 16 (b.toNat * 256 + c.toNat)), 3) := by
  unfold decode Decoder.instr
  rw [mm_dr1 bs p 160 _ h]
  show (Except.bind (Reader.runAt ((Reader.s2 : Decoder Int) >>= fun x => (pure (Instr.if_icmp .ne x) : Decoder Instr) : Decoder Instr) ⟨bs.toArray⟩ (p + 1)) (fun z => Except.ok (z.1, z.2 - p)) : Except DecodeError (Instr × Nat)) = _
  rw [mm_drs2 bs (p + 1) b c _ (mm_dr2 _ _ _ _ h)]
  show (Except.ok (_, p + 1 + 1 + 1 - p) : Except DecodeError (Instr × Nat)) = _
  rw [show p + 1 + 1 + 1 - p = 3 by omega]
theorem mm_dc_161 {bs : List UInt8} {p : Nat} {b c : UInt8} {r : List UInt8} (h : bs.drop p = 161 :: b :: c :: r) : decode ⟨bs.toArray⟩ p = .ok (.if_icmp .lt (Reader.signed 16 (b.toNat * 256 + c.toNat)), 3) := by
  unfold decode Decoder.instr
  rw [mm_dr1 bs p 161 _ h]
  show (Except.bind (Reader.runAt ((Reader.s2 : Decoder Int) >>= fun x => (pure (Instr.if_icmp .lt x) : Decoder Instr) : Decoder Instr) ⟨bs.toArray⟩ (p + 1)) (fun z => Except.ok (z.1, z.2 - p)) : Except DecodeError (Instr × Nat)) = _
  rw [mm_drs2 bs (p + 1) b c _ (mm_dr2 _ _ _ _ h)]
  show (Except.ok (_, p + 1 + 1 + 1 - p) : Except DecodeError (Instr × Nat)) = _
  rw [show p + 1 + 1 + 1 - p = 3 by omega]
theorem mm_dc_162 {bs : List UInt8} {p : Nat} {b c : UInt8} {r : List UInt8} (h : bs.drop p = 162 :: b :: c :: r) : decode ⟨bs.toArray⟩ p = .ok (.if_icmp .ge (Reader.signed 16 (b.toNat * 256 + c.toNat)), 3) := by
  unfold decode Decoder.instr
  rw [mm_dr1 bs p 162 _ h]
  show (Except.bind (Reader.runAt ((Reader.s2 : Decoder Int) >>= fun x => (pure (Instr.if_icmp .ge x) : Decoder Instr) : Decoder Instr) ⟨bs.toArray⟩ (p + 1)) (fun z => Except.ok (z.1, z.2 - p)) : Except DecodeError (Instr × Nat)) = _
  rw [mm_drs2 bs (p + 1) b c _ (mm_dr2 _ _ _ _ h)]
  show (Except.ok (_, p + 1 + 1 + 1 - p) : Except DecodeError (Instr × Nat)) = _
  rw [show p + 1 + 1 + 1 - p = 3 by omega]
theorem mm_dc_163 {bs : List UInt8} {p : Nat} {b c : UInt8} {r : List UInt8} (h : bs.drop p = 163 :: b :: c :: r) : decode ⟨bs.toArray⟩ p = .ok (.if_icmp .gt (Reader.signed 16 (b.toNat * 256 + c.toNat)), 3) := by
  unfold decode Decoder.instr
  rw [mm_dr1 bs p 163 _ h]
  show (Except.bind (Reader.runAt ((Reader.s2 : Decoder Int) >>= fun x => (pure (Instr.if_icmp .gt x) : Decoder Instr) : Decoder Instr) ⟨bs.toArray⟩ (p + 1)) (fun z => Except.ok (z.1, z.2 - p)) : Except DecodeError (Instr × Nat)) = _
  rw [mm_drs2 bs (p + 1) b c _ (mm_dr2 _ _ _ _ h)]
  show (Except.ok (_, p + 1 + 1 + 1 - p) : Except DecodeError (Instr × Nat)) = _
  rw [show p + 1 + 1 + 1 - p = 3 by omega]
theorem mm_dc_164 {bs : List UInt8} {p : Nat} {b c : UInt8} {r : List UInt8} (h : bs.drop p = 164 :: b :: c :: r) : decode ⟨bs.toArray⟩ p = .ok (.if_icmp .le (Reader.signed 16 (b.toNat * 256 + c.toNat)), 3) := by
  unfold decode Decoder.instr
  rw [mm_dr1 bs p 164 _ h]
  show (Except.bind (Reader.runAt ((Reader.s2 : Decoder Int) >>= fun x => (pure (Instr.if_icmp .le x) : Decoder Instr) : Decoder Instr) ⟨bs.toArray⟩ (p + 1)) (fun z => Except.ok (z.1, z.2 - p)) : Except DecodeError (Instr × Nat)) = _
  rw [mm_drs2 bs (p + 1) b c _ (mm_dr2 _ _ _ _ h)]
  show (Except.ok (_, p + 1 + 1 + 1 - p) : Except DecodeError (Instr × Nat)) = _
  rw [show p + 1 + 1 + 1 - p = 3 by omega]
theorem mm_dc_167 {bs : List UInt8} {p : Nat} {b c : UInt8} {r : List UInt8} (h : bs.drop p = 167 :: b :: c :: r) : decode ⟨bs.toArray⟩ p = .ok (.goto (Reader.signed 16 (b.toNat * 256 + c.toNat)), 3) := by
  unfold decode Decoder.instr
  rw [mm_dr1 bs p 167 _ h]
  show (Except.bind (Reader.runAt ((Reader.s2 : Decoder Int) >>= fun x => (pure (Instr.goto x) : Decoder Instr) : Decoder Instr) ⟨bs.toArray⟩ (p + 1)) (fun z => Except.ok (z.1, z.2 - p)) : Except DecodeError (Instr × Nat)) = _
  rw [mm_drs2 bs (p + 1) b c _ (mm_dr2 _ _ _ _ h)]
  show (Except.ok (_, p + 1 + 1 + 1 - p) : Except DecodeError (Instr × Nat)) = _
  rw [show p + 1 + 1 + 1 - p = 3 by omega]
theorem mm_dc_172 {bs : List UInt8} {p : Nat} {r : List UInt8} (h : bs.drop p = 172 :: r) : decode ⟨bs.toArray⟩ p = .ok (.ireturn, 1) := by
  unfold decode Decoder.instr
  rw [mm_dr1 bs p 172 r h]
  show (Except.ok (_, p + 1 - p) : Except DecodeError (Instr × Nat)) = _
  rw [Nat.add_sub_cancel_left]
theorem mm_dc_176 {bs : List UInt8} {p : Nat} {r : List UInt8} (h : bs.drop p = 176 :: r) : decode ⟨bs.toArray⟩ p = .ok (.areturn, 1) := by
  unfold decode Decoder.instr
  rw [mm_dr1 bs p 176 r h]
  show (Except.ok (_, p + 1 - p) : Except DecodeError (Instr × Nat)) = _
  rw [Nat.add_sub_cancel_left]
theorem mm_dc_177 {bs : List UInt8} {p : Nat} {r : List UInt8} (h : bs.drop p = 177 :: r) : decode ⟨bs.toArray⟩ p = .ok (.return_, 1) := by
  unfold decode Decoder.instr
  rw [mm_dr1 bs p 177 r h]
  show (Except.ok (_, p + 1 - p) : Except DecodeError (Instr × Nat)) = _
  rw [Nat.add_sub_cancel_left]
theorem mm_dc_178 {bs : List UInt8} {p : Nat} {b c : UInt8} {r : List UInt8} (h : bs.drop p = 178 :: b :: c :: r) : decode ⟨bs.toArray⟩ p = .ok (.getstatic (b.toNat * 256 + c.toNat), 3) := by
  unfold decode Decoder.instr
  rw [mm_dr1 bs p 178 _ h]
  show (Except.bind (Reader.runAt ((Reader.u2 : Decoder Nat) >>= fun x => (pure (Instr.getstatic x) : Decoder Instr) : Decoder Instr) ⟨bs.toArray⟩ (p + 1)) (fun z => Except.ok (z.1, z.2 - p)) : Except DecodeError (Instr × Nat)) = _
  rw [mm_dru2 bs (p + 1) b c _ (mm_dr2 _ _ _ _ h)]
  show (Except.ok (_, p + 1 + 1 + 1 - p) : Except DecodeError (Instr × Nat)) = _
  rw [show p + 1 + 1 + 1 - p = 3 by omega]
theorem mm_dc_180 {bs : List UInt8} {p : Nat} {b c : UInt8} {r : List UInt8} (h : bs.drop p = 180 :: b :: c :: r) : decode ⟨bs.toArray⟩ p = .ok (.getfield (b.toNat * 256 + c.toNat), 3) := by
  unfold decode Decoder.instr
  rw [mm_dr1 bs p 180 _ h]
  show (Except.bind (Reader.runAt ((Reader.u2 : Decoder Nat) >>= fun x => (pure (Instr.getfield x) : Decoder Instr) : Decoder Instr) ⟨bs.toArray⟩ (p + 1)) (fun z => Except.ok (z.1, z.2 - p)) : Except DecodeError (Instr × Nat)) = _
  rw [mm_dru2 bs (p + 1) b c _ (mm_dr2 _ _ _ _ h)]
  show (Except.ok (_, p + 1 + 1 + 1 - p) : Except DecodeError (Instr × Nat)) = _
  rw [show p + 1 + 1 + 1 - p = 3 by omega]
theorem mm_dc_181 {bs : List UInt8} {p : Nat} {b c : UInt8} {r : List UInt8} (h : bs.drop p = 181 :: b :: c :: r) : decode ⟨bs.toArray⟩ p = .ok (.putfield (b.toNat * 256 + c.toNat), 3) := by
  unfold decode Decoder.instr
  rw [mm_dr1 bs p 181 _ h]
  show (Except.bind (Reader.runAt ((Reader.u2 : Decoder Nat) >>= fun x => (pure (Instr.putfield x) : Decoder Instr) : Decoder Instr) ⟨bs.toArray⟩ (p + 1)) (fun z => Except.ok (z.1, z.2 - p)) : Except DecodeError (Instr × Nat)) = _
  rw [mm_dru2 bs (p + 1) b c _ (mm_dr2 _ _ _ _ h)]
  show (Except.ok (_, p + 1 + 1 + 1 - p) : Except DecodeError (Instr × Nat)) = _
  rw [show p + 1 + 1 + 1 - p = 3 by omega]
theorem mm_dc_182 {bs : List UInt8} {p : Nat} {b c : UInt8} {r : List UInt8} (h : bs.drop p = 182 :: b :: c :: r) : decode ⟨bs.toArray⟩ p = .ok (.invokevirtual (b.toNat * 256 + c.toNat), 3) := by
  unfold decode Decoder.instr
  rw [mm_dr1 bs p 182 _ h]
  show (Except.bind (Reader.runAt ((Reader.u2 : Decoder Nat) >>= fun x => (pure (Instr.invokevirtual x) : Decoder Instr) : Decoder Instr) ⟨bs.toArray⟩ (p + 1)) (fun z => Except.ok (z.1, z.2 - p)) : Except DecodeError (Instr × Nat)) = _
  rw [mm_dru2 bs (p + 1) b c _ (mm_dr2 _ _ _ _ h)]
  show (Except.ok (_, p + 1 + 1 + 1 - p) : Except DecodeError (Instr × Nat)) = _
  rw [show p + 1 + 1 + 1 - p = 3 by omega]
theorem mm_dc_183 {bs : List UInt8} {p : Nat} {b c : UInt8} {r : List UInt8} (h : bs.drop p = 183 :: b :: c :: r) : decode ⟨bs.toArray⟩ p = .ok (.invokespecial (b.toNat * 256 + c.toNat), 3) := by
  unfold decode Decoder.instr
  rw [mm_dr1 bs p 183 _ h]
  show (Except.bind (Reader.runAt ((Reader.u2 : Decoder Nat) >>= fun x => (pure (Instr.invokespecial x) : Decoder Instr) : Decoder Instr) ⟨bs.toArray⟩ (p + 1)) (fun z => Except.ok (z.1, z.2 - p)) : Except DecodeError (Instr × Nat)) = _
  rw [mm_dru2 bs (p + 1) b c _ (mm_dr2 _ _ _ _ h)]
  show (Except.ok (_, p + 1 + 1 + 1 - p) : Except DecodeError (Instr × Nat)) = _
  rw [show p + 1 + 1 + 1 - p = 3 by omega]
theorem mm_dc_184 {bs : List UInt8} {p : Nat} {b c : UInt8} {r : List UInt8} (h : bs.drop p = 184 :: b :: c :: r) : decode ⟨bs.toArray⟩ p = .ok (.invokestatic (b.toNat * 256 + c.toNat), 3) := by
  unfold decode Decoder.instr
  rw [mm_dr1 bs p 184 _ h]
  show (Except.bind (Reader.runAt ((Reader.u2 : Decoder Nat) >>= fun x => (pure (Instr.invokestatic x) : Decoder Instr) : Decoder Instr) ⟨bs.toArray⟩ (p + 1)) (fun z => Except.ok (z.1, z.2 - p)) : Except DecodeError (Instr × Nat)) = _
  rw [mm_dru2 bs (p + 1) b c _ (mm_dr2 _ _ _ _ h)]
  show (Except.ok (_, p + 1 + 1 + 1 - p) : Except DecodeError (Instr × Nat)) = _
  rw [show p + 1 + 1 + 1 - p = 3 by omega]
theorem mm_dc_187 {bs : List UInt8} {p : Nat} {b c : UInt8} {r : List UInt8} (h : bs.drop p = 187 :: b :: c :: r) : decode ⟨bs.toArray⟩ p = .ok (.new (b.toNat * 256 + c.toNat), 3) := by
  unfold decode Decoder.instr
  rw [mm_dr1 bs p 187 _ h]
  show (Except.bind (Reader.runAt ((Reader.u2 : Decoder Nat) >>= fun x => (pure (Instr.new x) : Decoder Instr) : Decoder Instr) ⟨bs.toArray⟩ (p + 1)) (fun z => Except.ok (z.1, z.2 - p)) : Except DecodeError (Instr × Nat)) = _
  rw [mm_dru2 bs (p + 1) b c _ (mm_dr2 _ _ _ _ h)]
  show (Except.ok (_, p + 1 + 1 + 1 - p) : Except DecodeError (Instr × Nat)) = _
  rw [show p + 1 + 1 + 1 - p = 3 by omega]
theorem mm_dc_188_4 {bs : List UInt8} {p : Nat} {r : List UInt8} (h : bs.drop p = 188 :: 4 :: r) : decode ⟨bs.toArray⟩ p = .ok (.newarray .boolean, 2) := by
  unfold decode Decoder.instr
  rw [mm_dr1 bs p 188 _ h]
  show (Except.bind (Reader.runAt (Decoder.newarray p : Decoder Instr) ⟨bs.toArray⟩ (p + 1)) (fun z => Except.ok (z.1, z.2 - p)) : Except DecodeError (Instr × Nat)) = _
  unfold Decoder.newarray
  rw [mm_dr1 bs (p + 1) 4 _ (mm_dr2 _ _ _ _ h)]
  show (Except.ok (_, p + 1 + 1 - p) : Except DecodeError (Instr × Nat)) = _
  rw [show p + 1 + 1 - p = 2 by omega]
theorem mm_dc_188_10 {bs : List UInt8} {p : Nat} {r : List UInt8} (h : bs.drop p = 188 :: 10 :: r) : decode ⟨bs.toArray⟩ p = .ok (.newarray .int, 2) := by
  unfold decode Decoder.instr
  rw [mm_dr1 bs p 188 _ h]
  show (Except.bind (Reader.runAt (Decoder.newarray p : Decoder Instr) ⟨bs.toArray⟩ (p + 1)) (fun z => Except.ok (z.1, z.2 - p)) : Except DecodeError (Instr × Nat)) = _
  unfold Decoder.newarray
  rw [mm_dr1 bs (p + 1) 10 _ (mm_dr2 _ _ _ _ h)]
  show (Except.ok (_, p + 1 + 1 - p) : Except DecodeError (Instr × Nat)) = _
  rw [show p + 1 + 1 - p = 2 by omega]
theorem mm_dc_189 {bs : List UInt8} {p : Nat} {b c : UInt8} {r : List UInt8} (h : bs.drop p = 189 :: b :: c :: r) : decode ⟨bs.toArray⟩ p = .ok (.anewarray (b.toNat * 256 + c.toNat), 3) := by
  unfold decode Decoder.instr
  rw [mm_dr1 bs p 189 _ h]
  show (Except.bind (Reader.runAt ((Reader.u2 : Decoder Nat) >>= fun x => (pure (Instr.anewarray x) : Decoder Instr) : Decoder Instr) ⟨bs.toArray⟩ (p + 1)) (fun z => Except.ok (z.1, z.2 - p)) : Except DecodeError (Instr × Nat)) = _
  rw [mm_dru2 bs (p + 1) b c _ (mm_dr2 _ _ _ _ h)]
  show (Except.ok (_, p + 1 + 1 + 1 - p) : Except DecodeError (Instr × Nat)) = _
  rw [show p + 1 + 1 + 1 - p = 3 by omega]
theorem mm_dc_190 {bs : List UInt8} {p : Nat} {r : List UInt8} (h : bs.drop p = 190 :: r) : decode ⟨bs.toArray⟩ p = .ok (.arraylength, 1) := by
  unfold decode Decoder.instr
  rw [mm_dr1 bs p 190 r h]
  show (Except.ok (_, p + 1 - p) : Except DecodeError (Instr × Nat)) = _
  rw [Nat.add_sub_cancel_left]
theorem mm_dc_198 {bs : List UInt8} {p : Nat} {b c : UInt8} {r : List UInt8} (h : bs.drop p = 198 :: b :: c :: r) : decode ⟨bs.toArray⟩ p = .ok (.ifnull (Reader.signed 16 (b.toNat * 256 + c.toNat)), 3) := by
  unfold decode Decoder.instr
  rw [mm_dr1 bs p 198 _ h]
  show (Except.bind (Reader.runAt ((Reader.s2 : Decoder Int) >>= fun x => (pure (Instr.ifnull x) : Decoder Instr) : Decoder Instr) ⟨bs.toArray⟩ (p + 1)) (fun z => Except.ok (z.1, z.2 - p)) : Except DecodeError (Instr × Nat)) = _
  rw [mm_drs2 bs (p + 1) b c _ (mm_dr2 _ _ _ _ h)]
  show (Except.ok (_, p + 1 + 1 + 1 - p) : Except DecodeError (Instr × Nat)) = _
  rw [show p + 1 + 1 + 1 - p = 3 by omega]
theorem mm_dc_199 {bs : List UInt8} {p : Nat} {b c : UInt8} {r : List UInt8} (h : bs.drop p = 199 :: b :: c :: r) : decode ⟨bs.toArray⟩ p = .ok (.ifnonnull (Reader.signed 16 (b.toNat * 256 + c.toNat)), 3) := by
  unfold decode Decoder.instr
  rw [mm_dr1 bs p 199 _ h]
  show (Except.bind (Reader.runAt ((Reader.s2 : Decoder Int) >>= fun x => (pure (Instr.ifnonnull x) : Decoder Instr) : Decoder Instr) ⟨bs.toArray⟩ (p + 1)) (fun z => Except.ok (z.1, z.2 - p)) : Except DecodeError (Instr × Nat)) = _
  rw [mm_drs2 bs (p + 1) b c _ (mm_dr2 _ _ _ _ h)]
  show (Except.ok (_, p + 1 + 1 + 1 - p) : Except DecodeError (Instr × Nat)) = _
  rw [show p + 1 + 1 + 1 - p = 3 by omega]
/-- the instruction at the head of a list of bytes; none for switches and what the program has not -/
def mm_gn (r : List UInt8) : Option (Instr × Nat) := match r with
  | b :: _ => if b = 4 then some (.newarray .boolean, 2) else if b = 10 then some (.newarray .int, 2) else none
  | _ => none
def mm_g1 (r : List UInt8) (f : UInt8 → Instr × Nat) : Option (Instr × Nat) := match r with
  | b :: _ => some (f b)
  | _ => none
def mm_g2 (r : List UInt8) (f : UInt8 → UInt8 → Instr × Nat) : Option (Instr × Nat) := match r with
  | b :: c :: _ => some (f b c)
  | _ => none
theorem mm_g1_ok {r : List UInt8} {f : UInt8 → Instr × Nat} {x : Instr × Nat} (h : mm_g1 r f = some x) : ∃ b r', r = b :: r' ∧ x = f b := by
  cases r with
  | nil => cases h
  | cons b r' => exact ⟨b, r', rfl, (Option.some.inj h).symm⟩
theorem mm_g2_ok {r : List UInt8} {f : UInt8 → UInt8 → Instr × Nat} {x : Instr × Nat} (h : mm_g2 r f = some x) : ∃ b c r', r = b :: c :: r' ∧ x = f b c := by
  cases r with
  | nil => cases h
  | cons b r =>
    cases r with
    | nil => cases h
    | cons c r' => exact ⟨b, c, r', rfl, (Option.some.inj h).symm⟩
theorem mm_if {α : Type} {p : Prop} [Decidable p] {A B : Option α} {x : α} (h : (if p then A else B) = some x) : (p ∧ A = some x) ∨ (¬ p ∧ B = some x) := by
  by_cases q : p
  · rw [if_pos q] at h; exact Or.inl ⟨q, h⟩
  · rw [if_neg q] at h; exact Or.inr ⟨q, h⟩
theorem mm_gn_ok {bs : List UInt8} {p : Nat} {r : List UInt8} {x : Instr × Nat} (hl : bs.drop p = 188 :: r) (h : mm_gn r = some x) : decode ⟨bs.toArray⟩ p = .ok x := by
  cases r with
  | nil => cases h
  | cons b r =>
    unfold mm_gn at h
    dsimp only at h
    rcases mm_if h with ⟨rfl, h⟩ | ⟨-, h⟩
    · cases h; exact mm_dc_188_4 hl
    rcases mm_if h with ⟨rfl, h⟩ | ⟨-, h⟩
    · cases h; exact mm_dc_188_10 hl
    · cases h
def mm_dl (l : List UInt8) : Option (Instr × Nat) := match l with
  | [] => none
  | o :: r =>
    if o = 42 then some (.aload_n 0, 1) else
    if o = 180 then mm_g2 r (fun b c => (.getfield (b.toNat * 256 + c.toNat), 3)) else
    if o = 27 then some (.iload_n 1, 1) else
    if o = 182 then mm_g2 r (fun b c => (.invokevirtual (b.toNat * 256 + c.toNat), 3)) else
    if o = 46 then some (.iaload, 1) else
    if o = 172 then some (.ireturn, 1) else
    if o = 3 then some (.iconst (0), 1) else
    if o = 28 then some (.iload_n 2, 1) else
    if o = 16 then mm_g1 r (fun b => (.bipush (Reader.signed 8 b.toNat), 2)) else
    if o = 29 then some (.iload_n 3, 1) else
    if o = 4 then some (.iconst (1), 1) else
    if o = 167 then mm_g2 r (fun b c => (.goto (Reader.signed 16 (b.toNat * 256 + c.toNat)), 3)) else
    if o = 21 then mm_g1 r (fun b => (.iload b.toNat, 2)) else
    if o = 181 then mm_g2 r (fun b c => (.putfield (b.toNat * 256 + c.toNat), 3)) else
    if o = 96 then some (.iadd, 1) else
    if o = 43 then some (.aload_n 1, 1) else
    if o = 153 then mm_g2 r (fun b c => (.ifCond .eq (Reader.signed 16 (b.toNat * 256 + c.toNat)), 3)) else
    if o = 2 then some (.iconst (-1), 1) else
    if o = 184 then mm_g2 r (fun b c => (.invokestatic (b.toNat * 256 + c.toNat), 3)) else
    if o = 160 then mm_g2 r (fun b c => (.if_icmp .ne (Reader.signed 16 (b.toNat * 256 + c.toNat)), 3)) else
    if o = 154 then mm_g2 r (fun b c => (.ifCond .ne (Reader.signed 16 (b.toNat * 256 + c.toNat)), 3)) else
    if o = 79 then some (.iastore, 1) else
    if o = 177 then some (.return_, 1) else
    if o = 54 then mm_g1 r (fun b => (.istore b.toNat, 2)) else
    if o = 159 then mm_g2 r (fun b c => (.if_icmp .eq (Reader.signed 16 (b.toNat * 256 + c.toNat)), 3)) else
    if o = 6 then some (.iconst (3), 1) else
    if o = 7 then some (.iconst (4), 1) else
    if o = 104 then some (.imul, 1) else
    if o = 100 then some (.isub, 1) else
    if o = 162 then mm_g2 r (fun b c => (.if_icmp .ge (Reader.signed 16 (b.toNat * 256 + c.toNat)), 3)) else
    if o = 89 then some (.dup, 1) else
    if o = 62 then some (.istore_n 3, 1) else
    if o = 5 then some (.iconst (2), 1) else
    if o = 44 then some (.aload_n 2, 1) else
    if o = 132 then mm_g2 r (fun b c => (.iinc b.toNat (Reader.signed 8 c.toNat), 3)) else
    if o = 51 then some (.baload, 1) else
    if o = 50 then some (.aaload, 1) else
    if o = 26 then some (.iload_n 0, 1) else
    if o = 61 then some (.istore_n 2, 1) else
    if o = 45 then some (.aload_n 3, 1) else
    if o = 1 then some (.aconst_null, 1) else
    if o = 8 then some (.iconst (5), 1) else
    if o = 17 then mm_g2 r (fun b c => (.sipush (Reader.signed 16 (b.toNat * 256 + c.toNat)), 3)) else
    if o = 25 then mm_g1 r (fun b => (.aload b.toNat, 2)) else
    if o = 58 then mm_g1 r (fun b => (.astore b.toNat, 2)) else
    if o = 59 then some (.istore_n 0, 1) else
    if o = 60 then some (.istore_n 1, 1) else
    if o = 75 then some (.astore_n 0, 1) else
    if o = 76 then some (.astore_n 1, 1) else
    if o = 77 then some (.astore_n 2, 1) else
    if o = 78 then some (.astore_n 3, 1) else
    if o = 83 then some (.aastore, 1) else
    if o = 84 then some (.bastore, 1) else
    if o = 87 then some (.pop, 1) else
    if o = 92 then some (.dup2, 1) else
    if o = 120 then some (.ishl, 1) else
    if o = 122 then some (.ishr, 1) else
    if o = 126 then some (.iand, 1) else
    if o = 128 then some (.ior, 1) else
    if o = 130 then some (.ixor, 1) else
    if o = 155 then mm_g2 r (fun b c => (.ifCond .lt (Reader.signed 16 (b.toNat * 256 + c.toNat)), 3)) else
    if o = 156 then mm_g2 r (fun b c => (.ifCond .ge (Reader.signed 16 (b.toNat * 256 + c.toNat)), 3)) else
    if o = 157 then mm_g2 r (fun b c => (.ifCond .gt (Reader.signed 16 (b.toNat * 256 + c.toNat)), 3)) else
    if o = 158 then mm_g2 r (fun b c => (.ifCond .le (Reader.signed 16 (b.toNat * 256 + c.toNat)), 3)) else
    if o = 161 then mm_g2 r (fun b c => (.if_icmp .lt (Reader.signed 16 (b.toNat * 256 + c.toNat)), 3)) else
    if o = 163 then mm_g2 r (fun b c => (.if_icmp .gt (Reader.signed 16 (b.toNat * 256 + c.toNat)), 3)) else
    if o = 164 then mm_g2 r (fun b c => (.if_icmp .le (Reader.signed 16 (b.toNat * 256 + c.toNat)), 3)) else
    if o = 176 then some (.areturn, 1) else
    if o = 178 then mm_g2 r (fun b c => (.getstatic (b.toNat * 256 + c.toNat), 3)) else
    if o = 183 then mm_g2 r (fun b c => (.invokespecial (b.toNat * 256 + c.toNat), 3)) else
    if o = 187 then mm_g2 r (fun b c => (.new (b.toNat * 256 + c.toNat), 3)) else
    if o = 188 then (mm_gn r) else
    if o = 189 then mm_g2 r (fun b c => (.anewarray (b.toNat * 256 + c.toNat), 3)) else
    if o = 190 then some (.arraylength, 1) else
    if o = 198 then mm_g2 r (fun b c => (.ifnull (Reader.signed 16 (b.toNat * 256 + c.toNat)), 3)) else
    if o = 199 then mm_g2 r (fun b c => (.ifnonnull (Reader.signed 16 (b.toNat * 256 + c.toNat)), 3)) else
    none
set_option maxHeartbeats 4000000 in
set_option maxRecDepth 100000 in
theorem mm_dl_ok {bs : List UInt8} {p : Nat} {x : Instr × Nat} (h : mm_dl (bs.drop p) = some x) : decode ⟨bs.toArray⟩ p = .ok x := by
  generalize hl : bs.drop p = l at h
  cases l with
  | nil => cases h
  | cons o r =>
    unfold mm_dl at h
    dsimp only at h
    rcases mm_if h with ⟨rfl, h⟩ | ⟨-, h⟩
    · cases h; exact mm_dc_42 hl
    rcases mm_if h with ⟨rfl, h⟩ | ⟨-, h⟩
    · obtain ⟨b, c, r', rfl, rfl⟩ := mm_g2_ok h; exact mm_dc_180 hl
    rcases mm_if h with ⟨rfl, h⟩ | ⟨-, h⟩
    · cases h; exact mm_dc_27 hl
    rcases mm_if h with ⟨rfl, h⟩ | ⟨-, h⟩
    · obtain ⟨b, c, r', rfl, rfl⟩ := mm_g2_ok h; exact mm_dc_182 hl
    rcases mm_if h with ⟨rfl, h⟩ | ⟨-, h⟩
    · cases h; exact mm_dc_46 hl
    rcases mm_if h with ⟨rfl, h⟩ | ⟨-, h⟩
    · cases h; exact mm_dc_172 hl
    rcases mm_if h with ⟨rfl, h⟩ | ⟨-, h⟩
    · cases h; exact mm_dc_3 hl
    rcases mm_if h with ⟨rfl, h⟩ | ⟨-, h⟩
    · cases h; exact mm_dc_28 hl
    rcases mm_if h with ⟨rfl, h⟩ | ⟨-, h⟩
    · obtain ⟨b, r', rfl, rfl⟩ := mm_g1_ok h; exact mm_dc_16 hl
    rcases mm_if h with ⟨rfl, h⟩ | ⟨-, h⟩
    · cases h; exact mm_dc_29 hl
    rcases mm_if h with ⟨rfl, h⟩ | ⟨-, h⟩
    · cases h; exact mm_dc_4 hl
    rcases mm_if h with ⟨rfl, h⟩ | ⟨-, h⟩
    · obtain ⟨b, c, r', rfl, rfl⟩ := mm_g2_ok h; exact mm_dc_167 hl
    rcases mm_if h with ⟨rfl, h⟩ | ⟨-, h⟩
    · obtain ⟨b, r', rfl, rfl⟩ := mm_g1_ok h; exact mm_dc_21 hl
    rcases mm_if h with ⟨rfl, h⟩ | ⟨-, h⟩
    · obtain ⟨b, c, r', rfl, rfl⟩ := mm_g2_ok h; exact mm_dc_181 hl
    rcases mm_if h with ⟨rfl, h⟩ | ⟨-, h⟩
    · cases h; exact mm_dc_96 hl
    rcases mm_if h with ⟨rfl, h⟩ | ⟨-, h⟩
    · cases h; exact mm_dc_43 hl
    rcases mm_if h with ⟨rfl, h⟩ | ⟨-, h⟩
    · obtain ⟨b, c, r', rfl, rfl⟩ := mm_g2_ok h; exact mm_dc_153 hl
    rcases mm_if h with ⟨rfl, h⟩ | ⟨-, h⟩
    · cases h; exact mm_dc_2 hl
    rcases mm_if h with ⟨rfl, h⟩ | ⟨-, h⟩
    · obtain ⟨b, c, r', rfl, rfl⟩ := mm_g2_ok h; exact mm_dc_184 hl
    rcases mm_if h with ⟨rfl, h⟩ | ⟨-, h⟩
    · obtain ⟨b, c, r', rfl, rfl⟩ := mm_g2_ok h; exact mm_dc_160 hl
    rcases mm_if h with ⟨rfl, h⟩ | ⟨-, h⟩
    · obtain ⟨b, c, r', rfl, rfl⟩ := mm_g2_ok h; exact mm_dc_154 hl
    rcases mm_if h with ⟨rfl, h⟩ | ⟨-, h⟩
    · cases h; exact mm_dc_79 hl
    rcases mm_if h with ⟨rfl, h⟩ | ⟨-, h⟩
    · cases h; exact mm_dc_177 hl
    rcases mm_if h with ⟨rfl, h⟩ | ⟨-, h⟩
    · obtain ⟨b, r', rfl, rfl⟩ := mm_g1_ok h; exact mm_dc_54 hl
    rcases mm_if h with ⟨rfl, h⟩ | ⟨-, h⟩
    · obtain ⟨b, c, r', rfl, rfl⟩ := mm_g2_ok h; exact mm_dc_159 hl
    rcases mm_if h with ⟨rfl, h⟩ | ⟨-, h⟩
    · cases h; exact mm_dc_6 hl
    rcases mm_if h with ⟨rfl, h⟩ | ⟨-, h⟩
    · cases h; exact mm_dc_7 hl
    rcases mm_if h with ⟨rfl, h⟩ | ⟨-, h⟩
    · cases h; exact mm_dc_104 hl
    rcases mm_if h with ⟨rfl, h⟩ | ⟨-, h⟩
    · cases h; exact mm_dc_100 hl
    rcases mm_if h with ⟨rfl, h⟩ | ⟨-, h⟩
    · obtain ⟨b, c, r', rfl, rfl⟩ := mm_g2_ok h; exact mm_dc_162 hl
    rcases mm_if h with ⟨rfl, h⟩ | ⟨-, h⟩
    · cases h; exact mm_dc_89 hl
    rcases mm_if h with ⟨rfl, h⟩ | ⟨-, h⟩
    · cases h; exact mm_dc_62 hl
    rcases mm_if h with ⟨rfl, h⟩ | ⟨-, h⟩
    · cases h; exact mm_dc_5 hl
    rcases mm_if h with ⟨rfl, h⟩ | ⟨-, h⟩
    · cases h; exact mm_dc_44 hl
    rcases mm_if h with ⟨rfl, h⟩ | ⟨-, h⟩
    · obtain ⟨b, c, r', rfl, rfl⟩ := mm_g2_ok h; exact mm_dc_132 hl
    rcases mm_if h with ⟨rfl, h⟩ | ⟨-, h⟩
    · cases h; exact mm_dc_51 hl
    rcases mm_if h with ⟨rfl, h⟩ | ⟨-, h⟩
    · cases h; exact mm_dc_50 hl
    rcases mm_if h with ⟨rfl, h⟩ | ⟨-, h⟩
    · cases h; exact mm_dc_26 hl
    rcases mm_if h with ⟨rfl, h⟩ | ⟨-, h⟩
    · cases h; exact mm_dc_61 hl
    rcases mm_if h with ⟨rfl, h⟩ | ⟨-, h⟩
    · cases h; exact mm_dc_45 hl
    rcases mm_if h with ⟨rfl, h⟩ | ⟨-, h⟩
    · cases h; exact mm_dc_1 hl
    rcases mm_if h with ⟨rfl, h⟩ | ⟨-, h⟩
    · cases h; exact mm_dc_8 hl
    rcases mm_if h with ⟨rfl, h⟩ | ⟨-, h⟩
    · obtain ⟨b, c, r', rfl, rfl⟩ := mm_g2_ok h; exact mm_dc_17 hl
    rcases mm_if h with ⟨rfl, h⟩ | ⟨-, h⟩
    · obtain ⟨b, r', rfl, rfl⟩ := mm_g1_ok h; exact mm_dc_25 hl
    rcases mm_if h with ⟨rfl, h⟩ | ⟨-, h⟩
    · obtain ⟨b, r', rfl, rfl⟩ := mm_g1_ok h; exact mm_dc_58 hl
    rcases mm_if h with ⟨rfl, h⟩ | ⟨-, h⟩
    · cases h; exact mm_dc_59 hl
    rcases mm_if h with ⟨rfl, h⟩ | ⟨-, h⟩
    · cases h; exact mm_dc_60 hl
    rcases mm_if h with ⟨rfl, h⟩ | ⟨-, h⟩
    · cases h; exact mm_dc_75 hl
    rcases mm_if h with ⟨rfl, h⟩ | ⟨-, h⟩
    · cases h; exact mm_dc_76 hl
    rcases mm_if h with ⟨rfl, h⟩ | ⟨-, h⟩
    · cases h; exact mm_dc_77 hl
    rcases mm_if h with ⟨rfl, h⟩ | ⟨-, h⟩
    · cases h; exact mm_dc_78 hl
    rcases mm_if h with ⟨rfl, h⟩ | ⟨-, h⟩
    · cases h; exact mm_dc_83 hl
    rcases mm_if h with ⟨rfl, h⟩ | ⟨-, h⟩
    · cases h; exact mm_dc_84 hl
    rcases mm_if h with ⟨rfl, h⟩ | ⟨-, h⟩
    · cases h; exact mm_dc_87 hl
    rcases mm_if h with ⟨rfl, h⟩ | ⟨-, h⟩
    · cases h; exact mm_dc_92 hl
    rcases mm_if h with ⟨rfl, h⟩ | ⟨-, h⟩
    · cases h; exact mm_dc_120 hl
    rcases mm_if h with ⟨rfl, h⟩ | ⟨-, h⟩
    · cases h; exact mm_dc_122 hl
    rcases mm_if h with ⟨rfl, h⟩ | ⟨-, h⟩
    · cases h; exact mm_dc_126 hl
    rcases mm_if h with ⟨rfl, h⟩ | ⟨-, h⟩
    · cases h; exact mm_dc_128 hl
    rcases mm_if h with ⟨rfl, h⟩ | ⟨-, h⟩
    · cases h; exact mm_dc_130 hl
    rcases mm_if h with ⟨rfl, h⟩ | ⟨-, h⟩
    · obtain ⟨b, c, r', rfl, rfl⟩ := mm_g2_ok h; exact mm_dc_155 hl
    rcases mm_if h with ⟨rfl, h⟩ | ⟨-, h⟩
    · obtain ⟨b, c, r', rfl, rfl⟩ := mm_g2_ok h; exact mm_dc_156 hl
    rcases mm_if h with ⟨rfl, h⟩ | ⟨-, h⟩
    · obtain ⟨b, c, r', rfl, rfl⟩ := mm_g2_ok h; exact mm_dc_157 hl
    rcases mm_if h with ⟨rfl, h⟩ | ⟨-, h⟩
    · obtain ⟨b, c, r', rfl, rfl⟩ := mm_g2_ok h; exact mm_dc_158 hl
    rcases mm_if h with ⟨rfl, h⟩ | ⟨-, h⟩
    · obtain ⟨b, c, r', rfl, rfl⟩ := mm_g2_ok h; exact mm_dc_161 hl
    rcases mm_if h with ⟨rfl, h⟩ | ⟨-, h⟩
    · obtain ⟨b, c, r', rfl, rfl⟩ := mm_g2_ok h; exact mm_dc_163 hl
    rcases mm_if h with ⟨rfl, h⟩ | ⟨-, h⟩
    · obtain ⟨b, c, r', rfl, rfl⟩ := mm_g2_ok h; exact mm_dc_164 hl
    rcases mm_if h with ⟨rfl, h⟩ | ⟨-, h⟩
    · cases h; exact mm_dc_176 hl
    rcases mm_if h with ⟨rfl, h⟩ | ⟨-, h⟩
    · obtain ⟨b, c, r', rfl, rfl⟩ := mm_g2_ok h; exact mm_dc_178 hl
    rcases mm_if h with ⟨rfl, h⟩ | ⟨-, h⟩
    · obtain ⟨b, c, r', rfl, rfl⟩ := mm_g2_ok h; exact mm_dc_183 hl
    rcases mm_if h with ⟨rfl, h⟩ | ⟨-, h⟩
    · obtain ⟨b, c, r', rfl, rfl⟩ := mm_g2_ok h; exact mm_dc_187 hl
    rcases mm_if h with ⟨rfl, h⟩ | ⟨-, h⟩
    · exact mm_gn_ok hl h
    rcases mm_if h with ⟨rfl, h⟩ | ⟨-, h⟩
    · obtain ⟨b, c, r', rfl, rfl⟩ := mm_g2_ok h; exact mm_dc_189 hl
    rcases mm_if h with ⟨rfl, h⟩ | ⟨-, h⟩
    · cases h; exact mm_dc_190 hl
    rcases mm_if h with ⟨rfl, h⟩ | ⟨-, h⟩
    · obtain ⟨b, c, r', rfl, rfl⟩ := mm_g2_ok h; exact mm_dc_198 hl
    rcases mm_if h with ⟨rfl, h⟩ | ⟨-, h⟩
    · obtain ⟨b, c, r', rfl, rfl⟩ := mm_g2_ok h; exact mm_dc_199 hl
    cases h
/-- the code of a method walked along its bytes: each entry stands there (switches: asked of decode itself) -/
def mm_wk (M : mm_M) : List mm_I → Nat → List UInt8 → Bool
  | [], _, _ => true
  | e :: es, p, l => decide (e.1 = p) && (decide (mm_dl l = some (mm_or e.2.2.1 e.2.2.2, e.2.1)) || (decide (mm_ln e.2.2.2 = 0) && decide (decode M.2.1 e.1 = .ok (mm_or e.2.2.1 e.2.2.2, e.2.1)))) && (decide (mm_ln e.2.2.2 = 0) || decide (mm_ln e.2.2.2 = e.2.1)) && mm_lk M e.1 e.2.2.1 e.2.2.2 && mm_wk M es (p + e.2.1) (l.drop e.2.1)
theorem mm_wk_ok {M : mm_M} {bs : List UInt8} (hb : M.2.1 = ⟨bs.toArray⟩) : ∀ (es : List mm_I) (p : Nat), mm_wk M es p (bs.drop p) = true → ∀ e ∈ es, mm_ok1 M e = true := by
  intro es
  induction es with
  | nil => intro p _ e he; cases he
  | cons a es ih =>
    intro p h e he
    simp only [mm_wk, Bool.and_eq_true, Bool.or_eq_true, decide_eq_true_eq, List.drop_drop] at h
    obtain ⟨⟨⟨⟨hp, hd⟩, hl⟩, hk⟩, hr⟩ := h
    rcases List.mem_cons.mp he with rfl | he
    · simp only [mm_ok1, Bool.and_eq_true, Bool.or_eq_true, decide_eq_true_eq]
      refine ⟨⟨?_, hl⟩, hk⟩
      rcases hd with hd | hd
      · rw [hb, hp]; exact mm_dl_ok hd
      · exact hd.2
    · exact ih (p + a.2.1) hr e he
