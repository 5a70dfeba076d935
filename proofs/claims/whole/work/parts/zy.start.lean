theorem i0_RO {L : Nat} {xs : Nat → Int32} : lx_RO (mm_ro L xs) := by
  refine ⟨rfl, rfl, ?_⟩
  show ∀ o, o < 18 → mm_po.getD o 0 = nI ([0, 0, 0, 1, 1, 1, 2, 0, 1, 1, 2, 0, 1, 0, 1, 1, 0, 1].getD o 0) ∧ mm_pu.getD o 0 = nI ([1, 1, 1, 0, 2, 0, 1, 1, 1, 1, 0, 0, 1, 0, 0, 0, 0, 0].getD o 0)
  decide +kernel
theorem whole_start {p : Program} {e : Env} {s : State} {m : MethodId} {below : List Frame} {meth : Method} {c : Code} (l : Launch) {b L : Nat} {xs : Nat → Int32} (hL : L ≤ 2560) (C0 : lw_At p s m meth c b L xs) : W p l e room_1 s m #[Value.ref b] below meth c s.heap [] 0 0 (lw_Z below #[Value.ref b] s) (entryFrame m ([Value.ref b] : List Value).toArray 4) := by
  obtain ⟨n, r, hf, h1, h2, h3, h4⟩ := lz_all (ro := mm_ro L xs) (L := L) i0_RO rfl hL
  rw [h2] at h1
  exact mm_law l hL C0 ⟨n, hf, h1, h3, h4⟩
