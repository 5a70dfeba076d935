/-! RUNNING: one step of the class beside one of the reference -/
def SL (h s : mm_H) : Prop := mm_i h 324 56 = mm_i s 636 80 ∧ mm_i h 325 56 = mm_i s 632 80 ∧ mm_i h 326 56 = mm_i s 629 80 ∧ mm_i h 327 56 = mm_i s 631 80 ∧ mm_i h 328 56 = mm_i s 630 80 ∧ mm_i h 329 56 = mm_i s 634 80
def CR (qm : Nat → Nat) (nM : Nat) (h s : mm_H) (d n : Nat) : Prop := CX qm nM h s (fun w => (mm_a s 120 w).toNatClampNeg) (d + 1) n (mm_i s 631 80).toNatClampNeg ∧ mm_i h 333 56 = nI (d + 1) ∧ mm_i h 334 56 = -1 ∧ (∀ w, w < d → mm_i h 385 (62 + 3 * w) + 1 = mm_a s 121 w) ∧ mm_i h 385 (62 + 3 * d) = mm_a s 121 d ∧ SL h s
def CE (h s : mm_H) : Prop := mm_i h 334 56 = mm_i s 635 80 ∧ SL h s ∧ ∀ j, j < 16 → j < (mm_i s 631 80).toNatClampNeg → mm_a h 58 j = mm_a s 123 j
def PC (h0 : mm_H) (qm : Nat → Nat) (nM : Nat) (s h : mm_H) : Prop := AR h0 h ∧ CE h s ∧ (mm_i s 635 80 = -1 → ∃ d n, d < 6 ∧ n ≤ 24 ∧ mm_i s 633 80 = nI (d + 1) ∧ mm_i s 629 80 = nI n ∧ CR qm nM h s d n)
theorem SL_cg {h h' s s' : mm_H} (a : ∀ f, 324 ≤ f ∧ f ≤ 329 → mm_i h' f 56 = mm_i h f 56) (b : ∀ f, 629 ≤ f → f ≤ 636 → ¬ f = 633 → ¬ f = 635 → mm_i s' f 80 = mm_i s f 80) (l : SL h s) : SL h' s' := by
  obtain ⟨l1, l2, l3, l4, l5, l6⟩ := l
  exact ⟨(a _ (by omega)).trans (l1.trans (b _ (by omega) (by omega) (by omega) (by omega)).symm), (a _ (by omega)).trans (l2.trans (b _ (by omega) (by omega) (by omega) (by omega)).symm), (a _ (by omega)).trans (l3.trans (b _ (by omega) (by omega) (by omega) (by omega)).symm), (a _ (by omega)).trans (l4.trans (b _ (by omega) (by omega) (by omega) (by omega)).symm), (a _ (by omega)).trans (l5.trans (b _ (by omega) (by omega) (by omega) (by omega)).symm), (a _ (by omega)).trans (l6.trans (b _ (by omega) (by omega) (by omega) (by omega)).symm)⟩
theorem pc_mk {h0 h s : mm_H} {qm T : Nat → Nat} {nM d n P : Nat} (ar : AR h0 h) (c : CX qm nM h s T (d + 1) n P) (hT : ∀ w, w < d + 1 → (mm_a s 120 w).toNatClampNeg ≤ T w) (hP : (mm_i s 631 80).toNatClampNeg ≤ P) (hd : d < 6) (hn : n ≤ 24) (e3 : mm_i h 333 56 = nI (d + 1)) (f3 : mm_i s 633 80 = nI (d + 1)) (e4 : mm_i h 334 56 = -1) (f5 : mm_i s 635 80 = -1) (en : mm_i s 629 80 = nI n) (al : ∀ w, w < d → mm_i h 385 (62 + 3 * w) + 1 = mm_a s 121 w) (at' : mm_i h 385 (62 + 3 * d) = mm_a s 121 d) (sl : SL h s) : PC h0 qm nM s h := by
  have c' := cx_dn (T' := fun w => (mm_a s 120 w).toNatClampNeg) c (Nat.le_refl _) (Nat.le_refl _) hP hT
  exact ⟨ar, ⟨e4.trans f5.symm, sl, fun j hj hp => c'.2.2.2.2.2.2 j hp hj⟩, fun _ => ⟨d, n, hd, hn, f3, en, c', e3, e4, al, at', sl⟩⟩
theorem pc_end {h0 h s : mm_H} {qm : Nat → Nat} {nM : Nat} (ar : AR h0 h) (e : mm_i h 334 56 = mm_i s 635 80) (ne : ¬ mm_i s 635 80 = -1) (sl : SL h s) (o : ∀ j, j < 16 → j < (mm_i s 631 80).toNatClampNeg → mm_a h 58 j = mm_a s 123 j) : PC h0 qm nM s h := ⟨ar, ⟨e, sl, o⟩, fun z => absurd z ne⟩
/-- where both stand -/
def STs (ro : mm_Ro) (h0 : mm_H) (nC nF nM : Nat) (qm : Nat → Nat) (h s : mm_H) (d n H m i : Nat) : Prop := lx_T ro h0 nC nF nM qm ∧ AR h0 h ∧ CR qm nM h s d n ∧ rs_gs n s d H m i ∧ m < nM
section
variable {ro : mm_Ro} {h0 h s h' s' : mm_H} {qm T' : Nat → Nat} {nC nF nM d n H m i : Nat}
theorem st_f (S : STs ro h0 nC nF nM qm h s d n H m i) : mm_r h 384 (62 + 3 * d) = qm m ∧ mm_i h 388 (62 + 3 * d) = nI H ∧ mm_i h 385 (62 + 3 * d) = nI i ∧ (∀ j, j < H → mm_a h (64 + 3 * d) j = mm_a s 119 (4 * d + j)) ∧ (∀ v, v < 6 → mm_a h (63 + 3 * d) v = mm_a s 118 (6 * d + v)) ∧ mm_i h 326 56 = nI n := by
  obtain ⟨T, ar, ⟨c, e3, e4, al, at', sl⟩, ⟨⟨hw, h4, hm, hi, hn⟩, f3, f5, f0, f2, f1, en, _⟩, hmM⟩ := S
  obtain ⟨m', m1, m2, m3⟩ := c.1 d (by omega)
  have h10 := T.2.1.2.2.2.2.2.2
  have em : m = m' := (nI_eq (by omega) (by omega)).mp (f2.symm.trans m2)
  subst em
  refine ⟨m3, (c.2.2.2.1 d (by omega)).trans f0, at'.trans f1, fun j hj => c.2.2.1 d j (by omega) ?_ (by omega), fun v hv => c.2.1 d v (by omega) hv, sl.2.2.1.trans en⟩
  show j < (mm_a s 120 d).toNatClampNeg
  rw [f0, mm_ncl (by omega)]
  exact hj
theorem st_c (S : STs ro h0 nC nF nM qm h s d n H m i) : CX qm nM h s (fun u => if u = d then H else (mm_a s 120 u).toNatClampNeg) (d + 1) n (mm_i s 631 80).toNatClampNeg := by
  obtain ⟨T, ar, ⟨c, _⟩, ⟨⟨hw, h4, hm, hi, hn⟩, f3, f5, f0, _⟩, hmM⟩ := S
  refine cx_dn c (Nat.le_refl _) (Nat.le_refl _) (Nat.le_refl _) (fun u hu => ?_)
  show (if u = d then H else (mm_a s 120 u).toNatClampNeg) ≤ (mm_a s 120 u).toNatClampNeg
  by_cases q : u = d
  · rw [if_pos q, q, f0, mm_ncl (by omega)]; omega
  · rw [if_neg q]; omega
/-- a step that stays in the method and touches no number of the run -/
theorem pc_in {H' : Nat} (S : STs ro h0 nC nF nM qm h s d n H m i) (ar : AR h0 h') (c : CX qm nM h' s' (fun u => if u = d then H' else (mm_a s 120 u).toNatClampNeg) (d + 1) n (mm_i s 631 80).toNatClampNeg) (hi : ∀ f, mm_i h' f 56 = mm_i h f 56) (si : mm_i s' = mm_i s) (h5 : ∀ w, w < d → mm_i h' 385 (62 + 3 * w) = mm_i h 385 (62 + 3 * w)) (s1 : ∀ w, w < d → mm_a s' 121 w = mm_a s 121 w) (s0 : ∀ w, w < d → mm_a s' 120 w = mm_a s 120 w) (t0 : mm_a s' 120 d = nI H') (hH : H' ≤ 4) (at' : mm_i h' 385 (62 + 3 * d) = mm_a s' 121 d) : PC h0 qm nM s' h' := by
  obtain ⟨T, ar0, ⟨c0, e3, e4, al, at0, sl⟩, ⟨⟨hw, h4, hm, hi', hn⟩, f3, f5, f0, f2, f1, en, _⟩, hmM⟩ := S
  refine pc_mk ar c (fun w hw' => ?_) (by rw [si]; exact Nat.le_refl _) hw hn ((hi 333).trans e3) (by rw [si]; exact f3) ((hi 334).trans e4) (by rw [si]; exact f5) (by rw [si]; exact en) (fun w hw' => by rw [h5 w hw', s1 w hw']; exact al w hw') at' (SL_cg (fun f _ => hi f) (fun f _ _ _ _ => by rw [si]) sl)
  show (mm_a s' 120 w).toNatClampNeg ≤ (if w = d then H' else (mm_a s 120 w).toNatClampNeg)
  by_cases q : w = d
  · rw [if_pos q, q, t0, mm_ncl (by omega)]; omega
  · rw [if_neg q, s0 w (by omega)]; omega
end
