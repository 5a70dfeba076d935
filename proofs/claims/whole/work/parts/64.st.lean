/-! THE REFERENCE: start -/
theorem lk_4p {m p : Nat} : Int32.ofInt 4 * nI m + nI p = nI (4 * m + p) := mm_lin 4 m p
theorem lk_sp_up {h : mm_H} {m p : Nat} {g : Nat → mm_V} (hg : ∀ v, v < 6 → g v = lk_sp h m p v) : ∀ v, v < 6 → lk_up g (lk_of h m + p) (lk_sv (mm_a h 93 (4 * m + p)) (mm_a h 96 (4 * m + p)) (mm_a h 94 (4 * m + p))) v = lk_sp h m (p + 1) v := by
  intro v hv
  have n0 : v = 0 → mm_a h 95 m = 0 → lk_of h m = 1 := fun _ z => if_pos z
  by_cases q : v = lk_of h m + p
  · rw [q, lk_up_t]
    unfold lk_sp
    rw [if_neg (fun z => by have := n0 (by omega) z.2; omega), if_pos ⟨by omega, by omega⟩, show lk_of h m + p - lk_of h m = p by omega]
  · rw [lk_up_f q, hg v hv]
    unfold lk_sp
    by_cases z : v = 0 ∧ mm_a h 95 m = 0
    · rw [if_pos z, if_pos z]
    · rw [if_neg z, if_neg z]
      by_cases y : lk_of h m ≤ v ∧ v < lk_of h m + p
      · rw [if_pos y, if_pos ⟨y.1, by omega⟩]
      · rw [if_neg y, if_neg (fun x => y ⟨x.1, by omega⟩)]
theorem l_Mo_start2 {ro : mm_Ro} {d m : Nat} {h0 : mm_H} {e : Int32 × Int32 × Int32} {hd : Nat → Int32 × Int32 × Int32} {sv : Nat → mm_V} {Q : Value → mm_H → Prop} (I : mm_SH h0) (S : lk_SV h0) (M : lk_MV h0 m) (hQ : ∀ g, (∀ v, v < 6 → g v = lk_s0 h0 m v) → lk_bn g → Q .null (lk_L h0 e (0, -1, 0, g) hd sv)) : ∀ (n p : Nat) (g : Nat → mm_V), p + n = lk_np h0 m → (∀ v, v < 6 → g v = lk_sp h0 m p v) → lk_bn g → mm_go ro (d + 1) mm_m_Mo_start 69 [.ref 80, .int (nI m), .int (nI (lk_of h0 m + p)), .int (nI (4 * m + p))] [] (lk_L h0 e (0, -1, 0, g) hd sv) Q := by
  intro n
  have hm := M.1
  have h3 := M.2.2.2.1
  have h1 := lk_of1 (h := h0) (m := m)
  have hB : 0 ≤ (nI m).toInt ∧ (nI m).toInt < ((10 : Nat) : Int) := mm_nb hm (by omega)
  have hc : (nI m).toNatClampNeg = m := mm_ncl (by omega)
  induction n with
  | zero =>
    intro p g hp hg hb
    have J : mm_SH (lk_L h0 e (0, -1, 0, g) hd sv) := I
    refine mm_go_from (mm_hM n_Mo_start rfl) (And.intro (k_80 J) (mm_rf (r_587 J) (And.intro ⟨k_89 J, mm_inb 10 (n_89 J) hB⟩ (mm_rf (b := nI (lk_np h0 m)) (by rw [hc]; exact M.2.2.1) (And.intro (fun c_80 => mm_go_from (mm_hM n_Mo_start rfl) ?_) (fun c_80 => ?_))))))
    · exact hQ g (fun v hv => by rw [hg v hv, show p = lk_np h0 m by omega]; rfl) hb
    · have q : ¬ (Int32.ofInt 4 * nI m + nI (lk_np h0 m)).toInt ≤ (nI (4 * m + p)).toInt := c_80
      rw [lk_4p, mm_nt (by omega), mm_nt (by omega)] at q
      omega
  | succ n ih =>
    intro p g hp hg hb
    have J : mm_SH (lk_L h0 e (0, -1, 0, g) hd sv) := I
    have hX : 0 ≤ (nI (4 * m + p)).toInt ∧ (nI (4 * m + p)).toInt < ((40 : Nat) : Int) := mm_nb (by omega) (by omega)
    have hXc : (nI (4 * m + p)).toNatClampNeg = 4 * m + p := mm_ncl (by omega)
    have sb := (S.2 (4 * m + p) (by omega)).2.1
    have vb : (lk_sv (mm_a h0 93 (4 * m + p)) (mm_a h0 96 (4 * m + p)) (mm_a h0 94 (4 * m + p))).2.2.1 = 0 ∨ (lk_sv (mm_a h0 93 (4 * m + p)) (mm_a h0 96 (4 * m + p)) (mm_a h0 94 (4 * m + p))).2.2.1 = 1 := by
      unfold lk_sv
      split
      · exact Or.inl rfl
      · exact sb
    have nx := ih (p + 1) _ (by omega) (lk_sp_up hg) (lk_bn_up hb vb)
    rw [show lk_of h0 m + (p + 1) = (lk_of h0 m + p) + 1 by omega, show 4 * m + (p + 1) = (4 * m + p) + 1 by omega, nI_succ, nI_succ] at nx
    refine mm_go_from (mm_hM n_Mo_start rfl) (And.intro (k_80 J) (mm_rf (r_587 J) (And.intro ⟨k_89 J, mm_inb 10 (n_89 J) hB⟩ (mm_rf (b := nI (lk_np h0 m)) (by rw [hc]; exact M.2.2.1) (And.intro (fun c_80 => ?_) (fun c_80 => ?_))))))
    · have q : (Int32.ofInt 4 * nI m + nI (lk_np h0 m)).toInt ≤ (nI (4 * m + p)).toInt := c_80
      rw [lk_4p, mm_nt (by omega), mm_nt (by omega)] at q
      omega
    · refine And.intro (k_80 J) (mm_rf (r_591 J) (And.intro ⟨k_93 J, mm_inb 40 (n_93 J) hX⟩ (mm_rf (b := mm_a h0 93 (4 * m + p)) (by rw [hXc]; rfl) (And.intro (fun c_90 => mm_go_from (mm_hM n_Mo_start rfl) ?_) (fun c_90 => ?_)))))
      · have q : ¬ mm_a h0 93 (4 * m + p) = -1 := c_90
        have e1 : lk_sv (mm_a h0 93 (4 * m + p)) (mm_a h0 96 (4 * m + p)) (mm_a h0 94 (4 * m + p)) = (3, mm_a h0 93 (4 * m + p), mm_a h0 96 (4 * m + p), mm_a h0 94 (4 * m + p), -1) := if_neg q
        rw [e1] at nx
        exact And.intro (k_80 J) (mm_rf (r_591 J) (And.intro ⟨k_93 J, mm_inb 40 (n_93 J) hX⟩ (mm_rf (b := mm_a h0 93 (4 * m + p)) (by rw [hXc]; rfl) (And.intro (k_80 J) (mm_rf (r_594 J) (And.intro ⟨k_96 J, mm_inb 40 (n_96 J) hX⟩ (mm_rf (b := mm_a h0 96 (4 * m + p)) (by rw [hXc]; rfl) (And.intro (k_80 J) (mm_rf (r_592 J) (And.intro ⟨k_94 J, mm_inb 40 (n_94 J) hX⟩ (mm_rf (b := mm_a h0 94 (4 * m + p)) (by rw [hXc]; rfl) (And.intro ⟨rfl, k_80 J⟩ (c_Mo_set I rfl (by omega) sb nx)))))))))))))
      · have q : mm_a h0 93 (4 * m + p) = -1 := mm_no c_90
        have e1 : lk_sv (mm_a h0 93 (4 * m + p)) (mm_a h0 96 (4 * m + p)) (mm_a h0 94 (4 * m + p)) = (1, -1, 0, mm_a h0 94 (4 * m + p), -1) := if_pos q
        rw [e1] at nx
        exact And.intro (k_80 J) (mm_rf (r_592 J) (And.intro ⟨k_94 J, mm_inb 40 (n_94 J) hX⟩ (mm_rf (b := mm_a h0 94 (4 * m + p)) (by rw [hXc]; rfl) (And.intro ⟨rfl, k_80 J⟩ (c_Mo_set I rfl (by omega) (Or.inl rfl) (mm_go_from (mm_hM n_Mo_start rfl) nx))))))
theorem l_Mo_start1 {ro : mm_Ro} {d m : Nat} {h0 : mm_H} {e : Int32 × Int32 × Int32} {hd : Nat → Int32 × Int32 × Int32} {sv : Nat → mm_V} {Q : Value → mm_H → Prop} (I : mm_SH h0) (S : lk_SV h0) (M : lk_MV h0 m) (hQ : ∀ g, (∀ v, v < 6 → g v = lk_s0 h0 m v) → lk_bn g → Q .null (lk_L h0 e (0, -1, 0, g) hd sv)) : ∀ (n v : Nat) (g : Nat → mm_V), v + n = 6 → (∀ j, j < v → g j = (0, -1, 0, 0, -1)) → lk_bn g → mm_go ro (d + 1) mm_m_Mo_start 17 [.ref 80, .int (nI m), .int (nI v), .null] [] (lk_L h0 e (0, -1, 0, g) hd sv) Q := by
  intro n
  have hm := M.1
  have hB : 0 ≤ (nI m).toInt ∧ (nI m).toInt < ((10 : Nat) : Int) := mm_nb hm (by omega)
  have hc : (nI m).toNatClampNeg = m := mm_ncl (by omega)
  have t6 : ((Int8.ofInt 6).toInt32).toInt = 6 := by decide
  induction n with
  | zero =>
    intro v g hv hg hb
    have J : mm_SH (lk_L h0 e (0, -1, 0, g) hd sv) := I
    have L2 := l_Mo_start2 (ro := ro) (d := d) I S M hQ (lk_np h0 m) 0
    have e4 : nI (4 * m + 0) = Int32.ofInt 4 * nI m := (pk_mul 4 m).symm
    rw [e4] at L2
    refine mm_go_from (mm_hM n_Mo_start rfl) (And.intro (fun c_20 => mm_go_at 69 (mm_hM n_Mo_start rfl) ?_) (fun c_20 => ?_))
    · refine And.intro (k_80 J) (mm_rf (r_593 J) (And.intro ⟨k_95 J, mm_inb 10 (n_95 J) hB⟩ (mm_rf (b := mm_a h0 95 m) (by rw [hc]; rfl) (And.intro (fun c_46 => mm_go_at 69 (mm_hM n_Mo_start rfl) ?_) (fun c_46 => ?_)))))
      · have q : ¬ mm_a h0 95 m = 0 := c_46
        have e0 : lk_of h0 m = 0 := if_neg q
        have L := L2 g (by omega) (fun v hv => ?_) hb
        · rw [e0] at L
          exact L
        · rw [hg v (by omega)]
          exact ((if_neg (fun z => q z.2)).trans (if_neg (fun z => by have := z.2; omega))).symm
      · have q : mm_a h0 95 m = 0 := mm_no c_46
        have e0 : lk_of h0 m = 1 := if_pos q
        refine And.intro (k_80 J) (mm_rf (r_585 J) (And.intro ⟨k_87 J, mm_inb 10 (n_87 J) hB⟩ (mm_rf (b := mm_a h0 87 m) (by rw [hc]; rfl) (And.intro ⟨rfl, k_80 J⟩ (c_Mo_set I (j := 0) rfl (by omega) (Or.inl rfl) ?_)))))
        have L := L2 (lk_up g 0 (3, mm_a h0 87 m, 0, 0, -1)) (by omega) (fun v hv => ?_) (lk_bn_up hb (Or.inl rfl))
        · rw [e0] at L
          exact L
        · by_cases z : v = 0
          · rw [z, lk_up_t]
            exact (if_pos ⟨rfl, q⟩).symm
          · rw [lk_up_f z, hg v (by omega)]
            exact ((if_neg (fun y => z y.1)).trans (if_neg (fun y => by have := y.2; omega))).symm
    · have q : ¬ ((Int8.ofInt 6).toInt32).toInt ≤ (nI v).toInt := c_20
      rw [t6, mm_nt (by omega)] at q
      omega
  | succ n ih =>
    intro v g hv hg hb
    have J : mm_SH (lk_L h0 e (0, -1, 0, g) hd sv) := I
    have nx := ih (v + 1) (lk_up g v (0, -1, 0, 0, -1)) (by omega) (fun j hj => by
      by_cases z : j = v
      · rw [z, lk_up_t]
      · rw [lk_up_f z]; exact hg j (by omega)) (lk_bn_up hb (Or.inl rfl))
    rw [nI_succ] at nx
    refine mm_go_from (mm_hM n_Mo_start rfl) (And.intro (fun c_20 => ?_) (fun c_20 => ?_))
    · have q : ((Int8.ofInt 6).toInt32).toInt ≤ (nI v).toInt := c_20
      rw [t6, mm_nt (by omega)] at q
      omega
    · exact And.intro ⟨rfl, k_80 J⟩ (c_Mo_set I rfl (by omega) (Or.inl rfl) nx)
theorem c_Mo_start {ro : mm_Ro} {d m : Nat} {h0 : mm_H} {e : Int32 × Int32 × Int32} {c : mm_F} {hd : Nat → Int32 × Int32 × Int32} {sv : Nat → mm_V} {Q : Value → mm_H → Prop} (I : mm_SH h0) (S : lk_SV h0) (M : lk_MV h0 m) (hb : lk_bn c.2.2.2) (hQ : ∀ g, (∀ v, v < 6 → g v = lk_s0 h0 m v) → lk_bn g → Q .null (lk_L h0 e (0, -1, 0, g) hd sv)) : mm_ev ro (d + 2) n_Mo_start [.ref 80, .int (nI m)] (lk_L h0 e c hd sv) Q := by
  have J : mm_SH (lk_L h0 e c hd sv) := I
  refine mm_ev_at 17 (Z := mm_m_Mo_start) rfl rfl (Nat.le_of_ble_eq_true rfl) rfl ?_
  refine And.intro (k_80 J) (And.intro (k_80 J) (And.intro (k_80 J) ?_))
  rw [lw_611, lw_612, lw_613]
  exact l_Mo_start1 I S M hQ 6 0 c.2.2.2 (by omega) (fun j hj => by omega) hb
