/-! THE CLASS: what is known of a value, in one int -/
def lx_N (x : mm_V) : Nat := x.1.toInt.toNat + 8 * ((x.2.1.toInt + 1).toNat + 8 * (x.2.2.1.toInt.toNat + 2 * (x.2.2.2.1.toInt.toNat + 16 * (x.2.2.2.2.toInt + 1).toNat)))
def lx_pk (x : mm_V) : Int32 := nI (lx_N x)
theorem lx_m1 {a : Int32} {n : Nat} (hn : n < 1000) (h : a.toInt + 1 = (n : Int)) : a + 1 = nI n ∧ a = nI n - 1 := by
  have e : a + 1 = nI n := by
    refine Int32.toInt_inj.mp ?_
    rw [lk_add (by omega) (by decide), mm_nt (by omega)]
    exact h
  exact ⟨e, by rw [← e, Int32.add_sub_cancel]⟩
/-- a value by its five numbers -/
theorem lx_rep {x : mm_V} (h : mm_vr x) : ∃ k c n w o : Nat, k < 5 ∧ c < 7 ∧ n < 2 ∧ w < 16 ∧ o < 7 ∧ x.1 = nI k ∧ x.2.1 + 1 = nI c ∧ x.2.1 = nI c - 1 ∧ x.2.2.1 = nI n ∧ x.2.2.2.1 = nI w ∧ x.2.2.2.2 + 1 = nI o ∧ x.2.2.2.2 = nI o - 1 ∧ lx_N x = k + 8 * (c + 8 * (n + 2 * (w + 16 * o))) ∧ x.1.toInt.toNat = k ∧ (x.2.1.toInt + 1).toNat = c ∧ x.2.2.1.toInt.toNat = n ∧ x.2.2.2.1.toInt.toNat = w ∧ (x.2.2.2.2.toInt + 1).toNat = o := by
  obtain ⟨h1, h2, h3, h4, h5, h6⟩ := h
  have c0 : -1 ≤ x.2.1.toInt ∧ x.2.1.toInt ≤ 5 := by
    by_cases q : x.1.toInt < 3
    · rw [h2 q]; decide
    · have := h3 (by omega); omega
  have n0 : 0 ≤ x.2.2.1.toInt ∧ x.2.2.1.toInt ≤ 1 := by
    rcases h4 with z | z <;> rw [z] <;> decide
  obtain ⟨k, hk, ek⟩ := mm_of (N := 5) (x := x.1) (by omega)
  obtain ⟨n, hn, en⟩ := mm_of (N := 2) (x := x.2.2.1) (by omega)
  obtain ⟨w, hw, ew⟩ := mm_of (N := 16) (x := x.2.2.2.1) (by omega)
  obtain ⟨c1, c2⟩ := lx_m1 (a := x.2.1) (n := (x.2.1.toInt + 1).toNat) (by omega) (by omega)
  obtain ⟨o1, o2⟩ := lx_m1 (a := x.2.2.2.2) (n := (x.2.2.2.2.toInt + 1).toNat) (by omega) (by omega)
  refine ⟨k, (x.2.1.toInt + 1).toNat, n, w, (x.2.2.2.2.toInt + 1).toNat, hk, by omega, hn, hw, by omega, ek, c1, c2, en, ew, o1, o2, ?_, ?_, rfl, ?_, ?_, rfl⟩
  · unfold lx_N
    rw [ek, en, ew, mm_nt (by omega), mm_nt (by omega), mm_nt (by omega)]
    omega
  · rw [ek, mm_nt (by omega)]; omega
  · rw [en, mm_nt (by omega)]; omega
  · rw [ew, mm_nt (by omega)]; omega
theorem lx_and7 (N : Nat) : nI N &&& 7 = nI (N % 8) := by
  have e : (7 : Int32) = nI 7 := by decide
  rw [e, mm_nI_and, show 7 = 2 ^ 3 - 1 by rfl, Nat.and_two_pow_sub_one_eq_mod]
theorem lx_and1 (N : Nat) : nI N &&& 1 = nI (N % 2) := by
  have e : (1 : Int32) = nI 1 := by decide
  rw [e, mm_nI_and, show 1 = 2 ^ 1 - 1 by rfl, Nat.and_two_pow_sub_one_eq_mod]
theorem lx_and15 (N : Nat) : nI N &&& 15 = nI (N % 16) := by
  have e : (15 : Int32) = nI 15 := by decide
  rw [e, mm_nI_and, show 15 = 2 ^ 4 - 1 by rfl, Nat.and_two_pow_sub_one_eq_mod]
theorem lx_and2047 (N : Nat) : nI N &&& 2047 = nI (N % 2048) := by
  have e : (2047 : Int32) = nI 2047 := by decide
  rw [e, mm_nI_and, show 2047 = 2 ^ 11 - 1 by rfl, Nat.and_two_pow_sub_one_eq_mod]
theorem lx_orN {a b : Nat} (i : Nat) (h : b < 2 ^ i) : nI (2 ^ i * a) ||| nI b = nI (2 ^ i * a + b) := by
  rw [mm_nI_or, Nat.two_pow_add_eq_or_of_lt h]
theorem lx_dist {a b c : Int32} : (a ||| b) &&& c = (a &&& c) ||| (b &&& c) := by
  refine Int32.toBitVec_inj.1 ?_
  simp only [Int32.toBitVec_and, Int32.toBitVec_or]
  apply BitVec.eq_of_getLsbD_eq
  intro i _
  simp only [BitVec.getLsbD_and, BitVec.getLsbD_or]
  cases a.toBitVec.getLsbD i <;> cases b.toBitVec.getLsbD i <;> cases c.toBitVec.getLsbD i <;> rfl
theorem lx_d1 : ∀ q, q < 256 → nI (2 ^ 6 * q) &&& (-64) = nI (2 ^ 6 * q) := by decide +kernel
theorem lx_d2 : ∀ r, r < 64 → nI r &&& (-64) = nI 0 := by decide +kernel
theorem lx_d3 : ∀ q, q < 128 → nI (2 ^ 7 * q) &&& (-65) = nI (2 ^ 7 * q) := by decide +kernel
theorem lx_d4 : ∀ r, r < 128 → nI r &&& (-65) = nI (r % 64) := by decide +kernel
theorem lx_n64 {N : Nat} (h : N < 16384) : nI N &&& (-64) = nI (2 ^ 6 * (N / 64)) := by
  have e : nI N = nI (2 ^ 6 * (N / 64)) ||| nI (N % 64) := by
    rw [lx_orN 6 (by omega)]
    congr 1
    omega
  rw [e, lx_dist, lx_d1 _ (by omega), lx_d2 _ (by omega), lx_orN 6 (by omega), Nat.add_zero]
theorem lx_n65 {N : Nat} (h : N < 16384) : nI N &&& (-65) = nI (2 ^ 7 * (N / 128) + N % 128 % 64) := by
  have e : nI N = nI (2 ^ 7 * (N / 128)) ||| nI (N % 128) := by
    rw [lx_orN 7 (by omega)]
    congr 1
    omega
  rw [e, lx_dist, lx_d3 _ (by omega), lx_d4 _ (by omega), lx_orN 7 (by omega)]
theorem lx_sh3 {N : Nat} (h : N < 16384) : nI N >>> (Int32.ofInt 3 &&& 31) = nI (N / 8) := pk_shrN (by omega) _ 3 (by decide)
theorem lx_sh6 {N : Nat} (h : N < 16384) : nI N >>> ((Int8.ofInt 6).toInt32 &&& 31) = nI (N / 64) := pk_shrN (by omega) _ 6 (by decide)
theorem lx_sh7 {N : Nat} (h : N < 16384) : nI N >>> ((Int8.ofInt 7).toInt32 &&& 31) = nI (N / 128) := pk_shrN (by omega) _ 7 (by decide)
theorem lx_sh11 {N : Nat} (h : N < 16384) : nI N >>> ((Int8.ofInt 11).toInt32 &&& 31) = nI (N / 2048) := pk_shrN (by omega) _ 11 (by decide)
theorem lx_sl3 {N : Nat} (h : N < 16384) : nI N <<< (Int32.ofInt 3 &&& 31) = nI (N * 2 ^ 3) := pk_shlN _ 3 (by decide) (by omega)
theorem lx_sl6 {N : Nat} (h : N < 16384) : nI N <<< ((Int8.ofInt 6).toInt32 &&& 31) = nI (N * 2 ^ 6) := pk_shlN _ 6 (by decide) (by omega)
theorem lx_sl7 {N : Nat} (h : N < 16384) : nI N <<< ((Int8.ofInt 7).toInt32 &&& 31) = nI (N * 2 ^ 7) := pk_shlN _ 7 (by decide) (by omega)
theorem lx_sl11 {N : Nat} (h : N < 16384) : nI N <<< ((Int8.ofInt 11).toInt32 &&& 31) = nI (N * 2 ^ 11) := pk_shlN _ 11 (by decide) (by omega)
theorem lx_or3 {k c : Nat} (h : k < 8) : nI k ||| nI (c * 2 ^ 3) = nI (k + 8 * c) := by
  rw [Int32.or_comm, Nat.mul_comm, lx_orN 3 (by omega)]
  congr 1
  omega
theorem lx_or6 {k c : Nat} (h : k < 64) : nI k ||| nI (c * 2 ^ 6) = nI (k + 64 * c) := by
  rw [Int32.or_comm, Nat.mul_comm, lx_orN 6 (by omega)]
  congr 1
  omega
theorem lx_or7 {k c : Nat} (h : k < 128) : nI k ||| nI (c * 2 ^ 7) = nI (k + 128 * c) := by
  rw [Int32.or_comm, Nat.mul_comm, lx_orN 7 (by omega)]
  congr 1
  omega
theorem lx_or11 {k c : Nat} (h : k < 2048) : nI k ||| nI (c * 2 ^ 11) = nI (k + 2048 * c) := by
  rw [Int32.or_comm, Nat.mul_comm, lx_orN 11 (by omega)]
  congr 1
  omega
theorem c_Va_kind {ro : mm_Ro} {d : Nat} {x : mm_V} {h : mm_H} {Q : Value → mm_H → Prop} (V : mm_vr x) (hQ : Q (.int x.1) h) : mm_ev ro (d + 1) n_Va_kind [.int (lx_pk x)] h Q := by
  obtain ⟨k, c, n, w, o, hk, hc, hn, hw, ho, e1, e2, e3, e4, e5, e6, e7, eN, t1, t2, t3, t4, t5⟩ := lx_rep V
  refine mm_ev_in (Z := mm_m_Va_kind) rfl rfl (Nat.le_of_ble_eq_true rfl) rfl ?_
  refine mm_qe hQ ?_
  show x.1 = nI (lx_N x) &&& 7
  rw [lx_and7, e1, eN]
  congr 1
  omega
theorem c_Va_classOf {ro : mm_Ro} {d : Nat} {x : mm_V} {h : mm_H} {Q : Value → mm_H → Prop} (V : mm_vr x) (hQ : Q (.int x.2.1) h) : mm_ev ro (d + 1) n_Va_classOf [.int (lx_pk x)] h Q := by
  obtain ⟨k, c, n, w, o, hk, hc, hn, hw, ho, e1, e2, e3, e4, e5, e6, e7, eN, t1, t2, t3, t4, t5⟩ := lx_rep V
  refine mm_ev_in (Z := mm_m_Va_classOf) rfl rfl (Nat.le_of_ble_eq_true rfl) rfl ?_
  refine mm_qe hQ ?_
  show x.2.1 = (nI (lx_N x) >>> (Int32.ofInt 3 &&& 31) &&& 7) - 1
  rw [lx_sh3 (by omega), lx_and7, e3, eN]
  congr 2
  omega
theorem c_Va_marks {ro : mm_Ro} {d : Nat} {x : mm_V} {h : mm_H} {Q : Value → mm_H → Prop} (V : mm_vr x) (hQ : Q (.int x.2.2.2.1) h) : mm_ev ro (d + 1) n_Va_marks [.int (lx_pk x)] h Q := by
  obtain ⟨k, c, n, w, o, hk, hc, hn, hw, ho, e1, e2, e3, e4, e5, e6, e7, eN, t1, t2, t3, t4, t5⟩ := lx_rep V
  refine mm_ev_in (Z := mm_m_Va_marks) rfl rfl (Nat.le_of_ble_eq_true rfl) rfl ?_
  refine mm_qe hQ ?_
  show x.2.2.2.1 = nI (lx_N x) >>> ((Int8.ofInt 7).toInt32 &&& 31) &&& 15
  rw [lx_sh7 (by omega), lx_and15, e5, eN]
  congr 1
  omega
theorem c_Va_origin {ro : mm_Ro} {d : Nat} {x : mm_V} {h : mm_H} {Q : Value → mm_H → Prop} (V : mm_vr x) (hQ : Q (.int x.2.2.2.2) h) : mm_ev ro (d + 1) n_Va_origin [.int (lx_pk x)] h Q := by
  obtain ⟨k, c, n, w, o, hk, hc, hn, hw, ho, e1, e2, e3, e4, e5, e6, e7, eN, t1, t2, t3, t4, t5⟩ := lx_rep V
  refine mm_ev_in (Z := mm_m_Va_origin) rfl rfl (Nat.le_of_ble_eq_true rfl) rfl ?_
  refine mm_qe hQ ?_
  show x.2.2.2.2 = nI (lx_N x) >>> ((Int8.ofInt 11).toInt32 &&& 31) - 1
  rw [lx_sh11 (by omega), e7, eN]
  congr 2
  omega
theorem c_Va_may {ro : mm_Ro} {d : Nat} {x : mm_V} {h : mm_H} {Q : Value → mm_H → Prop} (V : mm_vr x) (hQ : Q (.int x.2.2.1) h) : mm_ev ro (d + 1) n_Va_may [.int (lx_pk x)] h Q := by
  obtain ⟨k, c, n, w, o, hk, hc, hn, hw, ho, e1, e2, e3, e4, e5, e6, e7, eN, t1, t2, t3, t4, t5⟩ := lx_rep V
  have e : nI (lx_N x) >>> ((Int8.ofInt 6).toInt32 &&& 31) &&& 1 = x.2.2.1 := by
    rw [lx_sh6 (by omega), lx_and1, e4, eN]
    congr 1
    omega
  refine mm_ev_in (Z := mm_m_Va_may) rfl rfl (Nat.le_of_ble_eq_true rfl) rfl ?_
  refine And.intro (fun c_6 => mm_go_from (mm_hM n_Va_may rfl) ?_) (fun c_6 => mm_go_from (mm_hM n_Va_may rfl) ?_)
  · have z : nI (lx_N x) >>> ((Int8.ofInt 6).toInt32 &&& 31) &&& 1 = 0 := c_6
    exact ⟨Or.inl rfl, mm_qe hQ (e.symm.trans z)⟩
  · have z : ¬ nI (lx_N x) >>> ((Int8.ofInt 6).toInt32 &&& 31) &&& 1 = 0 := c_6
    rw [e] at z
    exact ⟨Or.inr rfl, mm_qe hQ (V.2.2.2.1.resolve_left z)⟩
theorem c_Va_of {ro : mm_Ro} {d : Nat} {k c n w : Int32} {h : mm_H} {Q : Value → mm_H → Prop} (V : mm_vr (k, c, n, w, -1)) (hQ : Q (.int (lx_pk (k, c, n, w, -1))) h) : mm_ev ro (d + 1) n_Va_of [.int k, .int c, .int n, .int w] h Q := by
  obtain ⟨K, C, N, W, O, hk, hc, hn, hw, ho, e1, e2, e3, e4, e5, e6, e7, eN, t1, t2, t3, t4, t5⟩ := lx_rep V
  have o0 : O = 0 := by
    have z : (-1 : Int32) + 1 = nI O := e6
    have z2 : nI 0 = nI O := z
    exact ((nI_eq (by omega) (by omega)).mp z2).symm
  have e1' : k = nI K := e1
  have e2' : c + 1 = nI C := e2
  have e4' : n = nI N := e4
  have e5' : w = nI W := e5
  have g : ∀ n' : Int32, n' = nI N → mm_go ro d mm_m_Va_of 16 [.int k, .int c, .int n, .int w] [.int n', .int (k ||| (c + 1) <<< (Int32.ofInt 3 &&& 31))] h Q := by
    intro n' en
    refine mm_go_from (mm_hM n_Va_of rfl) ?_
    refine mm_qe hQ ?_
    show nI (lx_N (k, c, n, w, -1)) = k ||| (c + 1) <<< (Int32.ofInt 3 &&& 31) ||| n' <<< ((Int8.ofInt 6).toInt32 &&& 31) ||| w <<< ((Int8.ofInt 7).toInt32 &&& 31)
    rw [eN, e1', e2', en, e5', lx_sl3 (by omega), lx_sl6 (by omega), lx_sl7 (by omega), lx_or3 (by omega), lx_or6 (by omega), lx_or7 (by omega), o0]
    congr 1
    omega
  refine mm_ev_at 16 (Z := mm_m_Va_of) rfl rfl (Nat.le_of_ble_eq_true rfl) rfl ?_
  refine And.intro (fun c_8 => mm_go_at 16 (mm_hM n_Va_of rfl) ?_) (fun c_8 => ?_)
  · have z : n = 0 := c_8
    exact g 0 (by rw [← e4', z])
  · have z : ¬ n = 0 := c_8
    have z1 : n = 1 := V.2.2.2.1.resolve_left z
    exact g 1 (by rw [← e4', z1])
theorem c_Va_withOrigin {ro : mm_Ro} {d : Nat} {x : mm_V} {o : Int32} {h : mm_H} {Q : Value → mm_H → Prop} (V : mm_vr x) (ho : -1 ≤ o.toInt ∧ o.toInt ≤ 5) (hQ : Q (.int (lx_pk (lk_wo x o))) h) : mm_ev ro (d + 1) n_Va_withOrigin [.int (lx_pk x), .int o] h Q := by
  obtain ⟨K, C, N, W, O, hk, hc, hn, hw, hO, e1, e2, e3, e4, e5, e6, e7, eN, t1, t2, t3, t4, t5⟩ := lx_rep V
  obtain ⟨o1, o2⟩ := lx_m1 (a := o) (n := (o.toInt + 1).toNat) (by omega) (by omega)
  have eM : lx_N (lk_wo x o) = K + 8 * (C + 8 * (N + 2 * (W + 16 * (o.toInt + 1).toNat))) := by
    have : lx_N (lk_wo x o) = x.1.toInt.toNat + 8 * ((x.2.1.toInt + 1).toNat + 8 * (x.2.2.1.toInt.toNat + 2 * (x.2.2.2.1.toInt.toNat + 16 * (o.toInt + 1).toNat))) := rfl
    omega
  refine mm_ev_in (Z := mm_m_Va_withOrigin) rfl rfl (Nat.le_of_ble_eq_true rfl) rfl ?_
  refine mm_qe hQ ?_
  show nI (lx_N (lk_wo x o)) = (nI (lx_N x) &&& 2047) ||| (o + 1) <<< ((Int8.ofInt 11).toInt32 &&& 31)
  rw [lx_and2047, o1, lx_sl11 (by omega), lx_or11 (by omega), eM, eN]
  congr 1
  omega
theorem c_Va_withKind {ro : mm_Ro} {d : Nat} {x : mm_V} {k c : Int32} {h : mm_H} {Q : Value → mm_H → Prop} (V : mm_vr x) (V' : mm_vr (k, c, x.2.2)) (hQ : Q (.int (lx_pk (k, c, x.2.2))) h) : mm_ev ro (d + 1) n_Va_withKind [.int (lx_pk x), .int k, .int c] h Q := by
  obtain ⟨K, C, N, W, O, hk, hc, hn, hw, hO, e1, e2, e3, e4, e5, e6, e7, eN, t1, t2, t3, t4, t5⟩ := lx_rep V
  obtain ⟨K', C', N', W', O', hk', hc', hn', hw', hO', f1, f2, f3, f4, f5, f6, f7, fN, u1, u2, u3, u4, u5⟩ := lx_rep V'
  have g4 : N' = N := (nI_eq (by omega) (by omega)).mp (f4.symm.trans e4)
  have g5 : W' = W := (nI_eq (by omega) (by omega)).mp (f5.symm.trans e5)
  have g6 : O' = O := (nI_eq (by omega) (by omega)).mp (f6.symm.trans e6)
  have f1' : k = nI K' := f1
  have f2' : c + 1 = nI C' := f2
  refine mm_ev_in (Z := mm_m_Va_withKind) rfl rfl (Nat.le_of_ble_eq_true rfl) rfl ?_
  refine mm_qe hQ ?_
  show nI (lx_N (k, c, x.2.2)) = (nI (lx_N x) &&& (-64)) ||| k ||| (c + 1) <<< (Int32.ofInt 3 &&& 31)
  rw [lx_n64 (by omega), Int32.or_assoc, f1', f2', lx_sl3 (by omega), lx_or3 (by omega), lx_orN 6 (by omega)]
  rw [show lx_N (nI K', c, x.2.2) = lx_N (k, c, x.2.2) by rw [f1'], fN, eN]
  congr 1
  omega
theorem c_Va_notNull {ro : mm_Ro} {d : Nat} {x : mm_V} {h : mm_H} {Q : Value → mm_H → Prop} (V : mm_vr x) (hQ : Q (.int (lx_pk (lk_n0 x))) h) : mm_ev ro (d + 1) n_Va_notNull [.int (lx_pk x)] h Q := by
  obtain ⟨K, C, N, W, O, hk, hc, hn, hw, hO, e1, e2, e3, e4, e5, e6, e7, eN, t1, t2, t3, t4, t5⟩ := lx_rep V
  have eM : lx_N (lk_n0 x) = K + 8 * (C + 8 * (0 + 2 * (W + 16 * O))) := by
    have : lx_N (lk_n0 x) = x.1.toInt.toNat + 8 * ((x.2.1.toInt + 1).toNat + 8 * (0 + 2 * (x.2.2.2.1.toInt.toNat + 16 * (x.2.2.2.2.toInt + 1).toNat))) := rfl
    omega
  refine mm_ev_in (Z := mm_m_Va_notNull) rfl rfl (Nat.le_of_ble_eq_true rfl) rfl ?_
  refine mm_qe hQ ?_
  show nI (lx_N (lk_n0 x)) = nI (lx_N x) &&& (-65)
  rw [lx_n65 (by omega), eM, eN]
  congr 1
  omega
theorem lx_inj {x y : mm_V} (hx : mm_vr x) (hy : mm_vr y) (e : lx_pk x = lx_pk y) : x = y := by
  obtain ⟨K, C, N, W, O, hk, hc, hn, hw, hO, e1, e2, e3, e4, e5, e6, e7, eN, t1, t2, t3, t4, t5⟩ := lx_rep hx
  obtain ⟨K', C', N', W', O', hk', hc', hn', hw', hO', f1, f2, f3, f4, f5, f6, f7, fN, u1, u2, u3, u4, u5⟩ := lx_rep hy
  have eE : lx_N x = lx_N y := (nI_eq (by omega) (by omega)).mp e
  have : K = K' ∧ C = C' ∧ N = N' ∧ W = W' ∧ O = O' := by omega
  obtain ⟨a1, a2, a3, a4, a5⟩ := this
  obtain ⟨x1, x2, x3, x4, x5⟩ := x
  obtain ⟨y1, y2, y3, y4, y5⟩ := y
  refine Prod.ext ?_ (Prod.ext ?_ (Prod.ext ?_ (Prod.ext ?_ ?_)))
  · exact e1.trans (by rw [a1]; exact f1.symm)
  · exact e3.trans (by rw [a2]; exact f3.symm)
  · exact e4.trans (by rw [a3]; exact f4.symm)
  · exact e5.trans (by rw [a4]; exact f5.symm)
  · exact e7.trans (by rw [a5]; exact f7.symm)
