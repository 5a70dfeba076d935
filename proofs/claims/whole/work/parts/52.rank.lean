/-! RANKS: what is raised gets a higher one -/
def lk_vk (x : mm_V) : Nat := if x.1 = 0 then 7 else if x.1 = 3 then (6 - x.2.1.toInt).toNat else 0
def lk_vn (x : mm_V) : Nat := lk_vk x + x.2.2.1.toInt.toNat + x.2.2.2.1.toInt.toNat + (if x.2.2.2.2 = -1 then 1 else 0)
theorem lk_vk_le {up : Nat → Int} (U : mm_upo up) {x y : mm_V} (hx : mm_vr x) (hy : mm_vr y) (h : mm_kle up x.1 x.2.1 y.1 y.2.1) : lk_vk x ≤ lk_vk y ∧ (lk_vk x = lk_vk y → x.1 = y.1 ∧ x.2.1 = y.2.1) := by
  have t3 : (3 : Int32).toInt = 3 := by decide
  have t0 : (0 : Int32).toInt = 0 := by decide
  rcases h with h | ⟨h1, h2⟩ | ⟨h1, h2⟩ | ⟨h1, h2, h3⟩
  · have ey : lk_vk y = 7 := if_pos h
    have cy : y.2.1 = -1 := hy.2.1 (by rw [h, t0]; omega)
    rw [ey]
    by_cases q : x.1 = 0
    · have ex : lk_vk x = 7 := if_pos q
      rw [ex]
      exact ⟨by omega, fun _ => ⟨q.trans h.symm, by rw [cy]; exact hx.2.1 (by rw [q, t0]; omega)⟩⟩
    · have : lk_vk x ≤ 6 := by
        unfold lk_vk
        rw [if_neg q]
        split
        · rename_i q3
          have := hx.2.2.1 (by rw [q3, t3]; omega)
          omega
        · omega
      exact ⟨by omega, fun z => by omega⟩
  · unfold lk_vk
    rw [h1, h2]
    exact ⟨Nat.le_refl _, fun _ => ⟨rfl, rfl⟩⟩
  · have ex : lk_vk x = 0 := by
      unfold lk_vk
      rw [if_neg (by rw [h1]; decide), if_neg (by rw [h1]; decide)]
    have ey : lk_vk y = (6 - y.2.1.toInt).toNat := by
      unfold lk_vk
      rw [if_neg (by rw [h2]; decide), if_pos h2]
    have := hy.2.2.1 (by rw [h2, t3]; omega)
    rw [ex, ey]
    exact ⟨by omega, fun z => by omega⟩
  · have ex : lk_vk x = (6 - x.2.1.toInt).toNat := by
      unfold lk_vk
      rw [if_neg (by rw [h1]; decide), if_pos h1]
    have ey : lk_vk y = (6 - y.2.1.toInt).toNat := by
      unfold lk_vk
      rw [if_neg (by rw [h2]; decide), if_pos h2]
    have cx := hx.2.2.1 (by rw [h1, t3]; omega)
    have cy := hy.2.2.1 (by rw [h2, t3]; omega)
    have := mm_bel_le U (by omega) h3
    rw [ex, ey]
    exact ⟨by omega, fun z => ⟨h1.trans h2.symm, Int32.toInt_inj.mp (by omega)⟩⟩
theorem lk_or_le {a b : Int32} (ha : 0 ≤ a.toInt ∧ a.toInt ≤ 15) (hb : 0 ≤ b.toInt ∧ b.toInt ≤ 15) (h : a ||| b = b) : a.toInt ≤ b.toInt := by
  obtain ⟨i, hi, rfl⟩ := mm_of (N := 16) (x := a) (by omega)
  obtain ⟨k, hk, rfl⟩ := mm_of (N := 16) (x := b) (by omega)
  have e : i ||| k = k := by
    rw [mm_nI_or] at h
    exact (nI_eq (by have := Nat.or_lt_two_pow (n := 4) hi hk; omega) (by omega)).mp h
  have : i ≤ i ||| k := Nat.left_le_or
  rw [mm_nt (by omega), mm_nt (by omega)]
  omega
theorem lk_vn_le {up : Nat → Int} (U : mm_upo up) {x y : mm_V} (hx : mm_vr x) (hy : mm_vr y) (h : mm_vle up x y) : lk_vn x ≤ lk_vn y ∧ (lk_vn x = lk_vn y → x = y) := by
  obtain ⟨k1, k2⟩ := lk_vk_le U hx hy h.1
  have n1 : x.2.2.1.toInt.toNat ≤ y.2.2.1.toInt.toNat ∧ (x.2.2.1.toInt.toNat = y.2.2.1.toInt.toNat → x.2.2.1 = y.2.2.1) := by
    rcases h.2.1 with a | ⟨a, b⟩
    · rw [a]; exact ⟨Nat.le_refl _, fun _ => rfl⟩
    · rw [a, b]; decide
  have w1 := lk_or_le hx.2.2.2.2.1 hy.2.2.2.2.1 h.2.2.1
  have o1 : (if x.2.2.2.2 = -1 then 1 else 0 : Nat) ≤ (if y.2.2.2.2 = -1 then 1 else 0 : Nat) ∧ ((if x.2.2.2.2 = -1 then 1 else 0 : Nat) = (if y.2.2.2.2 = -1 then 1 else 0 : Nat) → x.2.2.2.2 = y.2.2.2.2) := by
    rcases h.2.2.2 with a | a
    · rw [if_pos a]
      split
      · rename_i q
        exact ⟨Nat.le_refl _, fun _ => q.trans a.symm⟩
      · exact ⟨by omega, fun z => by omega⟩
    · rw [a]; exact ⟨Nat.le_refl _, fun _ => rfl⟩
  have hw := hx.2.2.2.2.1
  have hw' := hy.2.2.2.2.1
  unfold lk_vn
  generalize (if x.2.2.2.2 = -1 then 1 else 0 : Nat) = ox at o1 ⊢
  generalize (if y.2.2.2.2 = -1 then 1 else 0 : Nat) = oy at o1 ⊢
  refine ⟨by omega, fun z => ?_⟩
  have e1 := k2 (by omega)
  have e2 := n1.2 (by omega)
  have e3 : x.2.2.2.1 = y.2.2.2.1 := Int32.toInt_inj.mp (by omega)
  have e4 := o1.2 (by omega)
  obtain ⟨a, b, c, d, e⟩ := x
  obtain ⟨a', b', c', d', e'⟩ := y
  exact Prod.ext e1.1 (Prod.ext e1.2 (Prod.ext e2 (Prod.ext e3 e4)))
theorem lk_vn_24 {x : mm_V} (hx : mm_vr x) : lk_vn x ≤ 24 := by
  have t3 : (3 : Int32).toInt = 3 := by decide
  have a : lk_vk x ≤ 7 := by
    unfold lk_vk
    split
    · omega
    · split
      · rename_i q3
        have := hx.2.2.1 (by rw [q3, t3]; omega)
        omega
      · omega
  have b : x.2.2.1.toInt.toNat ≤ 1 := by
    rcases hx.2.2.2.1 with q | q <;> rw [q] <;> decide
  have c := hx.2.2.2.2.1
  have d : (if x.2.2.2.2 = -1 then 1 else 0 : Nat) ≤ 1 := by split <;> omega
  unfold lk_vn
  omega
/-- how many of the low bits are set -/
def lk_pc : Nat → Nat → Nat
  | 0, _ => 0
  | k + 1, n => n % 2 + lk_pc k (n / 2)
theorem lk_pc_le : ∀ (k a b : Nat), a &&& b = b → lk_pc k b ≤ lk_pc k a ∧ (lk_pc k b = lk_pc k a → b % 2 ^ k = a % 2 ^ k) := by
  intro k
  induction k with
  | zero => intro a b _; exact ⟨Nat.le_refl _, fun _ => by rw [Nat.pow_zero, Nat.mod_one, Nat.mod_one]⟩
  | succ k ih =>
    intro a b h
    have h2 : a / 2 &&& b / 2 = b / 2 := by rw [← Nat.and_div_two, h]
    obtain ⟨i1, i2⟩ := ih _ _ h2
    have h3 : b % 2 ≤ a % 2 := by
      by_cases q : b % 2 = 1
      · have := (Nat.and_mod_two_eq_one (a := a) (b := b)).mp (by rw [h]; exact q)
        omega
      · omega
    show b % 2 + lk_pc k (b / 2) ≤ a % 2 + lk_pc k (a / 2) ∧ _
    refine ⟨by omega, fun z => ?_⟩
    have z' : b % 2 + lk_pc k (b / 2) = a % 2 + lk_pc k (a / 2) := z
    have e := i2 (by omega)
    rw [Nat.pow_succ, Nat.mul_comm, Nat.mod_mul, Nat.mod_mul, e]
    omega
theorem lk_pc_max : ∀ (k n : Nat), lk_pc k n ≤ k := by
  intro k
  induction k with
  | zero => intro n; exact Nat.le_refl _
  | succ k ih =>
    intro n
    show n % 2 + lk_pc k (n / 2) ≤ k + 1
    have := ih (n / 2)
    omega
def lk_sn (φ : mm_F) : Nat := if φ.2.1 = -1 then 13 else 12 - lk_pc 12 φ.2.2.1.toInt.toNat
theorem lk_sn_13 {φ : mm_F} : lk_sn φ ≤ 13 := by
  unfold lk_sn
  split <;> omega
def lk_sum (g : Nat → Nat) : Nat → Nat
  | 0 => 0
  | n + 1 => lk_sum g n + g n
theorem lk_sum_le {g g' : Nat → Nat} : ∀ n, (∀ v, v < n → g v ≤ g' v) → lk_sum g n ≤ lk_sum g' n ∧ (lk_sum g n = lk_sum g' n → ∀ v, v < n → g v = g' v) := by
  intro n
  induction n with
  | zero => intro _; exact ⟨Nat.le_refl _, fun _ v hv => absurd hv (Nat.not_lt_zero v)⟩
  | succ n ih =>
    intro h
    obtain ⟨i1, i2⟩ := ih (fun v hv => h v (by omega))
    have h2 := h n (by omega)
    show lk_sum g n + g n ≤ lk_sum g' n + g' n ∧ _
    refine ⟨by omega, fun z v hv => ?_⟩
    have z' : lk_sum g n + g n = lk_sum g' n + g' n := z
    rcases Nat.lt_or_ge v n with q | q
    · exact i2 (by omega) v q
    · rw [show v = n by omega]; omega
theorem lk_sum_max {g : Nat → Nat} {B : Nat} : ∀ n, (∀ v, v < n → g v ≤ B) → lk_sum g n ≤ n * B := by
  intro n
  induction n with
  | zero => intro _; exact Nat.zero_le _
  | succ n ih =>
    intro h
    have h1 := ih (fun v hv => h v (by omega))
    have h2 := h n (by omega)
    show lk_sum g n + g n ≤ (n + 1) * B
    rw [Nat.succ_mul]
    omega
noncomputable def lk_fn (φ : mm_F) : Nat := @ite _ (φ.1 = -2) (Classical.propDecidable _) 255 (@ite _ (φ.1.toInt < 0) (Classical.propDecidable _) 0 (1 + lk_sn φ + lk_sum (fun v => lk_vn (φ.2.2.2 v)) (6 + φ.1.toInt).toNat))
theorem lk_fn_top {φ : mm_F} (h : φ.1 = -2) : lk_fn φ = 255 := if_pos h
theorem lk_fn_bot {φ : mm_F} (h : ¬ φ.1 = -2) (h1 : φ.1.toInt < 0) : lk_fn φ = 0 := (if_neg h).trans (if_pos h1)
theorem lk_fn_in {φ : mm_F} (h1 : 0 ≤ φ.1.toInt) : lk_fn φ = 1 + lk_sn φ + lk_sum (fun v => lk_vn (φ.2.2.2 v)) (6 + φ.1.toInt).toNat := (if_neg (mm_not_m2 h1)).trans (if_neg (by omega))
theorem lk_fn_254 {na : Int32 → Int32} {φ : mm_F} (h1 : 0 ≤ φ.1.toInt) (o : mm_fok na φ) : lk_fn φ ≤ 254 := by
  rw [lk_fn_in h1]
  obtain ⟨a1, _, _, _, a5⟩ := o h1
  have h2 := lk_sum_max (g := fun v => lk_vn (φ.2.2.2 v)) (B := 24) (6 + φ.1.toInt).toNat (fun v hv => lk_vn_24 (a5 v (by show (v : Int) < 6 + φ.1.toInt; omega)).1)
  have h3 : (6 + φ.1.toInt).toNat ≤ 10 := by omega
  have h4 := Nat.mul_le_mul_right 24 h3
  have h5 := lk_sn_13 (φ := φ)
  omega
theorem lk_fn_max {na : Int32 → Int32} {φ : mm_F} (o : mm_fok na φ) : lk_fn φ ≤ 255 := by
  by_cases q : φ.1 = -2
  · rw [lk_fn_top q]; omega
  · by_cases q2 : φ.1.toInt < 0
    · rw [lk_fn_bot q q2]; omega
    · have := lk_fn_254 (by omega) o
      omega
theorem lk_fn_le {up : Nat → Int} {na : Int32 → Int32} (U : mm_upo up) {φ ψ : mm_F} (o1 : mm_fok na φ) (o2 : mm_fok na ψ) (hg : φ.1 = -1 → ψ.1 = -1 ∨ ψ.1 = -2 ∨ 0 ≤ ψ.1.toInt) (h : mm_fle up φ ψ) : lk_fn φ ≤ lk_fn ψ ∧ (lk_fn φ = lk_fn ψ → mm_feq φ ψ) := by
  have m1 : ¬ (-1 : Int32) = -2 := by decide
  rcases h with h | h | ⟨e, p, s, v⟩
  · rw [lk_fn_bot (φ := φ) (by rw [h]; decide) (by rw [h]; decide)]
    refine ⟨Nat.zero_le _, fun z => ?_⟩
    rcases hg h with q | q | q
    · exact ⟨h.trans q.symm, fun a => absurd h (mm_not_m1 a)⟩
    · rw [lk_fn_top q] at z; omega
    · rw [lk_fn_in q] at z; omega
  · rw [lk_fn_top h]
    refine ⟨lk_fn_max o1, fun z => ?_⟩
    by_cases q : φ.1 = -2
    · exact ⟨q.trans h.symm, fun a => absurd q (mm_not_m2 a)⟩
    · by_cases q2 : φ.1.toInt < 0
      · rw [lk_fn_bot q q2] at z; omega
      · have := lk_fn_254 (by omega) o1
        omega
  · have p' : 0 ≤ ψ.1.toInt := by rw [← e]; exact p
    rw [lk_fn_in p, lk_fn_in p', ← e]
    obtain ⟨_, a2, a3, _, a5⟩ := o1 p
    obtain ⟨_, b2, b3, _, b5⟩ := o2 p'
    have hs : lk_sn φ ≤ lk_sn ψ ∧ (lk_sn φ = lk_sn ψ → φ.2.1 = ψ.2.1 ∧ φ.2.2.1 = ψ.2.2.1) := by
      rcases s with s | ⟨s, f⟩
      · have e1 : lk_sn ψ = 13 := if_pos s
        rw [e1]
        refine ⟨lk_sn_13, fun z => ?_⟩
        by_cases q : φ.2.1 = -1
        · exact ⟨q.trans s.symm, by rw [a2 q, b2 s]⟩
        · have : lk_sn φ = 12 - lk_pc 12 φ.2.2.1.toInt.toNat := if_neg q
          omega
      · by_cases q : ψ.2.1 = -1
        · have e1 : lk_sn ψ = 13 := if_pos q
          have e2 : lk_sn φ = 13 := if_pos (s.trans q)
          rw [e1, e2]
          exact ⟨Nat.le_refl _, fun _ => ⟨s, by rw [a2 (s.trans q), b2 q]⟩⟩
        · have e1 : lk_sn ψ = 12 - lk_pc 12 ψ.2.2.1.toInt.toNat := if_neg q
          have e2 : lk_sn φ = 12 - lk_pc 12 φ.2.2.1.toInt.toNat := if_neg (fun z => q (s.symm.trans z))
          obtain ⟨i, hi, ei⟩ := mm_of (N := 4096) (x := φ.2.2.1) (by omega)
          obtain ⟨k, hk, ek⟩ := mm_of (N := 4096) (x := ψ.2.2.1) (by omega)
          rw [ei, ek, mm_nI_and] at f
          have f' : i &&& k = k := (nI_eq (by have : i &&& k ≤ i := Nat.and_le_left; omega) (by omega)).mp f
          obtain ⟨l1, l2⟩ := lk_pc_le 12 i k f'
          have m1 := lk_pc_max 12 i
          have m2 := lk_pc_max 12 k
          rw [e1, e2, ei, ek, mm_nt (by omega), mm_nt (by omega)]
          show 12 - lk_pc 12 i ≤ 12 - lk_pc 12 k ∧ (12 - lk_pc 12 i = 12 - lk_pc 12 k → _)
          refine ⟨by omega, fun z => ⟨s, ?_⟩⟩
          have := l2 (by omega)
          rw [Nat.mod_eq_of_lt (by omega), Nat.mod_eq_of_lt (by omega)] at this
          rw [this]
    have hv : ∀ w, w < (6 + φ.1.toInt).toNat → lk_vn (φ.2.2.2 w) ≤ lk_vn (ψ.2.2.2 w) ∧ (lk_vn (φ.2.2.2 w) = lk_vn (ψ.2.2.2 w) → φ.2.2.2 w = ψ.2.2.2 w) := by
      intro w hw
      have w1 : lk_sl φ w := by show (w : Int) < 6 + φ.1.toInt; omega
      have w2 : lk_sl ψ w := by show (w : Int) < 6 + ψ.1.toInt; rw [← e]; omega
      exact lk_vn_le U (a5 w w1).1 (b5 w w2).1 (v w w1)
    obtain ⟨s1, s2⟩ := lk_sum_le (g := fun w => lk_vn (φ.2.2.2 w)) (g' := fun w => lk_vn (ψ.2.2.2 w)) (6 + φ.1.toInt).toNat (fun w hw => (hv w hw).1)
    refine ⟨by omega, fun z => ⟨e, fun _ => ?_⟩⟩
    obtain ⟨z1, z2⟩ := hs.2 (by omega)
    exact ⟨z1, z2, fun w hw => (hv w (by have : (w : Int) < 6 + φ.1.toInt := hw; omega)).2 (s2 (by omega) w (by have : (w : Int) < 6 + φ.1.toInt := hw; omega))⟩
