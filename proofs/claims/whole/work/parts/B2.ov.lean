/-! who does a call: overriding -/
def KF (K : mm_H) (nC nF nM : Nat) : Prop := (1 ≤ nC ∧ nC ≤ 6 ∧ nF ≤ 12 ∧ nM ≤ 10) ∧ mm_upo (mm_up K) ∧ mm_upz (mm_up K) ∧ lk_SV K ∧ lx_SC K nC nF nM ∧ (∀ m, m < nM → lk_MV K m) ∧ (∀ m, m < nM → ∃ len, lx_ML K nC nF nM m len) ∧ (∀ c, 0 < c → c < nC → ∃ s, s < c ∧ mm_a K 81 c = nI s) ∧ mm_a K 81 0 = -1 ∧ (∀ c, 0 < c → c < nC → ¬ mm_a K 85 c = 0 → ¬ mm_a K 85 (mm_a K 81 c).toNatClampNeg = 0) ∧ (∀ m c, m < nM → c < nC → mm_a K 87 m = nI c → ¬ mm_a K 85 c = 0 → lk_fine K nC nF nM m) ∧ ∀ m m', m < nM → m' < nM → mm_a K 87 m = mm_a K 87 m' → mm_a K 88 m = mm_a K 88 m' → m = m'
theorem lst {P : Nat → Prop} (e : ∃ n, P n) : ∃ n, P n ∧ ∀ m, m < n → ¬ P m := by
  obtain ⟨n, hn⟩ := e
  induction n using Nat.strongRecOn with
  | _ n ih =>
    by_cases q : ∃ m, m < n ∧ P m
    · obtain ⟨m, h1, h2⟩ := q
      exact ih m h1 h2
    · exact ⟨n, hn, fun m h1 h2 => q ⟨m, h1, h2⟩⟩
theorem lk_at_ex {K : mm_H} {nM : Nat} {n : Int32} {x : Int} (e : ∃ k t, 0 ≤ mm_anc (mm_up K) k x ∧ t < nM ∧ lk_hI K (mm_anc (mm_up K) k x) n t) : ∃ j, lk_at K nM n x j := by
  have e' : ∃ k, 0 ≤ mm_anc (mm_up K) k x ∧ ∃ t, t < nM ∧ lk_hI K (mm_anc (mm_up K) k x) n t := by
    obtain ⟨k, t, h1, h2, h3⟩ := e
    exact ⟨k, h1, t, h2, h3⟩
  obtain ⟨k, ⟨h1, h2⟩, h3⟩ := lst e'
  obtain ⟨j, ⟨j1, j2⟩, j3⟩ := lst h2
  refine ⟨j, k, h1, ⟨j1, j2, fun i hi y => j3 i hi ⟨by omega, y⟩⟩, fun i hi t ht y => h3 i hi ⟨?_, t, ht, y⟩⟩
  refine Classical.byContradiction (fun z => ?_)
  have w := mm_anc_neg (up := mm_up K) (x := x) (k := i) (by omega) (k - i)
  rw [show i + (k - i) = k by omega] at w
  omega
theorem ld_up {K : mm_H} {nC nF nM : Nat} (F : KF K nC nF nM) {x : Int} (x0 : 0 ≤ x) (xn : x < nC) (l : ¬ mm_a K 85 x.toNat = 0) : ∀ k, 0 ≤ mm_anc (mm_up K) k x → mm_anc (mm_up K) k x < nC ∧ ¬ mm_a K 85 (mm_anc (mm_up K) k x).toNat = 0 := by
  intro k
  induction k with
  | zero => exact fun _ => ⟨xn, l⟩
  | succ k ih =>
    intro h
    have e : mm_anc (mm_up K) (k + 1) x = (if mm_anc (mm_up K) k x < 0 then -1 else mm_up K (mm_anc (mm_up K) k x).toNat) := rfl
    by_cases q : mm_anc (mm_up K) k x < 0
    · rw [e, if_pos q] at h; omega
    · rw [if_neg q] at e
      obtain ⟨i1, i2⟩ := ih (by omega)
      obtain ⟨z, hz⟩ : ∃ z : Nat, (mm_anc (mm_up K) k x).toNat = z := ⟨_, rfl⟩
      rw [hz] at e i2
      rw [e] at h ⊢
      by_cases z0 : z = 0
      · rw [z0] at h
        have : mm_up K 0 = -1 := by
          unfold mm_up
          rw [F.2.2.2.2.2.2.2.2.1]
          decide
        omega
      · obtain ⟨s, s1, s2⟩ := F.2.2.2.2.2.2.2.1 z (by omega) (by omega)
        have w := F.2.2.2.2.2.2.2.2.2.1 z (by omega) (by omega) i2
        have h6 := F.1.2.1
        have u : mm_up K z = s := by unfold mm_up; rw [s2, mm_nt (by omega)]
        rw [s2, mm_ncl (by omega)] at w
        rw [u]
        exact ⟨by omega, w⟩
def ov (K : mm_H) (j a : Nat) : Prop := mm_a K 95 j = 0 ∧ mm_a K 95 a = 0 ∧ lk_np K j = lk_np K a ∧ (∀ p, p < lk_np K a → 0 ≤ (mm_a K 93 (4 * j + p)).toInt → 0 ≤ (mm_a K 93 (4 * a + p)).toInt ∧ mm_bel (mm_up K) (mm_a K 93 (4 * a + p)).toInt (mm_a K 93 (4 * j + p)).toInt) ∧ (mm_a K 93 (4 * j + 3) = -2 ↔ mm_a K 93 (4 * a + 3) = -2) ∧ (0 ≤ (mm_a K 93 (4 * a + 3)).toInt → 0 ≤ (mm_a K 93 (4 * j + 3)).toInt ∧ mm_bel (mm_up K) (mm_a K 93 (4 * j + 3)).toInt (mm_a K 93 (4 * a + 3)).toInt)
theorem ov_refl {K : mm_H} {a : Nat} (h : mm_a K 95 a = 0) : ov K a a := ⟨h, h, rfl, fun p _ z => ⟨z, mm_bel_refl z⟩, Iff.rfl, fun z => ⟨z, mm_bel_refl z⟩⟩
theorem ov_trans {K : mm_H} {i j a : Nat} (x : ov K i j) (y : ov K j a) : ov K i a := by
  obtain ⟨x1, x2, x3, x4, x5, x6⟩ := x
  obtain ⟨y1, y2, y3, y4, y5, y6⟩ := y
  refine ⟨x1, y2, x3.trans y3, fun p hp z => ?_, x5.trans y5, fun z => ?_⟩
  · obtain ⟨a1, a2⟩ := x4 p (by omega) z
    obtain ⟨b1, b2⟩ := y4 p hp a1
    exact ⟨b1, mm_bel_trans b2 a2⟩
  · obtain ⟨a1, a2⟩ := y6 z
    obtain ⟨b1, b2⟩ := x6 a1
    exact ⟨b1, mm_bel_trans b2 a2⟩
theorem lk_pa_n {K : mm_H} {f t : Nat} (n : ¬ lk_pa K f t) : (0 ≤ (mm_a K 93 t).toInt → 0 ≤ (mm_a K 93 f).toInt ∧ mm_bel (mm_up K) (mm_a K 93 f).toInt (mm_a K 93 t).toInt) ∧ (mm_a K 93 f = -2 ↔ mm_a K 93 t = -2) := by
  have m2 : (-2 : Int32).toInt = -2 := by decide
  by_cases q : (mm_a K 93 f).toInt < 0 ∨ (mm_a K 93 t).toInt < 0
  · have e : mm_a K 93 f = mm_a K 93 t := Classical.byContradiction (fun y => n (Or.inl ⟨q, Or.inl y⟩))
    rw [e] at q ⊢
    exact ⟨fun z => by omega, Iff.rfl⟩
  · have b : mm_bel (mm_up K) (mm_a K 93 f).toInt (mm_a K 93 t).toInt := Classical.byContradiction (fun y => n (Or.inr ⟨q, Or.inl y⟩))
    refine ⟨fun z => ⟨by omega, b⟩, ⟨fun z => ?_, fun z => ?_⟩⟩
    · rw [z, m2] at q; omega
    · rw [z, m2] at q; omega
theorem ov_vy {K : mm_H} {j u : Nat} (n : ¬ lk_vy K j u) : ov K j u := by
  have n1 : mm_a K 95 j = 0 := Classical.byContradiction (fun y => n (Or.inl y))
  have n2 : mm_a K 95 u = 0 := Classical.byContradiction (fun y => n (Or.inr (Or.inl y)))
  have n3 : lk_np K j = lk_np K u := Classical.byContradiction (fun y => n (Or.inr (Or.inr (Or.inl y))))
  have n4 : ∀ p, p < lk_np K j → ¬ lk_pa K (4 * u + p) (4 * j + p) := fun p hp y => n (Or.inr (Or.inr (Or.inr (Or.inl ⟨p, hp, y⟩))))
  have n5 : ¬ lk_pa K (4 * j + 3) (4 * u + 3) := fun y => n (Or.inr (Or.inr (Or.inr (Or.inr y))))
  exact ⟨n1, n2, n3, fun p hp => (lk_pa_n (n4 p (by omega))).1, (lk_pa_n n5).2, (lk_pa_n n5).1⟩
/-- the nearest one lies between -/
theorem at_mid {K : mm_H} {nM j a : Nat} {n : Int32} {x A : Int} (U : mm_upo (mm_up K)) (x6 : x < 6) (ha : a < nM) (hA : lk_hI K A n a) (b : mm_bel (mm_up K) x A) (t : lk_at K nM n x j) : ∃ k, mm_anc (mm_up K) k x = (mm_a K 87 j).toInt ∧ 0 ≤ (mm_a K 87 j).toInt ∧ j < nM ∧ mm_a K 88 j = n ∧ mm_bel (mm_up K) (mm_a K 87 j).toInt A := by
  obtain ⟨k, k1, ⟨k2, ⟨k3, k4⟩, _⟩, k5⟩ := t
  obtain ⟨A0, q, hq⟩ := b
  refine ⟨k, k3.symm, by omega, k2, k4, ?_⟩
  rw [k3]
  by_cases lt : q < k
  · exact absurd hA (by rw [← hq]; exact k5 q lt a ha)
  · have e := mm_anc_add (up := mm_up K) (x := x) k (q - k)
    rw [show k + (q - k) = q by omega, hq] at e
    exact ⟨A0, q - k, e.symm⟩
theorem ov_ind {K : mm_H} {nC nF nM a A : Nat} (F : KF K nC nF nM) (ha : a < nM) (eA : mm_a K 87 a = nI A) (A6 : A < nC) (sa : mm_a K 95 a = 0) : ∀ (D j : Nat), j < nM → D < nC → mm_a K 87 j = nI D → mm_a K 88 j = mm_a K 88 a → mm_bel (mm_up K) (D : Int) (A : Int) → ¬ mm_a K 85 D = 0 → ov K j a := by
  have h6 := F.1.2.1
  have U := F.2.1
  intro D
  induction D using Nat.strongRecOn with
  | _ D ih =>
    intro j hj hD eD en b ld
    by_cases q : D = A
    · have : j = a := F.2.2.2.2.2.2.2.2.2.2.2 j a hj ha (by rw [eD, eA, q]) en
      rw [this]
      exact ov_refl sa
    · have le := mm_bel_le U (x := (D : Int)) (by omega) b
      obtain ⟨s, s1, s2⟩ := F.2.2.2.2.2.2.2.1 D (by omega) hD
      have us : mm_up K D = s := by unfold mm_up; rw [s2, mm_nt (by omega)]
      have bs : mm_bel (mm_up K) (s : Int) (A : Int) := by
        obtain ⟨_, k, hk⟩ := b
        cases k with
        | zero =>
          have : (D : Int) = (A : Int) := hk
          omega
        | succ k =>
          have e1 : mm_anc (mm_up K) 1 (D : Int) = s := by
            show (if (D : Int) < 0 then -1 else mm_up K (D : Int).toNat) = _
            rw [if_neg (by omega)]
            exact us
          rw [Nat.add_comm, mm_anc_add, e1] at hk
          exact ⟨by omega, k, hk⟩
      have hA : lk_hI K (A : Int) (mm_a K 88 a) a := ⟨by rw [eA, mm_nt (by omega)], rfl⟩
      obtain ⟨u, hu⟩ := lk_at_ex (K := K) (nM := nM) (n := mm_a K 88 a) (x := (s : Int)) (by
        obtain ⟨_, k, hk⟩ := bs
        exact ⟨k, a, by omega, ha, by rw [hk]; exact hA⟩)
      have fi := F.2.2.2.2.2.2.2.2.2.2.1 j D hj hD eD ld
      have nv : ¬ lk_vy K j u := fun y => fi.1 ⟨u, by rw [en, eD, mm_nt (by omega), Int.toNat_natCast, us]; exact hu, y⟩
      obtain ⟨k, k1, k2, k3, k4, k5⟩ := at_mid U (by omega) ha hA bs hu
      have ls := F.2.2.2.2.2.2.2.2.2.1 D (by omega) hD ld
      rw [s2, mm_ncl (by omega)] at ls
      have lu := ld_up F (x := (s : Int)) (by omega) (by omega) (by rw [Int.toNat_natCast]; exact ls) k (by omega)
      rw [k1] at lu
      obtain ⟨d, hd⟩ : ∃ d : Nat, (mm_a K 87 u).toInt = (d : Int) := ⟨(mm_a K 87 u).toInt.toNat, by omega⟩
      have ed : mm_a K 87 u = nI d := by
        rw [mm_nz k2 (by omega), hd]
        rfl
      rw [hd] at lu k5
      have dl := mm_bel_le U (x := (s : Int)) (y := (d : Int)) (by omega) ⟨by omega, k, k1.trans hd⟩
      exact ov_trans (ov_vy nv) (ih d (by omega) u k3 (by omega) ed k4 k5 (by have := lu.2; rwa [Int.toNat_natCast] at this))
