/-! find, nearest: the method of this name in a class or the nearest above -/
def lk_hI (h : mm_H) (y : Int) (n : Int32) (t : Nat) : Prop := (mm_a h 87 t).toInt = y ∧ mm_a h 88 t = n
def lk_nh (h : mm_H) (nM : Nat) (n : Int32) (y : Int) : Prop := ∀ t, t < nM → ¬ lk_hI h y n t
def lk_at (h : mm_H) (nM : Nat) (n : Int32) (x : Int) (j : Nat) : Prop := ∃ k, 0 ≤ mm_anc (mm_up h) k x ∧ (j < nM ∧ lk_hI h (mm_anc (mm_up h) k x) n j ∧ ∀ i, i < j → ¬ lk_hI h (mm_anc (mm_up h) k x) n i) ∧ ∀ i, i < k → lk_nh h nM n (mm_anc (mm_up h) i x)
def lk_nf (h : mm_H) (nM : Nat) (n : Int32) (x : Int) : Prop := ∀ k, 0 ≤ mm_anc (mm_up h) k x → lk_nh h nM n (mm_anc (mm_up h) k x)
theorem lk_at_uni {h : mm_H} {nM : Nat} {n : Int32} {x : Int} {j j' : Nat} (a : lk_at h nM n x j) (b : lk_at h nM n x j') : j = j' := by
  obtain ⟨k, a1, ⟨a2, a3, a4⟩, a5⟩ := a
  obtain ⟨k', b1, ⟨b2, b3, b4⟩, b5⟩ := b
  rcases Nat.lt_trichotomy k k' with q | q | q
  · exact absurd a3 (b5 k q j a2)
  · subst q
    rcases Nat.lt_trichotomy j j' with z | z | z
    · exact absurd a3 (b4 j z)
    · exact z
    · exact absurd b3 (a4 j' z)
  · exact absurd b3 (a5 k' q j' b2)
theorem lk_at_nf {h : mm_H} {nM : Nat} {n : Int32} {x : Int} {j : Nat} (a : lk_at h nM n x j) (b : lk_nf h nM n x) : False := by
  obtain ⟨k, a1, ⟨a2, a3, a4⟩, a5⟩ := a
  exact b k a1 j a2 a3
theorem lk_hI_hit {h : mm_H} {y n : Int32} {t : Nat} : lk_hI h y.toInt n t ↔ mm_hit h y n t := ⟨fun z => ⟨Int32.toInt_inj.mp z.1, z.2⟩, fun z => ⟨by rw [z.1], z.2⟩⟩
theorem lk_end {h : mm_H} {nM k : Nat} {n : Int32} {x : Int} (z : mm_anc (mm_up h) k x < 0) (b : ∀ i, i < k → lk_nh h nM n (mm_anc (mm_up h) i x)) : lk_nf h nM n x := by
  intro j hj
  rcases Nat.lt_or_ge j k with q | q
  · exact b j q
  · obtain ⟨i, rfl⟩ : ∃ i, j = k + i := ⟨j - k, by omega⟩
    have := mm_anc_neg z i
    omega
theorem lk_step {h : mm_H} {k : Nat} {x : Int} {z : Int32} (hz : 0 ≤ z.toInt) (e : z.toInt = mm_anc (mm_up h) k x) : (mm_a h 81 z.toNatClampNeg).toInt = mm_anc (mm_up h) (k + 1) x := by
  show (mm_a h 81 z.toNatClampNeg).toInt = if mm_anc (mm_up h) k x < 0 then -1 else mm_up h (mm_anc (mm_up h) k x).toNat
  rw [if_neg (by omega), ← e]
  rfl
theorem l_Mo_find {ro : mm_Ro} {d nC nF nM : Nat} {x n : Int32} {h : mm_H} {Q : Value → mm_H → Prop} (I : mm_SH h) (V : mm_MN h nC nF nM) (U : mm_upo (mm_up h)) (q1 : ∀ j, lk_at h nM n x.toInt j → Q (.int (nI j)) h) (q2 : lk_nf h nM n x.toInt → Q (.int (-1)) h) : ∀ (N k : Nat) (z : Int32), z.toInt < (N : Int) → N ≤ 6 → z.toInt = mm_anc (mm_up h) k x.toInt → (∀ i, i < k → lk_nh h nM n (mm_anc (mm_up h) i x.toInt)) → mm_go ro (d + 1) mm_m_Mo_find 5 [.ref 80, .int x, .int n, .int z, .int (-1)] [] h Q := by
  intro N
  have G := mm_hM n_Mo_find rfl
  induction N with
  | zero =>
    intro k z hz hn hk hj
    refine mm_go_at 5 G (And.intro (fun c_6 => mm_go_from G (q2 (lk_end (by omega) hj))) (fun c_6 => absurd (show z.toInt < (0 : Int32).toInt from hz) c_6))
  | succ N ih =>
    intro k z hz hn hk hj
    refine mm_go_at 5 G (And.intro (fun c_6 => mm_go_from G (q2 (lk_end (by rw [← hk]; exact c_6) hj))) (fun c_6 => ?_))
    have z0 : 0 ≤ z.toInt := Int.not_lt.mp c_6
    have hc : (z.toNatClampNeg : Int) = z.toInt := by
      show ((z.toInt.toNat : Nat) : Int) = z.toInt
      omega
    have hM := V.2.2.2.2.2.2
    refine And.intro (fun c_11 => absurd (show (0 : Int32).toInt ≤ (-1 : Int32).toInt from c_11) (by decide)) (fun c_11 => ?_)
    refine And.intro ⟨rfl, k_80 I⟩ (c_Mo_own I V (fun j hj1 hj2 hj3 => ?_) (fun hno => ?_))
    · refine And.intro (k_80 I) (mm_rf (r_579 I) (And.intro ⟨k_81 I, mm_inb 6 (n_81 I) (by omega)⟩ (mm_rf rfl ?_)))
      have w := q1 j ⟨k, by omega, ⟨hj1, by rw [← hk]; exact lk_hI_hit.mpr hj2, fun i hi y => hj3 i hi (lk_hI_hit.mp (by rw [hk]; exact y))⟩, hj⟩
      have tj : (nI j).toInt = (j : Int) := mm_nt (by omega)
      refine mm_go_from G (And.intro (fun c_6 => mm_go_from G w) (fun c_6 => And.intro (fun c_11 => mm_go_from G w) (fun c_11 => ?_)))
      have y : ¬ 0 ≤ (nI j).toInt := c_11
      omega
    · refine And.intro (k_80 I) (mm_rf (r_579 I) (And.intro ⟨k_81 I, mm_inb 6 (n_81 I) (by omega)⟩ (mm_rf rfl ?_)))
      refine ih (k + 1) _ ?_ (by omega) (lk_step z0 hk) (fun i hi => ?_)
      · have := U z.toNatClampNeg (by omega)
        have e2 : mm_up h z.toNatClampNeg = (mm_a h 81 z.toNatClampNeg).toInt := rfl
        omega
      · by_cases y : i = k
        · rw [y, ← hk]
          exact fun t ht q => hno t ht (lk_hI_hit.mp q)
        · exact hj i (by omega)
theorem c_Mo_find {ro : mm_Ro} {d nC nF nM : Nat} {x n : Int32} {h : mm_H} {Q : Value → mm_H → Prop} (I : mm_SH h) (V : mm_MN h nC nF nM) (U : mm_upo (mm_up h)) (hx : x.toInt < 6) (q1 : ∀ j, lk_at h nM n x.toInt j → Q (.int (nI j)) h) (q2 : lk_nf h nM n x.toInt → Q (.int (-1)) h) : mm_ev ro (d + 2) n_Mo_find [.ref 80, .int x, .int n] h Q := by
  refine mm_ev_at 5 (Z := mm_m_Mo_find) rfl rfl (Nat.le_of_ble_eq_true rfl) rfl ?_
  exact l_Mo_find I V U q1 q2 6 0 x hx (by omega) rfl (fun i hi => by omega)
theorem lx_hit {h : mm_H} {nM t : Nat} {qm : Nat → Nat} {x n : Int32} (MS : lx_MS h nM qm) (ht : t < nM) : mm_hix h qm x n t ↔ mm_hit h x n t := by
  have e := (MS.2 t ht).2.2.2.1
  unfold mm_hix mm_hit
  rw [e.1, e.2.1]
theorem l_St_nearest {ro : mm_Ro} {d nC nF nM : Nat} {qm : Nat → Nat} {x n : Int32} {h : mm_H} {Q : Value → mm_H → Prop} (T : lx_T ro h nC nF nM qm) (q1 : ∀ j, lk_at h nM n x.toInt j → Q (.ref (qm j)) h) (q2 : lk_nf h nM n x.toInt → Q (.ref 0) h) : ∀ (N k : Nat) (z : Int32) (v : Value), z.toInt < (N : Int) → N ≤ nC → (0 ≤ z.toInt → z.toInt + (k : Int) ≤ 5) → k ≤ 6 → (z = -1 ∨ 0 ≤ z.toInt) → z.toInt = mm_anc (mm_up h) k x.toInt → (∀ i, i < k → lk_nh h nM n (mm_anc (mm_up h) i x.toInt)) → mm_go ro (d + 1) mm_m_St_nearest 5 [.ref 2, .int x, .int n, .int z, .int (nI k), v] [] h Q := by
  obtain ⟨I, V, MN, W, ow, ML, A0, AB, AD⟩ := T
  have MS := W.2.2.1
  have XM : mm_XM h nM qm := fun m hm => ⟨(MS.2 m hm).1, (MS.2 m hm).2.2.1⟩
  have hM := V.2.2.2.2.2.2
  have hC := V.2.2.2.2.1
  have G := mm_hM n_St_nearest rfl
  have U := W.2.2.2.2.2.2.2.1
  have t6 : ((Int8.ofInt 6).toInt32).toInt = 6 := by decide
  have m1 : (-1 : Int32).toInt = -1 := by decide
  intro N
  induction N with
  | zero =>
    intro k z v hz hn hs hk6 hm1 hk hj
    have w := q2 (lk_end (by omega) hj)
    refine mm_go_at 5 G (And.intro (fun c_9 => mm_go_from G w) (fun c_9 => And.intro (fun c_14 => mm_go_from G w) (fun c_14 => ?_)))
    rcases hm1 with y | y
    · exact absurd y c_14
    · omega
  | succ N ih =>
    intro k z v hz hn hs hk6 hm1 hk hj
    rcases hm1 with y | y
    · have w := q2 (lk_end (by rw [← hk, y]; decide) hj)
      exact mm_go_at 5 G (And.intro (fun c_9 => mm_go_from G w) (fun c_9 => And.intro (fun c_14 => mm_go_from G w) (fun c_14 => absurd y c_14)))
    · have s5 := hs y
      have tk : (nI k).toInt = (k : Int) := mm_nt (by omega)
      refine mm_go_at 5 G (And.intro (fun c_9 => ?_) (fun c_9 => And.intro (fun c_14 => ?_) (fun c_14 => ?_)))
      · have u : ((Int8.ofInt 6).toInt32).toInt ≤ (nI k).toInt := c_9
        omega
      · have u : z = -1 := c_14
        rw [u] at y
        omega
      · have hc : (z.toNatClampNeg : Int) = z.toInt := by
          show ((z.toInt.toNat : Nat) : Int) = z.toInt
          omega
        refine And.intro ⟨rfl, k_2 I⟩ (c_St_own I V XM (fun j hj1 hj2 hj3 => ?_) (fun hno => ?_))
        · have q0 : ¬ qm j = 0 := fun e => by have := (MS.2 j hj1).2.1; omega
          refine And.intro (fun c_27 => absurd c_27 q0) (fun c_27 => ?_)
          exact q1 j ⟨k, by omega, ⟨hj1, by rw [← hk]; exact lk_hI_hit.mpr ((lx_hit MS hj1).mp hj2), fun i hi u => hj3 i hi ((lx_hit MS (by omega)).mpr (lk_hI_hit.mp (by rw [hk]; exact u)))⟩, hj⟩
        · refine And.intro (fun c_27 => mm_go_at 5 G ?_) (fun c_27 => absurd rfl c_27)
          have e3 : mm_a h 3 z.toNatClampNeg = mm_a h 81 z.toNatClampNeg := AB _ (by omega)
          refine And.intro (k_2 I) (mm_rf (r_65 I) (And.intro ⟨k_3 I, mm_inb 6 (n_3 I) (by omega)⟩ (mm_rf e3 ?_)))
          have w := ih (k + 1) (mm_a h 81 z.toNatClampNeg) (.ref 0) (by
            have := U z.toNatClampNeg (by omega)
            have e2 : mm_up h z.toNatClampNeg = (mm_a h 81 z.toNatClampNeg).toInt := rfl
            omega) (by omega) (fun _ => by
            have := U z.toNatClampNeg (by omega)
            have e2 : mm_up h z.toNatClampNeg = (mm_a h 81 z.toNatClampNeg).toInt := rfl
            omega) (by omega) (by
            by_cases q : z.toNatClampNeg = 0
            · rw [q]; exact Or.inl A0
            · obtain ⟨s, hs1, hs2⟩ := AD z.toNatClampNeg (by omega) (by omega)
              right
              rw [hs2, mm_nt (by omega)]
              omega) (lk_step y hk) (fun i hi => by
            by_cases u : i = k
            · rw [u, ← hk]
              exact fun t ht q => hno t ht ((lx_hit MS ht).mpr (lk_hI_hit.mp q))
            · exact hj i (by omega))
          rw [nI_succ] at w
          exact w
theorem c_St_nearest {ro : mm_Ro} {d nC nF nM : Nat} {qm : Nat → Nat} {x n : Int32} {h : mm_H} {Q : Value → mm_H → Prop} (T : lx_T ro h nC nF nM qm) (hx : x = -1 ∨ (0 ≤ x.toInt ∧ x.toInt < (nC : Int))) (q1 : ∀ j, lk_at h nM n x.toInt j → Q (.ref (qm j)) h) (q2 : lk_nf h nM n x.toInt → Q (.ref 0) h) : mm_ev ro (d + 2) n_St_nearest [.ref 2, .int x, .int n] h Q := by
  have hC := T.2.1.2.2.2.2.1
  have m1 : (-1 : Int32).toInt = -1 := by decide
  refine mm_ev_at 5 (Z := mm_m_St_nearest) rfl rfl (Nat.le_of_ble_eq_true rfl) rfl ?_
  exact l_St_nearest T q1 q2 nC 0 x .null (by rcases hx with e | e; (· rw [e]; omega); (· omega)) (by omega) (fun _ => by rcases hx with e | e; (· rw [e]; omega); (· omega)) (by omega) (by rcases hx with e | e; (· exact Or.inl e); (· exact Or.inr e.1)) rfl (fun i hi => by omega)
