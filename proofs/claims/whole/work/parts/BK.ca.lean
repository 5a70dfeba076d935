/-! RUNNING, the class: call, whole -/
noncomputable def ma_cl (h : mm_H) (qm : Nat → Nat) (nM w B i t e a : Nat) : mm_H := if ¬ mm_a h 95 a = 0 then ma_do h qm w B i t e a else if mm_a h (64 + 3 * w) B = 0 then mm_si h 334 56 6 else ma_do h qm w B i t e (rs_fd h nM (mm_a h 88 a) (mm_a h 59 ((mm_a h (64 + 3 * w) B).toNatClampNeg - 1)).toInt)
def ma_dj (h : mm_H) (nM B j : Nat) : Prop := j < nM ∧ ∃ c, c < 6 ∧ mm_a h 87 j = nI c ∧ (¬ mm_a h 5 c = 0 → ¬ mm_a h 90 j = -1 → mm_a h 90 j = 1 ∨ B < 4)
theorem c_Ma_call {ro : mm_Ro} {d w B H i e a n T P N nC nF nM : Nat} {qm : Nat → Nat} {h : mm_H} {Q : Value → mm_H → Prop} (TT : lx_T ro h nC nF nM qm) (hw : w < 6) (ha : a < nM) (e3 : mm_i h 333 56 = nI (w + 1)) (e9 : mm_i h 329 56 = nI e) (he : e ≤ 6) (e8 : mm_i h 388 (62 + 3 * w) = nI H) (h4 : H ≤ 4) (eB : B + (lk_np h a + lk_of h a) = H) (e5 : mm_i h 385 (62 + 3 * w) = nI i) (en : mm_i h 326 56 = nI n) (n24 : n ≤ 24)
    (st : ¬ mm_a h 95 a = 0 → ma_dj h nM B a) (vi : mm_a h 95 a = 0 → mm_a h (64 + 3 * w) B = 0 ∨ ∃ k c j, 0 < k ∧ k ≤ n ∧ mm_a h (64 + 3 * w) B = nI k ∧ c < nC ∧ mm_a h 59 (k - 1) = nI c ∧ lk_at h nM (mm_a h 88 a) (c : Int) j ∧ ma_dj h nM B j)
    (eT : mm_i h 328 56 = nI T) (hT : T < 1000) (eN : mm_i h 322 56 = nI N) (hN : N ≤ 8) (eP : mm_i h 327 56 = nI P) (hP : P < 1000) (hQ : Q .null (ma_cl h qm nM w B i (lk_np h a + lk_of h a) e a)) : mm_ev ro (d + 3) n_Ma_call [.ref 56, .ref (62 + 3 * w), .ref (qm a)] h Q := by
  have G := mm_hM n_Ma_call rfl
  have I := TT.1
  have E := ac_w I hw
  have h6 := TT.2.1.2.2.2.2.1
  have MO := (TT.2.2.2.1.2.2.1.2 a ha).2
  have MV := TT.2.2.2.1.2.2.2.2.2.2.2.2.2 a ha
  have q1 := MO.1
  have MOd := MO
  obtain ⟨_, ME, ⟨i1, i2, i3, _⟩, _⟩ := MOd
  have eS : nI H - nI (lk_np h a + lk_of h a) = nI B := by rw [← eB, ← nI_add, Int32.add_sub_cancel]
  have mx : (if Int32.ofInt 0 < nI H - nI (lk_np h a + lk_of h a) then nI H - nI (lk_np h a + lk_of h a) else Int32.ofInt 0) = nI B := by
    rw [eS]
    have lt : (Int32.ofInt 0 < nI B) ↔ 0 < B := nI_ltI (a := 0) (by omega) (by omega)
    by_cases z : 0 < B
    · rw [if_pos (lt.mpr z)]
    · rw [if_neg (fun y => z (lt.mp y)), show B = 0 by omega]; rfl
  unfold ma_cl at hQ
  refine mm_ev_at 71 (Z := mm_m_Ma_call) rfl rfl (Nat.le_of_ble_eq_true rfl) rfl ?_
  refine And.intro E.1 (mm_rf e8 (And.intro ⟨rfl, ME.1.1⟩ (c_Me_takes MO MV (And.intro (Nat.le_of_ble_eq_true rfl) ?_))))
  show _ ∧ _
  rw [mx]
  refine And.intro ME.1.1 (mm_rf i3 (And.intro (fun c_21 => ?_) (fun c_21 => ?_)))
  · have q : ¬ mm_a h 95 a = 0 := c_21
    rw [if_pos q] at hQ
    obtain ⟨j1, c, c1, c2, c3⟩ := st q
    exact l_cl_71 TT hw ha c2 c1 e3 e9 he e8 h4 eB e5 c3 eT hT eN hN eP hP hQ
  · have q : mm_a h 95 a = 0 := mm_no c_21
    rw [if_neg (fun z => z q)] at hQ
    have of1 : lk_of h a = 1 := if_pos q
    have mi : (if Int32.ofInt 3 < nI B then Int32.ofInt 3 else nI B) = nI B := if_neg (fun y => by
      have := (nI_ltI (a := 3) (b := B) (by omega) (by omega)).mp y
      omega)
    refine And.intro E.1 (mm_rf E.2.2.1 (And.intro (Nat.le_of_ble_eq_true rfl) ?_))
    show _ ∧ _
    rw [mi]
    refine And.intro ⟨E.2.2.2.1, mm_inb 4 E.2.2.2.2 (mm_nb (by omega) (by omega))⟩ (mm_rf (show mm_a h (62 + 3 * w + 2) (nI B).toNatClampNeg = mm_a h (64 + 3 * w) B by rw [mm_ncl (by omega), show 62 + 3 * w + 2 = 64 + 3 * w by omega]) (And.intro ⟨rfl, k_56 I⟩ ?_))
    have obx : mm_a h (64 + 3 * w) B = 0 ∨ ∃ o, 0 < o ∧ o ≤ n ∧ mm_a h (64 + 3 * w) B = nI o := by
      rcases vi q with z | ⟨k, c, j, z1, z2, z3, _⟩
      · exact Or.inl z
      · exact Or.inr ⟨k, z1, z2, z3⟩
    refine c_Ma_isObject I en n24 obx (And.intro (fun c_42 => mm_go_at 71 G ?_) (fun c_42 => ?_))
    · have x0 : mm_a h (64 + 3 * w) B = 0 := Classical.not_not.mp (mm_b0.mp c_42)
      rw [if_pos x0] at hQ
      refine mm_go_from G (And.intro (fun c_73 => absurd rfl c_73) (fun c_73 => ?_))
      exact And.intro (k_56 I) (mm_go_from G hQ)
    · have x0 : ¬ mm_a h (64 + 3 * w) B = 0 := mm_nn c_42
      rw [if_neg x0] at hQ
      rcases vi q with z | ⟨k, c, j, z1, z2, z3, z4, z5, z6, j1, c', d1, d2, d3⟩
      · exact absurd z x0
      have ek : nI k - 1 = nI (k - 1) := by
        obtain ⟨p, hp⟩ : ∃ p, k = p + 1 := ⟨k - 1, by omega⟩
        rw [hp]; exact nI_pred p
      rw [z3, mm_ncl (by omega), z5, mm_nt (by omega), rs_fd_eq z6] at hQ
      rw [z3]
      refine And.intro (k_56 I) (mm_rf (r_320 I) (And.intro (k_56 I) (mm_rf (r_330 I) (And.intro ⟨k_59 I, mm_inb 24 (n_59 I) (by rw [show nI k - Int32.ofInt 1 = nI (k - 1) from ek]; exact mm_nb (by omega) (by omega))⟩ (mm_rf (show mm_a h 59 (nI k - 1).toNatClampNeg = nI c by rw [ek, mm_ncl (by omega)]; exact z5) (And.intro ME.1.1 (mm_rf i2 (And.intro ⟨rfl, k_2 I⟩ (c_St_nearest TT (Or.inr (mm_nb z4 (by omega))) (fun j' hj' => ?_) (fun nf => ?_))))))))))
      · rw [mm_nt (by omega)] at hj'
        have : j = j' := lk_at_uni z6 hj'
        subst this
        exact mm_go_at 71 G (l_cl_71 TT hw j1 d2 d1 e3 e9 he e8 h4 eB e5 d3 eT hT eN hN eP hP hQ)
      · rw [mm_nt (by omega)] at nf
        exact (lk_at_nf z6 nf).elim
