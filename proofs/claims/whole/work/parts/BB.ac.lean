/-! RUNNING, the class: one method at work -/
def ac (h : mm_H) (A : Nat) : Prop := mm_k h A = 7 ∧ (mm_r h 386 A = A + 1 ∧ mm_k h (A + 1) = 20 ∧ mm_n h (A + 1) = 6) ∧ (mm_r h 387 A = A + 2 ∧ mm_k h (A + 2) = 20 ∧ mm_n h (A + 2) = 4)
theorem ac_w {h : mm_H} {w : Nat} (I : mm_SH h) (hw : w < 6) : ac h (62 + 3 * w) := by
  obtain ⟨a, b, c, _⟩ := I
  have : w = 0 ∨ w = 1 ∨ w = 2 ∨ w = 3 ∨ w = 4 ∨ w = 5 := by omega
  rcases this with z | z | z | z | z | z <;> subst z <;> exact ⟨a _ (by decide), ⟨c (386, _, _) (by decide), a _ (by decide), b _ (by decide)⟩, ⟨c (387, _, _) (by decide), a _ (by decide), b _ (by decide)⟩⟩
theorem q_w {h : mm_H} {w : Nat} (I : mm_SH h) (hw : w < 6) : mm_q h 61 w = 62 + 3 * w := I.2.2.2.2 w hw
theorem ac_si {h : mm_H} {A f a : Nat} {x : Int32} (E : ac h A) : ac (mm_si h f a x) A := E
theorem ac_sa {h : mm_H} {A a j : Nat} {x : Int32} (E : ac h A) : ac (mm_sa h a j x) A := E
theorem ac_sr {h : mm_H} {A a x : Nat} (E : ac h A) : ac (mm_sr h 384 a x) A := ⟨E.1, ⟨(mm_r2 (by omega)).trans E.2.1.1, E.2.1.2⟩, ⟨(mm_r2 (by omega)).trans E.2.2.1, E.2.2.2⟩⟩
def ac_ps (h : mm_H) (A H : Nat) (x : Int32) : mm_H := mm_si (mm_sa h (A + 2) H x) 388 A (nI (H + 1))
theorem c_Ac_push {ro : mm_Ro} {d A H : Nat} {x : Int32} {h : mm_H} {Q : Value → mm_H → Prop} (E : ac h A) (e8 : mm_i h 388 A = nI H) (h4 : H < 4) (hQ : Q .null (ac_ps h A H x)) : mm_ev ro (d + 1) n_Ac_push [.ref A, .int x] h Q := by
  have cH : (nI H).toNatClampNeg = H := mm_ncl (by omega)
  refine mm_ev_in (Z := mm_m_Ac_push) rfl rfl (Nat.le_of_ble_eq_true rfl) rfl ?_
  refine And.intro E.1 (mm_rf e8 (And.intro (fun c_5 => mm_go_from (mm_hM n_Ac_push rfl) ?_) (fun c_5 => ?_)))
  · have c : (4 : Int32).toInt ≤ (nI H).toInt := c_5
    rw [mm_nt (by omega), show (4 : Int32).toInt = 4 by decide] at c
    omega
  · refine And.intro E.1 (mm_rf E.2.2.1 (And.intro E.1 (mm_rf e8 (And.intro ⟨E.2.2.2.1, mm_inb 4 E.2.2.2.2 (mm_nb h4 (by omega))⟩ (And.intro E.1 (mm_rf e8 (And.intro E.1 ?_)))))))
    refine mm_qq hQ rfl ?_
    show mm_si (mm_sa h (A + 2) (nI H).toNatClampNeg x) 388 A (nI H + 1) = _
    rw [cH, ← nI_succ]
    rfl
theorem c_Ac_pop {ro : mm_Ro} {d A H : Nat} {h : mm_H} {Q : Value → mm_H → Prop} (E : ac h A) (e8 : mm_i h 388 A = nI H) (h0 : 0 < H) (h4 : H ≤ 4) (hQ : Q (.int (mm_a h (A + 2) (H - 1))) (mm_si h 388 A (nI (H - 1)))) : mm_ev ro (d + 1) n_Ac_pop [.ref A] h Q := by
  obtain ⟨G, hG⟩ : ∃ G, H = G + 1 := ⟨H - 1, by omega⟩
  have eH : nI H - 1 = nI (H - 1) := by rw [hG]; exact nI_pred G
  refine mm_ev_in (Z := mm_m_Ac_pop) rfl rfl (Nat.le_of_ble_eq_true rfl) rfl ?_
  refine And.intro E.1 (mm_rf e8 (And.intro (fun c_4 => mm_go_from (mm_hM n_Ac_pop rfl) ?_) (fun c_4 => ?_)))
  · refine And.intro E.1 (mm_rf e8 (And.intro E.1 (And.intro E.1 (mm_rf E.2.2.1 (And.intro E.1 (mm_rf mm_i1 (And.intro ⟨E.2.2.2.1, mm_inb 4 E.2.2.2.2 (by rw [show nI H - Int32.ofInt 1 = nI (H - 1) from eH]; exact mm_nb (by omega) (by omega))⟩ (mm_rf rfl ?_))))))))
    refine mm_qq hQ ?_ ?_
    · show Value.int (mm_a h (A + 2) (nI H - 1).toNatClampNeg) = _
      rw [eH, mm_ncl (by omega)]
    · show mm_si h 388 A (nI H - 1) = _
      rw [eH]
  · have c : nI H = nI 0 := mm_no c_4
    have := mm_nee (by omega) (by omega) c
    omega
theorem c_Ma_pushAndGoOn {ro : mm_Ro} {d A H i : Nat} {x : Int32} {h : mm_H} {Q : Value → mm_H → Prop} (E : ac h A) (e8 : mm_i h 388 A = nI H) (h4 : H < 4) (e5 : mm_i h 385 A = nI i) (hQ : Q .null (mm_si (ac_ps h A H x) 385 A (nI (i + 1)))) : mm_ev ro (d + 2) n_Ma_pushAndGoOn [.ref A, .int x] h Q := by
  refine mm_ev_in (Z := mm_m_Ma_pushAndGoOn) rfl rfl (Nat.le_of_ble_eq_true rfl) rfl ?_
  refine And.intro ⟨rfl, E.1⟩ (c_Ac_push E e8 h4 (And.intro E.1 (mm_rf (show mm_i (ac_ps h A H x) 385 A = nI i from (mm_i2 (by omega)).trans e5) (And.intro E.1 ?_))))
  refine mm_qq hQ rfl ?_
  rw [nI_succ i]
  rfl
/-- is it an object: 0 is none; the others are -/
theorem c_Ma_isObject {ro : mm_Ro} {d n : Nat} {x : Int32} {h : mm_H} {Q : Value → mm_H → Prop} (I : mm_SH h) (en : mm_i h 326 56 = nI n) (hn : n ≤ 24) (ob : x = 0 ∨ ∃ o, 0 < o ∧ o ≤ n ∧ x = nI o) (hQ : Q (.int (mm_b (¬ x = 0))) h) : mm_ev ro (d + 1) n_Ma_isObject [.ref 56, .int x] h Q := by
  have z0 : (0 : Int32).toInt = 0 := by decide
  refine mm_ev_in (Z := mm_m_Ma_isObject) rfl rfl (Nat.le_of_ble_eq_true rfl) rfl ?_
  rcases ob with z | ⟨o, o1, o2, o3⟩
  · subst z
    refine And.intro (fun c_1 => mm_go_from (mm_hM n_Ma_isObject rfl) ?_) (fun c_1 => absurd (show (0 : Int32).toInt ≤ (0 : Int32).toInt by decide) c_1)
    exact ⟨Or.inl rfl, mm_qe hQ (mm_b_f (fun z => z rfl))⟩
  · subst o3
    have n0 : ¬ nI o = 0 := fun y => by have := mm_nee (by omega) (by omega) (show nI o = nI 0 from y); omega
    have b1 : mm_b (¬ nI o = 0) = 1 := if_pos n0
    rw [b1] at hQ
    refine And.intro (fun c_1 => ?_) (fun c_1 => ?_)
    · have c : (nI o).toInt ≤ (0 : Int32).toInt := c_1
      rw [mm_nt (by omega), z0] at c
      omega
    · refine And.intro (k_56 I) (mm_rf en (And.intro (fun c_9 => ?_) (fun c_9 => mm_go_from (mm_hM n_Ma_isObject rfl) ⟨Or.inr rfl, hQ⟩)))
      have c : (nI n).toInt < (nI o).toInt := c_9
      rw [mm_nt (by omega), mm_nt (by omega)] at c
      omega
theorem c_Ma_classOf {ro : mm_Ro} {d n : Nat} {x : Int32} {h : mm_H} {Q : Value → mm_H → Prop} (I : mm_SH h) (en : mm_i h 326 56 = nI n) (hn : n ≤ 24) (ob : x = 0 ∨ ∃ o, 0 < o ∧ o ≤ n ∧ x = nI o) (hQ : Q (.int (if x = 0 then -1 else mm_a h 59 (x.toNatClampNeg - 1))) h) : mm_ev ro (d + 2) n_Ma_classOf [.ref 56, .int x] h Q := by
  refine mm_ev_in (Z := mm_m_Ma_classOf) rfl rfl (Nat.le_of_ble_eq_true rfl) rfl ?_
  refine And.intro ⟨rfl, k_56 I⟩ (c_Ma_isObject I en hn ob (And.intro (fun c_5 => mm_go_from (mm_hM n_Ma_classOf rfl) ?_) (fun c_5 => ?_)))
  · have x0 : x = 0 := Classical.not_not.mp (mm_b0.mp c_5)
    rw [if_pos x0] at hQ
    exact hQ
  · have x0 : ¬ x = 0 := mm_nn c_5
    rw [if_neg x0] at hQ
    rcases ob with z | ⟨o, o1, o2, o3⟩
    · exact absurd z x0
    · subst o3
      obtain ⟨p, hp⟩ : ∃ p, o = p + 1 := ⟨o - 1, by omega⟩
      have eo : nI o - 1 = nI (o - 1) := by rw [hp]; exact nI_pred p
      rw [mm_ncl (by omega)] at hQ
      refine And.intro (k_56 I) (mm_rf (r_330 I) (And.intro ⟨k_59 I, mm_inb 24 (n_59 I) (by rw [show nI o - Int32.ofInt 1 = nI (o - 1) from eo]; exact mm_nb (by omega) (by omega))⟩ (mm_rf (show mm_a h 59 (nI o - 1).toNatClampNeg = mm_a h 59 (o - 1) by rw [eo, mm_ncl (by omega)]) (mm_go_from (mm_hM n_Ma_classOf rfl) hQ))))
