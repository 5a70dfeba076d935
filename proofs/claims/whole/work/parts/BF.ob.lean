/-! RUNNING, the class: makeObject, get, put -/
theorem l_Ma_make {ro : mm_Ro} {d A H i n : Nat} {x : Int32} {g : mm_H} {Q : Value → mm_H → Prop} (I : mm_SH g) (E : ac g A) (hA : 62 ≤ A) (e8 : mm_i g 388 A = nI H) (h4 : H < 4) (e5 : mm_i g 385 A = nI i) (hn : n < 24) (en : mm_i g 326 56 = nI n) (hQ : Q .null (mm_si (ac_ps (mm_si (rs_fill g 60 (12 * n) 12 (fun _ => 0)) 326 56 (nI (n + 1))) A H (nI (n + 1))) 385 A (nI (i + 1)))) : ∀ (k p : Nat), p + k = 12 → mm_go ro (d + 2) mm_m_Ma_makeObject 45 [.ref 56, .ref A, .int x, .int (nI p)] [] (rs_fill g 60 (12 * n) p (fun _ => 0)) Q := by
  have t12 : ((Int8.ofInt 12).toInt32).toInt = 12 := by decide
  have G := mm_hM n_Ma_makeObject rfl
  intro k
  induction k with
  | zero =>
    intro p hp
    have J : mm_SH (rs_fill g 60 (12 * n) p (fun _ => 0)) := fi_SH I
    refine mm_go_from G (And.intro (fun c_48 => mm_go_from G ?_) (fun c_48 => ?_))
    · have p6 : p = 12 := by omega
      subst p6
      rw [nI_succ n] at hQ
      have EE : ac (mm_si (rs_fill g 60 (12 * n) 12 (fun _ => 0)) 326 56 (nI n + 1)) A := ac_si E
      exact And.intro (k_56 J) (mm_rf en (And.intro (k_56 J) (And.intro (k_56 J) (mm_rf mm_i1 (And.intro ⟨rfl, trivial⟩ (c_Ma_pushAndGoOn EE ((mm_i2 (by omega)).trans e8) h4 ((mm_i2 (by omega)).trans e5) hQ))))))
    · have c : ¬ ((Int8.ofInt 12).toInt32).toInt ≤ (nI p).toInt := c_48
      rw [mm_nt (by omega), t12] at c
      omega
  | succ k ih =>
    intro p hp
    have J : mm_SH (rs_fill g 60 (12 * n) p (fun _ => 0)) := fi_SH I
    have nx := ih (p + 1) (by omega)
    have eX : nI n * (Int8.ofInt 12).toInt32 + nI p = nI (12 * n + p) := by
      have z : nI n * (Int8.ofInt 12).toInt32 = nI (n * 12) := pk_mul n 12
      rw [z, nI_add, Nat.mul_comm]
    have bX : 0 ≤ (nI n * (Int8.ofInt 12).toInt32 + nI p).toInt ∧ (nI n * (Int8.ofInt 12).toInt32 + nI p).toInt < ((288 : Nat) : Int) := by rw [eX]; exact mm_nb (by omega) (by omega)
    refine mm_go_from G (And.intro (fun c_48 => ?_) (fun c_48 => ?_))
    · have c : ((Int8.ofInt 12).toInt32).toInt ≤ (nI p).toInt := c_48
      rw [mm_nt (by omega), t12] at c
      omega
    · refine And.intro (k_56 J) (mm_rf (r_331 J) (And.intro (k_56 J) (mm_rf en (And.intro ⟨k_60 J, mm_inb 288 (n_60 J) bX⟩ ?_))))
      rw [nI_succ] at nx
      have e2 : mm_sa (rs_fill g 60 (12 * n) p (fun _ => 0)) 60 (nI n * (Int8.ofInt 12).toInt32 + nI p).toNatClampNeg 0 = rs_fill g 60 (12 * n) (p + 1) (fun _ => 0) := by
        rw [eX, mm_ncl (by omega)]
        exact rs_fill_s
      rw [← e2] at nx
      exact nx
noncomputable def ma_mk (h : mm_H) (A H i n a : Nat) : mm_H := if mm_a h 5 a = 0 then mm_si h 334 56 5 else if n = 24 then mm_si h 334 56 2 else mm_si (ac_ps (mm_si (rs_fill (mm_sa h 59 n (nI a)) 60 (12 * n) 12 (fun _ => 0)) 326 56 (nI (n + 1))) A H (nI (n + 1))) 385 A (nI (i + 1))
theorem c_Ma_makeObject {ro : mm_Ro} {d A H i n a : Nat} {h : mm_H} {Q : Value → mm_H → Prop} (I : mm_SH h) (E : ac h A) (hA : 62 ≤ A) (e8 : mm_i h 388 A = nI H) (h4 : H < 4) (e5 : mm_i h 385 A = nI i) (hn : n ≤ 24) (en : mm_i h 326 56 = nI n) (ha : a < 6) (hQ : Q .null (ma_mk h A H i n a)) : mm_ev ro (d + 3) n_Ma_makeObject [.ref 56, .ref A, .int (nI a)] h Q := by
  have G := mm_hM n_Ma_makeObject rfl
  have ca : (nI a).toNatClampNeg = a := mm_ncl (by omega)
  have ba : 0 ≤ (nI a).toInt ∧ (nI a).toInt < ((6 : Nat) : Int) := mm_nb ha (by omega)
  unfold ma_mk at hQ
  refine mm_ev_at 45 (Z := mm_m_Ma_makeObject) rfl rfl (Nat.le_of_ble_eq_true rfl) rfl ?_
  refine And.intro (k_56 I) (mm_rf (r_320 I) (And.intro (k_2 I) (mm_rf (r_67 I) (And.intro ⟨k_5 I, mm_inb 6 (n_5 I) ba⟩ (mm_rf (show mm_a h 5 (nI a).toNatClampNeg = mm_a h 5 a by rw [ca]) (And.intro (fun c_9 => mm_go_at 45 G ?_) (fun c_9 => ?_)))))))
  · rw [if_neg c_9] at hQ
    refine And.intro (k_56 I) (mm_rf en (And.intro (fun c_24 => mm_go_at 45 G ?_) (fun c_24 => ?_)))
    · have n24 : n < 24 := mm_nel hn (by omega) c_24
      rw [if_neg (by omega)] at hQ
      refine And.intro (k_56 I) (mm_rf (r_330 I) (And.intro (k_56 I) (mm_rf en (And.intro ⟨k_59 I, mm_inb 24 (n_59 I) (mm_nb n24 (by omega))⟩ ?_))))
      have z := l_Ma_make (ro := ro) (d := d) (x := nI a) (g := mm_sa h 59 n (nI a)) (Q := Q) I E hA e8 h4 e5 n24 en hQ 12 0 (Nat.zero_add _)
      rw [rs_fill_0] at z
      show mm_go ro (d + 2) mm_m_Ma_makeObject 45 [.ref 56, .ref A, .int (nI a), .int 0] [] (mm_sa h 59 (nI n).toNatClampNeg (nI a)) Q
      rw [mm_ncl (by omega)]
      exact z
    · have n24 : n = 24 := mm_nee (by omega) (by omega) (mm_no c_24)
      rw [if_pos n24] at hQ
      exact And.intro (k_56 I) hQ
  · rw [if_pos (mm_no c_9)] at hQ
    exact And.intro (k_56 I) hQ
theorem ix_12 {o a : Nat} (o0 : 0 < o) : (nI o - 1) * (Int8.ofInt 12).toInt32 + nI a = nI (12 * (o - 1) + a) := by
  obtain ⟨p, hp⟩ : ∃ p, o = p + 1 := ⟨o - 1, by omega⟩
  have z : nI p * (Int8.ofInt 12).toInt32 = nI (p * 12) := pk_mul p 12
  rw [hp, nI_pred, z, nI_add, Nat.mul_comm]
  rfl
theorem ob_c {n : Nat} {x : Int32} (s : mm_H) (h : rs_ob s n x) : x = 0 ∨ ∃ o, 0 < o ∧ o ≤ n ∧ x = nI o := by
  rcases h with z | ⟨o, c, z1, z2, z3, _⟩
  · exact Or.inl z
  · exact Or.inr ⟨o, z1, z2, z3⟩
theorem c_Ma_get {ro : mm_Ro} {d A H i n a : Nat} {h : mm_H} {Q : Value → mm_H → Prop} (I : mm_SH h) (E : ac h A) (hA : 62 ≤ A) (e8 : mm_i h 388 A = nI H) (h0 : 0 < H) (h4 : H ≤ 4) (e5 : mm_i h 385 A = nI i) (hn : n ≤ 24) (en : mm_i h 326 56 = nI n) (ha : a < 12) (ob : mm_a h (A + 2) (H - 1) = 0 ∨ ∃ o, 0 < o ∧ o ≤ n ∧ mm_a h (A + 2) (H - 1) = nI o) (hQ : Q .null (if mm_a h (A + 2) (H - 1) = 0 then mm_si (mm_si h 388 A (nI (H - 1))) 334 56 6 else mm_si (ac_ps (mm_si h 388 A (nI (H - 1))) A (H - 1) (mm_a h 60 (12 * ((mm_a h (A + 2) (H - 1)).toNatClampNeg - 1) + a))) 385 A (nI (i + 1)))) : mm_ev ro (d + 3) n_Ma_get [.ref 56, .ref A, .int (nI a)] h Q := by
  have G := mm_hM n_Ma_get rfl
  have J : mm_SH (mm_si h 388 A (nI (H - 1))) := SH_si I
  have jn : mm_i (mm_si h 388 A (nI (H - 1))) 326 56 = nI n := (mm_i2 (by omega)).trans en
  generalize hx : mm_a h (A + 2) (H - 1) = x at *
  refine mm_ev_in (Z := mm_m_Ma_get) rfl rfl (Nat.le_of_ble_eq_true rfl) rfl ?_
  refine And.intro ⟨rfl, E.1⟩ (c_Ac_pop E e8 h0 h4 ?_)
  rw [hx]
  refine And.intro ⟨rfl, k_56 J⟩ (c_Ma_isObject J jn hn ob (And.intro (fun c_10 => mm_go_from G ?_) (fun c_10 => ?_)))
  · have x0 : ¬ x = 0 := mm_nn c_10
    rw [if_neg x0] at hQ
    rcases ob with z | ⟨o, o1, o2, o3⟩
    · exact absurd z x0
    · subst o3
      rw [mm_ncl (by omega)] at hQ
      have bX : 0 ≤ ((nI o - 1) * (Int8.ofInt 12).toInt32 + nI a).toInt ∧ ((nI o - 1) * (Int8.ofInt 12).toInt32 + nI a).toInt < ((288 : Nat) : Int) := by rw [ix_12 o1]; exact mm_nb (by omega) (by omega)
      exact And.intro (k_56 J) (mm_rf (r_331 J) (And.intro ⟨k_60 J, mm_inb 288 (n_60 J) bX⟩ (mm_rf (show mm_a h 60 ((nI o - 1) * (Int8.ofInt 12).toInt32 + nI a).toNatClampNeg = mm_a h 60 (12 * (o - 1) + a) by rw [ix_12 o1, mm_ncl (by omega)]) (And.intro ⟨rfl, trivial⟩ (c_Ma_pushAndGoOn (h := mm_si h 388 A (nI (H - 1))) E mm_i1 (by omega) ((mm_i2 (by omega)).trans e5) hQ)))))
  · have x0 : x = 0 := Classical.not_not.mp (mm_b0.mp (mm_no c_10))
    rw [if_pos x0] at hQ
    exact And.intro (k_56 J) hQ
theorem c_Ma_put {ro : mm_Ro} {d A H i n a : Nat} {h : mm_H} {Q : Value → mm_H → Prop} (I : mm_SH h) (E : ac h A) (hA : 62 ≤ A) (e8 : mm_i h 388 A = nI H) (h0 : 1 < H) (h4 : H ≤ 4) (e5 : mm_i h 385 A = nI i) (hn : n ≤ 24) (en : mm_i h 326 56 = nI n) (ha : a < 12) (ob : mm_a h (A + 2) (H - 1 - 1) = 0 ∨ ∃ o, 0 < o ∧ o ≤ n ∧ mm_a h (A + 2) (H - 1 - 1) = nI o) (hQ : Q .null (if mm_a h (A + 2) (H - 1 - 1) = 0 then mm_si (mm_si (mm_si h 388 A (nI (H - 1))) 388 A (nI (H - 1 - 1))) 334 56 6 else mm_si (mm_sa (mm_si (mm_si h 388 A (nI (H - 1))) 388 A (nI (H - 1 - 1))) 60 (12 * ((mm_a h (A + 2) (H - 1 - 1)).toNatClampNeg - 1) + a) (mm_a h (A + 2) (H - 1))) 385 A (nI (i + 1)))) : mm_ev ro (d + 2) n_Ma_put [.ref 56, .ref A, .int (nI a)] h Q := by
  have G := mm_hM n_Ma_put rfl
  have J : mm_SH (mm_si (mm_si h 388 A (nI (H - 1))) 388 A (nI (H - 1 - 1))) := SH_si (SH_si I)
  have jn : mm_i (mm_si (mm_si h 388 A (nI (H - 1))) 388 A (nI (H - 1 - 1))) 326 56 = nI n := (mm_i2 (by omega)).trans ((mm_i2 (by omega)).trans en)
  have j5 : mm_i (mm_si (mm_si h 388 A (nI (H - 1))) 388 A (nI (H - 1 - 1))) 385 A = nI i := (mm_i2 (by omega)).trans ((mm_i2 (by omega)).trans e5)
  generalize hx : mm_a h (A + 2) (H - 1 - 1) = x at *
  refine mm_ev_in (Z := mm_m_Ma_put) rfl rfl (Nat.le_of_ble_eq_true rfl) rfl ?_
  refine And.intro ⟨rfl, E.1⟩ (c_Ac_pop E e8 (by omega) h4 (And.intro ⟨rfl, E.1⟩ (c_Ac_pop (h := mm_si h 388 A (nI (H - 1))) E mm_i1 (by omega) (by omega) ?_)))
  rw [ra_si, hx]
  refine And.intro ⟨rfl, k_56 J⟩ (c_Ma_isObject J jn hn ob (And.intro (fun c_17 => mm_go_from G ?_) (fun c_17 => ?_)))
  · have x0 : ¬ x = 0 := mm_nn c_17
    rw [if_neg x0] at hQ
    rcases ob with z | ⟨o, o1, o2, o3⟩
    · exact absurd z x0
    · subst o3
      rw [mm_ncl (by omega)] at hQ
      have bX : 0 ≤ ((nI o - 1) * (Int8.ofInt 12).toInt32 + nI a).toInt ∧ ((nI o - 1) * (Int8.ofInt 12).toInt32 + nI a).toInt < ((288 : Nat) : Int) := by rw [ix_12 o1]; exact mm_nb (by omega) (by omega)
      refine And.intro (k_56 J) (mm_rf (r_331 J) (And.intro ⟨k_60 J, mm_inb 288 (n_60 J) bX⟩ (And.intro E.1 (mm_rf j5 (And.intro E.1 ?_)))))
      refine mm_qq hQ rfl ?_
      show mm_si (mm_sa (mm_si (mm_si h 388 A (nI (H - 1))) 388 A (nI (H - 1 - 1))) 60 ((nI o - 1) * (Int8.ofInt 12).toInt32 + nI a).toNatClampNeg (mm_a h (A + 2) (H - 1))) 385 A (nI i + 1) = _
      rw [ix_12 o1, mm_ncl (by omega), ← nI_succ]
  · have x0 : x = 0 := Classical.not_not.mp (mm_b0.mp (mm_no c_17))
    rw [if_pos x0] at hQ
    exact And.intro (k_56 J) hQ
