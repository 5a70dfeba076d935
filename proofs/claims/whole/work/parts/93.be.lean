/-! THE CLASS: begin -/
theorem lxw_si2 {h0 : mm_H} {P : Nat → mm_F × Int32} {a : Nat} {φ : mm_F} {x y : Int32} (ha : lx_is a) : mm_si (lx_L h0 (lx_pu P a (φ, x))) 193 a y = lx_L h0 (lx_pu P a ((y, φ.2), x)) ∧ mm_si (lx_L h0 (lx_pu P a (φ, x))) 194 a y = lx_L h0 (lx_pu P a ((φ.1, y, φ.2.2), x)) ∧ mm_si (lx_L h0 (lx_pu P a (φ, x))) 195 a y = lx_L h0 (lx_pu P a ((φ.1, φ.2.1, y, φ.2.2.2), x)) ∧ mm_si (lx_L h0 (lx_pu P a (φ, x))) 196 a y = lx_L h0 (lx_pu P a (φ, y)) := by
  obtain ⟨h1, h2, h3, h4⟩ := lxw_i (h0 := h0) (P := lx_pu P a (φ, x)) ha y
  rw [lx_pu_u, lx_pu_t] at h1 h2 h3 h4
  exact ⟨h1, h2, h3, h4⟩
theorem lxw_s2 {h0 : mm_H} {P : Nat → mm_F × Int32} {a j : Nat} {φ : mm_F} {x : Int32} {v : mm_V} (ha : lx_is a) (hj : j < 10) : mm_sa (lx_L h0 (lx_pu P a (φ, x))) (a + 1) j (lx_pk v) = lx_L h0 (lx_pu P a ((φ.1, φ.2.1, φ.2.2.1, lk_up φ.2.2.2 j v), x)) := by
  rw [lxw_s ha hj, lx_pu_u, lx_pu_t]
theorem l_be_78 {ro : mm_Ro} {d q m nC nF nM : Nat} {qm : Nat → Nat} {h0 : mm_H} {P : Nat → mm_F × Int32} {Q : Value → mm_H → Prop} (I : mm_SH h0) (W : lx_W ro h0 nC nF nM qm) (hm : m < nM) (hq : mm_r h0 133 9 = q) (M : lx_MO h0 q m) (hQ : ∀ g, (∀ v, v < 6 → g v = lk_s0 h0 m v) → lx_gv nC g → Q .null (lx_L h0 (lx_pu P 16 ((0, -1, 0, g), 1)))) : ∀ (n p : Nat) (g : Nat → mm_V) (v3 : Value), p + n = lk_np h0 m → (∀ v, v < 6 → g v = lk_sp h0 m p v) → lx_gv nC g → mm_go ro (d + 2) mm_m_Lo_begin 78 [.ref 9, .ref 16, .int (nI p), v3] [] (lx_L h0 (lx_pu P 16 ((0, -1, 0, g), 1))) Q := by
  intro n
  obtain ⟨K, ⟨hC, h6⟩, MS, FD, SC, SV, AS, U, Z, MVs⟩ := W
  have MV := MVs m hm
  have h3 := MV.2.2.2.1
  have h1 := lk_of1 (h := h0) (m := m)
  have h10 := MS.1
  have is16 : lx_is 16 := lx_ii (i := 0) (by omega)
  induction n with
  | zero =>
    intro p g v3 hp hg gv
    have J : mm_SH (lx_L h0 (lx_pu P 16 ((0, -1, 0, g), 1))) := I
    have ML := lx_MO_L (P := lx_pu P 16 ((0, -1, 0, g), 1)) M
    refine mm_go_from (mm_hM n_Lo_begin rfl) (And.intro (k_9 J) (mm_rf (show mm_r (lx_L h0 (lx_pu P 16 ((0, -1, 0, g), 1))) 133 9 = q from hq) (And.intro ML.2.1.1.1 (mm_rf (b := nI (lk_np h0 m)) (ML.2.2.1.2.2.2.1.trans MV.2.2.1) (And.intro (fun c_86 => mm_go_from (mm_hM n_Lo_begin rfl) ?_) (fun c_86 => ?_))))))
    · exact hQ g (fun v hv => by rw [hg v hv, show p = lk_np h0 m by omega]; rfl) gv
    · have z : ¬ (nI (lk_np h0 m)).toInt ≤ (nI p).toInt := c_86
      rw [mm_nt (by omega), mm_nt (by omega)] at z
      omega
  | succ n ih =>
    intro p g v3 hp hg gv
    have J : mm_SH (lx_L h0 (lx_pu P 16 ((0, -1, 0, g), 1))) := I
    have ML := lx_MO_L (P := lx_pu P 16 ((0, -1, 0, g), 1)) M
    obtain ⟨a1, a2, a3, a4⟩ := lx_fs J is16
    have hp3 : p < 3 := by omega
    have PL : lx_PL (lx_L h0 (lx_pu P 16 ((0, -1, 0, g), 1))) (mm_q h0 (q + 1) p) (mm_a h0 93 (4 * m + p)) (mm_a h0 96 (4 * m + p)) (mm_a h0 94 (4 * m + p)) := lx_PL_L (M.2.2.2.1 p hp3 (by rw [MV.2.2.1, mm_nt (by omega)]; omega))
    obtain ⟨s1, s2, s3⟩ := SV.2 (4 * m + p) (by have := MV.1; omega)
    have ns : ¬ (mm_a h0 93 (4 * m + p)).toInt = -2 := lk_nn (n := -2) (MV.2.2.2.2.2 p (by omega)) (by decide)
    have sc := (SC.2 m hm).2.2 p (by omega)
    have hB : 0 ≤ (nI p).toInt ∧ (nI p).toInt < ((3 : Nat) : Int) := mm_nb hp3 (by omega)
    have hc : (nI p).toNatClampNeg = p := mm_ncl (by omega)
    have hBv : 0 ≤ (nI (lk_of h0 m) + nI p).toInt ∧ (nI (lk_of h0 m) + nI p).toInt < ((10 : Nat) : Int) := by rw [nI_add]; exact mm_nb (by omega) (by omega)
    have hcv : (nI (lk_of h0 m) + nI p).toNatClampNeg = lk_of h0 m + p := by rw [nI_add]; exact mm_ncl (by omega)
    have b01 : (if 0 ≤ (mm_a h0 93 (4 * m + p)).toInt then mm_a h0 96 (4 * m + p) else 0) = 0 ∨ (if 0 ≤ (mm_a h0 93 (4 * m + p)).toInt then mm_a h0 96 (4 * m + p) else 0) = 1 := by
      split
      · exact s2
      · exact Or.inl rfl
    have es : lk_sv (mm_a h0 93 (4 * m + p)) (if 0 ≤ (mm_a h0 93 (4 * m + p)).toInt then mm_a h0 96 (4 * m + p) else 0) (mm_a h0 94 (4 * m + p)) = lk_sv (mm_a h0 93 (4 * m + p)) (mm_a h0 96 (4 * m + p)) (mm_a h0 94 (4 * m + p)) := lx_sv_eq (fun y => if_pos (by
      have : ¬ (mm_a h0 93 (4 * m + p)).toInt = -1 := lk_nn (n := -1) y (by decide)
      omega))
    have nx := ih (p + 1) _ (.ref (mm_q h0 (q + 1) p)) (by omega) (lk_sp_up hg) (lx_gv_up gv (lx_sv_vr hC (by omega) sc s2 s3))
    rw [nI_succ] at nx
    refine mm_go_from (mm_hM n_Lo_begin rfl) (And.intro (k_9 J) (mm_rf (show mm_r (lx_L h0 (lx_pu P 16 ((0, -1, 0, g), 1))) 133 9 = q from hq) (And.intro ML.2.1.1.1 (mm_rf (b := nI (lk_np h0 m)) (ML.2.2.1.2.2.2.1.trans MV.2.2.1) (And.intro (fun c_86 => ?_) (fun c_86 => ?_))))))
    · have z : (nI (lk_np h0 m)).toInt ≤ (nI p).toInt := c_86
      rw [mm_nt (by omega), mm_nt (by omega)] at z
      omega
    · refine And.intro (k_9 J) (mm_rf (show mm_r (lx_L h0 (lx_pu P 16 ((0, -1, 0, g), 1))) 133 9 = q from hq) (And.intro ML.2.1.1.1 (mm_rf ML.2.1.1.2.1 (And.intro ⟨⟨by rw [ML.2.1.1.2.2.1]; decide, by rw [ML.2.1.1.2.2.1]; decide⟩, mm_inb 3 ML.2.1.1.2.2.2 hB⟩ (mm_rf (b := mm_q h0 (q + 1) p) (by rw [hc]; rfl) (And.intro a1 (mm_rf a4 (And.intro (k_9 J) (mm_rf (show mm_r (lx_L h0 (lx_pu P 16 ((0, -1, 0, g), 1))) 133 9 = q from hq) (And.intro ⟨rfl, ML.2.1.1.1⟩ (c_Me_firstParam ML (And.intro PL.2.1 (mm_rf PL.2.2.2.1 (And.intro ⟨rfl, trivial⟩ (c_Va_ofPlace PL (by omega) b01 s3 (And.intro ⟨a2, mm_inb 10 a3 hBv⟩ ?_))))))))))))))))
      have e1 : (nI (lk_of (lx_L h0 (lx_pu P 16 ((0, -1, 0, g), 1))) m) + nI p).toNatClampNeg = lk_of h0 m + p := hcv
      rw [e1, lxw_s2 is16 (by omega), es]
      exact nx
theorem l_be_22 {ro : mm_Ro} {d q m nC nF nM : Nat} {qm : Nat → Nat} {h0 : mm_H} {P : Nat → mm_F × Int32} {Q : Value → mm_H → Prop} (I : mm_SH h0) (W : lx_W ro h0 nC nF nM qm) (hm : m < nM) (hq : mm_r h0 133 9 = q) (M : lx_MO h0 q m) (hQ : ∀ g, (∀ v, v < 6 → g v = lk_s0 h0 m v) → lx_gv nC g → Q .null (lx_L h0 (lx_pu P 16 ((0, -1, 0, g), 1)))) : ∀ (n v : Nat) (g : Nat → mm_V), v + n = 6 → (∀ j, j < v → g j = (0, -1, 0, 0, -1)) → lx_gv nC g → mm_go ro (d + 2) mm_m_Lo_begin 22 [.ref 9, .ref 16, .int (nI v), .null] [] (lx_L h0 (lx_pu P 16 ((0, -1, 0, g), 1))) Q := by
  intro n
  have W' := W
  obtain ⟨K, ⟨hC, h6⟩, MS, FD, SC, SV, AS, U, Z, MVs⟩ := W'
  have MV := MVs m hm
  have is16 : lx_is 16 := lx_ii (i := 0) (by omega)
  have t6 : ((Int8.ofInt 6).toInt32).toInt = 6 := by decide
  have va : lx_vr nC (0, -1, 0, 0, -1) := ⟨by unfold mm_vr; decide, by show (-1 : Int32).toInt < _; rw [show (-1 : Int32).toInt = -1 by decide]; omega⟩
  induction n with
  | zero =>
    intro v g hv hg gv
    have J : mm_SH (lx_L h0 (lx_pu P 16 ((0, -1, 0, g), 1))) := I
    have ML := lx_MO_L (P := lx_pu P 16 ((0, -1, 0, g), 1)) M
    obtain ⟨a1, a2, a3, a4⟩ := lx_fs J is16
    refine mm_go_at 47 (mm_hM n_Lo_begin rfl) (And.intro (fun c_25 => mm_go_at 78 (mm_hM n_Lo_begin rfl) ?_) (fun c_25 => ?_))
    · refine And.intro (k_9 J) (mm_rf (show mm_r (lx_L h0 (lx_pu P 16 ((0, -1, 0, g), 1))) 133 9 = q from hq) (And.intro ML.2.1.1.1 (mm_rf (b := mm_a h0 95 m) ML.2.2.1.2.2.1 (And.intro (fun c_54 => mm_go_at 78 (mm_hM n_Lo_begin rfl) ?_) (fun c_54 => ?_)))))
      · have z : ¬ mm_a h0 95 m = 0 := c_54
        refine l_be_78 I W hm hq M hQ (lk_np h0 m) 0 g .null (by omega) (fun v hv => ?_) gv
        rw [hg v (by omega)]
        exact ((if_neg (fun y => z y.2)).trans (if_neg (fun y => by have := y.2; have := y.1; omega))).symm
      · have z : mm_a h0 95 m = 0 := mm_no c_54
        have oc := (SC.2 m hm).2.1
        have orr := MV.2.1
        obtain ⟨c, hc, ec⟩ := mm_of (N := nC) (x := mm_a h0 87 m) (by omega)
        have vo : lx_vr nC (3, mm_a h0 87 m, 0, 0, -1) := by
          rw [ec]
          exact lx_vc hc h6 (Or.inl rfl) (Or.inl rfl) (by decide)
        refine And.intro a1 (mm_rf a4 (And.intro (k_9 J) (mm_rf (show mm_r (lx_L h0 (lx_pu P 16 ((0, -1, 0, g), 1))) 133 9 = q from hq) (And.intro ML.2.1.1.1 (mm_rf (b := mm_a h0 87 m) ML.2.2.1.1 (And.intro ⟨rfl, trivial⟩ (c_Va_of vo.1 (And.intro ⟨a2, mm_inb 10 a3 (by decide)⟩ ?_))))))))
        have e0 : mm_sa (lx_L h0 (lx_pu P 16 ((0, -1, 0, g), 1))) (16 + 1) (Int32.ofInt 0).toNatClampNeg (lx_pk (3, mm_a h0 87 m, 0, 0, -1)) = lx_L h0 (lx_pu P 16 ((0, -1, 0, lk_up g 0 (3, mm_a h0 87 m, 0, 0, -1)), 1)) := lxw_s2 (j := 0) is16 (by omega)
        rw [show mm_sa (lx_L h0 (lx_pu P 16 ((0, -1, 0, g), 1))) (16 + 1) (Int32.ofInt 0).toNatClampNeg (lx_pk (Int32.ofInt 3, mm_a h0 87 m, Int32.ofInt 0, Int32.ofInt 0, -1)) = _ from e0]
        refine l_be_78 I W hm hq M hQ (lk_np h0 m) 0 _ .null (by omega) (fun v hv => ?_) (lx_gv_up gv vo)
        by_cases y : v = 0
        · rw [y, lk_up_t]
          exact (if_pos ⟨rfl, z⟩).symm
        · rw [lk_up_f y, hg v (by omega)]
          exact ((if_neg (fun x => y x.1)).trans (if_neg (fun x => by have := x.2; have := x.1; omega))).symm
    · have z : ¬ ((Int8.ofInt 6).toInt32).toInt ≤ (nI v).toInt := c_25
      rw [t6, mm_nt (by omega)] at z
      omega
  | succ n ih =>
    intro v g hv hg gv
    have J : mm_SH (lx_L h0 (lx_pu P 16 ((0, -1, 0, g), 1))) := I
    obtain ⟨a1, a2, a3, a4⟩ := lx_fs J is16
    have hB : 0 ≤ (nI v).toInt ∧ (nI v).toInt < ((10 : Nat) : Int) := mm_nb (by omega) (by omega)
    have hc : (nI v).toNatClampNeg = v := mm_ncl (by omega)
    have nx := ih (v + 1) (lk_up g v (0, -1, 0, 0, -1)) (by omega) (fun j hj => by
      by_cases z : j = v
      · rw [z, lk_up_t]
      · rw [lk_up_f z]; exact hg j (by omega)) (lx_gv_up gv va)
    rw [nI_succ] at nx
    refine mm_go_from (mm_hM n_Lo_begin rfl) (And.intro (fun c_25 => ?_) (fun c_25 => ?_))
    · have z : ((Int8.ofInt 6).toInt32).toInt ≤ (nI v).toInt := c_25
      rw [t6, mm_nt (by omega)] at z
      omega
    · refine And.intro a1 (mm_rf a4 (And.intro ⟨rfl, trivial⟩ (c_Va_of va.1 (And.intro ⟨a2, mm_inb 10 a3 hB⟩ ?_))))
      rw [hc, lxw_s2 is16 (by omega)]
      exact nx
theorem c_Lo_begin {ro : mm_Ro} {d q m nC nF nM : Nat} {qm : Nat → Nat} {h0 : mm_H} {P : Nat → mm_F × Int32} {Q : Value → mm_H → Prop} (I : mm_SH h0) (W : lx_W ro h0 nC nF nM qm) (hm : m < nM) (hq : mm_r h0 133 9 = q) (M : lx_MO h0 q m) (gv : lx_gv nC (P 16).1.2.2.2) (hQ : ∀ g, (∀ v, v < 6 → g v = lk_s0 h0 m v) → lx_gv nC g → Q .null (lx_L h0 (lx_pu P 16 ((0, -1, 0, g), 1)))) : mm_ev ro (d + 3) n_Lo_begin [.ref 9, .ref 16] (lx_L h0 P) Q := by
  have is16 : lx_is 16 := lx_ii (i := 0) (by omega)
  have J : mm_SH (lx_L h0 P) := I
  obtain ⟨a1, a2, a3, a4⟩ := lx_fs J is16
  refine mm_ev_at 22 (Z := mm_m_Lo_begin) rfl rfl (Nat.le_of_ble_eq_true rfl) rfl ?_
  refine And.intro a1 ?_
  rw [(lxw_i is16 _).1]
  refine And.intro a1 ?_
  rw [(lxw_si2 is16).2.1]
  refine And.intro a1 ?_
  rw [(lxw_si2 is16).2.2.1]
  refine And.intro a1 (And.intro (Or.inr rfl) ?_)
  rw [(lxw_si2 is16).2.2.2]
  exact l_be_22 I W hm hq M hQ 6 0 (P 16).1.2.2.2 (by omega) (fun j hj => by omega) gv
