/-! THE CLASS: what goes out of an instruction (out is 11) -/
theorem lx_11 : lx_is 11 := Or.inl rfl
theorem lx_13 : lx_is 13 := Or.inr (Or.inl rfl)
theorem o_push {ro : mm_Ro} {d a j : Nat} {h0 : mm_H} {P : Nat → mm_F × Int32} {c : mm_F} {x : Int32} {v : mm_V} {Q : Value → mm_H → Prop} (I : mm_SH h0) (ha : lx_is a) (hj : 6 + c.1 = nI j) (hj10 : j < 10) (hQ : Q .null (lx_L h0 (lx_pu P a ((c.1 + 1, c.2.1, c.2.2.1, lk_up c.2.2.2 j v), x)))) : mm_ev ro (d + 1) n_Fr_push [.ref a, .int (lx_pk v)] (lx_L h0 (lx_pu P a (c, x))) Q := by
  refine c_Fr_push I ha (by rw [lx_pu_t]; exact hj) hj10 ?_
  rw [lx_pu_u, lx_pu_t]
  exact hQ
theorem o_pop {ro : mm_Ro} {d a j : Nat} {h0 : mm_H} {P : Nat → mm_F × Int32} {c : mm_F} {x : Int32} {Q : Value → mm_H → Prop} (I : mm_SH h0) (ha : lx_is a) (hj : 6 + (c.1 - 1) = nI j) (hj10 : j < 10) (hQ : Q (.int (lx_pk (c.2.2.2 j))) (lx_L h0 (lx_pu P a ((c.1 - 1, c.2), x)))) : mm_ev ro (d + 1) n_Fr_pop [.ref a] (lx_L h0 (lx_pu P a (c, x))) Q := by
  refine c_Fr_pop I ha (by rw [lx_pu_t]; exact hj) hj10 ?_
  rw [lx_pu_u, lx_pu_t]
  exact hQ
theorem o_under {ro : mm_Ro} {d a j : Nat} {h0 : mm_H} {P : Nat → mm_F × Int32} {c : mm_F} {x k : Int32} {Q : Value → mm_H → Prop} (I : mm_SH h0) (ha : lx_is a) (hj : 6 + c.1 - 1 - k = nI j) (hj10 : j < 10) (hQ : Q (.int (lx_pk (c.2.2.2 j))) (lx_L h0 (lx_pu P a (c, x)))) : mm_ev ro (d + 1) n_Fr_under [.ref a, .int k] (lx_L h0 (lx_pu P a (c, x))) Q := by
  refine c_Fr_under I ha (by rw [lx_pu_t]; exact hj) hj10 ?_
  rw [lx_pu_t]
  exact hQ
theorem o_store {ro : mm_Ro} {d a l H nC : Nat} {h0 : mm_H} {P : Nat → mm_F × Int32} {s f x : Int32} {g : Nat → mm_V} {Q : Value → mm_H → Prop} (I : mm_SH h0) (ha : lx_is a) (hl : l < 6) (hH1 : 1 ≤ H) (hH : H ≤ 4) (hg : lx_gv nC g) (hQ : ∀ g', (∀ v, v < 5 + H → g' v = lk_st g l (g (5 + H)) v) → lx_gv nC g' → Q .null (lx_L h0 (lx_pu P a ((nI (H - 1), s, f, g'), x)))) : mm_ev ro (d + 2) n_Fr_store [.ref a, .int (nI l)] (lx_L h0 (lx_pu P a ((nI H, s, f, g), x))) Q := by
  refine c_Fr_store (H := H) (nC := nC) I ha hl (by rw [lx_pu_t]) hH1 hH (by rw [lx_pu_t]; exact hg) (fun g' h1 h2 => ?_)
  rw [lx_pu_t] at h1
  rw [lx_pu_u, lx_pu_t]
  exact hQ g' h1 h2
theorem o_leave {ro : mm_Ro} {d a H nC : Nat} {h0 : mm_H} {P : Nat → mm_F × Int32} {s f x b k ns : Int32} {g : Nat → mm_V} {Q : Value → mm_H → Prop} (I : mm_SH h0) (ha : lx_is a) (hH : H ≤ 4) (hC : 0 < nC) (hk : (b = 0 ∧ k = 0) ∨ (¬ b = 0 ∧ k = 3)) (hg : lx_gv nC g) (hQ : lx_gv nC (lk_pre (fun v => lk_sk k (g v)) g (6 + H)) → Q .null (lx_L h0 (lx_pu P a ((nI H, ns, 0, lk_pre (fun v => lk_sk k (g v)) g (6 + H)), x)))) : mm_ev ro (d + 2) n_Fr_leaveSite [.ref a, .int b, .int ns] (lx_L h0 (lx_pu P a ((nI H, s, f, g), x))) Q := by
  refine c_Fr_leaveSite (H := H) (nC := nC) (k := k) I ha (by rw [lx_pu_t]) hH hC hk (by rw [lx_pu_t]; exact hg) (fun h1 => ?_)
  rw [lx_pu_t] at h1
  rw [lx_pu_u, lx_pu_t]
  exact hQ h1
/-- H numbers -/
theorem lx_u0 {H : Nat} (h : 1 ≤ H) : 6 + nI H - 1 - Int32.ofInt 0 = nI (5 + H) := by
  have e : (6 : Int32) + nI H = nI (6 + H) := lk_6
  rw [e, lx_1 (by omega)]
  have e2 : nI (6 + H - 1) - Int32.ofInt 0 = nI (6 + H - 1 - 0) := lk_nsub (b := 0) (by omega)
  rw [e2]
  congr 1
  omega
theorem lx_p1 {H : Nat} (h : 1 ≤ H) : 6 + (nI H - 1) = nI (5 + H) := by
  have e : (6 : Int32) + nI (H - 1) = nI (6 + (H - 1)) := lk_6
  rw [lx_1 h, e]
  congr 1
  omega
theorem lx_v1 {nC : Nat} (hC : 0 < nC) : lx_vr nC (1, -1, 0, 0, -1) := ⟨lk_c1, by show (-1 : Int32).toInt < _; rw [show (-1 : Int32).toInt = -1 by decide]; omega⟩
theorem lx_v2 {nC : Nat} (hC : 0 < nC) : lx_vr nC (2, -1, 1, 0, -1) := ⟨lk_c2, by show (-1 : Int32).toInt < _; rw [show (-1 : Int32).toInt = -1 by decide]; omega⟩
theorem lx_v3 {nC : Nat} (hC : 0 < nC) : lx_vr nC (3, 0, 0, 0, -1) := ⟨lk_c3, by show (0 : Int32).toInt < _; rw [show (0 : Int32).toInt = 0 by decide]; omega⟩
theorem lx_vw {nC : Nat} {w : Int32} (hC : 0 < nC) (hw : 0 ≤ w.toInt ∧ w.toInt ≤ 15) : lx_vr nC (1, -1, 0, w, -1) := ⟨⟨(by decide : 0 ≤ (1 : Int32).toInt ∧ (1 : Int32).toInt ≤ 4), fun _ => rfl, fun q => absurd q (by decide : ¬ 3 ≤ (1 : Int32).toInt), Or.inl rfl, hw, (by decide : -1 ≤ (-1 : Int32).toInt ∧ (-1 : Int32).toInt ≤ 5)⟩, by show (-1 : Int32).toInt < _; rw [show (-1 : Int32).toInt = -1 by decide]; omega⟩
theorem lx_vc {nC a : Nat} {k n w : Int32} (ha : a < nC) (h6 : nC ≤ 6) (hk : k = 3 ∨ k = 4) (hn : n = 0 ∨ n = 1) (hw : 0 ≤ w.toInt ∧ w.toInt ≤ 15) : lx_vr nC (k, nI a, n, w, -1) := by
  have ta : (nI a).toInt = (a : Int) := mm_nt (by omega)
  refine ⟨⟨?_, ?_, fun _ => ?_, hn, hw, (by decide : -1 ≤ (-1 : Int32).toInt ∧ (-1 : Int32).toInt ≤ 5)⟩, ?_⟩
  · show 0 ≤ k.toInt ∧ k.toInt ≤ 4
    rcases hk with z | z <;> rw [z] <;> decide
  · show k.toInt < 3 → _
    rcases hk with z | z <;> rw [z] <;> exact fun y => absurd y (by decide)
  · show 0 ≤ (nI a).toInt ∧ (nI a).toInt ≤ 5
    omega
  · show (nI a).toInt < _
    omega
theorem c_Lo_applyToValues {ro : mm_Ro} {d m i H nC o : Nat} {h0 : mm_H} {P : Nat → mm_F × Int32} {s f x y : Int32} {g : Nat → mm_V} {Q : Value → mm_H → Prop} (I : mm_SH h0) (h6 : nC ≤ 6) (hC : 0 < nC) (ho : o < 9) (hi : i < 20) (ea : (o = 2 ∨ o = 3 ∨ o = 7) → y = nI (lk_a h0 m i)) (ha2 : (o = 2 ∨ o = 3) → lk_a h0 m i < 6) (ha7 : o = 7 → lk_a h0 m i < nC) (hH : H ≤ 4) (hpo : lk_po h0 m o (lk_a h0 m i) ≤ H) (hpu : H - lk_po h0 m o (lk_a h0 m i) + lk_pu h0 o (lk_a h0 m i) ≤ 4) (hg : lx_gv nC g) (hQ : ∀ c, mm_feq (lk_ef h0 m i H (lk_a h0 m i) s f g o) c → lx_gv nC c.2.2.2 → Q .null (lx_L h0 (lx_pu P 11 (c, x)))) : mm_ev ro (d + 3) n_Lo_applyToValues [.ref 9, .int (nI i), .int (nI o), .int y] (lx_L h0 (lx_pu P 11 ((nI H, s, f, g), x))) Q := by
  have J : ∀ c : mm_F, mm_SH (lx_L h0 (lx_pu P 11 (c, x))) := fun _ => I
  have J0 : mm_SH (lx_L h0 (lx_pu P 11 ((nI H, s, f, g), x))) := I
  obtain ⟨a1, a2, a3, a4⟩ := lx_fs J0 lx_11
  have e6 : ∀ K : Nat, (6 : Int32) + nI K = nI (6 + K) := fun K => lk_6
  have F : ∀ c, c = lk_ef h0 m i H (lk_a h0 m i) s f g o → lx_gv nC c.2.2.2 → Q .null (lx_L h0 (lx_pu P 11 (c, x))) := fun c ec b => hQ c (by rw [ec]; exact mm_feq_refl) b
  have t1 : ∀ (r : mm_V) (j K : Nat), ((nI K + 1, s, f, lk_up g j r) : mm_F) = (nI (K + 1), s, f, lk_up g j r) := fun r j K => by rw [nI_succ]
  have oc : o = 0 ∨ o = 1 ∨ o = 2 ∨ o = 3 ∨ o = 4 ∨ o = 5 ∨ o = 6 ∨ o = 7 ∨ o = 8 := by omega
  refine mm_ev_in (Z := mm_m_Lo_applyToValues) rfl rfl (Nat.le_of_ble_eq_true rfl) rfl ?_
  rcases oc with rfl | rfl | rfl | rfl | rfl | rfl | rfl | rfl | rfl
  case _ =>
    have p1 : lk_pu h0 0 (lk_a h0 m i) = 1 := rfl
    have p0 : lk_po h0 m 0 (lk_a h0 m i) = 0 := rfl
    rw [p1, p0] at hpu
    refine And.intro (fun c => absurd c (by decide)) (And.intro (Nat.le_of_ble_eq_true rfl) ⟨fun _ => mm_go_from (mm_hM n_Lo_applyToValues rfl) ?_, fun c => absurd c (by decide), fun c => absurd c (by decide), fun c => absurd c (by decide), fun c => absurd c (by decide), fun c => absurd c (by decide), fun c => absurd c (by decide), fun c => absurd c (by decide), trivial⟩)
    exact And.intro (k_9 J0) (mm_rf (r_131 J0) (And.intro ⟨rfl, trivial⟩ (c_Va_of lk_c1 (And.intro ⟨rfl, a1⟩ (o_push I lx_11 (e6 H) (by omega) (mm_go_from (mm_hM n_Lo_applyToValues rfl) (F _ (t1 _ _ _) (lx_gv_up hg (lx_v1 hC)))))))))
  case _ =>
    have p1 : lk_pu h0 1 (lk_a h0 m i) = 1 := rfl
    have p0 : lk_po h0 m 1 (lk_a h0 m i) = 0 := rfl
    rw [p1, p0] at hpu
    refine And.intro (fun c => absurd c (by decide)) (And.intro (Nat.le_of_ble_eq_true rfl) ⟨fun c => absurd c (by decide), fun _ => mm_go_from (mm_hM n_Lo_applyToValues rfl) ?_, fun c => absurd c (by decide), fun c => absurd c (by decide), fun c => absurd c (by decide), fun c => absurd c (by decide), fun c => absurd c (by decide), fun c => absurd c (by decide), trivial⟩)
    exact And.intro (k_9 J0) (mm_rf (r_131 J0) (And.intro ⟨rfl, trivial⟩ (c_Va_of lk_c2 (And.intro ⟨rfl, a1⟩ (o_push I lx_11 (e6 H) (by omega) (mm_go_from (mm_hM n_Lo_applyToValues rfl) (F _ (t1 _ _ _) (lx_gv_up hg (lx_v2 hC)))))))))
  case _ =>
    have p1 : lk_pu h0 2 (lk_a h0 m i) = 1 := rfl
    have p0 : lk_po h0 m 2 (lk_a h0 m i) = 0 := rfl
    rw [p1, p0] at hpu
    have ey := ea (Or.inl rfl)
    have a6 := ha2 (Or.inl rfl)
    have hB : 0 ≤ (nI (lk_a h0 m i)).toInt ∧ (nI (lk_a h0 m i)).toInt < ((10 : Nat) : Int) := mm_nb (by omega) (by omega)
    have hc : (nI (lk_a h0 m i)).toNatClampNeg = lk_a h0 m i := mm_ncl (by omega)
    have ra : -1 ≤ (nI (lk_a h0 m i)).toInt ∧ (nI (lk_a h0 m i)).toInt ≤ 5 := by rw [mm_nt (by omega)]; omega
    have vg := hg (lk_a h0 m i) (by omega)
    rw [ey]
    refine And.intro (fun c => absurd c (by decide)) (And.intro (Nat.le_of_ble_eq_true rfl) ⟨fun c => absurd c (by decide), fun c => absurd c (by decide), fun _ => mm_go_from (mm_hM n_Lo_applyToValues rfl) ?_, fun c => absurd c (by decide), fun c => absurd c (by decide), fun c => absurd c (by decide), fun c => absurd c (by decide), fun c => absurd c (by decide), trivial⟩)
    exact And.intro (k_9 J0) (mm_rf (r_131 J0) (And.intro (k_9 J0) (mm_rf (r_131 J0) (And.intro a1 (mm_rf a4 (And.intro ⟨a2, mm_inb 10 a3 hB⟩ (mm_rf (b := lx_pk (g (lk_a h0 m i))) (by rw [hc, lx_a lx_11 (by omega), lx_pu_t]) (And.intro ⟨rfl, trivial⟩ (c_Va_withOrigin vg.1 ra (And.intro ⟨rfl, a1⟩ (o_push I lx_11 (e6 H) (by omega) (mm_go_from (mm_hM n_Lo_applyToValues rfl) (F _ (t1 _ _ _) (lx_gv_up hg (lx_wo_vr vg ra)))))))))))))))
  case _ =>
    have p0 : lk_po h0 m 3 (lk_a h0 m i) = 1 := rfl
    rw [p0] at hpo
    have ey := ea (Or.inr (Or.inl rfl))
    have a6 := ha2 (Or.inr rfl)
    rw [ey]
    refine And.intro (fun c => absurd c (by decide)) (And.intro (Nat.le_of_ble_eq_true rfl) ⟨fun c => absurd c (by decide), fun c => absurd c (by decide), fun c => absurd c (by decide), fun _ => mm_go_from (mm_hM n_Lo_applyToValues rfl) ?_, fun c => absurd c (by decide), fun c => absurd c (by decide), fun c => absurd c (by decide), fun c => absurd c (by decide), trivial⟩)
    refine And.intro (k_9 J0) (mm_rf (r_131 J0) (And.intro ⟨rfl, a1⟩ (o_store (nC := nC) I lx_11 a6 hpo hH hg (fun g' h1 h2 => mm_go_from (mm_hM n_Lo_applyToValues rfl) (hQ _ ⟨rfl, fun _ => ⟨rfl, rfl, fun v hv => ?_⟩⟩ h2)))))
    have hv' : (v : Int) < 6 + (nI (H - 1)).toInt := hv
    rw [mm_nt (by omega)] at hv'
    exact (h1 v (by omega)).symm
  case _ =>
    have p1 : lk_pu h0 4 (lk_a h0 m i) = 2 := rfl
    have p0 : lk_po h0 m 4 (lk_a h0 m i) = 1 := rfl
    rw [p0] at hpo hpu
    rw [p1] at hpu
    refine And.intro (fun c => absurd c (by decide)) (And.intro (Nat.le_of_ble_eq_true rfl) ⟨fun c => absurd c (by decide), fun c => absurd c (by decide), fun c => absurd c (by decide), fun c => absurd c (by decide), fun _ => mm_go_from (mm_hM n_Lo_applyToValues rfl) ?_, fun c => absurd c (by decide), fun c => absurd c (by decide), fun c => absurd c (by decide), trivial⟩)
    exact And.intro (k_9 J0) (mm_rf (r_131 J0) (And.intro (k_9 J0) (mm_rf (r_131 J0) (And.intro ⟨rfl, a1⟩ (o_under I lx_11 (lx_u0 hpo) (by omega) (And.intro ⟨rfl, a1⟩ (o_push I lx_11 (e6 H) (by omega) (mm_go_from (mm_hM n_Lo_applyToValues rfl) (F _ (t1 _ _ _) (lx_gv_up hg (hg _ (by omega))))))))))))
  case _ =>
    have p0 : lk_po h0 m 5 (lk_a h0 m i) = 1 := rfl
    rw [p0] at hpo
    refine And.intro (fun c => absurd c (by decide)) (And.intro (Nat.le_of_ble_eq_true rfl) ⟨fun c => absurd c (by decide), fun c => absurd c (by decide), fun c => absurd c (by decide), fun c => absurd c (by decide), fun c => absurd c (by decide), fun _ => mm_go_from (mm_hM n_Lo_applyToValues rfl) ?_, fun c => absurd c (by decide), fun c => absurd c (by decide), trivial⟩)
    exact And.intro (k_9 J0) (mm_rf (r_131 J0) (And.intro ⟨rfl, a1⟩ (o_pop I lx_11 (lx_p1 hpo) (by omega) (mm_go_from (mm_hM n_Lo_applyToValues rfl) (F _ (by show ((nI H - 1, s, f, g) : mm_F) = (nI (H - 1), s, f, g); rw [lx_1 hpo]) hg)))))
  case _ =>
    have p0 : lk_po h0 m 6 (lk_a h0 m i) = 2 := rfl
    rw [p0] at hpo
    have v5 := hg (5 + H) (by omega)
    have v4 := hg (4 + H) (by omega)
    have vw := lx_vw (nC := nC) hC (mm_or15 v5.1.2.2.2.2.1 v4.1.2.2.2.2.1)
    have q4 : 6 + (nI H - 1 - 1) = nI (4 + H) := by
      rw [lx_1 (by omega), lx_1 (by omega), e6]
      congr 1
      omega
    refine And.intro (fun c => absurd c (by decide)) (And.intro (Nat.le_of_ble_eq_true rfl) ⟨fun c => absurd c (by decide), fun c => absurd c (by decide), fun c => absurd c (by decide), fun c => absurd c (by decide), fun c => absurd c (by decide), fun c => absurd c (by decide), fun _ => mm_go_from (mm_hM n_Lo_applyToValues rfl) ?_, fun c => absurd c (by decide), trivial⟩)
    refine And.intro (k_9 J0) (mm_rf (r_131 J0) (And.intro (k_9 J0) (mm_rf (r_131 J0) (And.intro ⟨rfl, a1⟩ (o_pop I lx_11 (lx_p1 (by omega)) (by omega) (And.intro ⟨rfl, trivial⟩ (c_Va_marks v5.1 (And.intro (k_9 J0) (mm_rf (r_131 J0) (And.intro ⟨rfl, a1⟩ (o_pop I lx_11 q4 (by omega) (And.intro ⟨rfl, trivial⟩ (c_Va_marks v4.1 (And.intro ⟨rfl, trivial⟩ (c_Va_of vw.1 (And.intro ⟨rfl, a1⟩ (o_push I lx_11 q4 (by omega) (mm_go_from (mm_hM n_Lo_applyToValues rfl) (F _ ?_ (lx_gv_up hg vw))))))))))))))))))))
    show ((nI H - 1 - 1 + 1, s, f, lk_up g (4 + H) (1, -1, 0, (g (5 + H)).2.2.2.1 ||| (g (4 + H)).2.2.2.1, -1)) : mm_F) = (nI (H - 1), s, f, lk_up g (4 + H) (1, -1, 0, (g (4 + H)).2.2.2.1 ||| (g (5 + H)).2.2.2.1, -1))
    rw [lx_1 (by omega), lx_1 (by omega), Int32.or_comm, ← nI_succ, show H - 1 - 1 + 1 = H - 1 by omega]
  case _ =>
    have p1 : lk_pu h0 7 (lk_a h0 m i) = 1 := rfl
    have p0 : lk_po h0 m 7 (lk_a h0 m i) = 0 := rfl
    rw [p1, p0] at hpu
    have ey := ea (Or.inr (Or.inr rfl))
    have v4 := lx_vc (k := 4) (n := 0) (w := 0) (ha7 rfl) h6 (Or.inr rfl) (Or.inl rfl) (by decide)
    rw [ey]
    refine And.intro (fun c => absurd c (by decide)) (And.intro (Nat.le_of_ble_eq_true rfl) ⟨fun c => absurd c (by decide), fun c => absurd c (by decide), fun c => absurd c (by decide), fun c => absurd c (by decide), fun c => absurd c (by decide), fun c => absurd c (by decide), fun c => absurd c (by decide), fun _ => mm_go_from (mm_hM n_Lo_applyToValues rfl) ?_, trivial⟩)
    refine And.intro (k_9 J0) (mm_rf (r_131 J0) (And.intro ⟨rfl, a1⟩ (o_leave (nC := nC) (k := 0) I lx_11 hH hC (Or.inl ⟨rfl, rfl⟩) hg (fun gv => And.intro (k_9 J0) (mm_rf (r_131 J0) (And.intro ⟨rfl, trivial⟩ (c_Va_of v4.1 (And.intro ⟨rfl, a1⟩ (o_push I lx_11 (e6 H) (by omega) (mm_go_from (mm_hM n_Lo_applyToValues rfl) (hQ _ ?_ (lx_gv_up gv v4))))))))))))
    refine ⟨by rw [← nI_succ]; rfl, fun _ => ⟨rfl, rfl, fun v hv => ?_⟩⟩
    have hv' : (v : Int) < 6 + (nI (H + 1)).toInt := hv
    rw [mm_nt (by omega)] at hv'
    show lk_up (fun v => mm_dr (g v)) (6 + H) _ v = lk_up (lk_pre (fun v => lk_sk 0 (g v)) g (6 + H)) (6 + H) _ v
    by_cases z : v = 6 + H
    · rw [z, lk_up_t, lk_up_t]
      rfl
    · rw [lk_up_f z, lk_up_f z, lk_pre_t (by omega), lk_sk0]
  case _ =>
    have p0 : lk_po h0 m 8 (lk_a h0 m i) = 1 := rfl
    rw [p0] at hpo
    have v5 := hg (5 + H) (by omega)
    have fin : ∀ b k : Int32, (b = 0 ∧ k = 0 ∧ ¬ (g (5 + H)).1 = 4) ∨ (¬ b = 0 ∧ k = 3 ∧ (g (5 + H)).1 = 4) → mm_go ro (d + 2) mm_m_Lo_applyToValues 232 [.ref 9, .int (nI i), .int (nI 8), .int y] [.int b, .ref 11] (lx_L h0 (lx_pu P 11 ((nI H, s, f, g), x))) Q := by
      intro b k hb
      refine mm_go_from (mm_hM n_Lo_applyToValues rfl) (And.intro ⟨rfl, a1⟩ (o_leave (nC := nC) (k := k) I lx_11 hH hC ?_ hg (fun gv => hQ _ ?_ gv)))
      · rcases hb with ⟨z1, z2, _⟩ | ⟨z1, z2, _⟩
        · exact Or.inl ⟨z1, z2⟩
        · exact Or.inr ⟨z1, z2⟩
      · refine ⟨rfl, fun _ => ⟨rfl, rfl, fun v hv => ?_⟩⟩
        have hv' : (v : Int) < 6 + (nI H).toInt := hv
        rw [mm_nt (by omega)] at hv'
        show (if (g (5 + H)).1 = 4 then lk_rf (g v) else mm_dr (g v)) = lk_pre (fun v => lk_sk k (g v)) g (6 + H) v
        rw [lk_pre_t (by omega)]
        rcases hb with ⟨_, z2, z3⟩ | ⟨_, z2, z3⟩
        · rw [if_neg z3, z2, lk_sk0]
        · rw [if_pos z3, z2, lk_sk3]
    refine And.intro (fun _ => mm_go_at 232 (mm_hM n_Lo_applyToValues rfl) ?_) (And.intro (Nat.le_of_ble_eq_true rfl) ⟨fun c => absurd c (by decide), fun c => absurd c (by decide), fun c => absurd c (by decide), fun c => absurd c (by decide), fun c => absurd c (by decide), fun c => absurd c (by decide), fun c => absurd c (by decide), fun c => absurd c (by decide), trivial⟩)
    refine And.intro (k_9 J0) (mm_rf (r_131 J0) (And.intro (k_9 J0) (mm_rf (r_131 J0) (And.intro ⟨rfl, a1⟩ (o_under I lx_11 (lx_u0 hpo) (by omega) (And.intro ⟨rfl, trivial⟩ (c_Va_kind v5.1 (And.intro (fun c_224 => mm_go_at 232 (mm_hM n_Lo_applyToValues rfl) ?_) (fun c_224 => ?_)))))))))
    · exact fin 0 0 (Or.inl ⟨rfl, rfl, c_224⟩)
    · exact fin 1 3 (Or.inr ⟨by decide, rfl, mm_no c_224⟩)
