/-! THE CLASS: applyToStock, beginCatch, arrive -/
/-- all that the class looks at while it looks -/
def lx_W (ro : mm_Ro) (h : mm_H) (nC nF nM : Nat) (qm : Nat → Nat) : Prop := lx_RO ro ∧ (0 < nC ∧ nC ≤ 6) ∧ lx_MS h nM qm ∧ lx_FD h nF ∧ lx_SC h nC nF nM ∧ lk_SV h ∧ lx_AS h nC ∧ mm_upo (mm_up h) ∧ mm_upz (mm_up h) ∧ ∀ m, m < nM → lk_MV h m
theorem c_Lo_applyToStock {ro : mm_Ro} {d m i H nC nF nM o : Nat} {qm : Nat → Nat} {h0 : mm_H} {P : Nat → mm_F × Int32} {s f x y z : Int32} {c13 : mm_F} {g : Nat → mm_V} {Q : Value → mm_H → Prop} (I : mm_SH h0) (W : lx_W ro h0 nC nF nM qm) (ho : 9 ≤ o ∧ o < 18) (ea : (o = 9 ∨ o = 10 ∨ o = 11 ∨ o = 12) → y = nI (lk_a h0 m i)) (ha9 : (o = 9 ∨ o = 10) → lk_a h0 m i < nF) (ha11 : o = 11 → lk_a h0 m i < nM) (ha12 : o = 12 → lk_a h0 m i < nC) (hH : H ≤ 4) (hpo : lk_po h0 m o (lk_a h0 m i) ≤ H) (hpu : H - lk_po h0 m o (lk_a h0 m i) + lk_pu h0 o (lk_a h0 m i) ≤ 4) (hg : lx_gv nC g) (h13 : P 13 = (c13, z)) (hQ : o < 15 → ∀ c, mm_feq (lk_ef h0 m i H (lk_a h0 m i) s f g o) c → lx_gv nC c.2.2.2 → Q .null (lx_L h0 (lx_pu P 11 (c, x)))) (hQ5 : o = 15 → lx_gv nC (lk_is 15 g H lk_n0 (nI (H - 1), s, f, g)).2.2.2 → lx_gv nC (lk_is 15 g H lk_nk (nI (H - 1), s, f, g)).2.2.2 → Q .null (lx_L h0 (lx_pu (lx_pu P 11 (lk_is 15 g H lk_n0 (nI (H - 1), s, f, g), x)) 13 (lk_is 15 g H lk_nk (nI (H - 1), s, f, g), z)))) (hQ6 : 15 < o → Q .null (lx_L h0 (lx_pu P 11 ((nI H, s, f, g), x)))) : mm_ev ro (d + 4) n_Lo_applyToStock [.ref 9, .int (nI o), .int y] (lx_L h0 (lx_pu P 11 ((nI H, s, f, g), x))) Q := by
  obtain ⟨K, ⟨hC, h6⟩, MS, FD, SC, SV, AS, U, Z, MVs⟩ := W
  have J0 : mm_SH (lx_L h0 (lx_pu P 11 ((nI H, s, f, g), x))) := I
  obtain ⟨a1, a2, a3, a4⟩ := lx_fs J0 lx_11
  have F : o < 15 → ∀ c, c = lk_ef h0 m i H (lk_a h0 m i) s f g o → lx_gv nC c.2.2.2 → Q .null (lx_L h0 (lx_pu P 11 (c, x))) := fun h15 c ec b => hQ h15 c (by rw [ec]; exact mm_feq_refl) b
  have e6 : ∀ K : Nat, (6 : Int32) + nI K = nI (6 + K) := fun K => lk_6
  have oc : o = 9 ∨ o = 10 ∨ o = 11 ∨ o = 12 ∨ o = 13 ∨ o = 14 ∨ o = 15 ∨ o = 16 ∨ o = 17 := by omega
  have G := mm_hM n_Lo_applyToStock rfl
  refine mm_ev_in (Z := mm_m_Lo_applyToStock) rfl rfl (Nat.le_of_ble_eq_true rfl) rfl ?_
  rcases oc with rfl | rfl | rfl | rfl | rfl | rfl | rfl | rfl | rfl
  case _ =>
    have p0 : lk_po h0 m 9 (lk_a h0 m i) = 1 := rfl
    rw [p0] at hpo
    have ey := ea (Or.inl rfl)
    have aF := ha9 (Or.inl rfl)
    have a12 : lk_a h0 m i < 12 := by have := FD.1; omega
    obtain ⟨s1, s2, s3⟩ := SV.1 _ a12
    rw [ey]
    refine And.intro (fun c => absurd c (by decide)) (And.intro (Nat.le_of_ble_eq_true rfl) ⟨fun _ => mm_go_from G ?_, fun c => absurd c (by decide), fun c => absurd c (by decide), fun c => absurd c (by decide), fun c => absurd c (by decide), fun c => absurd c (by decide), fun c => absurd c (by decide), trivial⟩)
    exact And.intro ⟨rfl, k_9 J0⟩ (c_Lo_get (nC := nC) (nF := nF) I hC FD aF s1 (SC.1 _ aF) s2 s3 hpo hH hg (fun gv => mm_go_from G (F (by omega) _ rfl gv)))
  case _ =>
    have p0 : lk_po h0 m 10 (lk_a h0 m i) = 2 := rfl
    rw [p0] at hpo
    have ey := ea (Or.inr (Or.inl rfl))
    rw [ey]
    refine And.intro (fun c => absurd c (by decide)) (And.intro (Nat.le_of_ble_eq_true rfl) ⟨fun c => absurd c (by decide), fun _ => mm_go_from G ?_, fun c => absurd c (by decide), fun c => absurd c (by decide), fun c => absurd c (by decide), fun c => absurd c (by decide), fun c => absurd c (by decide), trivial⟩)
    exact And.intro ⟨rfl, k_9 J0⟩ (c_Lo_put (nC := nC) I hpo hH hg (mm_go_from G (F (by omega) _ rfl hg)))
  case _ =>
    have ey := ea (Or.inr (Or.inr (Or.inl rfl)))
    have aM := ha11 rfl
    have n10 := MS.1
    obtain ⟨q1, M⟩ := MS.2 _ aM
    have MV := MVs _ aM
    obtain ⟨s1, s2, s3⟩ := SV.2 (4 * lk_a h0 m i + 3) (by omega)
    have ep : lk_po h0 m 11 (lk_a h0 m i) = lk_np h0 (lk_a h0 m i) + lk_of h0 (lk_a h0 m i) := if_pos rfl
    have eu : ¬ mm_a h0 93 (4 * lk_a h0 m i + 3) = -2 → lk_pu h0 11 (lk_a h0 m i) = 1 := fun w => (if_pos rfl).trans (if_neg w)
    rw [ep] at hpo hpu
    have hBa : 0 ≤ (nI (lk_a h0 m i)).toInt ∧ (nI (lk_a h0 m i)).toInt < ((10 : Nat) : Int) := mm_nb (by omega) (by omega)
    have hca : (nI (lk_a h0 m i)).toNatClampNeg = lk_a h0 m i := mm_ncl (by omega)
    rw [ey]
    refine And.intro (fun c => absurd c (by decide)) (And.intro (Nat.le_of_ble_eq_true rfl) ⟨fun c => absurd c (by decide), fun c => absurd c (by decide), fun _ => mm_go_from G ?_, fun c => absurd c (by decide), fun c => absurd c (by decide), fun c => absurd c (by decide), fun c => absurd c (by decide), trivial⟩)
    refine And.intro (k_9 J0) (mm_rf (r_128 J0) (And.intro (k_2 J0) (mm_rf (r_73 J0) (And.intro ⟨⟨by rw [k_8 J0]; decide, by rw [k_8 J0]; decide⟩, mm_inb 10 (n_8 J0) hBa⟩ (mm_rf (b := qm (lk_a h0 m i)) (by rw [hca]; exact q1) (And.intro ⟨rfl, k_9 J0⟩ (c_Lo_call (nC := nC) I hC M MV s1 (SC.2 _ aM).1 s2 s3 hpo hH (fun w => by have := eu w; omega) hg (fun c ec gv => mm_go_from G (F (by omega) c ?_ gv)))))))))
    rw [ec]
    show _ = (if mm_a h0 93 (4 * lk_a h0 m i + 3) = -2 then ((nI (H - lk_po h0 m 11 (lk_a h0 m i)), s, f, g) : mm_F) else (nI (H - lk_po h0 m 11 (lk_a h0 m i) + 1), s, f, lk_up g (6 + (H - lk_po h0 m 11 (lk_a h0 m i))) _))
    rw [ep]
  case _ =>
    have p0 : lk_po h0 m 12 (lk_a h0 m i) = 1 := rfl
    rw [p0] at hpo
    have ey := ea (Or.inr (Or.inr (Or.inr rfl)))
    have aC := ha12 rfl
    have v5 := hg (5 + H) (by omega)
    have vn := lx_vc (k := 3) aC h6 (Or.inl rfl) v5.1.2.2.2.1 v5.1.2.2.2.2.1
    rw [ey]
    refine And.intro (fun c => absurd c (by decide)) (And.intro (Nat.le_of_ble_eq_true rfl) ⟨fun c => absurd c (by decide), fun c => absurd c (by decide), fun c => absurd c (by decide), fun _ => mm_go_from G ?_, fun c => absurd c (by decide), fun c => absurd c (by decide), fun c => absurd c (by decide), trivial⟩)
    refine And.intro (k_9 J0) (mm_rf (r_131 J0) (And.intro ⟨rfl, a1⟩ (o_pop I lx_11 (lx_p1 hpo) (by omega) (And.intro (k_9 J0) (mm_rf (r_131 J0) (And.intro ⟨rfl, trivial⟩ (c_Va_may v5.1 (And.intro ⟨rfl, trivial⟩ (c_Va_marks v5.1 (And.intro ⟨rfl, trivial⟩ (c_Va_of vn.1 (And.intro ⟨rfl, a1⟩ (o_push I lx_11 (lx_p1 hpo) (by omega) (mm_go_from G (F (by omega) _ ?_ (lx_gv_up hg vn))))))))))))))))
    show ((nI H - 1 + 1, s, f, lk_up g (5 + H) (3, nI (lk_a h0 m i), (g (5 + H)).2.2.1, (g (5 + H)).2.2.2.1, -1)) : mm_F) = (nI H, s, f, lk_up g (5 + H) (3, nI (lk_a h0 m i), (g (5 + H)).2.2.1, (g (5 + H)).2.2.2.1, -1))
    rw [lx_1 hpo, ← nI_succ, show H - 1 + 1 = H by omega]
  case _ =>
    refine And.intro (fun c => absurd c (by decide)) (And.intro (Nat.le_of_ble_eq_true rfl) ⟨fun c => absurd c (by decide), fun c => absurd c (by decide), fun c => absurd c (by decide), fun c => absurd c (by decide), fun _ => mm_go_from G ?_, fun c => absurd c (by decide), fun c => absurd c (by decide), trivial⟩)
    exact F (by omega) _ rfl hg
  case _ =>
    have p0 : lk_po h0 m 14 (lk_a h0 m i) = 1 := rfl
    rw [p0] at hpo
    refine And.intro (fun c => absurd c (by decide)) (And.intro (Nat.le_of_ble_eq_true rfl) ⟨fun c => absurd c (by decide), fun c => absurd c (by decide), fun c => absurd c (by decide), fun c => absurd c (by decide), fun c => absurd c (by decide), fun _ => mm_go_from G ?_, fun c => absurd c (by decide), trivial⟩)
    exact And.intro (k_9 J0) (mm_rf (r_131 J0) (And.intro ⟨rfl, a1⟩ (o_pop I lx_11 (lx_p1 hpo) (by omega) (mm_go_from G (F (by omega) _ (by show ((nI H - 1, s, f, g) : mm_F) = (nI (H - 1), s, f, g); rw [lx_1 hpo]) hg)))))
  case _ =>
    have p0 : lk_po h0 m 15 (lk_a h0 m i) = 1 := rfl
    rw [p0] at hpo
    refine And.intro (fun c => absurd c (by decide)) (And.intro (Nat.le_of_ble_eq_true rfl) ⟨fun c => absurd c (by decide), fun c => absurd c (by decide), fun c => absurd c (by decide), fun c => absurd c (by decide), fun c => absurd c (by decide), fun c => absurd c (by decide), fun _ => mm_go_from G ?_, trivial⟩)
    exact And.intro ⟨rfl, k_9 J0⟩ (c_Lo_isNull (nC := nC) I hpo hH hg h13 (fun g1 g2 => mm_go_from G (hQ5 rfl g1 g2)))
  case _ =>
    refine And.intro (fun _ => mm_go_from G (hQ6 (by omega))) (And.intro (Nat.le_of_ble_eq_true rfl) ⟨fun c => absurd c (by decide), fun c => absurd c (by decide), fun c => absurd c (by decide), fun c => absurd c (by decide), fun c => absurd c (by decide), fun c => absurd c (by decide), fun c => absurd c (by decide), trivial⟩)
  case _ =>
    refine And.intro (fun _ => mm_go_from G (hQ6 (by omega))) (And.intro (Nat.le_of_ble_eq_true rfl) ⟨fun c => absurd c (by decide), fun c => absurd c (by decide), fun c => absurd c (by decide), fun c => absurd c (by decide), fun c => absurd c (by decide), fun c => absurd c (by decide), fun c => absurd c (by decide), trivial⟩)
theorem c_Lo_beginCatch {ro : mm_Ro} {d nC : Nat} {h0 : mm_H} {P : Nat → mm_F × Int32} {c : mm_F} {x b : Int32} {Q : Value → mm_H → Prop} (I : mm_SH h0) (hC : 0 < nC) (hg : lx_gv nC c.2.2.2) (hQ1 : ¬ b = 0 → Q .null (lx_L h0 (lx_pu P 11 ((-2, c.2), x)))) (hQ0 : b = 0 → lx_gv nC (lk_up c.2.2.2 6 (3, 0, 0, 0, -1)) → Q .null (lx_L h0 (lx_pu P 11 ((1, c.2.1, c.2.2.1, lk_up c.2.2.2 6 (3, 0, 0, 0, -1)), x)))) : mm_ev ro (d + 2) n_Lo_beginCatch [.ref 9, .int b] (lx_L h0 (lx_pu P 11 (c, x))) Q := by
  have J0 : mm_SH (lx_L h0 (lx_pu P 11 (c, x))) := I
  obtain ⟨a1, a2, a3, a4⟩ := lx_fs J0 lx_11
  refine mm_ev_in (Z := mm_m_Lo_beginCatch) rfl rfl (Nat.le_of_ble_eq_true rfl) rfl ?_
  refine And.intro (k_9 J0) (mm_rf (r_131 J0) (And.intro (fun c_5 => mm_go_from (mm_hM n_Lo_beginCatch rfl) ?_) (fun c_5 => mm_go_from (mm_hM n_Lo_beginCatch rfl) ?_)))
  · have z : b = 0 := c_5
    refine And.intro a1 ?_
    rw [(lxw_i lx_11 _).1, lx_pu_u, lx_pu_t]
    refine And.intro (fun c_18 => absurd z c_18) (fun _ => ?_)
    refine And.intro (k_9 J0) (mm_rf (r_131 J0) (And.intro ⟨rfl, trivial⟩ (c_Va_of lk_c3 (And.intro ⟨rfl, a1⟩ (o_push (j := 6) I lx_11 (show (6 : Int32) + 0 = nI 6 by decide) (by omega) ?_)))))
    have w := hQ0 z (lx_gv_up hg (lx_v3 hC))
    exact w
  · have z : ¬ b = 0 := c_5
    refine And.intro a1 ?_
    rw [(lxw_i lx_11 _).1, lx_pu_u, lx_pu_t]
    exact And.intro (fun _ => mm_go_from (mm_hM n_Lo_beginCatch rfl) (hQ1 z)) (fun c_18 => absurd z c_18)
