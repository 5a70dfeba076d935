/-! THE REFERENCE: effect, the whole -/
theorem lk_5 {H : Nat} : Int32.ofInt 5 + nI H = nI (5 + H) := nI_add 5 H
theorem lk_sv_bn {s n w : Int32} (h : n = 0 ∨ n = 1) : (lk_sv s n w).2.2.1 = 0 ∨ (lk_sv s n w).2.2.1 = 1 := by
  unfold lk_sv
  split
  · exact Or.inl rfl
  · exact h
theorem l_ef_hd {ro : mm_Ro} {d m i : Nat} {h0 : mm_H} {e : Int32 × Int32 × Int32} {c : mm_F} {hd : Nat → Int32 × Int32 × Int32} {sv : Nat → mm_V} {Q : Value → mm_H → Prop} (I : mm_SH h0) (hm : m < 10) (hi : i < 20) (V : lk_IV h0 m i) (n4 : ¬ lk_o h0 m i = 4) (n8 : ¬ lk_o h0 m i = 8) (hg : mm_go ro (d + 3) mm_m_Mo_effect 140 [.ref 80, .int (nI m), .int (nI i), .int (nI (lk_o h0 m i)), .int (mm_a h0 98 (20 * m + i)), .int (Int32.ofInt 5 + c.1), .int ((Int8.ofInt 6).toInt32 + (c.1 - nI (lk_po h0 m (lk_o h0 m i) (lk_a h0 m i)))), .null] [] (lk_L h0 e (c.1 - nI (lk_po h0 m (lk_o h0 m i) (lk_a h0 m i)), c.2) hd sv) Q) : mm_ev ro (d + 4) n_Mo_effect [.ref 80, .int (nI m), .int (nI i)] (lk_L h0 e c hd sv) Q := by
  have J : mm_SH (lk_L h0 e c hd sv) := I
  have hX : 0 ≤ ((Int8.ofInt 20).toInt32 * nI m + nI i).toInt ∧ ((Int8.ofInt 20).toInt32 * nI m + nI i).toInt < ((200 : Nat) : Int) := by rw [lk_20]; exact mm_nb (by omega) (by omega)
  have hXc : ((Int8.ofInt 20).toInt32 * nI m + nI i).toNatClampNeg = 20 * m + i := by rw [lk_20]; exact mm_ncl (by omega)
  have ho := V.1.1
  refine mm_ev_at 140 (Z := mm_m_Mo_effect) rfl rfl (Nat.le_of_ble_eq_true rfl) rfl ?_
  refine And.intro (k_80 J) (mm_rf (r_595 J) (And.intro ⟨k_97 J, mm_inb 200 (n_97 J) hX⟩ (mm_rf (b := nI (lk_o h0 m i)) (by rw [hXc]; exact V.2.1) (And.intro (k_80 J) (mm_rf (r_596 J) (And.intro ⟨k_98 J, mm_inb 200 (n_98 J) hX⟩ (mm_rf (b := mm_a h0 98 (20 * m + i)) (by rw [hXc]; rfl) (And.intro (k_80 J) (mm_rf (show mm_i (lk_L h0 e c hd sv) 611 80 = c.1 from rfl) (And.intro (fun c_35 => mm_go_at 140 (mm_hM n_Mo_effect rfl) ?_) (fun c_35 => ?_)))))))))))
  · refine And.intro (fun c_90 => mm_go_at 140 (mm_hM n_Mo_effect rfl) ?_) (fun c_90 => ?_)
    · refine And.intro (k_80 J) (mm_rf (show mm_i (lk_L h0 e c hd sv) 611 80 = c.1 from rfl) (And.intro ⟨rfl, k_80 J⟩ (c_Mo_pops (a := lk_a h0 m i) J hm ho V.2.2.1 ?_)))
      have ep : lk_po (lk_L h0 e c hd sv) m (lk_o h0 m i) (lk_a h0 m i) = lk_po h0 m (lk_o h0 m i) (lk_a h0 m i) := rfl
      rw [ep]
      refine And.intro (k_80 J) ?_
      rw [lw_611]
      exact And.intro (k_80 J) (mm_rf (show mm_i (lk_L h0 e (c.1 - nI (lk_po h0 m (lk_o h0 m i) (lk_a h0 m i)), c.2) hd sv) 611 80 = c.1 - nI (lk_po h0 m (lk_o h0 m i) (lk_a h0 m i)) from rfl) hg)
    · have q : nI (lk_o h0 m i) = nI 8 := mm_no c_90
      exact absurd ((lk_b13 ho 8 (by omega)).mp q) n8
  · have q : nI (lk_o h0 m i) = nI 4 := mm_no c_35
    exact absurd ((lk_b13 ho 4 (by omega)).mp q) n4
theorem l_ef_m4 {ro : mm_Ro} {d m i H : Nat} {h0 : mm_H} {e : Int32 × Int32 × Int32} {s f : Int32} {g : Nat → mm_V} {hd : Nat → Int32 × Int32 × Int32} {sv : Nat → mm_V} {Q : Value → mm_H → Prop} (I : mm_SH h0) (hm : m < 10) (hi : i < 20) (V : lk_IV h0 m i) (q : lk_o h0 m i = 4) (hH1 : 1 ≤ H) (hH : H ≤ 3) (hb : lk_bn g) (hQ : Q .null (lk_L h0 e (nI (H + 1), s, f, lk_up g (6 + H) (g (5 + H))) hd sv)) : mm_ev ro (d + 4) n_Mo_effect [.ref 80, .int (nI m), .int (nI i)] (lk_L h0 e (nI H, s, f, g) hd sv) Q := by
  have J : mm_SH (lk_L h0 e (nI H, s, f, g) hd sv) := I
  have hX : 0 ≤ ((Int8.ofInt 20).toInt32 * nI m + nI i).toInt ∧ ((Int8.ofInt 20).toInt32 * nI m + nI i).toInt < ((200 : Nat) : Int) := by rw [lk_20]; exact mm_nb (by omega) (by omega)
  have hXc : ((Int8.ofInt 20).toInt32 * nI m + nI i).toNatClampNeg = 20 * m + i := by rw [lk_20]; exact mm_ncl (by omega)
  have hB : 0 ≤ (Int32.ofInt 5 + nI H).toInt ∧ (Int32.ofInt 5 + nI H).toInt < ((10 : Nat) : Int) := by rw [lk_5]; exact mm_nb (by omega) (by omega)
  have hc : (Int32.ofInt 5 + nI H).toNatClampNeg = 5 + H := by rw [lk_5]; exact mm_ncl (by omega)
  have e6 : Int32.ofInt 5 + nI H + Int32.ofInt 1 = nI (6 + H) := by
    rw [lk_5, show 6 + H = (5 + H) + 1 by omega]
    exact (nI_succ _).symm
  have hB6 : 0 ≤ (Int32.ofInt 5 + nI H + Int32.ofInt 1).toInt ∧ (Int32.ofInt 5 + nI H + Int32.ofInt 1).toInt < ((10 : Nat) : Int) := by rw [e6]; exact mm_nb (by omega) (by omega)
  have hc6 : (Int32.ofInt 5 + nI H + Int32.ofInt 1).toNatClampNeg = 6 + H := by rw [e6]; exact mm_ncl (by omega)
  refine mm_ev_in (Z := mm_m_Mo_effect) rfl rfl (Nat.le_of_ble_eq_true rfl) rfl ?_
  refine And.intro (k_80 J) (mm_rf (r_595 J) (And.intro ⟨k_97 J, mm_inb 200 (n_97 J) hX⟩ (mm_rf (b := nI 4) (by rw [hXc, ← q]; exact V.2.1) (And.intro (k_80 J) (mm_rf (r_596 J) (And.intro ⟨k_98 J, mm_inb 200 (n_98 J) hX⟩ (mm_rf rfl (And.intro (k_80 J) (mm_rf (show mm_i (lk_L h0 e (nI H, s, f, g) hd sv) 611 80 = nI H from rfl) (And.intro (fun c_35 => absurd rfl c_35) (fun c_35 => ?_)))))))))))
  refine And.intro (k_80 J) (mm_rf (r_614 J) (And.intro ⟨k_110 J, mm_inb 10 (n_110 J) hB⟩ (mm_rf (b := (g (5 + H)).1) (by rw [hc]; rfl) (And.intro (k_80 J) (mm_rf (r_615 J) (And.intro ⟨k_111 J, mm_inb 10 (n_111 J) hB⟩ (mm_rf (b := (g (5 + H)).2.1) (by rw [hc]; rfl) (And.intro (k_80 J) (mm_rf (r_618 J) (And.intro ⟨k_114 J, mm_inb 10 (n_114 J) hB⟩ (mm_rf (b := (g (5 + H)).2.2.1) (by rw [hc]; rfl) (And.intro (k_80 J) (mm_rf (r_616 J) (And.intro ⟨k_112 J, mm_inb 10 (n_112 J) hB⟩ (mm_rf (b := (g (5 + H)).2.2.2.1) (by rw [hc]; rfl) (And.intro ⟨rfl, k_80 J⟩ (c_Mo_push I (j := 6 + H) lk_6 (by omega) (hb _) ?_)))))))))))))))))
  refine And.intro (k_80 J) (mm_rf (r_617 J) (And.intro (k_80 J) (mm_rf (r_617 J) (And.intro ⟨k_113 J, mm_inb 10 (n_113 J) hB⟩ (mm_rf (b := (g (5 + H)).2.2.2.2) (by
    rw [hc]
    show (lk_up g (6 + H) _ (5 + H)).2.2.2.2 = _
    rw [lk_up_f (by omega)]) (And.intro ⟨k_113 J, mm_inb 10 (n_113 J) hB6⟩ ?_))))))
  refine mm_qq hQ rfl ?_
  rw [hc6, lw_o, nI_succ]
  show lk_L h0 e (nI H + 1, s, f, lk_up (lk_up g (6 + H) _) (6 + H) (lk_wo (lk_up g (6 + H) _ (6 + H)) _)) hd sv = _
  rw [lk_up_t, lk_up_up]
  rfl
theorem lk_sk0 {x : mm_V} : lk_sk 0 x = mm_dr x := by
  by_cases q : x.1 = 4
  · rw [lk_dr_t q]; exact (if_pos q).trans (if_pos rfl)
  · rw [lk_dr_f q]; exact if_neg q
theorem lk_sk3 {x : mm_V} : lk_sk 3 x = lk_rf x := by
  by_cases q : x.1 = 4
  · rw [lk_rf_t q]; exact (if_pos q).trans (if_neg (by decide))
  · rw [lk_rf_f q]; exact if_neg q
theorem lk_sk_bn {g : Nat → mm_V} {k : Int32} (h : lk_bn g) : lk_bn (fun v => lk_sk k (g v)) := by
  intro v
  show (lk_sk k (g v)).2.2.1 = 0 ∨ (lk_sk k (g v)).2.2.1 = 1
  unfold lk_sk
  split
  · split
    · exact h v
    · exact h v
  · exact h v
theorem l_ef_m8 {ro : mm_Ro} {d m i H : Nat} {h0 : mm_H} {e : Int32 × Int32 × Int32} {s f : Int32} {g : Nat → mm_V} {hd : Nat → Int32 × Int32 × Int32} {sv : Nat → mm_V} {Q : Value → mm_H → Prop} (I : mm_SH h0) (hm : m < 10) (hi : i < 20) (V : lk_IV h0 m i) (q : lk_o h0 m i = 8) (hH1 : 1 ≤ H) (hH : H ≤ 4) (hQ : ∀ k : Int32, (k = 3 ∧ (g (5 + H)).1 = 4) ∨ (k = 0 ∧ ¬ (g (5 + H)).1 = 4) → Q .null (lk_L h0 e (nI H, -1, 0, lk_pre (fun v => lk_sk k (g v)) g (6 + H)) hd sv)) : mm_ev ro (d + 4) n_Mo_effect [.ref 80, .int (nI m), .int (nI i)] (lk_L h0 e (nI H, s, f, g) hd sv) Q := by
  have J : mm_SH (lk_L h0 e (nI H, s, f, g) hd sv) := I
  have hX : 0 ≤ ((Int8.ofInt 20).toInt32 * nI m + nI i).toInt ∧ ((Int8.ofInt 20).toInt32 * nI m + nI i).toInt < ((200 : Nat) : Int) := by rw [lk_20]; exact mm_nb (by omega) (by omega)
  have hXc : ((Int8.ofInt 20).toInt32 * nI m + nI i).toNatClampNeg = 20 * m + i := by rw [lk_20]; exact mm_ncl (by omega)
  have hB : 0 ≤ (Int32.ofInt 5 + nI H).toInt ∧ (Int32.ofInt 5 + nI H).toInt < ((10 : Nat) : Int) := by rw [lk_5]; exact mm_nb (by omega) (by omega)
  have hc : (Int32.ofInt 5 + nI H).toNatClampNeg = 5 + H := by rw [lk_5]; exact mm_ncl (by omega)
  refine mm_ev_in (Z := mm_m_Mo_effect) rfl rfl (Nat.le_of_ble_eq_true rfl) rfl ?_
  refine And.intro (k_80 J) (mm_rf (r_595 J) (And.intro ⟨k_97 J, mm_inb 200 (n_97 J) hX⟩ (mm_rf (b := nI 8) (by rw [hXc, ← q]; exact V.2.1) (And.intro (k_80 J) (mm_rf (r_596 J) (And.intro ⟨k_98 J, mm_inb 200 (n_98 J) hX⟩ (mm_rf rfl (And.intro (k_80 J) (mm_rf (show mm_i (lk_L h0 e (nI H, s, f, g) hd sv) 611 80 = nI H from rfl) (And.intro (fun c_35 => mm_go_from (mm_hM n_Mo_effect rfl) ?_) (fun c_35 => absurd (show ¬ nI 8 = Int32.ofInt 4 by decide) c_35)))))))))))
  refine And.intro (fun c_90 => absurd rfl c_90) (fun c_90 => ?_)
  refine And.intro (k_80 J) (mm_rf (r_614 J) (And.intro ⟨k_110 J, mm_inb 10 (n_110 J) hB⟩ (mm_rf (b := (g (5 + H)).1) (by rw [hc]; rfl) (And.intro (fun c_102 => mm_go_from (mm_hM n_Mo_effect rfl) ?_) (fun c_102 => mm_go_from (mm_hM n_Mo_effect rfl) ?_)))))
  · exact And.intro ⟨rfl, k_80 J⟩ (c_Mo_settle I hH (hQ 0 (Or.inr ⟨rfl, c_102⟩)))
  · exact And.intro ⟨rfl, k_80 J⟩ (c_Mo_settle I hH (hQ 3 (Or.inl ⟨rfl, mm_no c_102⟩)))
theorem c_Mo_effect {ro : mm_Ro} {d m i H : Nat} {h0 : mm_H} {e : Int32 × Int32 × Int32} {s f : Int32} {g : Nat → mm_V} {hd : Nat → Int32 × Int32 × Int32} {sv : Nat → mm_V} {Q : Value → mm_H → Prop} (I : mm_SH h0) (hm : m < 10) (hi : i < 20) (V : lk_IV h0 m i) (S : lk_SV h0) (hH : H ≤ 4) (hpo : lk_po h0 m (lk_o h0 m i) (lk_a h0 m i) ≤ H) (hpu : H - lk_po h0 m (lk_o h0 m i) (lk_a h0 m i) + lk_pu h0 (lk_o h0 m i) (lk_a h0 m i) ≤ 4) (hb : lk_bn g) (hQ : ∀ c, mm_feq (lk_ef h0 m i H (lk_a h0 m i) s f g (lk_o h0 m i)) c → lk_bn c.2.2.2 → Q .null (lk_L h0 e c hd sv)) : mm_ev ro (d + 4) n_Mo_effect [.ref 80, .int (nI m), .int (nI i)] (lk_L h0 e (nI H, s, f, g) hd sv) Q := by
  have ho := V.1.1
  have F : ∀ c, c = lk_ef h0 m i H (lk_a h0 m i) s f g (lk_o h0 m i) → lk_bn c.2.2.2 → Q .null (lk_L h0 e c hd sv) := fun c ec b => hQ c (by rw [ec]; exact mm_feq_refl) b
  have t1 : ∀ (r : mm_V) (j K : Nat) (s f : Int32), ((nI K + 1, s, f, lk_up g j r) : mm_F) = (nI (K + 1), s, f, lk_up g j r) := fun r j K s f => by rw [nI_succ]
  by_cases n4 : lk_o h0 m i = 4
  · have p1 : lk_po h0 m 4 (lk_a h0 m i) = 1 := rfl
    have p2 : lk_pu h0 4 (lk_a h0 m i) = 2 := rfl
    rw [n4, p1] at hpo hpu
    rw [p2] at hpu
    rw [n4] at F
    exact l_ef_m4 I hm hi V n4 hpo (by omega) hb (F _ rfl (lk_bn_up hb (hb _)))
  by_cases n8 : lk_o h0 m i = 8
  · have p1 : lk_po h0 m 8 (lk_a h0 m i) = 1 := rfl
    rw [n8, p1] at hpo
    refine l_ef_m8 I hm hi V n8 hpo hH (fun k hk => hQ _ ?_ (lk_bn_pre (lk_sk_bn hb) hb))
    rw [n8]
    refine ⟨rfl, fun _ => ⟨rfl, rfl, fun v hv => ?_⟩⟩
    have hv' : (v : Int) < 6 + (nI H).toInt := hv
    rw [mm_nt (by omega)] at hv'
    show (if (g (5 + H)).1 = 4 then lk_rf (g v) else mm_dr (g v)) = lk_pre (fun v => lk_sk k (g v)) g (6 + H) v
    rw [lk_pre_t (by omega)]
    rcases hk with ⟨e1, e2⟩ | ⟨e1, e2⟩
    · rw [if_pos e2, e1, lk_sk3]
    · rw [if_neg e2, e1, lk_sk0]
  refine l_ef_hd I hm hi V n4 n8 ?_
  show mm_go ro (d + 3) mm_m_Mo_effect 140 [.ref 80, .int (nI m), .int (nI i), .int (nI (lk_o h0 m i)), .int (mm_a h0 98 (20 * m + i)), .int (Int32.ofInt 5 + nI H), .int ((Int8.ofInt 6).toInt32 + (nI H - nI (lk_po h0 m (lk_o h0 m i) (lk_a h0 m i)))), .null] [] (lk_L h0 e (nI H - nI (lk_po h0 m (lk_o h0 m i) (lk_a h0 m i)), s, f, g) hd sv) Q
  rw [lk_nsub hpo, lk_6]
  have e6 : ∀ K : Nat, (6 : Int32) + nI K = nI (6 + K) := fun K => lk_6
  obtain ⟨A1, A2, A3, A4, A5⟩ := V.1
  rcases lk_o_cases ho with q | q | q | q | q | q | q | q | q | q | q | q | q | q | q | q | q | q
  case _ =>
    rw [q] at F hpo hpu ⊢
    have p2 : lk_pu h0 0 (lk_a h0 m i) = 1 := rfl
    rw [p2] at hpu
    exact l_ef_0 I (e6 _) (by omega) (F _ (t1 _ _ _ _ _) (lk_bn_up hb (Or.inl rfl)))
  case _ =>
    rw [q] at F hpo hpu ⊢
    have p2 : lk_pu h0 1 (lk_a h0 m i) = 1 := rfl
    rw [p2] at hpu
    exact l_ef_1 I (e6 _) (by omega) (F _ (t1 _ _ _ _ _) (lk_bn_up hb (Or.inr rfl)))
  case _ =>
    have ea := V.2.2.2.1 (Or.inl q)
    have a5 := A2 (Or.inl q)
    rw [q] at F hpo hpu ⊢
    have p2 : lk_pu h0 2 (lk_a h0 m i) = 1 := rfl
    rw [p2] at hpu
    rw [ea]
    exact l_ef_2 I (e6 _) (by omega) (by omega) hb (F _ (t1 _ _ _ _ _) (lk_bn_up hb (hb _)))
  case _ =>
    have ea := V.2.2.2.1 (Or.inr (Or.inl q))
    have a5 := A2 (Or.inr q)
    have p1 : lk_po h0 m 3 (lk_a h0 m i) = 1 := rfl
    rw [q] at hQ hpo hpu ⊢
    rw [p1] at hpo hpu ⊢
    rw [ea]
    refine l_ef_3 I (by omega) (by omega) (by omega) hb (fun g' h1 h2 => hQ _ ⟨rfl, fun _ => ⟨rfl, rfl, fun v hv => ?_⟩⟩ h2)
    have hv' : (v : Int) < 6 + (nI (H - 1)).toInt := hv
    rw [mm_nt (by omega)] at hv'
    show lk_st g (lk_a h0 m i) (g (5 + H)) v = g' v
    rw [h1 v (by omega), show 6 + (H - 1) = 5 + H by omega]
  case _ => exact absurd q n4
  case _ =>
    have p1 : lk_po h0 m 5 (lk_a h0 m i) = 1 := rfl
    rw [q] at F hpo hpu ⊢
    rw [p1] at hpo hpu ⊢
    exact l_ef_5g I (F _ rfl hb)
  case _ =>
    have p1 : lk_po h0 m 6 (lk_a h0 m i) = 2 := rfl
    rw [q] at F hpo hpu ⊢
    rw [p1] at hpo hpu ⊢
    refine l_ef_6 I (e6 _) (by omega) (by omega) (F _ ?_ (lk_bn_up hb (Or.inl rfl)))
    show ((nI (H - 2) + 1, s, f, lk_up g (6 + (H - 2)) (1, -1, 0, (g (6 + (H - 2))).2.2.2.1 ||| (g (6 + (H - 2) + 1)).2.2.2.1, -1)) : mm_F) = (nI (H - 1), s, f, lk_up g (4 + H) (1, -1, 0, (g (4 + H)).2.2.2.1 ||| (g (5 + H)).2.2.2.1, -1))
    rw [t1, show 6 + (H - 2) = 4 + H by omega, show H - 2 + 1 = H - 1 by omega, show 4 + H + 1 = 5 + H by omega]
  case _ =>
    have ea := (A3 (Or.inl q)).2
    rw [q] at hQ hpo hpu ⊢
    have p1 : lk_po h0 m 7 (lk_a h0 m i) = 0 := rfl
    have p2 : lk_pu h0 7 (lk_a h0 m i) = 1 := rfl
    rw [p1] at hpo hpu ⊢
    rw [p2] at hpu
    rw [ea]
    have e0 : H - 0 = H := rfl
    rw [e0] at hpu ⊢
    refine l_ef_7 I (by omega) (hQ _ ?_ (lk_bn_up (lk_bn_pre (lk_sk_bn hb) hb) (Or.inl rfl)))
    refine ⟨by rw [← nI_succ]; rfl, fun _ => ⟨rfl, rfl, fun v hv => ?_⟩⟩
    have hv' : (v : Int) < 6 + (nI (H + 1)).toInt := hv
    rw [mm_nt (by omega)] at hv'
    show lk_up (fun v => mm_dr (g v)) (6 + H) _ v = lk_up (lk_pre (fun v => lk_sk 0 (g v)) g (6 + H)) (6 + H) _ v
    by_cases z : v = 6 + H
    · rw [z, lk_up_t, lk_up_t]
    · rw [lk_up_f z, lk_up_f z, lk_pre_t (by omega), lk_sk0]
  case _ => exact absurd q n8
  case _ =>
    have ea := V.2.2.2.1 (Or.inr (Or.inr (Or.inl q)))
    have a5 := A4 (Or.inl q)
    have p1 : lk_po h0 m 9 (lk_a h0 m i) = 1 := rfl
    rw [q] at F hpo hpu ⊢
    rw [p1] at hpo hpu ⊢
    rw [ea]
    refine l_ef_9 I (e6 _) (by omega) a5 S (F _ ?_ (lk_bn_up hb (lk_sv_bn (mm_b01 _))))
    show ((nI (H - 1) + 1, s, f, lk_up g (6 + (H - 1)) (lk_sv (mm_a h0 83 (lk_a h0 m i)) (mm_b (¬ mm_a h0 86 (lk_a h0 m i) = 0 ∨ lk_un f (lk_a h0 m i) (g (6 + (H - 1))))) (mm_a h0 84 (lk_a h0 m i)))) : mm_F) = (nI H, s, f, lk_up g (5 + H) (lk_sv (mm_a h0 83 (lk_a h0 m i)) (mm_b (¬ mm_a h0 86 (lk_a h0 m i) = 0 ∨ lk_un f (lk_a h0 m i) (g (5 + H)))) (mm_a h0 84 (lk_a h0 m i))))
    rw [t1, show 6 + (H - 1) = 5 + H by omega, show H - 1 + 1 = H by omega]
  case _ =>
    have ea := V.2.2.2.1 (Or.inr (Or.inr (Or.inr q)))
    have a5 := A4 (Or.inr q)
    have p1 : lk_po h0 m 10 (lk_a h0 m i) = 2 := rfl
    rw [q] at F hpo hpu ⊢
    rw [p1] at hpo hpu ⊢
    rw [ea]
    refine l_ef_10 I (e6 _) (by omega) a5 (F _ ?_ hb)
    show ((nI (H - 2), s, (if (g (6 + (H - 2))).1 = 4 then f ||| (1 : Int32) <<< (nI (lk_a h0 m i) &&& 31) else f), g) : mm_F) = (nI (H - 2), s, (if (g (4 + H)).1 = 4 then f ||| (1 : Int32) <<< (nI (lk_a h0 m i) &&& 31) else f), g)
    rw [show 6 + (H - 2) = 4 + H by omega]
  case _ =>
    have ea := (V.2.2.1 q).1
    have a5 := A5 q
    have p5 := lk_po4 V
    rw [q] at F hpo hpu p5 ⊢
    rw [ea]
    refine l_ef_11 I (e6 _) ?_ a5 S (F _ ?_ ?_)
    · intro z
      have e9 : lk_pu h0 11 (lk_a h0 m i) = 1 := (if_pos rfl).trans (if_neg z)
      omega
    · show (if _ then _ else _ : mm_F) = (if _ then _ else _)
      by_cases z : mm_a h0 93 (4 * lk_a h0 m i + 3) = -2
      · rw [if_pos z, if_pos z]
      · rw [if_neg z, if_neg z]
        exact t1 _ _ _ _ _
    · split
      · exact hb
      · exact lk_bn_up hb (lk_sv_bn (S.2 (4 * lk_a h0 m i + 3) (by omega)).2.1)
  case _ =>
    have ea := (A3 (Or.inr q)).2
    have p1 : lk_po h0 m 12 (lk_a h0 m i) = 1 := rfl
    rw [q] at F hpo hpu ⊢
    rw [p1] at hpo hpu ⊢
    rw [ea]
    refine l_ef_12 I (e6 _) (by omega) hb (F _ ?_ (lk_bn_up hb (hb _)))
    show ((nI (H - 1) + 1, s, f, lk_up g (6 + (H - 1)) (3, nI (lk_a h0 m i), (g (6 + (H - 1))).2.2.1, (g (6 + (H - 1))).2.2.2.1, -1)) : mm_F) = (nI H, s, f, lk_up g (5 + H) (3, nI (lk_a h0 m i), (g (5 + H)).2.2.1, (g (5 + H)).2.2.2.1, -1))
    rw [t1, show 6 + (H - 1) = 5 + H by omega, show H - 1 + 1 = H by omega]
  case _ =>
    have p1 : lk_po h0 m 13 (lk_a h0 m i) = 0 := rfl
    rw [q] at F hpo hpu ⊢
    rw [p1] at hpo hpu ⊢
    exact l_ef_13g I (F _ rfl hb)
  case _ =>
    have p1 : lk_po h0 m 14 (lk_a h0 m i) = 1 := rfl
    rw [q] at F hpo hpu ⊢
    rw [p1] at hpo hpu ⊢
    exact l_ef_14g I (F _ rfl hb)
  case _ =>
    have p1 : lk_po h0 m 15 (lk_a h0 m i) = 1 := rfl
    rw [q] at F hpo hpu ⊢
    rw [p1] at hpo hpu ⊢
    exact l_ef_15g I (F _ rfl hb)
  case _ =>
    rw [q] at F hpo hpu ⊢
    exact l_ef_16g I (F _ rfl hb)
  case _ =>
    have p1 : lk_po h0 m 17 (lk_a h0 m i) = 1 := rfl
    rw [q] at F hpo hpu ⊢
    rw [p1] at hpo hpu ⊢
    exact l_ef_17g I (F _ rfl hb)
