/-! THE CLASS: get, put, call, isNull -/
/-- what fields and methods say is among what is there -/
def lx_SC (h : mm_H) (nC nF nM : Nat) : Prop := (∀ a, a < nF → (mm_a h 83 a).toInt < (nC : Int)) ∧ ∀ m, m < nM → (mm_a h 93 (4 * m + 3)).toInt < (nC : Int) ∧ (mm_a h 87 m).toInt < (nC : Int) ∧ ∀ p, p < lk_np h m → (mm_a h 93 (4 * m + p)).toInt < (nC : Int)
theorem lx_sv_vr {nC : Nat} {s n w : Int32} (hC : 0 < nC) (h1 : -1 ≤ s.toInt ∧ s.toInt ≤ 5) (h2 : s.toInt < (nC : Int)) (hn : n = 0 ∨ n = 1) (hw : 0 ≤ w.toInt ∧ w.toInt ≤ 15) : lx_vr nC (lk_sv s n w) := by
  refine ⟨(lk_sv_vr h1 hn hw).1, ?_⟩
  unfold lk_sv
  split
  · show (-1 : Int32).toInt < _
    rw [show (-1 : Int32).toInt = -1 by decide]; omega
  · exact h2
theorem lx_sv_eq {s n n' w : Int32} (h : ¬ s = -1 → n = n') : lk_sv s n w = lk_sv s n' w := by
  unfold lk_sv
  by_cases q : s = -1
  · rw [if_pos q, if_pos q]
  · rw [if_neg q, if_neg q, h q]
theorem c_Lo_get {ro : mm_Ro} {d H nC nF a : Nat} {h0 : mm_H} {P : Nat → mm_F × Int32} {s f x : Int32} {g : Nat → mm_V} {Q : Value → mm_H → Prop} (I : mm_SH h0) (hC : 0 < nC) (F : lx_FD h0 nF) (ha : a < nF) (hs : -1 ≤ (mm_a h0 83 a).toInt ∧ (mm_a h0 83 a).toInt ≤ 5) (hs2 : (mm_a h0 83 a).toInt < (nC : Int)) (hm : mm_a h0 86 a = 0 ∨ mm_a h0 86 a = 1) (hw : 0 ≤ (mm_a h0 84 a).toInt ∧ (mm_a h0 84 a).toInt ≤ 15) (hH1 : 1 ≤ H) (hH : H ≤ 4) (hg : lx_gv nC g) (hQ : lx_gv nC (lk_up g (5 + H) (lk_sv (mm_a h0 83 a) (mm_b (¬ mm_a h0 86 a = 0 ∨ lk_un f a (g (5 + H)))) (mm_a h0 84 a))) → Q .null (lx_L h0 (lx_pu P 11 ((nI H, s, f, lk_up g (5 + H) (lk_sv (mm_a h0 83 a) (mm_b (¬ mm_a h0 86 a = 0 ∨ lk_un f a (g (5 + H)))) (mm_a h0 84 a))), x)))) : mm_ev ro (d + 3) n_Lo_get [.ref 9, .int (nI a)] (lx_L h0 (lx_pu P 11 ((nI H, s, f, g), x))) Q := by
  have J0 : mm_SH (lx_L h0 (lx_pu P 11 ((nI H, s, f, g), x))) := I
  obtain ⟨a1, a2, a3, a4⟩ := lx_fs J0 lx_11
  obtain ⟨f12, F⟩ := F
  obtain ⟨PL, _⟩ := F a ha
  have hBa : 0 ≤ (nI a).toInt ∧ (nI a).toInt < ((12 : Nat) : Int) := mm_nb (by omega) (by omega)
  have hca : (nI a).toNatClampNeg = a := mm_ncl (by omega)
  have v5 := hg (5 + H) (by omega)
  have m1 : ¬ mm_a h0 83 a = -1 → 0 ≤ (mm_a h0 83 a).toInt := fun z => by
    have : ¬ (mm_a h0 83 a).toInt = -1 := lk_nn (n := -1) z (by decide)
    omega
  have q5 : (6 : Int32) + (nI H - 1) = nI (5 + H) := lx_p1 hH1
  have PL' : lx_PL (lx_L h0 (lx_pu P 11 ((nI H - 1, s, f, g), x))) (mm_q h0 7 a) (mm_a h0 83 a) (mm_a h0 86 a) (mm_a h0 84 a) := lx_PL_L PL
  -- the end
  have g98 : ∀ (u5 : Value) (b : Int32), (b = 0 ∨ b = 1) → (¬ mm_a h0 83 a = -1 → b = mm_b (¬ mm_a h0 86 a = 0 ∨ lk_un f a (g (5 + H)))) → ∀ v4 : Value, mm_go ro (d + 2) mm_m_Lo_get 98 [.ref 9, .int (nI a), .int (lx_pk (g (5 + H))), .int (g (5 + H)).1, v4, u5] [.int b, .ref (mm_q h0 7 a), .ref 11] (lx_L h0 (lx_pu P 11 ((nI H - 1, s, f, g), x))) Q := by
    intro u5 b hb eb v4
    have es := lx_sv_eq (w := mm_a h0 84 a) eb
    rw [← es] at hQ
    refine mm_go_from (mm_hM n_Lo_get rfl) (And.intro ⟨rfl, trivial⟩ (c_Va_ofPlace PL' hs hb hw (And.intro ⟨rfl, a1⟩ (o_push I lx_11 q5 (by omega) ?_))))
    have w := hQ (lx_gv_up hg (lx_sv_vr hC hs hs2 hb hw))
    have e1 : nI H - 1 + 1 = nI H := by rw [lx_1 hH1, ← nI_succ, show H - 1 + 1 = H by omega]
    show Q .null (lx_L h0 (lx_pu P 11 ((nI H - 1 + 1, s, f, lk_up g (5 + H) _), x)))
    rw [e1]
    exact w
  have g60 : ∀ (u : Int32) (v4 : Value), (u = 0 ∨ u = 1) → (¬ u = 0 ↔ lk_un f a (g (5 + H))) → mm_go ro (d + 2) mm_m_Lo_get 58 [.ref 9, .int (nI a), .int (lx_pk (g (5 + H))), .int (g (5 + H)).1, v4, .null] [.int u] (lx_L h0 (lx_pu P 11 ((nI H - 1, s, f, g), x))) Q := by
    intro u v4 u01 hu
    have J1 : mm_SH (lx_L h0 (lx_pu P 11 ((nI H - 1, s, f, g), x))) := I
    refine mm_go_at 98 (mm_hM n_Lo_get rfl) (And.intro (k_9 J1) (mm_rf (r_131 J1) (And.intro (k_9 J1) (mm_rf (r_128 J1) (And.intro (k_2 J1) (mm_rf (r_71 J1) (And.intro ⟨⟨by rw [k_7 J1]; decide, by rw [k_7 J1]; decide⟩, mm_inb 12 (n_7 J1) hBa⟩ (mm_rf (b := mm_q h0 7 a) (by rw [hca]; rfl) (And.intro (k_9 J1) (mm_rf (r_128 J1) (And.intro (k_2 J1) (mm_rf (r_71 J1) (And.intro ⟨⟨by rw [k_7 J1]; decide, by rw [k_7 J1]; decide⟩, mm_inb 12 (n_7 J1) hBa⟩ (mm_rf (b := mm_q h0 7 a) (by rw [hca]; rfl) (And.intro PL'.2.1 (mm_rf PL'.2.2.2.1 (And.intro (fun c_85 => mm_go_at 98 (mm_hM n_Lo_get rfl) (g98 _ 1 (Or.inr rfl) (fun z => ?_) _)) (fun c_85 => And.intro (fun c_90 => mm_go_at 98 (mm_hM n_Lo_get rfl) (g98 _ 0 (Or.inl rfl) (fun z => ?_) _)) (fun c_90 => g98 _ 1 (Or.inr rfl) (fun z => ?_) _)))))))))))))))))))
    · have c : ¬ (if 0 ≤ (mm_a h0 83 a).toInt then mm_a h0 86 a else 0) = 0 := c_85
      rw [if_pos (m1 z)] at c
      exact (mm_b_t (Or.inl c)).symm
    · have c : (if 0 ≤ (mm_a h0 83 a).toInt then mm_a h0 86 a else 0) = 0 := mm_no c_85
      rw [if_pos (m1 z)] at c
      have c2 : u = 0 := c_90
      refine (mm_b_f ?_).symm
      rintro (y | y)
      · exact y c
      · exact hu.mpr y c2
    · have c2 : ¬ u = 0 := c_90
      exact (mm_b_t (Or.inr (hu.mp c2))).symm
  have g39 : ∀ u : Int32, (u = 0 ∨ u = 1) → (¬ u = 0 ↔ ((g (5 + H)).1 = 4 ∧ lk_bt f a)) → mm_go ro (d + 2) mm_m_Lo_get 37 [.ref 9, .int (nI a), .int (lx_pk (g (5 + H))), .int (g (5 + H)).1, .null, .null] [.int u] (lx_L h0 (lx_pu P 11 ((nI H - 1, s, f, g), x))) Q := by
    intro u u01 hu
    refine mm_go_at 58 (mm_hM n_Lo_get rfl) (And.intro (fun c_40 => mm_go_at 58 (mm_hM n_Lo_get rfl) (g60 1 _ (Or.inr rfl) ⟨fun _ => Or.inl c_40, fun _ => by decide⟩)) (fun c_40 => And.intro (fun c_45 => mm_go_at 58 (mm_hM n_Lo_get rfl) (g60 1 _ (Or.inr rfl) ⟨fun _ => Or.inr (Or.inl c_45), fun _ => by decide⟩)) (fun c_45 => And.intro (fun c_50 => mm_go_at 58 (mm_hM n_Lo_get rfl) (g60 0 _ (Or.inl rfl) ⟨fun y => absurd rfl y, fun y => ?_⟩)) (fun c_50 => g60 1 _ (Or.inr rfl) ⟨fun _ => Or.inr (Or.inr (hu.mp c_50)), fun _ => by decide⟩))))
    have c : u = 0 := c_50
    rcases y with y | y | y
    · exact absurd y c_40
    · exact absurd y c_45
    · exact absurd c (hu.mpr y)
  refine mm_ev_at 37 (Z := mm_m_Lo_get) rfl rfl (Nat.le_of_ble_eq_true rfl) rfl ?_
  have J1 : mm_SH (lx_L h0 (lx_pu P 11 ((nI H - 1, s, f, g), x))) := I
  refine And.intro (k_9 J0) (mm_rf (r_131 J0) (And.intro ⟨rfl, a1⟩ (o_pop I lx_11 q5 (by omega) (And.intro ⟨rfl, trivial⟩ (c_Va_kind v5.1 (And.intro (fun c_15 => mm_go_at 37 (mm_hM n_Lo_get rfl) (g39 0 (Or.inl rfl) ⟨fun y => absurd rfl y, fun y => absurd y.1 c_15⟩)) (fun c_15 => ?_)))))))
  refine And.intro (k_9 J1) (mm_rf (r_131 J1) (And.intro a1 (mm_rf (b := f) ((lx_i lx_11).2.2.1.trans (by rw [lx_pu_t])) (And.intro (fun c_29 => mm_go_at 37 (mm_hM n_Lo_get rfl) (g39 0 (Or.inl rfl) ⟨fun y => absurd rfl y, fun y => absurd y.2 c_29⟩)) (fun c_29 => g39 1 (Or.inr rfl) ⟨fun _ => ⟨mm_no c_15, mm_no c_29⟩, fun _ => by decide⟩)))))
theorem c_Lo_put {ro : mm_Ro} {d H nC a : Nat} {h0 : mm_H} {P : Nat → mm_F × Int32} {s f x : Int32} {g : Nat → mm_V} {Q : Value → mm_H → Prop} (I : mm_SH h0) (hH2 : 2 ≤ H) (hH : H ≤ 4) (hg : lx_gv nC g) (hQ : Q .null (lx_L h0 (lx_pu P 11 ((nI (H - 2), s, (if (g (4 + H)).1 = 4 then f ||| (1 : Int32) <<< (nI a &&& 31) else f), g), x)))) : mm_ev ro (d + 2) n_Lo_put [.ref 9, .int (nI a)] (lx_L h0 (lx_pu P 11 ((nI H, s, f, g), x))) Q := by
  have J0 : mm_SH (lx_L h0 (lx_pu P 11 ((nI H, s, f, g), x))) := I
  obtain ⟨a1, a2, a3, a4⟩ := lx_fs J0 lx_11
  have e6 : ∀ K : Nat, (6 : Int32) + nI K = nI (6 + K) := fun K => lk_6
  have v4 := hg (4 + H) (by omega)
  have q4 : 6 + (nI H - 1 - 1) = nI (4 + H) := by
    rw [lx_1 (by omega), lx_1 (by omega), e6]
    congr 1
    omega
  have e2 : nI H - 1 - 1 = nI (H - 2) := by
    rw [lx_1 (by omega), lx_1 (by omega)]
    congr 1
  have J2 : mm_SH (lx_L h0 (lx_pu P 11 ((nI H - 1 - 1, s, f, g), x))) := I
  refine mm_ev_in (Z := mm_m_Lo_put) rfl rfl (Nat.le_of_ble_eq_true rfl) rfl ?_
  refine And.intro (k_9 J0) (mm_rf (r_131 J0) (And.intro ⟨rfl, a1⟩ (o_pop I lx_11 (lx_p1 (by omega)) (by omega) (And.intro (k_9 J0) (mm_rf (r_131 J0) (And.intro ⟨rfl, a1⟩ (o_pop I lx_11 q4 (by omega) (And.intro ⟨rfl, trivial⟩ (c_Va_kind v4.1 (And.intro (fun c_19 => mm_go_from (mm_hM n_Lo_put rfl) ?_) (fun c_19 => ?_)))))))))))
  · have z : ¬ (g (4 + H)).1 = 4 := c_19
    rw [if_neg z, ← e2] at hQ
    exact hQ
  · have z : (g (4 + H)).1 = 4 := mm_no c_19
    rw [if_pos z, ← e2] at hQ
    refine And.intro (k_9 J2) (mm_rf (r_131 J2) (And.intro (k_9 J2) (mm_rf (r_131 J2) (And.intro a1 (mm_rf (b := f) ((lx_i lx_11).2.2.1.trans (by rw [lx_pu_t])) (And.intro a1 ?_))))))
    refine mm_qq hQ rfl ?_
    rw [(lxw_i lx_11 _).2.2.1, lx_pu_u, lx_pu_t]
    rfl
theorem c_Lo_call {ro : mm_Ro} {d H nC q a : Nat} {h0 : mm_H} {P : Nat → mm_F × Int32} {s f x : Int32} {g : Nat → mm_V} {Q : Value → mm_H → Prop} (I : mm_SH h0) (hC : 0 < nC) (M : lx_MO h0 q a) (MV : lk_MV h0 a) (hs : -2 ≤ (mm_a h0 93 (4 * a + 3)).toInt ∧ (mm_a h0 93 (4 * a + 3)).toInt ≤ 5) (hs2 : (mm_a h0 93 (4 * a + 3)).toInt < (nC : Int)) (hm : mm_a h0 96 (4 * a + 3) = 0 ∨ mm_a h0 96 (4 * a + 3) = 1) (hw : 0 ≤ (mm_a h0 94 (4 * a + 3)).toInt ∧ (mm_a h0 94 (4 * a + 3)).toInt ≤ 15) (hpo : lk_np h0 a + lk_of h0 a ≤ H) (hH : H ≤ 4) (hpu : ¬ mm_a h0 93 (4 * a + 3) = -2 → H - (lk_np h0 a + lk_of h0 a) < 4) (hg : lx_gv nC g) (hQ : ∀ c : mm_F, c = (if mm_a h0 93 (4 * a + 3) = -2 then (nI (H - (lk_np h0 a + lk_of h0 a)), s, f, g) else (nI (H - (lk_np h0 a + lk_of h0 a) + 1), s, f, lk_up g (6 + (H - (lk_np h0 a + lk_of h0 a))) (lk_sv (mm_a h0 93 (4 * a + 3)) (mm_a h0 96 (4 * a + 3)) (mm_a h0 94 (4 * a + 3))))) → lx_gv nC c.2.2.2 → Q .null (lx_L h0 (lx_pu P 11 (c, x)))) : mm_ev ro (d + 3) n_Lo_call [.ref 9, .ref q] (lx_L h0 (lx_pu P 11 ((nI H, s, f, g), x))) Q := by
  have J0 : mm_SH (lx_L h0 (lx_pu P 11 ((nI H, s, f, g), x))) := I
  obtain ⟨a1, a2, a3, a4⟩ := lx_fs J0 lx_11
  have M0 : lx_MO (lx_L h0 (lx_pu P 11 ((nI H, s, f, g), x))) q a := lx_MO_L M
  have kq : mm_k (lx_L h0 (lx_pu P 11 ((nI H, s, f, g), x))) q = 9 := M.2.1.1.1
  have e6 : ∀ K : Nat, (6 : Int32) + nI K = nI (6 + K) := fun K => lk_6
  refine mm_ev_in (Z := mm_m_Lo_call) rfl rfl (Nat.le_of_ble_eq_true rfl) rfl ?_
  refine And.intro (k_9 J0) (mm_rf (r_131 J0) (And.intro a1 (mm_rf (b := nI H) ((lx_i lx_11).1.trans (by rw [lx_pu_t])) (And.intro ⟨rfl, kq⟩ (c_Me_takes M0 MV (And.intro a1 ?_))))))
  rw [show nI H - nI (lk_np (lx_L h0 (lx_pu P 11 ((nI H, s, f, g), x))) a + lk_of (lx_L h0 (lx_pu P 11 ((nI H, s, f, g), x))) a) = nI (H - (lk_np h0 a + lk_of h0 a)) from lk_nsub hpo, (lxw_i lx_11 _).1, lx_pu_u, lx_pu_t]
  generalize hK : H - (lk_np h0 a + lk_of h0 a) = K at hpu hQ
  have J1 : mm_SH (lx_L h0 (lx_pu P 11 ((nI K, s, f, g), x))) := I
  have M1 : lx_MO (lx_L h0 (lx_pu P 11 ((nI K, s, f, g), x))) q a := lx_MO_L M
  refine And.intro ⟨rfl, kq⟩ (c_Me_gives M1 (And.intro (fun c_20 => mm_go_from (mm_hM n_Lo_call rfl) ?_) (fun c_20 => ?_)))
  · have z : mm_a h0 93 (4 * a + 3) = -2 := Classical.not_not.mp (mm_b0.mp c_20)
    exact hQ _ (if_pos z).symm hg
  · have z : ¬ mm_a h0 93 (4 * a + 3) = -2 := mm_nn c_20
    have z2 : ¬ (mm_a h0 93 (4 * a + 3)).toInt = -2 := lk_nn (n := -2) z (by decide)
    have PL := M1.2.2.2.2.1
    have b01 : (if 0 ≤ (mm_a h0 93 (4 * a + 3)).toInt then mm_a h0 96 (4 * a + 3) else 0) = 0 ∨ (if 0 ≤ (mm_a h0 93 (4 * a + 3)).toInt then mm_a h0 96 (4 * a + 3) else 0) = 1 := by
      split
      · exact hm
      · exact Or.inl rfl
    have es : lk_sv (mm_a h0 93 (4 * a + 3)) (if 0 ≤ (mm_a h0 93 (4 * a + 3)).toInt then mm_a h0 96 (4 * a + 3) else 0) (mm_a h0 94 (4 * a + 3)) = lk_sv (mm_a h0 93 (4 * a + 3)) (mm_a h0 96 (4 * a + 3)) (mm_a h0 94 (4 * a + 3)) := lx_sv_eq (fun y => if_pos (by
      have : ¬ (mm_a h0 93 (4 * a + 3)).toInt = -1 := lk_nn (n := -1) y (by decide)
      omega))
    have rq : mm_r (lx_L h0 (lx_pu P 11 ((nI K, s, f, g), x))) 517 q = q + 2 := M.2.1.2.1.1
    have w := hQ _ (if_neg z).symm (lx_gv_up hg (lx_sv_vr hC (by omega) hs2 hm hw))
    refine And.intro (k_9 J1) (mm_rf (r_131 J1) (And.intro kq (mm_rf rq (And.intro kq (mm_rf rq (And.intro PL.2.1 (mm_rf PL.2.2.2.1 (And.intro ⟨rfl, trivial⟩ (c_Va_ofPlace PL (by show -1 ≤ (mm_a h0 93 (4 * a + 3)).toInt ∧ (mm_a h0 93 (4 * a + 3)).toInt ≤ 5; omega) b01 hw (And.intro ⟨rfl, a1⟩ (o_push I lx_11 (e6 K) (by have := hpu z; omega) ?_)))))))))))
    show Q .null (lx_L h0 (lx_pu P 11 ((nI K + 1, s, f, lk_up g (6 + K) (lk_sv (mm_a h0 93 (4 * a + 3)) (if 0 ≤ (mm_a h0 93 (4 * a + 3)).toInt then mm_a h0 96 (4 * a + 3) else 0) (mm_a h0 94 (4 * a + 3)))), x)))
    rw [es, ← nI_succ]
    exact w
theorem lx_up_self {g : Nat → mm_V} {l : Nat} : lk_up g l (g l) = g := by
  funext v
  by_cases q : v = l
  · rw [q, lk_up_t]
  · rw [lk_up_f q]
theorem c_Lo_isNull {ro : mm_Ro} {d H nC : Nat} {h0 : mm_H} {P : Nat → mm_F × Int32} {s f x y : Int32} {g : Nat → mm_V} {c13 : mm_F} {Q : Value → mm_H → Prop} (I : mm_SH h0) (hH1 : 1 ≤ H) (hH : H ≤ 4) (hg : lx_gv nC g) (h13 : P 13 = (c13, y)) (hQ : lx_gv nC (lk_is 15 g H lk_n0 (nI (H - 1), s, f, g)).2.2.2 → lx_gv nC (lk_is 15 g H lk_nk (nI (H - 1), s, f, g)).2.2.2 → Q .null (lx_L h0 (lx_pu (lx_pu P 11 (lk_is 15 g H lk_n0 (nI (H - 1), s, f, g), x)) 13 (lk_is 15 g H lk_nk (nI (H - 1), s, f, g), y)))) : mm_ev ro (d + 2) n_Lo_isNull [.ref 9] (lx_L h0 (lx_pu P 11 ((nI H, s, f, g), x))) Q := by
  have J0 : mm_SH (lx_L h0 (lx_pu P 11 ((nI H, s, f, g), x))) := I
  obtain ⟨a1, a2, a3, a4⟩ := lx_fs J0 lx_11
  obtain ⟨b1, b2, b3, b4⟩ := lx_fs J0 lx_13
  have v5 := hg (5 + H) (by omega)
  have e1 : nI H - 1 = nI (H - 1) := lx_1 hH1
  have n1311 : ¬ (13 : Nat) = 11 := by decide
  have n1113 : ¬ (11 : Nat) = 13 := by decide
  have comm : ∀ (u w : mm_F × Int32), lx_pu (lx_pu P 13 u) 11 w = lx_pu (lx_pu P 11 w) 13 u := fun u w => by
    funext k
    by_cases q1 : k = 11
    · rw [q1, lx_pu_t, lx_pu_f n1113, lx_pu_t]
    · by_cases q2 : k = 13
      · rw [q2, lx_pu_f n1311, lx_pu_t, lx_pu_t]
      · rw [lx_pu_f q1, lx_pu_f q2, lx_pu_f q2, lx_pu_f q1]
  refine mm_ev_at 66 (Z := mm_m_Lo_isNull) rfl rfl (Nat.le_of_ble_eq_true rfl) rfl ?_
  refine And.intro (k_9 J0) (mm_rf (r_131 J0) (And.intro ⟨rfl, a1⟩ (o_pop I lx_11 (lx_p1 hH1) (by omega) (And.intro ⟨rfl, trivial⟩ (c_Va_origin v5.1 (And.intro (k_9 J0) (mm_rf (r_132 J0) (And.intro (k_9 J0) (mm_rf (r_131 J0) (And.intro ⟨rfl, b1⟩ (c_Fr_become I lx_13 lx_11 n1311 ?_)))))))))))
  rw [lx_pu_t, lx_pu_f n1311, h13]
  show mm_wp _ _ _ _ _ _ _ _ (lx_L h0 (lx_pu (lx_pu P 11 ((nI H - 1, s, f, g), x)) 13 ((nI H - 1, s, f, g), y)))
  rw [e1]
  refine And.intro (fun c_24 => mm_go_from (mm_hM n_Lo_isNull rfl) ?_) (fun c_24 => ?_)
  · have z : (g (5 + H)).2.2.2.2 = -1 := c_24
    have e0 : ∀ F : mm_V → mm_V, lk_is 15 g H F (nI (H - 1), s, f, g) = (nI (H - 1), s, f, g) := fun F => if_neg (fun y => y.2 z)
    rw [e0, e0] at hQ
    exact hQ hg hg
  · have z : ¬ (g (5 + H)).2.2.2.2 = -1 := c_24
    obtain ⟨l6, el⟩ := lk_org v5.1 z
    generalize hl : (g (5 + H)).2.2.2.2.toInt.toNat = l at l6 el
    have e0 : ∀ F : mm_V → mm_V, lk_is 15 g H F (nI (H - 1), s, f, g) = (nI (H - 1), s, f, lk_up g l (F (g l))) := fun F => by
      unfold lk_is
      rw [if_pos ⟨rfl, z⟩, hl]
    have vl := hg l (by omega)
    have vn0 : lx_vr nC (lk_n0 (g l)) := ⟨(lk_n0_ok _ vl.1).1, vl.2⟩
    have vnk : lx_vr nC (lk_nk (g l)) := by
      refine ⟨(lk_nk_ok _ vl.1).1, ?_⟩
      unfold lk_nk
      split
      · have c5 := vl.2
        show (-1 : Int32).toInt < _
        rename_i k3
        have := vl.1.2.2.1 (by rw [k3]; decide)
        rw [show (-1 : Int32).toInt = -1 by decide]; omega
      · exact vl.2
    rw [e0, e0] at hQ
    have w := hQ (lx_gv_up hg vn0) (lx_gv_up hg vnk)
    rw [el]
    have hB : 0 ≤ (nI l).toInt ∧ (nI l).toInt < ((10 : Nat) : Int) := mm_nb (by omega) (by omega)
    have hc : (nI l).toNatClampNeg = l := mm_ncl (by omega)
    have J1 : ∀ g' : Nat → mm_V, mm_SH (lx_L h0 (lx_pu (lx_pu P 11 ((nI (H - 1), s, f, g), x)) 13 ((nI (H - 1), s, f, g'), y))) := fun _ => I
    have ra : ∀ g' : Nat → mm_V, mm_a (lx_L h0 (lx_pu (lx_pu P 11 ((nI (H - 1), s, f, g), x)) 13 ((nI (H - 1), s, f, g'), y))) (11 + 1) (nI l).toNatClampNeg = lx_pk (g l) := fun g' => by rw [hc, lx_a lx_11 (by omega), lx_pu_f n1113, lx_pu_t]
    have rb : mm_a (lx_L h0 (lx_pu (lx_pu P 11 ((nI (H - 1), s, f, g), x)) 13 ((nI (H - 1), s, f, g), y))) (13 + 1) (nI l).toNatClampNeg = lx_pk (g l) := by rw [hc, lx_a lx_13 (by omega), lx_pu_t]
    have g66 : ∀ g', lk_up g l (lk_nk (g l)) = g' → mm_go ro (d + 1) mm_m_Lo_isNull 66 [.ref 9, .int (nI l)] [] (lx_L h0 (lx_pu (lx_pu P 11 ((nI (H - 1), s, f, g), x)) 13 ((nI (H - 1), s, f, g'), y))) Q := by
      intro g' eg
      refine mm_go_from (mm_hM n_Lo_isNull rfl) (And.intro (k_9 J0) (mm_rf (r_131 J0) (And.intro a1 (mm_rf a4 (And.intro (k_9 J0) (mm_rf (r_131 J0) (And.intro a1 (mm_rf a4 (And.intro ⟨a2, mm_inb 10 a3 hB⟩ (mm_rf (ra g') (And.intro ⟨rfl, trivial⟩ (c_Va_notNull vl.1 (And.intro ⟨a2, mm_inb 10 a3 hB⟩ ?_)))))))))))))
      refine mm_qq w rfl ?_
      rw [hc, lxw_s lx_11 (by omega), lx_pu_f n1113, lx_pu_t, ← comm, lx_pu_u, comm, eg]
    refine And.intro (k_9 J0) (mm_rf (r_131 J0) (And.intro a1 (mm_rf a4 (And.intro ⟨a2, mm_inb 10 a3 hB⟩ (mm_rf (ra g) (And.intro ⟨rfl, trivial⟩ (c_Va_kind vl.1 (And.intro (fun c_40 => g66 g ?_) (fun c_40 => ?_)))))))))
    · have k3 : ¬ (g l).1 = 3 := c_40
      have e3 : lk_nk (g l) = g l := if_neg k3
      rw [e3]
      exact lx_up_self
    · have k3 : (g l).1 = 3 := mm_no c_40
      have e3 : lk_nk (g l) = (2, -1, (g l).2.2) := if_pos k3
      have V' := vnk.1
      rw [e3] at V'
      refine And.intro (k_9 J0) (mm_rf (r_132 J0) (And.intro b1 (mm_rf b4 (And.intro (k_9 J0) (mm_rf (r_132 J0) (And.intro b1 (mm_rf b4 (And.intro ⟨b2, mm_inb 10 b3 hB⟩ (mm_rf rb (And.intro ⟨rfl, trivial⟩ (c_Va_withKind vl.1 V' (And.intro ⟨b2, mm_inb 10 b3 hB⟩ ?_))))))))))))
      rw [hc, lxw_s lx_13 (by omega), lx_pu_t, lx_pu_u]
      exact g66 _ (by rw [e3]; rfl)
