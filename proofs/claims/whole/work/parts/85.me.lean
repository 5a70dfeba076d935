/-! THE CLASS READS A METHOD: places, takes, gives, caughtAt, pops, breaksStack -/
def lx_PL (h : mm_H) (p : Nat) (s n w : Int32) : Prop := 124 ≤ p ∧ mm_k h p = 8 ∧ mm_i h 448 p = s ∧ mm_i h 449 p = (if 0 ≤ s.toInt then n else 0) ∧ mm_i h 450 p = w
/-- a Method of the class is the reference's method m -/
def lx_MO (h : mm_H) (q m : Nat) : Prop := 124 ≤ q ∧ mm_ME h q ∧ (mm_i h 512 q = mm_a h 87 m ∧ mm_i h 513 q = mm_a h 88 m ∧ mm_i h 514 q = mm_a h 95 m ∧ mm_i h 516 q = mm_a h 89 m ∧ mm_i h 518 q = mm_a h 90 m ∧ mm_i h 521 q = mm_a h 91 m ∧ mm_i h 525 q = mm_a h 92 m) ∧ (∀ p : Nat, p < 3 → (p : Int) < (mm_a h 89 m).toInt → lx_PL h (mm_q h (q + 1) p) (mm_a h 93 (4 * m + p)) (mm_a h 96 (4 * m + p)) (mm_a h 94 (4 * m + p))) ∧ lx_PL h (q + 2) (mm_a h 93 (4 * m + 3)) (mm_a h 96 (4 * m + 3)) (mm_a h 94 (4 * m + 3)) ∧ (∀ i, i < 20 → mm_a h (q + 3) i = mm_a h 97 (20 * m + i) ∧ mm_a h (q + 4) i = mm_a h 98 (20 * m + i)) ∧ (∀ j, j < 2 → mm_a h (q + 5) j = mm_a h 99 (2 * m + j) ∧ mm_a h (q + 6) j = mm_a h 100 (2 * m + j) ∧ mm_a h (q + 7) j = mm_a h 101 (2 * m + j))
def lx_MS (h : mm_H) (nM : Nat) (qm : Nat → Nat) : Prop := nM ≤ 10 ∧ ∀ m, m < nM → mm_q h 8 m = qm m ∧ lx_MO h (qm m) m
def lx_FD (h : mm_H) (nF : Nat) : Prop := nF ≤ 12 ∧ ∀ f, f < nF → lx_PL h (mm_q h 7 f) (mm_a h 83 f) (mm_a h 86 f) (mm_a h 84 f) ∧ mm_a h 6 f = mm_a h 82 f
def lx_RO (ro : mm_Ro) : Prop := (ro 1).1 = 18 ∧ (ro 2).1 = 18 ∧ ∀ o, o < 18 → (ro 1).2 o = nI ([0, 0, 0, 1, 1, 1, 2, 0, 1, 1, 2, 0, 1, 0, 1, 1, 0, 1].getD o 0) ∧ (ro 2).2 o = nI ([1, 1, 1, 0, 2, 0, 1, 1, 1, 1, 0, 0, 1, 0, 0, 0, 0, 0].getD o 0)
theorem lx_PL_L {h0 : mm_H} {P : Nat → mm_F × Int32} {p : Nat} {s n w : Int32} (h : lx_PL h0 p s n w) : lx_PL (lx_L h0 P) p s n w := by
  obtain ⟨h1, h2, h3, h4, h5⟩ := h
  exact ⟨h1, h2, (lx_hi h1).1.trans h3, (lx_hi h1).1.trans h4, (lx_hi h1).1.trans h5⟩
theorem lx_MO_L {h0 : mm_H} {P : Nat → mm_F × Int32} {q m : Nat} (h : lx_MO h0 q m) : lx_MO (lx_L h0 P) q m := by
  obtain ⟨h1, h2, ⟨i1, i2, i3, i4, i5, i6, i7⟩, h4, h5, h6, h7⟩ := h
  have e : ∀ k : Nat, mm_a (lx_L h0 P) (q + k) = mm_a h0 (q + k) := fun k => (lx_hi (f := 0) (by omega)).2
  refine ⟨h1, h2, ⟨(lx_hi h1).1.trans i1, (lx_hi h1).1.trans i2, (lx_hi h1).1.trans i3, (lx_hi h1).1.trans i4, (lx_hi h1).1.trans i5, (lx_hi h1).1.trans i6, (lx_hi h1).1.trans i7⟩, fun p h3 hp => lx_PL_L (h4 p h3 hp), lx_PL_L h5, fun i hi => ?_, fun j hj => ?_⟩
  · rw [e 3, e 4]; exact h6 i hi
  · rw [e 5, e 6, e 7]; exact h7 j hj
theorem c_Va_ofPlace {ro : mm_Ro} {d p : Nat} {h : mm_H} {s n w b : Int32} {Q : Value → mm_H → Prop} (L : lx_PL h p s n w) (hs : -1 ≤ s.toInt ∧ s.toInt ≤ 5) (hb : b = 0 ∨ b = 1) (hw : 0 ≤ w.toInt ∧ w.toInt ≤ 15) (hQ : Q (.int (lx_pk (lk_sv s b w))) h) : mm_ev ro (d + 2) n_Va_ofPlace [.ref p, .int b] h Q := by
  obtain ⟨l1, l2, l3, l4, l5⟩ := L
  have V := (lk_sv_vr (s := s) hs hb hw).1
  refine mm_ev_in (Z := mm_m_Va_ofPlace) rfl rfl (Nat.le_of_ble_eq_true rfl) rfl ?_
  refine And.intro l2 (mm_rf l3 (And.intro (fun c_5 => mm_go_from (mm_hM n_Va_ofPlace rfl) ?_) (fun c_5 => ?_)))
  · have q : ¬ s = -1 := c_5
    have e : lk_sv s b w = (3, s, b, w, -1) := if_neg q
    rw [e] at V hQ
    exact And.intro l2 (mm_rf l3 (And.intro l2 (mm_rf l5 (And.intro ⟨rfl, trivial⟩ (c_Va_of V hQ)))))
  · have q : s = -1 := mm_no c_5
    have e : lk_sv s b w = (1, -1, 0, w, -1) := if_pos q
    rw [e] at V hQ
    exact And.intro l2 (mm_rf l5 (And.intro ⟨rfl, trivial⟩ (c_Va_of V (mm_go_from (mm_hM n_Va_ofPlace rfl) hQ))))
theorem c_Me_gives {ro : mm_Ro} {d q m : Nat} {h : mm_H} {Q : Value → mm_H → Prop} (M : lx_MO h q m) (hQ : Q (.int (mm_b (¬ mm_a h 93 (4 * m + 3) = -2))) h) : mm_ev ro (d + 1) n_Me_gives [.ref q] h Q := by
  obtain ⟨h1, ⟨⟨k1, _⟩, ⟨k2, k3⟩, _⟩, _, _, ⟨_, _, l3, _⟩, _⟩ := M
  refine mm_ev_in (Z := mm_m_Me_gives) rfl rfl (Nat.le_of_ble_eq_true rfl) rfl ?_
  refine And.intro k1 (mm_rf k2 (And.intro k3 (mm_rf l3 (And.intro (fun c_9 => mm_go_from (mm_hM n_Me_gives rfl) ?_) (fun c_9 => mm_go_from (mm_hM n_Me_gives rfl) ?_)))))
  · exact ⟨Or.inl rfl, mm_qe hQ (mm_b_f (fun z => z c_9))⟩
  · exact ⟨Or.inr rfl, mm_qe hQ (mm_b_t c_9)⟩
theorem c_Me_firstParam {ro : mm_Ro} {d q m : Nat} {h : mm_H} {Q : Value → mm_H → Prop} (M : lx_MO h q m) (hQ : Q (.int (nI (lk_of h m))) h) : mm_ev ro (d + 1) n_Me_firstParam [.ref q] h Q := by
  obtain ⟨h1, ⟨⟨k1, _⟩, _⟩, ⟨_, _, i3, _⟩, _⟩ := M
  refine mm_ev_in (Z := mm_m_Me_firstParam) rfl rfl (Nat.le_of_ble_eq_true rfl) rfl ?_
  refine And.intro k1 (mm_rf i3 (And.intro (fun c_4 => mm_go_from (mm_hM n_Me_firstParam rfl) ?_) (fun c_4 => mm_go_from (mm_hM n_Me_firstParam rfl) ?_)))
  · have z : lk_of h m = 1 := if_pos c_4
    rw [z] at hQ
    exact hQ
  · have z : lk_of h m = 0 := if_neg c_4
    rw [z] at hQ
    exact hQ
theorem c_Me_isBuiltIn {ro : mm_Ro} {d q m : Nat} {h : mm_H} {Q : Value → mm_H → Prop} (M : lx_MO h q m) (hQ : Q (.int (mm_b (¬ mm_a h 90 m = -1))) h) : mm_ev ro (d + 1) n_Me_isBuiltIn [.ref q] h Q := by
  obtain ⟨h1, ⟨⟨k1, _⟩, _⟩, ⟨_, _, _, _, i5, _⟩, _⟩ := M
  refine mm_ev_in (Z := mm_m_Me_isBuiltIn) rfl rfl (Nat.le_of_ble_eq_true rfl) rfl ?_
  refine And.intro k1 (mm_rf i5 (And.intro (fun c_5 => mm_go_from (mm_hM n_Me_isBuiltIn rfl) ?_) (fun c_5 => mm_go_from (mm_hM n_Me_isBuiltIn rfl) ?_)))
  · exact ⟨Or.inl rfl, mm_qe hQ (mm_b_f (fun z => z c_5))⟩
  · exact ⟨Or.inr rfl, mm_qe hQ (mm_b_t c_5)⟩
theorem c_Me_takes {ro : mm_Ro} {d q m : Nat} {h : mm_H} {Q : Value → mm_H → Prop} (M : lx_MO h q m) (V : lk_MV h m) (hQ : Q (.int (nI (lk_np h m + lk_of h m))) h) : mm_ev ro (d + 2) n_Me_takes [.ref q] h Q := by
  have M' := M
  obtain ⟨h1, ⟨⟨k1, _⟩, _⟩, ⟨_, _, _, i4, _⟩, _⟩ := M'
  refine mm_ev_in (Z := mm_m_Me_takes) rfl rfl (Nat.le_of_ble_eq_true rfl) rfl ?_
  refine And.intro k1 (mm_rf (b := nI (lk_np h m)) (i4.trans V.2.2.1) (And.intro ⟨rfl, k1⟩ (c_Me_firstParam M ?_)))
  rw [← nI_add] at hQ
  exact hQ
theorem l_Me_caughtAt {ro : mm_Ro} {d q m i j G : Nat} {h : mm_H} {Q : Value → mm_H → Prop} (M : lx_MO h q m) (hi : i < 20) (hj : j ≤ 2) (hG : mm_a h 92 m = nI G) (hG2 : G ≤ 2) (h1 : j < G → lk_hit h (2 * m + j) i → Q (.int (mm_a h 101 (2 * m + j))) h) (h2 : j < G → ¬ lk_hit h (2 * m + j) i → mm_go ro d mm_m_Me_caughtAt 2 [.ref q, .int (nI i), .int (nI (j + 1))] [] h Q) (h3 : ¬ j < G → Q (.int (-1)) h) : mm_go ro d mm_m_Me_caughtAt 2 [.ref q, .int (nI i), .int (nI j)] [] h Q := by
  obtain ⟨m1, ⟨⟨k1, _⟩, _, _, _, ⟨g1, g2, g3⟩, ⟨g4, g5, g6⟩, ⟨g7, g8, g9⟩⟩, ⟨_, _, _, _, _, _, i7⟩, _, _, _, hg⟩ := M
  refine mm_go_from (mm_hM n_Me_caughtAt rfl) (And.intro k1 (mm_rf (b := nI G) (i7.trans hG) (And.intro (fun c_7 => mm_go_from (mm_hM n_Me_caughtAt rfl) ?_) (fun c_7 => ?_))))
  · have z : (nI G).toInt ≤ (nI j).toInt := c_7
    rw [mm_nt (by omega), mm_nt (by omega)] at z
    exact h3 (by omega)
  · have z : ¬ (nI G).toInt ≤ (nI j).toInt := c_7
    rw [mm_nt (by omega), mm_nt (by omega)] at z
    have hjG : j < G := by omega
    have hB : 0 ≤ (nI j).toInt ∧ (nI j).toInt < ((2 : Nat) : Int) := mm_nb (by omega) (by omega)
    have hc : (nI j).toNatClampNeg = j := mm_ncl (by omega)
    obtain ⟨r1, r2, r3⟩ := hg j (by omega)
    have nx : ¬ lk_hit h (2 * m + j) i → mm_go ro d mm_m_Me_caughtAt 2 [.ref q, .int (nI i), .int (nI j + Int32.ofInt 1)] [] h Q := fun y => by
      have := h2 hjG y
      rw [nI_succ] at this
      exact this
    refine And.intro k1 (mm_rf g1 (And.intro ⟨g2, mm_inb 2 g3 hB⟩ (mm_rf (b := mm_a h 99 (2 * m + j)) (by rw [hc]; exact r1) (And.intro (fun c_17 => mm_go_from (mm_hM n_Me_caughtAt rfl) ?_) (fun c_17 => ?_)))))
    · have y : (nI i).toInt < (mm_a h 99 (2 * m + j)).toInt := c_17
      rw [mm_nt (by omega)] at y
      exact nx (fun x => by have := x.1; omega)
    · have y : ¬ (nI i).toInt < (mm_a h 99 (2 * m + j)).toInt := c_17
      rw [mm_nt (by omega)] at y
      refine And.intro k1 (mm_rf g4 (And.intro ⟨g5, mm_inb 2 g6 hB⟩ (mm_rf (b := mm_a h 100 (2 * m + j)) (by rw [hc]; exact r2) (And.intro (fun c_27 => mm_go_from (mm_hM n_Me_caughtAt rfl) ?_) (fun c_27 => ?_)))))
      · have y2 : (mm_a h 100 (2 * m + j)).toInt < (nI i).toInt := c_27
        rw [mm_nt (by omega)] at y2
        exact nx (fun x => by have := x.2; omega)
      · have y2 : ¬ (mm_a h 100 (2 * m + j)).toInt < (nI i).toInt := c_27
        rw [mm_nt (by omega)] at y2
        exact And.intro k1 (mm_rf g7 (And.intro ⟨g8, mm_inb 2 g9 hB⟩ (mm_rf (b := mm_a h 101 (2 * m + j)) (by rw [hc]; exact r3) (h1 hjG ⟨by omega, by omega⟩))))
theorem c_Me_caughtAt {ro : mm_Ro} {d q m i : Nat} {h : mm_H} {Q : Value → mm_H → Prop} (M : lx_MO h q m) (hi : i < 20) (G : lk_GV h m) (hQ : ∀ r : Int32, r.toInt = lk_gd h m i → Q (.int r) h) : mm_ev ro (d + 1) n_Me_caughtAt [.ref q, .int (nI i)] h Q := by
  obtain ⟨G, hG2, hG⟩ := G
  have eG : (mm_a h 92 m).toInt = G := by rw [hG, mm_nt (by omega)]
  refine mm_ev_at 2 (Z := mm_m_Me_caughtAt) rfl rfl (Nat.le_of_ble_eq_true rfl) rfl ?_
  have m1 : (-1 : Int32).toInt = -1 := by decide
  exact l_Me_caughtAt (ro := ro) (d := d) (j := 0) (Q := Q) M hi (by omega) hG hG2 (fun a b => hQ _ (by
    unfold lk_gd
    exact (if_pos ⟨by omega, b⟩).symm)) (fun a b => l_Me_caughtAt (j := 1) M hi (by omega) hG hG2 (fun a' b' => hQ _ (by
    unfold lk_gd
    exact ((if_neg (fun z => b z.2)).trans (if_pos ⟨by omega, b'⟩)).symm)) (fun a' b' => l_Me_caughtAt (j := 2) M hi (by omega) hG hG2 (fun a'' _ => by omega) (fun a'' _ => by omega) (fun _ => hQ _ (by
    unfold lk_gd
    exact m1.trans ((if_neg (fun z => b z.2)).trans (if_neg (fun z => b' z.2))).symm))) (fun a' => hQ _ (by
    unfold lk_gd
    exact m1.trans ((if_neg (fun z => b z.2)).trans (if_neg (fun z => by have := z.1; omega))).symm))) (fun a => hQ _ (by
    unfold lk_gd
    exact m1.trans ((if_neg (fun z => by have := z.1; omega)).trans (if_neg (fun z => by have := z.1; omega))).symm))
/-- an instruction of a method, its argument among what is there -/
def lx_IV (h : mm_H) (nC nF nM m i : Nat) : Prop := lk_IV h m i ∧ ((lk_o h m i = 7 ∨ lk_o h m i = 12) → lk_a h m i < nC) ∧ ((lk_o h m i = 9 ∨ lk_o h m i = 10) → lk_a h m i < nF) ∧ (lk_o h m i = 11 → lk_a h m i < nM)
theorem c_St_pops {ro : mm_Ro} {d q m i nC nF nM : Nat} {qm : Nat → Nat} {h : mm_H} {Q : Value → mm_H → Prop} (K : lx_RO ro) (I : mm_SH h) (M : lx_MO h q m) (MS : lx_MS h nM qm) (hi : i < 20) (V : lx_IV h nC nF nM m i) (hQ : Q (.int (nI (lk_po h m (lk_o h m i) (lk_a h m i)))) h) : mm_ev ro (d + 3) n_St_pops [.ref 2, .ref q, .int (nI i)] h Q := by
  have M' := M
  obtain ⟨m1, ⟨⟨k1, _⟩, _, ⟨o1, o2, o3⟩, ⟨p1, p2, p3⟩, _⟩, _, _, _, hop, _⟩ := M'
  obtain ⟨V, v1, v2, v3⟩ := V
  obtain ⟨eo, ea⟩ := hop i hi
  have hB : 0 ≤ (nI i).toInt ∧ (nI i).toInt < ((20 : Nat) : Int) := mm_nb hi (by omega)
  have hc : (nI i).toNatClampNeg = i := mm_ncl (by omega)
  have ho := V.1.1
  have rop : mm_a h (q + 3) (nI i).toNatClampNeg = nI (lk_o h m i) := by rw [hc, eo]; exact V.2.1
  have to : (nI (lk_o h m i)).toInt = (lk_o h m i : Int) := mm_nt (by omega)
  refine mm_ev_in (Z := mm_m_St_pops) rfl rfl (Nat.le_of_ble_eq_true rfl) rfl ?_
  refine And.intro k1 (mm_rf o1 (And.intro ⟨o2, mm_inb 20 o3 hB⟩ (mm_rf rop ?_)))
  refine And.intro (fun c => mm_go_from (mm_hM n_St_pops rfl) ?_) (fun c => And.intro (fun c2 => mm_go_from (mm_hM n_St_pops rfl) ?_) (fun c2 => mm_go_from (mm_hM n_St_pops rfl) ?_))
  · have q11 : lk_o h m i = 11 := by
      have z : (nI (lk_o h m i)).toInt = 11 := c
      omega
    have a10 := v3 q11
    obtain ⟨eA, MV⟩ := V.2.2.1 q11
    have n10 := MS.1
    have hBa : 0 ≤ (nI (lk_a h m i)).toInt ∧ (nI (lk_a h m i)).toInt < ((10 : Nat) : Int) := mm_nb (by omega) (by omega)
    have hca : (nI (lk_a h m i)).toNatClampNeg = lk_a h m i := mm_ncl (by omega)
    obtain ⟨s1, s2⟩ := MS.2 _ a10
    have e0 : lk_po h m (lk_o h m i) (lk_a h m i) = lk_np h (lk_a h m i) + lk_of h (lk_a h m i) := by rw [q11]; exact if_pos rfl
    rw [e0] at hQ
    exact And.intro (k_2 I) (mm_rf (r_73 I) (And.intro k1 (mm_rf p1 (And.intro ⟨p2, mm_inb 20 p3 hB⟩ (mm_rf (b := nI (lk_a h m i)) (by rw [hc, ea]; exact eA) (And.intro ⟨⟨by rw [k_8 I]; decide, by rw [k_8 I]; decide⟩, mm_inb 10 (n_8 I) hBa⟩ (mm_rf (b := qm (lk_a h m i)) (by rw [hca]; exact s1) (And.intro ⟨rfl, s2.2.1.1.1⟩ (c_Me_takes s2 MV hQ)))))))))
  · have q16 : lk_o h m i = 16 := by
      have z : (nI (lk_o h m i)).toInt = 16 := c2
      omega
    have e0 : lk_po h m (lk_o h m i) (lk_a h m i) = if mm_a h 93 (4 * m + 3) = -2 then 0 else 1 := by rw [q16]; exact (if_neg (by decide)).trans (if_pos rfl)
    rw [e0] at hQ
    refine And.intro ⟨rfl, k1⟩ (c_Me_gives M (And.intro (fun c_51 => mm_go_from (mm_hM n_St_pops rfl) ?_) (fun c_51 => mm_go_from (mm_hM n_St_pops rfl) ?_)))
    · have z := Classical.not_not.mp (mm_b0.mp c_51)
      rw [if_pos z] at hQ
      exact hQ
    · have z := mm_nn c_51
      rw [if_neg z] at hQ
      exact hQ
  · have n11 : ¬ lk_o h m i = 11 := fun z => c (show (nI (lk_o h m i)).toInt = 11 by omega)
    have n16 : ¬ lk_o h m i = 16 := fun z => c2 (show (nI (lk_o h m i)).toInt = 16 by omega)
    have e0 : lk_po h m (lk_o h m i) (lk_a h m i) = [0, 0, 0, 1, 1, 1, 2, 0, 1, 1, 2, 0, 1, 0, 1, 1, 0, 1].getD (lk_o h m i) 0 := (if_neg n11).trans (if_neg n16)
    rw [e0] at hQ
    have hBo : 0 ≤ (nI (lk_o h m i)).toInt ∧ (nI (lk_o h m i)).toInt < ((18 : Nat) : Int) := mm_nb (by omega) (by omega)
    have hco : (nI (lk_o h m i)).toNatClampNeg = lk_o h m i := mm_ncl (by omega)
    exact And.intro k1 (mm_rf o1 (And.intro ⟨o2, mm_inb 20 o3 hB⟩ (mm_rf rop (And.intro (mm_inb 18 K.1 hBo) (mm_rf (b := nI ([0, 0, 0, 1, 1, 1, 2, 0, 1, 1, 2, 0, 1, 0, 1, 1, 0, 1].getD (lk_o h m i) 0)) (by rw [hco]; exact (K.2.2 _ ho).1) hQ)))))
theorem c_St_breaksStack {ro : mm_Ro} {d q m i nC nF nM : Nat} {qm : Nat → Nat} {h : mm_H} {x : Int32} {Q : Value → mm_H → Prop} (K : lx_RO ro) (I : mm_SH h) (M : lx_MO h q m) (MS : lx_MS h nM qm) (hi : i < 20) (V : lx_IV h nC nF nM m i) (hr : -10 ≤ x.toInt ∧ x.toInt ≤ 10) (hQ : Q (.int (mm_b (lk_bad h m i x.toInt))) h) : mm_ev ro (d + 4) n_St_breaksStack [.ref 2, .ref q, .int (nI i), .int x] h Q := by
  have M' := M
  obtain ⟨m1, ⟨⟨k1, _⟩, _, ⟨o1, o2, o3⟩, ⟨p1, p2, p3⟩, _⟩, _, _, _, hop, _⟩ := M'
  have V' := V
  obtain ⟨V, v1, v2, v3⟩ := V
  obtain ⟨eo, ea⟩ := hop i hi
  have hB : 0 ≤ (nI i).toInt ∧ (nI i).toInt < ((20 : Nat) : Int) := mm_nb hi (by omega)
  have hc : (nI i).toNatClampNeg = i := mm_ncl (by omega)
  have ho := V.1.1
  have rop : mm_a h (q + 3) (nI i).toNatClampNeg = nI (lk_o h m i) := by rw [hc, eo]; exact V.2.1
  obtain ⟨p4, p5⟩ := lk_po4 V
  have t1 : (nI (lk_po h m (lk_o h m i) (lk_a h m i))).toInt = (lk_po h m (lk_o h m i) (lk_a h m i) : Int) := mm_nt (by omega)
  have t2 : (nI (lk_pu h (lk_o h m i) (lk_a h m i))).toInt = (lk_pu h (lk_o h m i) (lk_a h m i) : Int) := mm_nt (by omega)
  have s1 : (x - nI (lk_po h m (lk_o h m i) (lk_a h m i))).toInt = x.toInt - (lk_po h m (lk_o h m i) (lk_a h m i) : Int) := by rw [lk_sub (by omega) (by omega), t1]
  have s2 : (x - nI (lk_po h m (lk_o h m i) (lk_a h m i)) + nI (lk_pu h (lk_o h m i) (lk_a h m i))).toInt = x.toInt - (lk_po h m (lk_o h m i) (lk_a h m i) : Int) + (lk_pu h (lk_o h m i) (lk_a h m i) : Int) := by rw [lk_add (by omega) (by omega), s1, t2]
  have g52 : mm_go ro (d + 3) mm_m_St_breaksStack 52 [.ref 2, .ref q, .int (nI i), .int x, .int (nI (lk_o h m i)), .int (x - nI (lk_po h m (lk_o h m i) (lk_a h m i))), .null] [.int (nI (lk_pu h (lk_o h m i) (lk_a h m i)))] h Q := by
    refine mm_go_from (mm_hM n_St_breaksStack rfl) (And.intro (fun c_56 => mm_go_from (mm_hM n_St_breaksStack rfl) (mm_go_from (mm_hM n_St_breaksStack rfl) ?_)) (fun c_56 => And.intro (fun c_65 => mm_go_from (mm_hM n_St_breaksStack rfl) ?_) (fun c_65 => mm_go_from (mm_hM n_St_breaksStack rfl) ?_)))
    · have z : (x - nI (lk_po h m (lk_o h m i) (lk_a h m i))).toInt < 0 := c_56
      rw [s1] at z
      exact ⟨Or.inr rfl, mm_qe hQ (mm_b_t (Or.inl (by omega)))⟩
    · have z : ¬ (x - nI (lk_po h m (lk_o h m i) (lk_a h m i))).toInt < 0 := c_56
      have y : (x - nI (lk_po h m (lk_o h m i) (lk_a h m i)) + nI (lk_pu h (lk_o h m i) (lk_a h m i))).toInt ≤ 4 := c_65
      rw [s1] at z
      rw [s2] at y
      refine ⟨Or.inl rfl, mm_qe hQ (mm_b_f ?_)⟩
      rintro (w | w) <;> omega
    · have y : ¬ (x - nI (lk_po h m (lk_o h m i) (lk_a h m i)) + nI (lk_pu h (lk_o h m i) (lk_a h m i))).toInt ≤ 4 := c_65
      rw [s2] at y
      exact ⟨Or.inr rfl, mm_qe hQ (mm_b_t (Or.inr (by omega)))⟩
  have hBo : 0 ≤ (nI (lk_o h m i)).toInt ∧ (nI (lk_o h m i)).toInt < ((18 : Nat) : Int) := mm_nb (by omega) (by omega)
  have hco : (nI (lk_o h m i)).toNatClampNeg = lk_o h m i := mm_ncl (by omega)
  refine mm_ev_at 52 (Z := mm_m_St_breaksStack) rfl rfl (Nat.le_of_ble_eq_true rfl) rfl ?_
  refine And.intro k1 (mm_rf o1 (And.intro ⟨o2, mm_inb 20 o3 hB⟩ (mm_rf rop (And.intro ⟨rfl, k_2 I⟩ (c_St_pops K I M MS hi V' (And.intro (fun c_22 => mm_go_at 52 (mm_hM n_St_breaksStack rfl) ?_) (fun c_22 => ?_)))))))
  · have n11 : ¬ lk_o h m i = 11 := fun z => c_22 (by rw [z]; rfl)
    have e0 : lk_pu h (lk_o h m i) (lk_a h m i) = [1, 1, 1, 0, 2, 0, 1, 1, 1, 1, 0, 0, 1, 0, 0, 0, 0, 0].getD (lk_o h m i) 0 := if_neg n11
    rw [e0] at g52
    exact And.intro (mm_inb 18 K.2.1 hBo) (mm_rf (b := nI ([1, 1, 1, 0, 2, 0, 1, 1, 1, 1, 0, 0, 1, 0, 0, 0, 0, 0].getD (lk_o h m i) 0)) (by rw [hco]; exact (K.2.2 _ ho).2) g52)
  · have q11 : lk_o h m i = 11 := (lk_b13 ho 11 (by omega)).mp (mm_no c_22)
    have a10 := v3 q11
    obtain ⟨eA, MV⟩ := V.2.2.1 q11
    have n10 := MS.1
    have hBa : 0 ≤ (nI (lk_a h m i)).toInt ∧ (nI (lk_a h m i)).toInt < ((10 : Nat) : Int) := mm_nb (by omega) (by omega)
    have hca : (nI (lk_a h m i)).toNatClampNeg = lk_a h m i := mm_ncl (by omega)
    obtain ⟨s3, s4⟩ := MS.2 _ a10
    have e0 : lk_pu h (lk_o h m i) (lk_a h m i) = if mm_a h 93 (4 * lk_a h m i + 3) = -2 then 0 else 1 := by rw [q11]; exact if_pos rfl
    rw [e0] at g52
    refine And.intro (k_2 I) (mm_rf (r_73 I) (And.intro k1 (mm_rf p1 (And.intro ⟨p2, mm_inb 20 p3 hB⟩ (mm_rf (b := nI (lk_a h m i)) (by rw [hc, ea]; exact eA) (And.intro ⟨⟨by rw [k_8 I]; decide, by rw [k_8 I]; decide⟩, mm_inb 10 (n_8 I) hBa⟩ (mm_rf (b := qm (lk_a h m i)) (by rw [hca]; exact s3) (And.intro ⟨rfl, s4.2.1.1.1⟩ (c_Me_gives s4 (And.intro (fun c_39 => mm_go_at 52 (mm_hM n_St_breaksStack rfl) ?_) (fun c_39 => ?_)))))))))))
    · have z := Classical.not_not.mp (mm_b0.mp c_39)
      rw [if_pos z] at g52
      have e11 : (nI (lk_o h m i)).toNatClampNeg = 11 := by rw [hco, q11]
      exact And.intro (mm_inb 18 K.2.1 hBo) (mm_rf (b := nI 0) (by rw [e11]; exact (K.2.2 11 (by omega)).2) g52)
    · have z := mm_nn c_39
      rw [if_neg z] at g52
      exact g52
