/-! THE REFERENCE: effect (wip/whole/gen_ef.py) -/
theorem lk_51 {x : Int32} : Int32.ofInt 5 + (x + Int32.ofInt 1) = 6 + x := by
  rw [Int32.add_comm x, ← Int32.add_assoc]
  rfl
theorem lk_nsub {a b : Nat} (h : b ≤ a) : nI a - nI b = nI (a - b) := by
  have e : nI a = nI (a - b) + nI b := by rw [nI_add, show a - b + b = a by omega]
  rw [e, Int32.add_sub_cancel]
theorem l_ef_0 {ro : mm_Ro} {d m i L : Nat} {h0 : mm_H} {e : Int32 × Int32 × Int32} {c : mm_F} {hd : Nat → Int32 × Int32 × Int32} {sv : Nat → mm_V} {vt : Value} {Q : Value → mm_H → Prop} {x : Int32} (I : mm_SH h0) (hL : 6 + c.1 = nI L) (hL10 : L < 10) (hQ : Q .null (lk_L h0 e (c.1 + 1, c.2.1, c.2.2.1, lk_up c.2.2.2 L (1, -1, 0, 0, -1)) hd sv)) : mm_go ro (d + 3) mm_m_Mo_effect 140 [.ref 80, .int (nI m), .int (nI i), .int (nI 0), .int x, vt, .int (nI L), .null] [] (lk_L h0 e c hd sv) Q := by
  have J : mm_SH (lk_L h0 e c hd sv) := I
  refine mm_go_from (mm_hM n_Mo_effect rfl) (And.intro (fun c => absurd c (by decide)) (And.intro (Nat.le_of_ble_eq_true rfl) ⟨fun _ => mm_go_from (mm_hM n_Mo_effect rfl) ?_, fun c => absurd c (by decide), fun c => absurd c (by decide), fun c => absurd c (by decide), fun c => absurd c (by decide), fun c => absurd c (by decide), fun c => absurd c (by decide), fun c => absurd c (by decide), fun c => absurd c (by decide), fun c => absurd c (by decide), fun c => absurd c (by decide), fun c => absurd c (by decide), fun c => absurd c (by decide), trivial⟩))
  exact And.intro ⟨rfl, k_80 J⟩ (c_Mo_push I hL hL10 (Or.inl rfl) (mm_go_from (mm_hM n_Mo_effect rfl) hQ))
theorem l_ef_1 {ro : mm_Ro} {d m i L : Nat} {h0 : mm_H} {e : Int32 × Int32 × Int32} {c : mm_F} {hd : Nat → Int32 × Int32 × Int32} {sv : Nat → mm_V} {vt : Value} {Q : Value → mm_H → Prop} {x : Int32} (I : mm_SH h0) (hL : 6 + c.1 = nI L) (hL10 : L < 10) (hQ : Q .null (lk_L h0 e (c.1 + 1, c.2.1, c.2.2.1, lk_up c.2.2.2 L (2, -1, 1, 0, -1)) hd sv)) : mm_go ro (d + 3) mm_m_Mo_effect 140 [.ref 80, .int (nI m), .int (nI i), .int (nI 1), .int x, vt, .int (nI L), .null] [] (lk_L h0 e c hd sv) Q := by
  have J : mm_SH (lk_L h0 e c hd sv) := I
  refine mm_go_from (mm_hM n_Mo_effect rfl) (And.intro (fun c => absurd c (by decide)) (And.intro (Nat.le_of_ble_eq_true rfl) ⟨fun c => absurd c (by decide), fun _ => mm_go_from (mm_hM n_Mo_effect rfl) ?_, fun c => absurd c (by decide), fun c => absurd c (by decide), fun c => absurd c (by decide), fun c => absurd c (by decide), fun c => absurd c (by decide), fun c => absurd c (by decide), fun c => absurd c (by decide), fun c => absurd c (by decide), fun c => absurd c (by decide), fun c => absurd c (by decide), fun c => absurd c (by decide), trivial⟩))
  exact And.intro ⟨rfl, k_80 J⟩ (c_Mo_push I hL hL10 (Or.inr rfl) (mm_go_from (mm_hM n_Mo_effect rfl) hQ))
theorem l_ef_2 {ro : mm_Ro} {d m i L : Nat} {h0 : mm_H} {e : Int32 × Int32 × Int32} {c : mm_F} {hd : Nat → Int32 × Int32 × Int32} {sv : Nat → mm_V} {vt : Value} {Q : Value → mm_H → Prop} {a : Nat} (I : mm_SH h0) (hL : 6 + c.1 = nI L) (hL10 : L < 10) (ha : a < 10) (hb : lk_bn c.2.2.2) (hQ : Q .null (lk_L h0 e (c.1 + 1, c.2.1, c.2.2.1, lk_up c.2.2.2 L (lk_wo (c.2.2.2 a) (nI a))) hd sv)) : mm_go ro (d + 3) mm_m_Mo_effect 140 [.ref 80, .int (nI m), .int (nI i), .int (nI 2), .int (nI a), vt, .int (nI L), .null] [] (lk_L h0 e c hd sv) Q := by
  have J : mm_SH (lk_L h0 e c hd sv) := I
  refine mm_go_from (mm_hM n_Mo_effect rfl) (And.intro (fun c => absurd c (by decide)) (And.intro (Nat.le_of_ble_eq_true rfl) ⟨fun c => absurd c (by decide), fun c => absurd c (by decide), fun _ => mm_go_from (mm_hM n_Mo_effect rfl) ?_, fun c => absurd c (by decide), fun c => absurd c (by decide), fun c => absurd c (by decide), fun c => absurd c (by decide), fun c => absurd c (by decide), fun c => absurd c (by decide), fun c => absurd c (by decide), fun c => absurd c (by decide), fun c => absurd c (by decide), fun c => absurd c (by decide), trivial⟩))
  have hBa : 0 ≤ (nI a).toInt ∧ (nI a).toInt < ((10 : Nat) : Int) := mm_nb ha (by omega)
  have hca : (nI a).toNatClampNeg = a := mm_ncl (by omega)
  have hB : 0 ≤ (nI L).toInt ∧ (nI L).toInt < ((10 : Nat) : Int) := mm_nb hL10 (by omega)
  have hc : (nI L).toNatClampNeg = L := mm_ncl (by omega)
  have e51 : Int32.ofInt 5 + (c.1 + Int32.ofInt 1) = nI L := lk_51.trans hL
  refine And.intro (k_80 J) (mm_rf (r_614 J) (And.intro ⟨k_110 J, mm_inb 10 (n_110 J) hBa⟩ (mm_rf (b := (c.2.2.2 a).1) (by rw [hca]; rfl) (And.intro (k_80 J) (mm_rf (r_615 J) (And.intro ⟨k_111 J, mm_inb 10 (n_111 J) hBa⟩ (mm_rf (b := (c.2.2.2 a).2.1) (by rw [hca]; rfl) (And.intro (k_80 J) (mm_rf (r_618 J) (And.intro ⟨k_114 J, mm_inb 10 (n_114 J) hBa⟩ (mm_rf (b := (c.2.2.2 a).2.2.1) (by rw [hca]; rfl) (And.intro (k_80 J) (mm_rf (r_616 J) (And.intro ⟨k_112 J, mm_inb 10 (n_112 J) hBa⟩ (mm_rf (b := (c.2.2.2 a).2.2.2.1) (by rw [hca]; rfl) (And.intro ⟨rfl, k_80 J⟩ (c_Mo_push I hL hL10 (hb _) ?_)))))))))))))))))
  refine And.intro (k_80 J) (mm_rf (r_617 J) (And.intro (k_80 J) (mm_rf (show mm_i (lk_L h0 e (c.1 + 1, c.2.1, c.2.2.1, lk_up c.2.2.2 L ((c.2.2.2 a).1, (c.2.2.2 a).2.1, (c.2.2.2 a).2.2.1, (c.2.2.2 a).2.2.2.1, -1)) hd sv) 611 80 = c.1 + 1 from rfl) (And.intro ⟨k_113 J, mm_inb 10 (n_113 J) (by rw [show (Int32.ofInt 5 + (c.1 + 1)) = nI L from e51]; exact hB)⟩ (mm_go_from (mm_hM n_Mo_effect rfl) ?_)))))
  refine mm_qq hQ rfl ?_
  rw [show (Int32.ofInt 5 + (c.1 + 1)) = nI L from e51, hc, lw_o]
  show lk_L h0 e (c.1 + 1, c.2.1, c.2.2.1, lk_up (lk_up c.2.2.2 L _) L (lk_wo (lk_up c.2.2.2 L _ L) _)) hd sv = _
  rw [lk_up_t, lk_up_up]
  rfl
theorem l_ef_6 {ro : mm_Ro} {d m i L : Nat} {h0 : mm_H} {e : Int32 × Int32 × Int32} {c : mm_F} {hd : Nat → Int32 × Int32 × Int32} {sv : Nat → mm_V} {vt : Value} {Q : Value → mm_H → Prop} {x : Int32} (I : mm_SH h0) (hL : 6 + c.1 = nI L) (hL10 : L < 10) (hL9 : L + 1 < 10) (hQ : Q .null (lk_L h0 e (c.1 + 1, c.2.1, c.2.2.1, lk_up c.2.2.2 L (1, -1, 0, (c.2.2.2 L).2.2.2.1 ||| (c.2.2.2 (L + 1)).2.2.2.1, -1)) hd sv)) : mm_go ro (d + 3) mm_m_Mo_effect 140 [.ref 80, .int (nI m), .int (nI i), .int (nI 6), .int x, vt, .int (nI L), .null] [] (lk_L h0 e c hd sv) Q := by
  have J : mm_SH (lk_L h0 e c hd sv) := I
  refine mm_go_from (mm_hM n_Mo_effect rfl) (And.intro (fun c => absurd c (by decide)) (And.intro (Nat.le_of_ble_eq_true rfl) ⟨fun c => absurd c (by decide), fun c => absurd c (by decide), fun c => absurd c (by decide), fun c => absurd c (by decide), fun c => absurd c (by decide), fun c => absurd c (by decide), fun _ => mm_go_from (mm_hM n_Mo_effect rfl) ?_, fun c => absurd c (by decide), fun c => absurd c (by decide), fun c => absurd c (by decide), fun c => absurd c (by decide), fun c => absurd c (by decide), fun c => absurd c (by decide), trivial⟩))
  have hB : 0 ≤ (nI L).toInt ∧ (nI L).toInt < ((10 : Nat) : Int) := mm_nb hL10 (by omega)
  have hc : (nI L).toNatClampNeg = L := mm_ncl (by omega)
  have hB1 : 0 ≤ (nI L + 1).toInt ∧ (nI L + 1).toInt < ((10 : Nat) : Int) := by rw [← nI_succ]; exact mm_nb hL9 (by omega)
  have hc1 : (nI L + 1).toNatClampNeg = L + 1 := by rw [← nI_succ]; exact mm_ncl (by omega)
  exact And.intro (k_80 J) (mm_rf (r_616 J) (And.intro ⟨k_112 J, mm_inb 10 (n_112 J) hB⟩ (mm_rf (b := (c.2.2.2 L).2.2.2.1) (by rw [hc]; rfl) (And.intro (k_80 J) (mm_rf (r_616 J) (And.intro ⟨k_112 J, mm_inb 10 (n_112 J) hB1⟩ (mm_rf (b := (c.2.2.2 (L + 1)).2.2.2.1) (show mm_a (lk_L h0 e c hd sv) 112 (nI L + 1).toNatClampNeg = _ by rw [hc1]; rfl) (And.intro ⟨rfl, k_80 J⟩ (c_Mo_push I hL hL10 (Or.inl rfl) (mm_go_from (mm_hM n_Mo_effect rfl) hQ))))))))))
theorem l_ef_7 {ro : mm_Ro} {d m i L H : Nat} {h0 : mm_H} {e : Int32 × Int32 × Int32} {s f x : Int32} {g : Nat → mm_V} {hd : Nat → Int32 × Int32 × Int32} {sv : Nat → mm_V} {vt : Value} {Q : Value → mm_H → Prop} (I : mm_SH h0) (hH : H ≤ 3) (hQ : Q .null (lk_L h0 e (nI H + 1, nI i, 0, lk_up (lk_pre (fun v => lk_sk 0 (g v)) g (6 + H)) (6 + H) (4, x, 0, 0, -1)) hd sv)) : mm_go ro (d + 3) mm_m_Mo_effect 140 [.ref 80, .int (nI m), .int (nI i), .int (nI 7), .int x, vt, .int (nI L), .null] [] (lk_L h0 e (nI H, s, f, g) hd sv) Q := by
  have J : mm_SH (lk_L h0 e (nI H, s, f, g) hd sv) := I
  refine mm_go_from (mm_hM n_Mo_effect rfl) (And.intro (fun c => absurd c (by decide)) (And.intro (Nat.le_of_ble_eq_true rfl) ⟨fun c => absurd c (by decide), fun c => absurd c (by decide), fun c => absurd c (by decide), fun c => absurd c (by decide), fun c => absurd c (by decide), fun c => absurd c (by decide), fun c => absurd c (by decide), fun _ => mm_go_from (mm_hM n_Mo_effect rfl) ?_, fun c => absurd c (by decide), fun c => absurd c (by decide), fun c => absurd c (by decide), fun c => absurd c (by decide), fun c => absurd c (by decide), trivial⟩))
  refine And.intro ⟨rfl, k_80 J⟩ (c_Mo_settle I (by omega) (And.intro (k_80 J) ?_))
  rw [lw_612]
  exact And.intro ⟨rfl, k_80 J⟩ (c_Mo_push I (j := 6 + H) lk_6 (by omega) (Or.inl rfl) (mm_go_from (mm_hM n_Mo_effect rfl) hQ))
theorem l_ef_10 {ro : mm_Ro} {d m i L : Nat} {h0 : mm_H} {e : Int32 × Int32 × Int32} {c : mm_F} {hd : Nat → Int32 × Int32 × Int32} {sv : Nat → mm_V} {vt : Value} {Q : Value → mm_H → Prop} {a : Nat} (I : mm_SH h0) (hL : 6 + c.1 = nI L) (hL10 : L < 10) (ha : a < 12) (hQ : Q .null (lk_L h0 e (c.1, c.2.1, (if (c.2.2.2 L).1 = 4 then c.2.2.1 ||| (1 : Int32) <<< (nI a &&& 31) else c.2.2.1), c.2.2.2) hd sv)) : mm_go ro (d + 3) mm_m_Mo_effect 140 [.ref 80, .int (nI m), .int (nI i), .int (nI 10), .int (nI a), vt, .int (nI L), .null] [] (lk_L h0 e c hd sv) Q := by
  have J : mm_SH (lk_L h0 e c hd sv) := I
  refine mm_go_from (mm_hM n_Mo_effect rfl) (And.intro (fun c => absurd c (by decide)) (And.intro (Nat.le_of_ble_eq_true rfl) ⟨fun c => absurd c (by decide), fun c => absurd c (by decide), fun c => absurd c (by decide), fun c => absurd c (by decide), fun c => absurd c (by decide), fun c => absurd c (by decide), fun c => absurd c (by decide), fun c => absurd c (by decide), fun c => absurd c (by decide), fun c => absurd c (by decide), fun _ => mm_go_from (mm_hM n_Mo_effect rfl) ?_, fun c => absurd c (by decide), fun c => absurd c (by decide), trivial⟩))
  have hB : 0 ≤ (nI L).toInt ∧ (nI L).toInt < ((10 : Nat) : Int) := mm_nb hL10 (by omega)
  have hc : (nI L).toNatClampNeg = L := mm_ncl (by omega)
  refine And.intro (k_80 J) (mm_rf (r_614 J) (And.intro ⟨k_110 J, mm_inb 10 (n_110 J) hB⟩ (mm_rf (b := (c.2.2.2 L).1) (by rw [hc]; rfl) (And.intro (fun c_501 => mm_go_from (mm_hM n_Mo_effect rfl) ?_) (fun c_501 => ?_)))))
  · have q : ¬ (c.2.2.2 L).1 = 4 := c_501
    rw [if_neg q] at hQ
    exact hQ
  · have q : (c.2.2.2 L).1 = 4 := mm_no c_501
    rw [if_pos q] at hQ
    refine And.intro (k_80 J) (mm_rf (show mm_i (lk_L h0 e c hd sv) 613 80 = c.2.2.1 from rfl) (And.intro (k_80 J) (mm_go_from (mm_hM n_Mo_effect rfl) ?_)))
    exact mm_qq hQ rfl lw_613
theorem l_ef_11 {ro : mm_Ro} {d m i L : Nat} {h0 : mm_H} {e : Int32 × Int32 × Int32} {c : mm_F} {hd : Nat → Int32 × Int32 × Int32} {sv : Nat → mm_V} {vt : Value} {Q : Value → mm_H → Prop} {a : Nat} (I : mm_SH h0) (hL : 6 + c.1 = nI L) (hL10 : ¬ mm_a h0 93 (4 * a + 3) = -2 → L < 10) (ha : a < 10) (S : lk_SV h0) (hQ : Q .null (lk_L h0 e (if mm_a h0 93 (4 * a + 3) = -2 then c else (c.1 + 1, c.2.1, c.2.2.1, lk_up c.2.2.2 L (lk_sv (mm_a h0 93 (4 * a + 3)) (mm_a h0 96 (4 * a + 3)) (mm_a h0 94 (4 * a + 3))))) hd sv)) : mm_go ro (d + 3) mm_m_Mo_effect 140 [.ref 80, .int (nI m), .int (nI i), .int (nI 11), .int (nI a), vt, .int (nI L), .null] [] (lk_L h0 e c hd sv) Q := by
  have J : mm_SH (lk_L h0 e c hd sv) := I
  refine mm_go_from (mm_hM n_Mo_effect rfl) (And.intro (fun c => absurd c (by decide)) (And.intro (Nat.le_of_ble_eq_true rfl) ⟨fun c => absurd c (by decide), fun c => absurd c (by decide), fun c => absurd c (by decide), fun c => absurd c (by decide), fun c => absurd c (by decide), fun c => absurd c (by decide), fun c => absurd c (by decide), fun c => absurd c (by decide), fun c => absurd c (by decide), fun c => absurd c (by decide), fun c => absurd c (by decide), fun _ => mm_go_from (mm_hM n_Mo_effect rfl) ?_, fun c => absurd c (by decide), trivial⟩))
  have hX : 0 ≤ (Int32.ofInt 4 * nI a + Int32.ofInt 3).toInt ∧ (Int32.ofInt 4 * nI a + Int32.ofInt 3).toInt < ((40 : Nat) : Int) := by rw [lk_43]; exact mm_nb (by omega) (by omega)
  have hXc : (Int32.ofInt 4 * nI a + Int32.ofInt 3).toNatClampNeg = 4 * a + 3 := by rw [lk_43]; exact mm_ncl (by omega)
  have m2 : (-2 : Int32).toInt = -2 := by decide
  obtain ⟨s1, s2, s3⟩ := S.2 (4 * a + 3) (by omega)
  refine And.intro (k_80 J) (mm_rf (r_591 J) (And.intro ⟨k_93 J, mm_inb 40 (n_93 J) hX⟩ (mm_rf (b := mm_a h0 93 (4 * a + 3)) (by rw [hXc]; rfl) (And.intro (fun c_533 => mm_go_from (mm_hM n_Mo_effect rfl) ?_) (fun c_533 => ?_)))))
  · have q : (mm_a h0 93 (4 * a + 3)).toInt ≤ -2 := c_533
    rw [if_pos (Int32.toInt_inj.mp (by rw [m2]; omega))] at hQ
    exact hQ
  · have q : ¬ (mm_a h0 93 (4 * a + 3)).toInt ≤ -2 := c_533
    have nq : ¬ mm_a h0 93 (4 * a + 3) = -2 := fun z => by rw [z, m2] at q; omega
    rw [if_neg nq] at hQ
    exact And.intro (k_80 J) (mm_rf (r_591 J) (And.intro ⟨k_93 J, mm_inb 40 (n_93 J) hX⟩ (mm_rf (b := mm_a h0 93 (4 * a + 3)) (by rw [hXc]; rfl) (And.intro (k_80 J) (mm_rf (r_594 J) (And.intro ⟨k_96 J, mm_inb 40 (n_96 J) hX⟩ (mm_rf (b := mm_a h0 96 (4 * a + 3)) (by rw [hXc]; rfl) (And.intro (k_80 J) (mm_rf (r_592 J) (And.intro ⟨k_94 J, mm_inb 40 (n_94 J) hX⟩ (mm_rf (b := mm_a h0 94 (4 * a + 3)) (by rw [hXc]; rfl) (And.intro ⟨rfl, k_80 J⟩ (c_Mo_pushSaid I hL (hL10 nq) s2 (mm_go_from (mm_hM n_Mo_effect rfl) hQ))))))))))))))
theorem l_ef_12 {ro : mm_Ro} {d m i L : Nat} {h0 : mm_H} {e : Int32 × Int32 × Int32} {c : mm_F} {hd : Nat → Int32 × Int32 × Int32} {sv : Nat → mm_V} {vt : Value} {Q : Value → mm_H → Prop} {x : Int32} (I : mm_SH h0) (hL : 6 + c.1 = nI L) (hL10 : L < 10) (hb : lk_bn c.2.2.2) (hQ : Q .null (lk_L h0 e (c.1 + 1, c.2.1, c.2.2.1, lk_up c.2.2.2 L (3, x, (c.2.2.2 L).2.2.1, (c.2.2.2 L).2.2.2.1, -1)) hd sv)) : mm_go ro (d + 3) mm_m_Mo_effect 140 [.ref 80, .int (nI m), .int (nI i), .int (nI 12), .int x, vt, .int (nI L), .null] [] (lk_L h0 e c hd sv) Q := by
  have J : mm_SH (lk_L h0 e c hd sv) := I
  refine mm_go_from (mm_hM n_Mo_effect rfl) (And.intro (fun c => absurd c (by decide)) (And.intro (Nat.le_of_ble_eq_true rfl) ⟨fun c => absurd c (by decide), fun c => absurd c (by decide), fun c => absurd c (by decide), fun c => absurd c (by decide), fun c => absurd c (by decide), fun c => absurd c (by decide), fun c => absurd c (by decide), fun c => absurd c (by decide), fun c => absurd c (by decide), fun c => absurd c (by decide), fun c => absurd c (by decide), fun c => absurd c (by decide), fun _ => mm_go_from (mm_hM n_Mo_effect rfl) ?_, trivial⟩))
  have hB : 0 ≤ (nI L).toInt ∧ (nI L).toInt < ((10 : Nat) : Int) := mm_nb hL10 (by omega)
  have hc : (nI L).toNatClampNeg = L := mm_ncl (by omega)
  exact And.intro (k_80 J) (mm_rf (r_618 J) (And.intro ⟨k_114 J, mm_inb 10 (n_114 J) hB⟩ (mm_rf (b := (c.2.2.2 L).2.2.1) (by rw [hc]; rfl) (And.intro (k_80 J) (mm_rf (r_616 J) (And.intro ⟨k_112 J, mm_inb 10 (n_112 J) hB⟩ (mm_rf (b := (c.2.2.2 L).2.2.2.1) (by rw [hc]; rfl) (And.intro ⟨rfl, k_80 J⟩ (c_Mo_push I hL hL10 (hb _) (mm_go_from (mm_hM n_Mo_effect rfl) hQ))))))))))
theorem l_ef_5g {ro : mm_Ro} {d m i : Nat} {h0 : mm_H} {e : Int32 × Int32 × Int32} {c : mm_F} {hd : Nat → Int32 × Int32 × Int32} {sv : Nat → mm_V} {vt : Value} {Q : Value → mm_H → Prop} {x : Int32} {vl : Value} (I : mm_SH h0) (hQ : Q .null (lk_L h0 e c hd sv)) : mm_go ro (d + 3) mm_m_Mo_effect 140 [.ref 80, .int (nI m), .int (nI i), .int (nI 5), .int x, vt, vl, .null] [] (lk_L h0 e c hd sv) Q := by
  have J : mm_SH (lk_L h0 e c hd sv) := I
  refine mm_go_from (mm_hM n_Mo_effect rfl) (And.intro (fun c => absurd c (by decide)) (And.intro (Nat.le_of_ble_eq_true rfl) ⟨fun c => absurd c (by decide), fun c => absurd c (by decide), fun c => absurd c (by decide), fun c => absurd c (by decide), fun c => absurd c (by decide), fun _ => mm_go_from (mm_hM n_Mo_effect rfl) ?_, fun c => absurd c (by decide), fun c => absurd c (by decide), fun c => absurd c (by decide), fun c => absurd c (by decide), fun c => absurd c (by decide), fun c => absurd c (by decide), fun c => absurd c (by decide), trivial⟩))
  exact hQ
theorem l_ef_13g {ro : mm_Ro} {d m i : Nat} {h0 : mm_H} {e : Int32 × Int32 × Int32} {c : mm_F} {hd : Nat → Int32 × Int32 × Int32} {sv : Nat → mm_V} {vt : Value} {Q : Value → mm_H → Prop} {x : Int32} {vl : Value} (I : mm_SH h0) (hQ : Q .null (lk_L h0 e c hd sv)) : mm_go ro (d + 3) mm_m_Mo_effect 140 [.ref 80, .int (nI m), .int (nI i), .int (nI 13), .int x, vt, vl, .null] [] (lk_L h0 e c hd sv) Q := by
  have J : mm_SH (lk_L h0 e c hd sv) := I
  refine mm_go_from (mm_hM n_Mo_effect rfl) (And.intro (fun _ => mm_go_from (mm_hM n_Mo_effect rfl) ?_) (And.intro (Nat.le_of_ble_eq_true rfl) ⟨fun c => absurd c (by decide), fun c => absurd c (by decide), fun c => absurd c (by decide), fun c => absurd c (by decide), fun c => absurd c (by decide), fun c => absurd c (by decide), fun c => absurd c (by decide), fun c => absurd c (by decide), fun c => absurd c (by decide), fun c => absurd c (by decide), fun c => absurd c (by decide), fun c => absurd c (by decide), fun c => absurd c (by decide), trivial⟩))
  exact hQ
theorem l_ef_14g {ro : mm_Ro} {d m i : Nat} {h0 : mm_H} {e : Int32 × Int32 × Int32} {c : mm_F} {hd : Nat → Int32 × Int32 × Int32} {sv : Nat → mm_V} {vt : Value} {Q : Value → mm_H → Prop} {x : Int32} {vl : Value} (I : mm_SH h0) (hQ : Q .null (lk_L h0 e c hd sv)) : mm_go ro (d + 3) mm_m_Mo_effect 140 [.ref 80, .int (nI m), .int (nI i), .int (nI 14), .int x, vt, vl, .null] [] (lk_L h0 e c hd sv) Q := by
  have J : mm_SH (lk_L h0 e c hd sv) := I
  refine mm_go_from (mm_hM n_Mo_effect rfl) (And.intro (fun _ => mm_go_from (mm_hM n_Mo_effect rfl) ?_) (And.intro (Nat.le_of_ble_eq_true rfl) ⟨fun c => absurd c (by decide), fun c => absurd c (by decide), fun c => absurd c (by decide), fun c => absurd c (by decide), fun c => absurd c (by decide), fun c => absurd c (by decide), fun c => absurd c (by decide), fun c => absurd c (by decide), fun c => absurd c (by decide), fun c => absurd c (by decide), fun c => absurd c (by decide), fun c => absurd c (by decide), fun c => absurd c (by decide), trivial⟩))
  exact hQ
theorem l_ef_15g {ro : mm_Ro} {d m i : Nat} {h0 : mm_H} {e : Int32 × Int32 × Int32} {c : mm_F} {hd : Nat → Int32 × Int32 × Int32} {sv : Nat → mm_V} {vt : Value} {Q : Value → mm_H → Prop} {x : Int32} {vl : Value} (I : mm_SH h0) (hQ : Q .null (lk_L h0 e c hd sv)) : mm_go ro (d + 3) mm_m_Mo_effect 140 [.ref 80, .int (nI m), .int (nI i), .int (nI 15), .int x, vt, vl, .null] [] (lk_L h0 e c hd sv) Q := by
  have J : mm_SH (lk_L h0 e c hd sv) := I
  refine mm_go_from (mm_hM n_Mo_effect rfl) (And.intro (fun _ => mm_go_from (mm_hM n_Mo_effect rfl) ?_) (And.intro (Nat.le_of_ble_eq_true rfl) ⟨fun c => absurd c (by decide), fun c => absurd c (by decide), fun c => absurd c (by decide), fun c => absurd c (by decide), fun c => absurd c (by decide), fun c => absurd c (by decide), fun c => absurd c (by decide), fun c => absurd c (by decide), fun c => absurd c (by decide), fun c => absurd c (by decide), fun c => absurd c (by decide), fun c => absurd c (by decide), fun c => absurd c (by decide), trivial⟩))
  exact hQ
theorem l_ef_16g {ro : mm_Ro} {d m i : Nat} {h0 : mm_H} {e : Int32 × Int32 × Int32} {c : mm_F} {hd : Nat → Int32 × Int32 × Int32} {sv : Nat → mm_V} {vt : Value} {Q : Value → mm_H → Prop} {x : Int32} {vl : Value} (I : mm_SH h0) (hQ : Q .null (lk_L h0 e c hd sv)) : mm_go ro (d + 3) mm_m_Mo_effect 140 [.ref 80, .int (nI m), .int (nI i), .int (nI 16), .int x, vt, vl, .null] [] (lk_L h0 e c hd sv) Q := by
  have J : mm_SH (lk_L h0 e c hd sv) := I
  refine mm_go_from (mm_hM n_Mo_effect rfl) (And.intro (fun _ => mm_go_from (mm_hM n_Mo_effect rfl) ?_) (And.intro (Nat.le_of_ble_eq_true rfl) ⟨fun c => absurd c (by decide), fun c => absurd c (by decide), fun c => absurd c (by decide), fun c => absurd c (by decide), fun c => absurd c (by decide), fun c => absurd c (by decide), fun c => absurd c (by decide), fun c => absurd c (by decide), fun c => absurd c (by decide), fun c => absurd c (by decide), fun c => absurd c (by decide), fun c => absurd c (by decide), fun c => absurd c (by decide), trivial⟩))
  exact hQ
theorem l_ef_17g {ro : mm_Ro} {d m i : Nat} {h0 : mm_H} {e : Int32 × Int32 × Int32} {c : mm_F} {hd : Nat → Int32 × Int32 × Int32} {sv : Nat → mm_V} {vt : Value} {Q : Value → mm_H → Prop} {x : Int32} {vl : Value} (I : mm_SH h0) (hQ : Q .null (lk_L h0 e c hd sv)) : mm_go ro (d + 3) mm_m_Mo_effect 140 [.ref 80, .int (nI m), .int (nI i), .int (nI 17), .int x, vt, vl, .null] [] (lk_L h0 e c hd sv) Q := by
  have J : mm_SH (lk_L h0 e c hd sv) := I
  refine mm_go_from (mm_hM n_Mo_effect rfl) (And.intro (fun _ => mm_go_from (mm_hM n_Mo_effect rfl) ?_) (And.intro (Nat.le_of_ble_eq_true rfl) ⟨fun c => absurd c (by decide), fun c => absurd c (by decide), fun c => absurd c (by decide), fun c => absurd c (by decide), fun c => absurd c (by decide), fun c => absurd c (by decide), fun c => absurd c (by decide), fun c => absurd c (by decide), fun c => absurd c (by decide), fun c => absurd c (by decide), fun c => absurd c (by decide), fun c => absurd c (by decide), fun c => absurd c (by decide), trivial⟩))
  exact hQ
theorem l_ef_316 {ro : mm_Ro} {d a L : Nat} {h0 : mm_H} {e : Int32 × Int32 × Int32} {c : mm_F} {hd : Nat → Int32 × Int32 × Int32} {sv : Nat → mm_V} {vm vi vo vt : Value} {Q : Value → mm_H → Prop} (I : mm_SH h0) (hL10 : L ≤ 10) (ha : a < 6) (hb : lk_bn c.2.2.2) (hQ : ∀ g, (∀ v, v < L → g v = (if 6 ≤ v ∧ (c.2.2.2 v).2.2.2.2 = nI a then lk_wo (c.2.2.2 v) (-1) else c.2.2.2 v)) → lk_bn g → Q .null (lk_L h0 e (c.1, c.2.1, c.2.2.1, g) hd sv)) : ∀ (n v : Nat) (g : Nat → mm_V), v + n = max L 6 → 6 ≤ v → (∀ u, u < v → g u = (if 6 ≤ u ∧ (c.2.2.2 u).2.2.2.2 = nI a then lk_wo (c.2.2.2 u) (-1) else c.2.2.2 u)) → (∀ u, v ≤ u → g u = c.2.2.2 u) → lk_bn g → mm_go ro (d + 3) mm_m_Mo_effect 316 [.ref 80, vm, vi, vo, .int (nI a), vt, .int (nI L), .int (nI v)] [] (lk_L h0 e (c.1, c.2.1, c.2.2.1, g) hd sv) Q := by
  intro n
  induction n with
  | zero =>
    intro v g hv h6 h1 h2 hbg
    refine mm_go_from (mm_hM n_Mo_effect rfl) (And.intro (fun c_320 => mm_go_from (mm_hM n_Mo_effect rfl) (mm_go_from (mm_hM n_Mo_effect rfl) (hQ g (fun u hu => h1 u (by omega)) hbg))) (fun c_320 => ?_))
    have q : ¬ (nI L).toInt ≤ (nI v).toInt := c_320
    rw [mm_nt (by omega), mm_nt (by omega)] at q
    omega
  | succ n ih =>
    intro v g hv h6 h1 h2 hbg
    have J : mm_SH (lk_L h0 e (c.1, c.2.1, c.2.2.1, g) hd sv) := I
    have hB : 0 ≤ (nI v).toInt ∧ (nI v).toInt < ((10 : Nat) : Int) := mm_nb (by omega) (by omega)
    have hc : (nI v).toNatClampNeg = v := mm_ncl (by omega)
    have eg : g v = c.2.2.2 v := h2 v (Nat.le_refl _)
    refine mm_go_from (mm_hM n_Mo_effect rfl) (And.intro (fun c_320 => ?_) (fun c_320 => ?_))
    · have q : (nI L).toInt ≤ (nI v).toInt := c_320
      rw [mm_nt (by omega), mm_nt (by omega)] at q
      omega
    · refine And.intro (k_80 J) (mm_rf (r_617 J) (And.intro ⟨k_113 J, mm_inb 10 (n_113 J) hB⟩ (mm_rf (b := (c.2.2.2 v).2.2.2.2) (by rw [hc, ← eg]; rfl) (And.intro (fun c_332 => mm_go_from (mm_hM n_Mo_effect rfl) ?_) (fun c_332 => ?_)))))
      · have q : ¬ (c.2.2.2 v).2.2.2.2 = nI a := c_332
        have nx := ih (v + 1) g (by omega) (by omega) (fun u hu => by
          by_cases z : u = v
          · rw [z, eg, if_neg (fun y => q y.2)]
          · exact h1 u (by omega)) (fun u hu => h2 u (by omega)) hbg
        rw [nI_succ] at nx
        exact nx
      · have q : (c.2.2.2 v).2.2.2.2 = nI a := mm_no c_332
        have nx := ih (v + 1) (lk_up g v (lk_wo (g v) (-1))) (by omega) (by omega) (fun u hu => by
          by_cases z : u = v
          · rw [z, lk_up_t, eg, if_pos ⟨h6, q⟩]
          · rw [lk_up_f z]; exact h1 u (by omega)) (fun u hu => by rw [lk_up_f (by omega)]; exact h2 u (by omega)) (lk_bn_up hbg (hbg v))
        rw [nI_succ] at nx
        refine And.intro (k_80 J) (mm_rf (r_617 J) (And.intro ⟨k_113 J, mm_inb 10 (n_113 J) hB⟩ ?_))
        rw [hc, lw_o]
        exact nx
theorem l_ef_3 {ro : mm_Ro} {d m i L a : Nat} {h0 : mm_H} {e : Int32 × Int32 × Int32} {c : mm_F} {hd : Nat → Int32 × Int32 × Int32} {sv : Nat → mm_V} {vt : Value} {Q : Value → mm_H → Prop} (I : mm_SH h0) (hL10 : L < 10) (hL6 : 6 ≤ L) (ha : a < 6) (hb : lk_bn c.2.2.2) (hQ : ∀ g, (∀ v, v < L → g v = lk_st c.2.2.2 a (c.2.2.2 L) v) → lk_bn g → Q .null (lk_L h0 e (c.1, c.2.1, c.2.2.1, g) hd sv)) : mm_go ro (d + 3) mm_m_Mo_effect 140 [.ref 80, .int (nI m), .int (nI i), .int (nI 3), .int (nI a), vt, .int (nI L), .null] [] (lk_L h0 e c hd sv) Q := by
  have J : mm_SH (lk_L h0 e c hd sv) := I
  have hB : 0 ≤ (nI L).toInt ∧ (nI L).toInt < ((10 : Nat) : Int) := mm_nb hL10 (by omega)
  have hc : (nI L).toNatClampNeg = L := mm_ncl (by omega)
  refine mm_go_from (mm_hM n_Mo_effect rfl) (And.intro (fun c => absurd c (by decide)) (And.intro (Nat.le_of_ble_eq_true rfl) ⟨fun c => absurd c (by decide), fun c => absurd c (by decide), fun c => absurd c (by decide), fun _ => mm_go_at 316 (mm_hM n_Mo_effect rfl) ?_, fun c => absurd c (by decide), fun c => absurd c (by decide), fun c => absurd c (by decide), fun c => absurd c (by decide), fun c => absurd c (by decide), fun c => absurd c (by decide), fun c => absurd c (by decide), fun c => absurd c (by decide), fun c => absurd c (by decide), trivial⟩))
  refine And.intro (k_80 J) (mm_rf (r_614 J) (And.intro ⟨k_110 J, mm_inb 10 (n_110 J) hB⟩ (mm_rf (b := (c.2.2.2 L).1) (by rw [hc]; rfl) (And.intro (k_80 J) (mm_rf (r_615 J) (And.intro ⟨k_111 J, mm_inb 10 (n_111 J) hB⟩ (mm_rf (b := (c.2.2.2 L).2.1) (by rw [hc]; rfl) (And.intro (k_80 J) (mm_rf (r_618 J) (And.intro ⟨k_114 J, mm_inb 10 (n_114 J) hB⟩ (mm_rf (b := (c.2.2.2 L).2.2.1) (by rw [hc]; rfl) (And.intro (k_80 J) (mm_rf (r_616 J) (And.intro ⟨k_112 J, mm_inb 10 (n_112 J) hB⟩ (mm_rf (b := (c.2.2.2 L).2.2.2.1) (by rw [hc]; rfl) (And.intro ⟨rfl, k_80 J⟩ (c_Mo_set I rfl (by omega) (hb _) ?_)))))))))))))))))
  have w : ∀ v, lk_st c.2.2.2 a (c.2.2.2 L) v = (if 6 ≤ v ∧ (lk_up c.2.2.2 a (lk_wo (c.2.2.2 L) (-1)) v).2.2.2.2 = nI a then lk_wo (lk_up c.2.2.2 a (lk_wo (c.2.2.2 L) (-1)) v) (-1) else lk_up c.2.2.2 a (lk_wo (c.2.2.2 L) (-1)) v) := by
    intro v
    unfold lk_st
    by_cases z : v = a
    · rw [if_pos z, if_neg (fun y => by omega), z, lk_up_t]
    · rw [if_neg z, lk_up_f z]
  exact l_ef_316 (c := (c.1, c.2.1, c.2.2.1, lk_up c.2.2.2 a (lk_wo (c.2.2.2 L) (-1)))) I (by omega) ha (lk_bn_up hb (hb L)) (fun g h1 h2 => hQ g (fun v hv => by rw [h1 v hv, w v]) h2) (L - 6) 6 _ (by omega) (by omega) (fun u hu => (if_neg (fun y => by omega)).symm) (fun u _ => rfl) (lk_bn_up hb (hb L))
theorem l_ef_452 {ro : mm_Ro} {d L a : Nat} {h0 : mm_H} {e : Int32 × Int32 × Int32} {c : mm_F} {hd : Nat → Int32 × Int32 × Int32} {sv : Nat → mm_V} {vm vi vo vt v7 : Value} {b : Int32} {Q : Value → mm_H → Prop} (I : mm_SH h0) (hL : 6 + c.1 = nI L) (hL10 : L < 10) (ha : a < 12) (S : lk_SV h0) (hQ : Q .null (lk_L h0 e (c.1 + 1, c.2.1, c.2.2.1, lk_up c.2.2.2 L (lk_sv (mm_a h0 83 a) (mm_b (¬ mm_a h0 86 a = 0 ∨ ¬ b = 0)) (mm_a h0 84 a))) hd sv)) : mm_go ro (d + 3) mm_m_Mo_effect 450 [.ref 80, vm, vi, vo, .int (nI a), vt, .int (nI L), v7] [.int b] (lk_L h0 e c hd sv) Q := by
  have J : mm_SH (lk_L h0 e c hd sv) := I
  have hBa : 0 ≤ (nI a).toInt ∧ (nI a).toInt < ((12 : Nat) : Int) := mm_nb ha (by omega)
  have hca : (nI a).toNatClampNeg = a := mm_ncl (by omega)
  have g480 : ∀ n : Int32, n = mm_b (¬ mm_a h0 86 a = 0 ∨ ¬ b = 0) → mm_go ro (d + 3) mm_m_Mo_effect 480 [.ref 80, vm, vi, vo, .int (nI a), vt, .int (nI L), .int b] [.int n, .int (mm_a h0 83 a), .ref 80] (lk_L h0 e c hd sv) Q := by
    intro n hn
    rw [← hn] at hQ
    refine mm_go_from (mm_hM n_Mo_effect rfl) (And.intro (k_80 J) (mm_rf (r_582 J) (And.intro ⟨k_84 J, mm_inb 12 (n_84 J) hBa⟩ (mm_rf (b := mm_a h0 84 a) (by rw [hca]; rfl) (And.intro ⟨rfl, k_80 J⟩ (c_Mo_pushSaid I hL hL10 (by rw [hn]; exact mm_b01 _) (mm_go_from (mm_hM n_Mo_effect rfl) hQ)))))))
  refine mm_go_from (mm_hM n_Mo_effect rfl) (And.intro (k_80 J) (mm_rf (r_581 J) (And.intro ⟨k_83 J, mm_inb 12 (n_83 J) hBa⟩ (mm_rf (b := mm_a h0 83 a) (by rw [hca]; rfl) (And.intro (k_80 J) (mm_rf (r_584 J) (And.intro ⟨k_86 J, mm_inb 12 (n_86 J) hBa⟩ (mm_rf (b := mm_a h0 86 a) (by rw [hca]; rfl) (And.intro (fun c_467 => mm_go_from (mm_hM n_Mo_effect rfl) (g480 1 (mm_b_t (Or.inl c_467)).symm)) (fun c_467 => ?_))))))))))
  refine And.intro (fun c_472 => mm_go_at 480 (mm_hM n_Mo_effect rfl) (g480 0 (mm_b_f ?_).symm)) (fun c_472 => g480 1 (mm_b_t (Or.inr c_472)).symm)
  have q : b = 0 := c_472
  rintro (z | z)
  · exact c_467 z
  · exact z q
theorem l_ef_9 {ro : mm_Ro} {d m i L a : Nat} {h0 : mm_H} {e : Int32 × Int32 × Int32} {c : mm_F} {hd : Nat → Int32 × Int32 × Int32} {sv : Nat → mm_V} {vt : Value} {Q : Value → mm_H → Prop} (I : mm_SH h0) (hL : 6 + c.1 = nI L) (hL10 : L < 10) (ha : a < 12) (S : lk_SV h0) (hQ : Q .null (lk_L h0 e (c.1 + 1, c.2.1, c.2.2.1, lk_up c.2.2.2 L (lk_sv (mm_a h0 83 a) (mm_b (¬ mm_a h0 86 a = 0 ∨ lk_un c.2.2.1 a (c.2.2.2 L))) (mm_a h0 84 a))) hd sv)) : mm_go ro (d + 3) mm_m_Mo_effect 140 [.ref 80, .int (nI m), .int (nI i), .int (nI 9), .int (nI a), vt, .int (nI L), .null] [] (lk_L h0 e c hd sv) Q := by
  have J : mm_SH (lk_L h0 e c hd sv) := I
  have hB : 0 ≤ (nI L).toInt ∧ (nI L).toInt < ((10 : Nat) : Int) := mm_nb hL10 (by omega)
  have hc : (nI L).toNatClampNeg = L := mm_ncl (by omega)
  have g : ∀ b : Int32, (¬ b = 0 ↔ lk_un c.2.2.1 a (c.2.2.2 L)) → mm_go ro (d + 3) mm_m_Mo_effect 450 [.ref 80, .int (nI m), .int (nI i), .int (nI 9), .int (nI a), vt, .int (nI L), .null] [.int b] (lk_L h0 e c hd sv) Q := by
    intro b hb
    refine l_ef_452 I hL hL10 ha S ?_
    rw [mm_b_iff (show (¬ mm_a h0 86 a = 0 ∨ ¬ b = 0) ↔ (¬ mm_a h0 86 a = 0 ∨ lk_un c.2.2.1 a (c.2.2.2 L)) by rw [hb])]
    exact hQ
  have g1 : lk_un c.2.2.1 a (c.2.2.2 L) → mm_go ro (d + 3) mm_m_Mo_effect 445 [.ref 80, .int (nI m), .int (nI i), .int (nI 9), .int (nI a), vt, .int (nI L), .null] [] (lk_L h0 e c hd sv) Q := fun z => mm_go_from (mm_hM n_Mo_effect rfl) (g 1 ⟨fun _ => z, fun _ => by decide⟩)
  have g0 : ¬ lk_un c.2.2.1 a (c.2.2.2 L) → mm_go ro (d + 3) mm_m_Mo_effect 449 [.ref 80, .int (nI m), .int (nI i), .int (nI 9), .int (nI a), vt, .int (nI L), .null] [] (lk_L h0 e c hd sv) Q := fun z => mm_go_at 450 (mm_hM n_Mo_effect rfl) (g 0 ⟨fun y => absurd rfl y, fun y => absurd y z⟩)
  refine mm_go_from (mm_hM n_Mo_effect rfl) (And.intro (fun c => absurd c (by decide)) (And.intro (Nat.le_of_ble_eq_true rfl) ⟨fun c => absurd c (by decide), fun c => absurd c (by decide), fun c => absurd c (by decide), fun c => absurd c (by decide), fun c => absurd c (by decide), fun c => absurd c (by decide), fun c => absurd c (by decide), fun c => absurd c (by decide), fun c => absurd c (by decide), fun _ => mm_go_from (mm_hM n_Mo_effect rfl) ?_, fun c => absurd c (by decide), fun c => absurd c (by decide), fun c => absurd c (by decide), trivial⟩))
  refine And.intro (k_80 J) (mm_rf (r_614 J) (And.intro ⟨k_110 J, mm_inb 10 (n_110 J) hB⟩ (mm_rf (b := (c.2.2.2 L).1) (by rw [hc]; rfl) (And.intro (fun c_408 => g1 (Or.inl c_408)) (fun c_408 => ?_)))))
  refine And.intro (k_80 J) (mm_rf (r_614 J) (And.intro ⟨k_110 J, mm_inb 10 (n_110 J) hB⟩ (mm_rf (b := (c.2.2.2 L).1) (by rw [hc]; rfl) (And.intro (fun c_419 => g1 (Or.inr (Or.inl c_419))) (fun c_419 => ?_)))))
  refine And.intro (k_80 J) (mm_rf (r_614 J) (And.intro ⟨k_110 J, mm_inb 10 (n_110 J) hB⟩ (mm_rf (b := (c.2.2.2 L).1) (by rw [hc]; rfl) (And.intro (fun c_430 => g0 ?_) (fun c_430 => ?_)))))
  · rintro (z | z | z)
    · exact c_408 z
    · exact c_419 z
    · exact c_430 z.1
  · refine And.intro (k_80 J) (mm_rf (show mm_i (lk_L h0 e c hd sv) 613 80 = c.2.2.1 from rfl) (And.intro (fun c_442 => g0 ?_) (fun c_442 => ?_)))
    · rintro (z | z | z)
      · exact c_408 z
      · exact c_419 z
      · exact c_442 z.2
    · exact g 1 ⟨fun _ => Or.inr (Or.inr ⟨mm_no c_430, mm_no c_442⟩), fun _ => by decide⟩
