/-! THE REFERENCE: errorAt -/
theorem l_ea_93 {ro : mm_Ro} {d m i a o H nF : Nat} {h0 : mm_H} {e : Int32 × Int32 × Int32} {c : mm_F} {hd : Nat → Int32 × Int32 × Int32} {sv : Nat → mm_V} {x : Int32} {Q : Value → mm_H → Prop} (I : mm_SH h0) (U : mm_upo (mm_up h0)) (S : lk_SV h0) (hm : m < 10) (hF : nF ≤ 12) (eF : mm_i h0 577 80 = nI nF) (ho : o < 18) (ea : (o = 9 ∨ o = 10 ∨ o = 11) → x = nI a) (ha9 : (o = 9 ∨ o = 10) → a < 12) (ha11 : o = 11 → lk_MV h0 a ∧ x = nI a) (eH : c.1 = nI H) (hH : H ≤ 4) (hpo : lk_po h0 m o a ≤ H) (vr : ∀ v, v < 6 + H → mm_vr (c.2.2.2 v)) (hQ : Q (.int (lk_vo h0 nF m a H c.2.2.1 c.2.2.2 o)) (lk_L h0 e c hd sv)) : mm_go ro (d + 4) mm_m_Mo_errorAt 93 [.ref 80, .int (nI m), .int (nI i), .int (nI o), .int x, .int (nI (5 + H))] [] (lk_L h0 e c hd sv) Q := by
  have J : mm_SH (lk_L h0 e c hd sv) := I
  have G := mm_hM n_Mo_errorAt rfl
  refine mm_go_from G ?_
  rcases lk_o_cases ho with rfl | rfl | rfl | rfl | rfl | rfl | rfl | rfl | rfl | rfl | rfl | rfl | rfl | rfl | rfl | rfl | rfl | rfl
  case _ =>
    refine And.intro (fun _ => mm_go_from G hQ) (And.intro (Nat.le_of_ble_eq_true rfl) ⟨fun c => absurd c (by decide), fun c => absurd c (by decide), fun c => absurd c (by decide), fun c => absurd c (by decide), fun c => absurd c (by decide), fun c => absurd c (by decide), fun c => absurd c (by decide), fun c => absurd c (by decide), fun c => absurd c (by decide), fun c => absurd c (by decide), fun c => absurd c (by decide), fun c => absurd c (by decide), trivial⟩)
  case _ =>
    refine And.intro (fun _ => mm_go_from G hQ) (And.intro (Nat.le_of_ble_eq_true rfl) ⟨fun c => absurd c (by decide), fun c => absurd c (by decide), fun c => absurd c (by decide), fun c => absurd c (by decide), fun c => absurd c (by decide), fun c => absurd c (by decide), fun c => absurd c (by decide), fun c => absurd c (by decide), fun c => absurd c (by decide), fun c => absurd c (by decide), fun c => absurd c (by decide), fun c => absurd c (by decide), trivial⟩)
  case _ =>
    refine And.intro (fun _ => mm_go_from G hQ) (And.intro (Nat.le_of_ble_eq_true rfl) ⟨fun c => absurd c (by decide), fun c => absurd c (by decide), fun c => absurd c (by decide), fun c => absurd c (by decide), fun c => absurd c (by decide), fun c => absurd c (by decide), fun c => absurd c (by decide), fun c => absurd c (by decide), fun c => absurd c (by decide), fun c => absurd c (by decide), fun c => absurd c (by decide), fun c => absurd c (by decide), trivial⟩)
  case _ =>
    refine And.intro (fun _ => mm_go_from G hQ) (And.intro (Nat.le_of_ble_eq_true rfl) ⟨fun c => absurd c (by decide), fun c => absurd c (by decide), fun c => absurd c (by decide), fun c => absurd c (by decide), fun c => absurd c (by decide), fun c => absurd c (by decide), fun c => absurd c (by decide), fun c => absurd c (by decide), fun c => absurd c (by decide), fun c => absurd c (by decide), fun c => absurd c (by decide), fun c => absurd c (by decide), trivial⟩)
  case _ =>
    refine And.intro (fun _ => mm_go_from G hQ) (And.intro (Nat.le_of_ble_eq_true rfl) ⟨fun c => absurd c (by decide), fun c => absurd c (by decide), fun c => absurd c (by decide), fun c => absurd c (by decide), fun c => absurd c (by decide), fun c => absurd c (by decide), fun c => absurd c (by decide), fun c => absurd c (by decide), fun c => absurd c (by decide), fun c => absurd c (by decide), fun c => absurd c (by decide), fun c => absurd c (by decide), trivial⟩)
  case _ =>
    refine And.intro (fun _ => mm_go_from G hQ) (And.intro (Nat.le_of_ble_eq_true rfl) ⟨fun c => absurd c (by decide), fun c => absurd c (by decide), fun c => absurd c (by decide), fun c => absurd c (by decide), fun c => absurd c (by decide), fun c => absurd c (by decide), fun c => absurd c (by decide), fun c => absurd c (by decide), fun c => absurd c (by decide), fun c => absurd c (by decide), fun c => absurd c (by decide), fun c => absurd c (by decide), trivial⟩)
  case _ =>
    have p0 : lk_po h0 m 6 a = 2 := rfl
    rw [p0] at hpo
    refine And.intro (fun c => absurd c (by decide)) (And.intro (Nat.le_of_ble_eq_true rfl) ⟨fun _ => mm_go_from G ?_, fun c => absurd c (by decide), fun c => absurd c (by decide), fun c => absurd c (by decide), fun c => absurd c (by decide), fun c => absurd c (by decide), fun c => absurd c (by decide), fun c => absurd c (by decide), fun c => absurd c (by decide), fun c => absurd c (by decide), fun c => absurd c (by decide), fun c => absurd c (by decide), trivial⟩)
    refine And.intro ⟨rfl, k_80 J⟩ (c_Mo_wrongFor I U (by omega) (vr _ (by omega)) (And.intro ⟨rfl, k_80 J⟩ ?_))
    rw [show nI (5 + H) - Int32.ofInt 1 = nI (4 + H) from (lx_1 (by omega)).trans (by congr 1; omega)]
    exact c_Mo_wrongFor I U (by omega) (vr _ (by omega)) (And.intro ⟨rfl, trivial⟩ (c_Mo_least hQ))
  case _ =>
    refine And.intro (fun c => absurd c (by decide)) (And.intro (Nat.le_of_ble_eq_true rfl) ⟨fun c => absurd c (by decide), fun _ => mm_go_from G ?_, fun c => absurd c (by decide), fun c => absurd c (by decide), fun c => absurd c (by decide), fun c => absurd c (by decide), fun c => absurd c (by decide), fun c => absurd c (by decide), fun c => absurd c (by decide), fun c => absurd c (by decide), fun c => absurd c (by decide), fun c => absurd c (by decide), trivial⟩)
    exact hQ
  case _ =>
    have p0 : lk_po h0 m 8 a = 1 := rfl
    rw [p0] at hpo
    have hB : 0 ≤ (nI (5 + H)).toInt ∧ (nI (5 + H)).toInt < ((10 : Nat) : Int) := mm_nb (by omega) (by omega)
    have hc : (nI (5 + H)).toNatClampNeg = 5 + H := mm_ncl (by omega)
    have hQ' : Q (.int (if ¬ (c.2.2.2 (5 + H)).1 = 4 then 4 else @ite _ (∃ j, j < nF ∧ lk_la h0 c.2.2.1 (c.2.2.2 (5 + H)).2.1.toInt j) (Classical.propDecidable _) 5 9)) (lk_L h0 e c hd sv) := hQ
    refine And.intro (fun c => absurd c (by decide)) (And.intro (Nat.le_of_ble_eq_true rfl) ⟨fun c => absurd c (by decide), fun c => absurd c (by decide), fun _ => mm_go_from G ?_, fun c => absurd c (by decide), fun c => absurd c (by decide), fun c => absurd c (by decide), fun c => absurd c (by decide), fun c => absurd c (by decide), fun c => absurd c (by decide), fun c => absurd c (by decide), fun c => absurd c (by decide), fun c => absurd c (by decide), trivial⟩)
    refine And.intro (k_80 J) (mm_rf (r_614 J) (And.intro ⟨k_110 J, mm_inb 10 (n_110 J) hB⟩ (mm_rf (b := (c.2.2.2 (5 + H)).1) (by rw [hc]; rfl) (And.intro (fun c_201 => mm_go_from G ?_) (fun c_201 => mm_go_from G ?_)))))
    · have k4 : (c.2.2.2 (5 + H)).1 = 4 := c_201
      have rc := (vr (5 + H) (by omega)).2.2.1 (by rw [k4]; decide)
      rw [if_neg (fun y => y k4)] at hQ'
      refine And.intro (k_80 J) (mm_rf (r_615 J) (And.intro ⟨k_111 J, mm_inb 10 (n_111 J) hB⟩ (mm_rf (b := (c.2.2.2 (5 + H)).2.1) (by rw [hc]; rfl) (And.intro ⟨rfl, k_80 J⟩ (c_Mo_lacks I U hF eF (by omega) (And.intro (fun c_219 => mm_go_from G ?_) (fun c_219 => mm_go_from G ?_)))))))
      · exact mm_qe hQ' (if_neg (mm_b0.mp c_219))
      · exact mm_qe hQ' (if_pos (mm_nn c_219))
    · have k4 : ¬ (c.2.2.2 (5 + H)).1 = 4 := c_201
      exact mm_qe hQ' (if_pos k4)
  case _ =>
    have p0 : lk_po h0 m 9 a = 1 := rfl
    rw [p0] at hpo
    have a12 := ha9 (Or.inl rfl)
    have hBa : 0 ≤ (nI a).toInt ∧ (nI a).toInt < ((12 : Nat) : Int) := mm_nb a12 (by omega)
    have hca : (nI a).toNatClampNeg = a := mm_ncl (by omega)
    rw [ea (Or.inl rfl)]
    refine And.intro (fun c => absurd c (by decide)) (And.intro (Nat.le_of_ble_eq_true rfl) ⟨fun c => absurd c (by decide), fun c => absurd c (by decide), fun c => absurd c (by decide), fun _ => mm_go_from G ?_, fun c => absurd c (by decide), fun c => absurd c (by decide), fun c => absurd c (by decide), fun c => absurd c (by decide), fun c => absurd c (by decide), fun c => absurd c (by decide), fun c => absurd c (by decide), fun c => absurd c (by decide), trivial⟩)
    exact And.intro (k_80 J) (mm_rf (r_580 J) (And.intro ⟨k_82 J, mm_inb 12 (n_82 J) hBa⟩ (mm_rf (b := mm_a h0 82 a) (by rw [hca]; rfl) (And.intro ⟨rfl, k_80 J⟩ (c_Mo_wrongObject I U (by omega) (vr _ (by omega)) hQ)))))
  case _ =>
    have p0 : lk_po h0 m 10 a = 2 := rfl
    rw [p0] at hpo
    have a12 := ha9 (Or.inr rfl)
    have hBa : 0 ≤ (nI a).toInt ∧ (nI a).toInt < ((12 : Nat) : Int) := mm_nb a12 (by omega)
    have hca : (nI a).toNatClampNeg = a := mm_ncl (by omega)
    rw [ea (Or.inr (Or.inl rfl))]
    refine And.intro (fun c => absurd c (by decide)) (And.intro (Nat.le_of_ble_eq_true rfl) ⟨fun c => absurd c (by decide), fun c => absurd c (by decide), fun c => absurd c (by decide), fun c => absurd c (by decide), fun _ => mm_go_from G ?_, fun c => absurd c (by decide), fun c => absurd c (by decide), fun c => absurd c (by decide), fun c => absurd c (by decide), fun c => absurd c (by decide), fun c => absurd c (by decide), fun c => absurd c (by decide), trivial⟩)
    refine And.intro (k_80 J) (mm_rf (r_581 J) (And.intro ⟨k_83 J, mm_inb 12 (n_83 J) hBa⟩ (mm_rf (b := mm_a h0 83 a) (by rw [hca]; rfl) (And.intro (k_80 J) (mm_rf (r_584 J) (And.intro ⟨k_86 J, mm_inb 12 (n_86 J) hBa⟩ (mm_rf (b := mm_a h0 86 a) (by rw [hca]; rfl) (And.intro (k_80 J) (mm_rf (r_582 J) (And.intro ⟨k_84 J, mm_inb 12 (n_84 J) hBa⟩ (mm_rf (b := mm_a h0 84 a) (by rw [hca]; rfl) (And.intro ⟨rfl, k_80 J⟩ (c_Mo_wrongFor I U (by omega) (vr _ (by omega)) (And.intro (k_80 J) (mm_rf (r_580 J) (And.intro ⟨k_82 J, mm_inb 12 (n_82 J) hBa⟩ (mm_rf (b := mm_a h0 82 a) (by rw [hca]; rfl) (And.intro ⟨rfl, k_80 J⟩ ?_))))))))))))))))))
    rw [show nI (5 + H) - Int32.ofInt 1 = nI (4 + H) from (lx_1 (by omega)).trans (by congr 1; omega)]
    exact c_Mo_wrongObject I U (by omega) (vr _ (by omega)) (And.intro ⟨rfl, trivial⟩ (c_Mo_least hQ))
  case _ =>
    obtain ⟨MV, e11⟩ := ha11 rfl
    have p0 : lk_po h0 m 11 a = lk_np h0 a + lk_of h0 a := if_pos rfl
    rw [p0] at hpo
    rw [e11]
    refine And.intro (fun c => absurd c (by decide)) (And.intro (Nat.le_of_ble_eq_true rfl) ⟨fun c => absurd c (by decide), fun c => absurd c (by decide), fun c => absurd c (by decide), fun c => absurd c (by decide), fun c => absurd c (by decide), fun _ => mm_go_from G ?_, fun c => absurd c (by decide), fun c => absurd c (by decide), fun c => absurd c (by decide), fun c => absurd c (by decide), fun c => absurd c (by decide), fun c => absurd c (by decide), trivial⟩)
    exact And.intro ⟨rfl, k_80 J⟩ (c_Mo_wrongCall I U S MV eH hH hpo vr hQ)
  case _ =>
    have p0 : lk_po h0 m 12 a = 1 := rfl
    rw [p0] at hpo
    refine And.intro (fun c => absurd c (by decide)) (And.intro (Nat.le_of_ble_eq_true rfl) ⟨fun c => absurd c (by decide), fun c => absurd c (by decide), fun c => absurd c (by decide), fun c => absurd c (by decide), fun c => absurd c (by decide), fun c => absurd c (by decide), fun _ => mm_go_from G ?_, fun c => absurd c (by decide), fun c => absurd c (by decide), fun c => absurd c (by decide), fun c => absurd c (by decide), fun c => absurd c (by decide), trivial⟩)
    exact And.intro ⟨rfl, k_80 J⟩ (c_Mo_wrongObject I U (by omega) (vr _ (by omega)) hQ)
  case _ =>
    refine And.intro (fun c => absurd c (by decide)) (And.intro (Nat.le_of_ble_eq_true rfl) ⟨fun c => absurd c (by decide), fun c => absurd c (by decide), fun c => absurd c (by decide), fun c => absurd c (by decide), fun c => absurd c (by decide), fun c => absurd c (by decide), fun c => absurd c (by decide), fun _ => mm_go_from G ?_, fun c => absurd c (by decide), fun c => absurd c (by decide), fun c => absurd c (by decide), fun c => absurd c (by decide), trivial⟩)
    exact hQ
  case _ =>
    have p0 : lk_po h0 m 14 a = 1 := rfl
    rw [p0] at hpo
    refine And.intro (fun c => absurd c (by decide)) (And.intro (Nat.le_of_ble_eq_true rfl) ⟨fun c => absurd c (by decide), fun c => absurd c (by decide), fun c => absurd c (by decide), fun c => absurd c (by decide), fun c => absurd c (by decide), fun c => absurd c (by decide), fun c => absurd c (by decide), fun c => absurd c (by decide), fun _ => mm_go_from G ?_, fun c => absurd c (by decide), fun c => absurd c (by decide), fun c => absurd c (by decide), trivial⟩)
    exact And.intro ⟨rfl, k_80 J⟩ (c_Mo_wrongFor I U (by omega) (vr _ (by omega)) hQ)
  case _ =>
    have p0 : lk_po h0 m 15 a = 1 := rfl
    rw [p0] at hpo
    refine And.intro (fun c => absurd c (by decide)) (And.intro (Nat.le_of_ble_eq_true rfl) ⟨fun c => absurd c (by decide), fun c => absurd c (by decide), fun c => absurd c (by decide), fun c => absurd c (by decide), fun c => absurd c (by decide), fun c => absurd c (by decide), fun c => absurd c (by decide), fun c => absurd c (by decide), fun c => absurd c (by decide), fun _ => mm_go_from G ?_, fun c => absurd c (by decide), fun c => absurd c (by decide), trivial⟩)
    exact And.intro ⟨rfl, k_80 J⟩ (c_Mo_wrongObject I U (by omega) (vr _ (by omega)) hQ)
  case _ =>
    have hX : 0 ≤ (Int32.ofInt 4 * nI m + Int32.ofInt 3).toInt ∧ (Int32.ofInt 4 * nI m + Int32.ofInt 3).toInt < ((40 : Nat) : Int) := by rw [lk_43]; exact mm_nb (by omega) (by omega)
    have hXc : (Int32.ofInt 4 * nI m + Int32.ofInt 3).toNatClampNeg = 4 * m + 3 := by rw [lk_43]; exact mm_ncl (by omega)
    have p0 : lk_po h0 m 16 a = if mm_a h0 93 (4 * m + 3) = -2 then 0 else 1 := (if_neg (by decide)).trans (if_pos rfl)
    have hQ' : Q (.int (if mm_a h0 93 (4 * m + 3) = -2 then 9 else lk_wf (mm_up h0) (c.2.2.2 (5 + H)) (mm_a h0 93 (4 * m + 3)) (mm_a h0 96 (4 * m + 3)) (mm_a h0 94 (4 * m + 3)))) (lk_L h0 e c hd sv) := hQ
    refine And.intro (fun c => absurd c (by decide)) (And.intro (Nat.le_of_ble_eq_true rfl) ⟨fun c => absurd c (by decide), fun c => absurd c (by decide), fun c => absurd c (by decide), fun c => absurd c (by decide), fun c => absurd c (by decide), fun c => absurd c (by decide), fun c => absurd c (by decide), fun c => absurd c (by decide), fun c => absurd c (by decide), fun c => absurd c (by decide), fun _ => mm_go_from G ?_, fun c => absurd c (by decide), trivial⟩)
    refine And.intro (k_80 J) (mm_rf (r_591 J) (And.intro ⟨k_93 J, mm_inb 40 (n_93 J) hX⟩ (mm_rf (b := mm_a h0 93 (4 * m + 3)) (by rw [hXc]; rfl) (And.intro (fun c_336 => mm_go_from G ?_) (fun c_336 => mm_go_from G ?_)))))
    · have z : ¬ mm_a h0 93 (4 * m + 3) = -2 := c_336
      rw [if_neg z] at hQ'
      rw [p0, if_neg z] at hpo
      exact And.intro (k_80 J) (mm_rf (r_591 J) (And.intro ⟨k_93 J, mm_inb 40 (n_93 J) hX⟩ (mm_rf (b := mm_a h0 93 (4 * m + 3)) (by rw [hXc]; rfl) (And.intro (k_80 J) (mm_rf (r_594 J) (And.intro ⟨k_96 J, mm_inb 40 (n_96 J) hX⟩ (mm_rf (b := mm_a h0 96 (4 * m + 3)) (by rw [hXc]; rfl) (And.intro (k_80 J) (mm_rf (r_592 J) (And.intro ⟨k_94 J, mm_inb 40 (n_94 J) hX⟩ (mm_rf (b := mm_a h0 94 (4 * m + 3)) (by rw [hXc]; rfl) (And.intro ⟨rfl, k_80 J⟩ (c_Mo_wrongFor I U (by omega) (vr _ (by omega)) hQ')))))))))))))
    · have z : mm_a h0 93 (4 * m + 3) = -2 := mm_no c_336
      exact mm_qe hQ' (if_pos z)
  case _ =>
    have p0 : lk_po h0 m 17 a = 1 := rfl
    rw [p0] at hpo
    refine And.intro (fun c => absurd c (by decide)) (And.intro (Nat.le_of_ble_eq_true rfl) ⟨fun c => absurd c (by decide), fun c => absurd c (by decide), fun c => absurd c (by decide), fun c => absurd c (by decide), fun c => absurd c (by decide), fun c => absurd c (by decide), fun c => absurd c (by decide), fun c => absurd c (by decide), fun c => absurd c (by decide), fun c => absurd c (by decide), fun c => absurd c (by decide), fun _ => mm_go_from G ?_, trivial⟩)
    exact And.intro ⟨rfl, k_80 J⟩ (c_Mo_wrongObject I U (by omega) (vr _ (by omega)) hQ)
theorem l_ea_2 {ro : mm_Ro} {d m i len : Nat} {h0 : mm_H} {e : Int32 × Int32 × Int32} {c : mm_F} {hd : Nat → Int32 × Int32 × Int32} {sv : Nat → mm_V} {Q : Value → mm_H → Prop} (I : mm_SH h0) (W : lk_WM h0 m len) (hi : i < len) (hQ1 : lk_aw h0 m len i → Q (.int 1) (lk_L h0 e c hd sv)) (hQ2 : ¬ lk_aw h0 m len i → mm_go ro (d + 4) mm_m_Mo_errorAt 31 [.ref 80, .int (nI m), .int (nI i), .int (nI 3), .null, .null] [] (lk_L h0 e c hd sv) Q) : ∀ (n w : Nat), w + n = 3 → (∀ j, j < w → lk_w h0 m i j < (len : Int)) → mm_go ro (d + 4) mm_m_Mo_errorAt 2 [.ref 80, .int (nI m), .int (nI i), .int (nI w), .null, .null] [] (lk_L h0 e c hd sv) Q := by
  intro n
  obtain ⟨w1, w2, w3, w4, w5, w6, w7, w8, w9, w10⟩ := W
  have J : mm_SH (lk_L h0 e c hd sv) := I
  have G := mm_hM n_Mo_errorAt rfl
  have V := w7 i hi
  have hB : 0 ≤ (nI m).toInt ∧ (nI m).toInt < ((10 : Nat) : Int) := mm_nb w1 (by omega)
  have hc : (nI m).toNatClampNeg = m := mm_ncl (by omega)
  have t3 : (3 : Int32).toInt = 3 := by decide
  induction n with
  | zero =>
    intro w hw hj
    have e3 : w = 3 := by omega
    refine mm_go_at 31 G (And.intro (fun c_4 => ?_) (fun c_4 => ?_))
    · rw [e3] at hj ⊢
      refine hQ2 ?_
      rintro ⟨j, h1, h2⟩
      have := hj j h1
      omega
    · have z : ¬ (3 : Int32).toInt ≤ (nI w).toInt := c_4
      rw [t3, mm_nt (by omega)] at z
      omega
  | succ n ih =>
    intro w hw hj
    refine mm_go_from G (And.intro (fun c_4 => ?_) (fun c_4 => ?_))
    · have z : (3 : Int32).toInt ≤ (nI w).toInt := c_4
      rw [t3, mm_nt (by omega)] at z
      omega
    · refine And.intro ⟨rfl, k_80 J⟩ (c_Mo_wayOf (w := w) J w1 (by omega) (by omega) w6 V (fun r hr => And.intro (k_80 J) (mm_rf (r_589 J) (And.intro ⟨k_91 J, mm_inb 10 (n_91 J) hB⟩ (mm_rf (b := nI len) (by rw [hc]; exact w3) (And.intro (fun c_20 => mm_go_from G ?_) (fun c_20 => ?_)))))))
      · have z : r.toInt < (nI len).toInt := c_20
        rw [mm_nt (by omega)] at z
        have hr' : r.toInt = lk_w h0 m i w := hr
        have g := ih (w + 1) (by omega) (fun j h1 => by
          by_cases q : j = w
          · rw [q]; omega
          · exact hj j (by omega))
        rw [nI_succ] at g
        exact g
      · have z : ¬ r.toInt < (nI len).toInt := c_20
        rw [mm_nt (by omega)] at z
        have hr' : r.toInt = lk_w h0 m i w := hr
        exact hQ1 ⟨w, by omega, by omega⟩
theorem c_Mo_errorAt {ro : mm_Ro} {d m i len nF : Nat} {h0 : mm_H} {e : Int32 × Int32 × Int32} {c : mm_F} {hd : Nat → Int32 × Int32 × Int32} {sv : Nat → mm_V} {Q : Value → mm_H → Prop} (I : mm_SH h0) (W : lk_WM h0 m len) (hF : nF ≤ 12) (eF : mm_i h0 577 80 = nI nF) (hi : i < len) (bs : lk_bn sv) (bc : lk_bn c.2.2.2) (ok : mm_fok (lk_na h0 m) (lk_fr hd sv i)) (pr : lk_pr (lk_fr hd sv i)) (hQ : ∀ c', lk_bn c'.2.2.2 → Q (.int (lk_er h0 nF m len i (lk_fr hd sv i))) (lk_L h0 e c' hd sv)) : mm_ev ro (d + 5) n_Mo_errorAt [.ref 80, .int (nI m), .int (nI i)] (lk_L h0 e c hd sv) Q := by
  have W' := W
  obtain ⟨w1, w2, w3, w4, w5, w6, w7, w8, w9, w10⟩ := W'
  have J : mm_SH (lk_L h0 e c hd sv) := I
  have G := mm_hM n_Mo_errorAt rfl
  have V := w7 i hi
  have hB : 0 ≤ (nI i).toInt ∧ (nI i).toInt < ((20 : Nat) : Int) := mm_nb (by omega) (by omega)
  have hc : (nI i).toNatClampNeg = i := mm_ncl (by omega)
  have hX : 0 ≤ ((Int8.ofInt 20).toInt32 * nI m + nI i).toInt ∧ ((Int8.ofInt 20).toInt32 * nI m + nI i).toInt < ((200 : Nat) : Int) := by rw [lk_20]; exact mm_nb (by omega) (by omega)
  have hXc : ((Int8.ofInt 20).toInt32 * nI m + nI i).toNatClampNeg = 20 * m + i := by rw [lk_20]; exact mm_ncl (by omega)
  have hr : -10 ≤ (hd i).1.toInt ∧ (hd i).1.toInt ≤ 10 := by
    rcases pr with z | z | z
    · have z' : (hd i).1 = -1 := z
      rw [z']; decide
    · have z' : (hd i).1 = -2 := z
      rw [z']; decide
    · have := (ok z).1
      have a : (lk_fr hd sv i).1.toInt = (hd i).1.toInt := rfl
      omega
  refine mm_ev_at 2 (Z := mm_m_Mo_errorAt) rfl rfl (Nat.le_of_ble_eq_true rfl) rfl ?_
  refine l_ea_2 I W hi (fun a => mm_qe (hQ c bc) (if_pos a)) (fun na => ?_) 3 0 (by omega) (fun j hj => by omega)
  refine mm_go_at 93 G (And.intro (k_80 J) (mm_rf (r_600 J) (And.intro ⟨k_102 J, mm_inb 20 (n_102 J) hB⟩ (mm_rf (b := (hd i).1) (by rw [hc]; rfl) (And.intro (fun c_39 => mm_go_at 93 G ?_) (fun c_39 => mm_qe (hQ c bc) ((if_neg na).trans (if_pos (mm_no c_39)))))))))
  have n2 : ¬ (lk_fr hd sv i).1 = -2 := c_39
  refine And.intro ⟨rfl, k_80 J⟩ (c_Mo_isShort J w1 (by omega) V hr (And.intro (fun c_50 => mm_go_at 93 G ?_) (fun c_50 => mm_qe (hQ c bc) ((if_neg na).trans ((if_neg n2).trans (if_pos (mm_nn c_50)))))))
  have q : ¬ lk_bad h0 m i (hd i).1.toInt := mm_b0.mp c_50
  have er : lk_er h0 nF m len i (lk_fr hd sv i) = lk_vo h0 nF m (lk_a h0 m i) (hd i).1.toInt.toNat (hd i).2.2 (fun v => sv (10 * i + v % 10)) (lk_o h0 m i) := (if_neg na).trans ((if_neg n2).trans (if_neg q))
  obtain ⟨eH, Gd, _⟩ := lk_Gd_of ok q
  rw [er] at hQ
  generalize hH : (hd i).1.toInt.toNat = H at eH Gd hQ
  obtain ⟨G1, G2, G3, G4⟩ := Gd
  have eN : 6 + (hd i).1 = nI (6 + H) := by rw [eH]; exact lk_6
  have ml : ∀ v, v < 10 → v % 10 = v := fun v hv => Nat.mod_eq_of_lt hv
  have eg : ∀ v, v < 6 + H → (fun v => sv (10 * i + v % 10)) v = lk_pre (fun v => sv (10 * i + v)) c.2.2.2 (6 + H) v := fun v hv => by
    rw [lk_pre_t hv]
    show sv (10 * i + v % 10) = _
    rw [ml v (by omega)]
  have bg : lk_bn (lk_pre (fun v => sv (10 * i + v)) c.2.2.2 (6 + H)) := lk_bn_pre (fun v => bs _) bc
  have hnp : lk_o h0 m i = 11 → lk_np h0 (lk_a h0 m i) ≤ 3 := fun y => (V.2.2.1 y).2.2.2.2.1
  refine And.intro ⟨rfl, k_80 J⟩ (c_Mo_take I (by omega) eN (by omega) bs ?_)
  have w := hQ ((hd i).1, (hd i).2.1, (hd i).2.2, lk_pre (fun v => sv (10 * i + v)) c.2.2.2 (6 + H)) bg
  rw [lk_vo_eq eg G3 hnp] at w
  refine And.intro (k_80 J) (mm_rf (r_595 J) (And.intro ⟨k_97 J, mm_inb 200 (n_97 J) hX⟩ (mm_rf (b := nI (lk_o h0 m i)) (by rw [hXc]; exact V.2.1) (And.intro (k_80 J) (mm_rf (r_596 J) (And.intro ⟨k_98 J, mm_inb 200 (n_98 J) hX⟩ (mm_rf (b := mm_a h0 98 (20 * m + i)) (by rw [hXc]; rfl) (And.intro (k_80 J) (mm_rf (b := nI H) (show mm_i (lk_L h0 e ((hd i).1, (hd i).2.1, (hd i).2.2, lk_pre (fun v => sv (10 * i + v)) c.2.2.2 (6 + H)) hd sv) 611 80 = nI H from eH) ?_)))))))))
  have L := l_ea_93 (ro := ro) (d := d) (i := i) (a := lk_a h0 m i) I w9 w4 w1 hF eF V.1.1 (fun y => ?_) (fun y => ?_) (fun y => ⟨(V.2.2.1 y).2, (V.2.2.1 y).1⟩) eH G1 G3 (fun v hv => ?_) w
  · rw [← lk_5] at L
    exact L
  · rcases y with y | y | y
    · exact V.2.2.2.1 (Or.inr (Or.inr (Or.inl y)))
    · exact V.2.2.2.1 (Or.inr (Or.inr (Or.inr y)))
    · exact (V.2.2.1 y).1
  · exact V.1.2.2.2.1 y
  · show mm_vr (lk_pre (fun v => sv (10 * i + v)) c.2.2.2 (6 + H) v)
    rw [← eg v hv]
    exact (G2.2.2.2.2 v hv).1
