/-! WHAT IS WRONG AT AN INSTRUCTION: the reference's wrongCall and errorAt -/
def lk_mn (a b : Int32) : Int32 := if a.toInt < b.toInt then a else b
noncomputable def lk_wp (h : mm_H) (g : Nat → mm_V) (F a : Nat) : Nat → Int32
  | 0 => 9
  | p + 1 => lk_mn (lk_wp h g F a p) (lk_wf (mm_up h) (g (F + p)) (mm_a h 93 (4 * a + p)) (mm_a h 96 (4 * a + p)) (mm_a h 94 (4 * a + p)))
noncomputable def lk_wc (h : mm_H) (g : Nat → mm_V) (H a : Nat) : Int32 := if ¬ mm_a h 95 a = 0 then lk_wp h g (6 + H - lk_np h a) a (lk_np h a) else lk_mn (lk_wp h g (6 + H - lk_np h a) a (lk_np h a)) (lk_wb (mm_up h) (g (6 + H - lk_np h a - 1)) (mm_a h 87 a) 0 1 1)
noncomputable def lk_vo (h : mm_H) (nF m a H : Nat) (f : Int32) (g : Nat → mm_V) : Nat → Int32
  | 6 => lk_mn (lk_wf (mm_up h) (g (5 + H)) (-1) 1 15) (lk_wf (mm_up h) (g (4 + H)) (-1) 1 15)
  | 8 => if ¬ (g (5 + H)).1 = 4 then 4 else @ite _ (∃ j, j < nF ∧ lk_la h f (g (5 + H)).2.1.toInt j) (Classical.propDecidable _) 5 9
  | 9 => lk_wb (mm_up h) (g (5 + H)) (mm_a h 82 a) 1 1 0
  | 10 => lk_mn (lk_wf (mm_up h) (g (5 + H)) (mm_a h 83 a) (mm_a h 86 a) (mm_a h 84 a)) (lk_wb (mm_up h) (g (4 + H)) (mm_a h 82 a) 1 1 0)
  | 11 => lk_wc h g H a
  | 12 => lk_wb (mm_up h) (g (5 + H)) 0 0 0 0
  | 14 => lk_wf (mm_up h) (g (5 + H)) (-1) 1 15
  | 15 => lk_wb (mm_up h) (g (5 + H)) 0 0 0 0
  | 16 => if mm_a h 93 (4 * m + 3) = -2 then 9 else lk_wf (mm_up h) (g (5 + H)) (mm_a h 93 (4 * m + 3)) (mm_a h 96 (4 * m + 3)) (mm_a h 94 (4 * m + 3))
  | 17 => lk_wb (mm_up h) (g (5 + H)) 0 0 1 1
  | _ => 9
/-- some way leads out of the method -/
def lk_aw (h : mm_H) (m len i : Nat) : Prop := ∃ w, w < 3 ∧ (len : Int) ≤ lk_w h m i w
noncomputable def lk_er (h : mm_H) (nF m len i : Nat) (φ : mm_F) : Int32 := @ite _ (lk_aw h m len i) (Classical.propDecidable _) 1 (@ite _ (φ.1 = -2) (Classical.propDecidable _) 2 (@ite _ (lk_bad h m i φ.1.toInt) (Classical.propDecidable _) 3 (lk_vo h nF m (lk_a h m i) φ.1.toInt.toNat φ.2.2.1 φ.2.2.2 (lk_o h m i))))
theorem lk_wp_eq {h : mm_H} {g g' : Nat → mm_V} {F a N : Nat} (E : ∀ v, v < N → g v = g' v) : ∀ p, F + p ≤ N → lk_wp h g F a p = lk_wp h g' F a p := by
  intro p
  induction p with
  | zero => intro _; rfl
  | succ p ih =>
    intro hp
    show lk_mn (lk_wp h g F a p) _ = lk_mn (lk_wp h g' F a p) _
    rw [ih (by omega), E (F + p) (by omega)]
theorem l_wc_21 {ro : mm_Ro} {d a H : Nat} {h0 : mm_H} {e : Int32 × Int32 × Int32} {c : mm_F} {hd : Nat → Int32 × Int32 × Int32} {sv : Nat → mm_V} {Q : Value → mm_H → Prop} (I : mm_SH h0) (U : mm_upo (mm_up h0)) (S : lk_SV h0) (MV : lk_MV h0 a) (hH : H ≤ 4) (hpo : lk_np h0 a + lk_of h0 a ≤ H) (vr : ∀ v, v < 6 + H → mm_vr (c.2.2.2 v)) (hQ : Q (.int (lk_wc h0 c.2.2.2 H a)) (lk_L h0 e c hd sv)) : ∀ (n p : Nat) (v5 : Value), p + n = lk_np h0 a → mm_go ro (d + 3) mm_m_Mo_wrongCall 21 [.ref 80, .int (nI a), .int (nI (6 + H - lk_np h0 a)), .int (lk_wp h0 c.2.2.2 (6 + H - lk_np h0 a) a p), .int (nI p), v5] [] (lk_L h0 e c hd sv) Q := by
  intro n
  have J : mm_SH (lk_L h0 e c hd sv) := I
  have G := mm_hM n_Mo_wrongCall rfl
  have a10 := MV.1
  have n3 := MV.2.2.2.1
  have hB : 0 ≤ (nI a).toInt ∧ (nI a).toInt < ((10 : Nat) : Int) := mm_nb a10 (by omega)
  have hc : (nI a).toNatClampNeg = a := mm_ncl (by omega)
  induction n with
  | zero =>
    intro p v5 hp
    have ep : p = lk_np h0 a := by omega
    refine mm_go_from G (And.intro (k_80 J) (mm_rf (r_587 J) (And.intro ⟨k_89 J, mm_inb 10 (n_89 J) hB⟩ (mm_rf (b := nI (lk_np h0 a)) (by rw [hc]; exact MV.2.2.1) (And.intro (fun c_29 => mm_go_from G ?_) (fun c_29 => ?_))))))
    · rw [ep]
      refine And.intro (k_80 J) (mm_rf (r_593 J) (And.intro ⟨k_95 J, mm_inb 10 (n_95 J) hB⟩ (mm_rf (b := mm_a h0 95 a) (by rw [hc]; rfl) (And.intro (fun c_94 => mm_go_from G ?_) (fun c_94 => ?_)))))
      · have z : mm_a h0 95 a = 0 := c_94
        have o1 : lk_of h0 a = 1 := if_pos z
        have ew : lk_wc h0 c.2.2.2 H a = lk_mn (lk_wp h0 c.2.2.2 (6 + H - lk_np h0 a) a (lk_np h0 a)) (lk_wb (mm_up h0) (c.2.2.2 (6 + H - lk_np h0 a - 1)) (mm_a h0 87 a) 0 1 1) := if_neg (fun y => y z)
        rw [ew] at hQ
        refine And.intro (k_80 J) (mm_rf (r_585 J) (And.intro ⟨k_87 J, mm_inb 10 (n_87 J) hB⟩ (mm_rf (b := mm_a h0 87 a) (by rw [hc]; rfl) (And.intro ⟨rfl, k_80 J⟩ ?_))))
        rw [show nI (6 + H - lk_np h0 a) - Int32.ofInt 1 = nI (6 + H - lk_np h0 a - 1) from lx_1 (by omega)]
        exact c_Mo_wrongObject I U (by omega) (vr _ (by omega)) (And.intro ⟨rfl, trivial⟩ (c_Mo_least hQ))
      · have z : ¬ mm_a h0 95 a = 0 := c_94
        have ew : lk_wc h0 c.2.2.2 H a = lk_wp h0 c.2.2.2 (6 + H - lk_np h0 a) a (lk_np h0 a) := if_pos z
        rw [ew] at hQ
        exact hQ
    · have z : ¬ (nI (lk_np h0 a)).toInt ≤ (nI p).toInt := c_29
      rw [mm_nt (by omega), mm_nt (by omega)] at z
      omega
  | succ n ih =>
    intro p v5 hp
    have hX : 0 ≤ (Int32.ofInt 4 * nI a + nI p).toInt ∧ (Int32.ofInt 4 * nI a + nI p).toInt < ((40 : Nat) : Int) := by rw [lk_4p]; exact mm_nb (by omega) (by omega)
    have hXc : (Int32.ofInt 4 * nI a + nI p).toNatClampNeg = 4 * a + p := by rw [lk_4p]; exact mm_ncl (by omega)
    refine mm_go_from G (And.intro (k_80 J) (mm_rf (r_587 J) (And.intro ⟨k_89 J, mm_inb 10 (n_89 J) hB⟩ (mm_rf (b := nI (lk_np h0 a)) (by rw [hc]; exact MV.2.2.1) (And.intro (fun c_29 => ?_) (fun c_29 => ?_))))))
    · have z : (nI (lk_np h0 a)).toInt ≤ (nI p).toInt := c_29
      rw [mm_nt (by omega), mm_nt (by omega)] at z
      omega
    · refine And.intro (k_80 J) (mm_rf (r_591 J) (And.intro ⟨k_93 J, mm_inb 40 (n_93 J) hX⟩ (mm_rf (b := mm_a h0 93 (4 * a + p)) (by rw [hXc]; rfl) (And.intro (k_80 J) (mm_rf (r_594 J) (And.intro ⟨k_96 J, mm_inb 40 (n_96 J) hX⟩ (mm_rf (b := mm_a h0 96 (4 * a + p)) (by rw [hXc]; rfl) (And.intro (k_80 J) (mm_rf (r_592 J) (And.intro ⟨k_94 J, mm_inb 40 (n_94 J) hX⟩ (mm_rf (b := mm_a h0 94 (4 * a + p)) (by rw [hXc]; rfl) (And.intro ⟨rfl, k_80 J⟩ ?_))))))))))))
      rw [nI_add]
      have nx := ih (p + 1) (.int (lk_wf (mm_up h0) (c.2.2.2 (6 + H - lk_np h0 a + p)) (mm_a h0 93 (4 * a + p)) (mm_a h0 96 (4 * a + p)) (mm_a h0 94 (4 * a + p)))) (by omega)
      rw [nI_succ] at nx
      exact c_Mo_wrongFor I U (by omega) (vr _ (by omega)) (And.intro ⟨rfl, trivial⟩ (c_Mo_least nx))
theorem c_Mo_wrongCall {ro : mm_Ro} {d a H : Nat} {h0 : mm_H} {e : Int32 × Int32 × Int32} {c : mm_F} {hd : Nat → Int32 × Int32 × Int32} {sv : Nat → mm_V} {Q : Value → mm_H → Prop} (I : mm_SH h0) (U : mm_upo (mm_up h0)) (S : lk_SV h0) (MV : lk_MV h0 a) (eH : c.1 = nI H) (hH : H ≤ 4) (hpo : lk_np h0 a + lk_of h0 a ≤ H) (vr : ∀ v, v < 6 + H → mm_vr (c.2.2.2 v)) (hQ : Q (.int (lk_wc h0 c.2.2.2 H a)) (lk_L h0 e c hd sv)) : mm_ev ro (d + 4) n_Mo_wrongCall [.ref 80, .int (nI a)] (lk_L h0 e c hd sv) Q := by
  have J : mm_SH (lk_L h0 e c hd sv) := I
  have a10 := MV.1
  have hB : 0 ≤ (nI a).toInt ∧ (nI a).toInt < ((10 : Nat) : Int) := mm_nb a10 (by omega)
  have hc : (nI a).toNatClampNeg = a := mm_ncl (by omega)
  have e1 : (Int8.ofInt 6).toInt32 + nI H - nI (lk_np h0 a) = nI (6 + H - lk_np h0 a) := by rw [lk_6]; exact lk_nsub (by omega)
  refine mm_ev_at 21 (Z := mm_m_Mo_wrongCall) rfl rfl (Nat.le_of_ble_eq_true rfl) rfl ?_
  refine And.intro (k_80 J) (mm_rf (show mm_i (lk_L h0 e c hd sv) 611 80 = nI H from eH) (And.intro (k_80 J) (mm_rf (r_587 J) (And.intro ⟨k_89 J, mm_inb 10 (n_89 J) hB⟩ (mm_rf (b := nI (lk_np h0 a)) (by rw [hc]; exact MV.2.2.1) ?_)))))
  have L := l_wc_21 (ro := ro) (d := d) I U S MV hH hpo vr hQ (lk_np h0 a) 0 .null (by omega)
  rw [← e1] at L
  exact L
/-- the values alone count, as far as they are there -/
theorem lk_vo_eq {h : mm_H} {nF m a H o : Nat} {f : Int32} {g g' : Nat → mm_V} (E : ∀ v, v < 6 + H → g v = g' v) (hpo : lk_po h m o a ≤ H) (hnp : o = 11 → lk_np h a ≤ 3) : lk_vo h nF m a H f g o = lk_vo h nF m a H f g' o := by
  by_cases h0 : H = 0
  · subst h0
    have e5 : g 5 = g' 5 := E 5 (by omega)
    have e4 : g 4 = g' 4 := E 4 (by omega)
    by_cases q11 : o = 11
    · subst q11
      have ep : lk_po h m 11 a = lk_np h a + (if mm_a h 95 a = 0 then 1 else 0) := if_pos rfl
      rw [ep] at hpo
      have n0 : lk_np h a = 0 := by omega
      show lk_wc h g 0 a = lk_wc h g' 0 a
      unfold lk_wc
      rw [n0, E (6 + 0 - 0 - 1) (by omega)]
      rfl
    · unfold lk_vo
      split <;> first | rfl | exact absurd rfl q11 | (rw [Nat.add_zero, Nat.add_zero, e5, e4]) | (rw [Nat.add_zero, e5])
  · have e5 : g (5 + H) = g' (5 + H) := E (5 + H) (by omega)
    have e4 : g (4 + H) = g' (4 + H) := E (4 + H) (by omega)
    by_cases q11 : o = 11
    · subst q11
      have ep : lk_po h m 11 a = lk_np h a + (if mm_a h 95 a = 0 then 1 else 0) := if_pos rfl
      rw [ep] at hpo
      have n3 := hnp rfl
      show lk_wc h g H a = lk_wc h g' H a
      unfold lk_wc
      rw [lk_wp_eq (N := 6 + H) E (lk_np h a) (by omega), E (6 + H - lk_np h a - 1) (by omega)]
    · unfold lk_vo
      split <;> first | rfl | exact absurd rfl q11 | (rw [e5, e4]) | (rw [e5])
