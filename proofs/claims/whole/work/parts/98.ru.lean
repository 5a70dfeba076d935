/-! THE CLASS: callError, wayError -/
theorem lx_wp_e {h : mm_H} {g : Nat → mm_V} {F a : Nat} : ∀ p, lx_e (lk_wp h g F a p) := by
  intro p
  induction p with
  | zero => exact Or.inr (Or.inr (Or.inr (Or.inr rfl)))
  | succ p ih => exact lx_mn_e ih lx_wf_e
theorem l_ce_5 {ro : mm_Ro} {d q a b H nC nF nM : Nat} {qm : Nat → Nat} {h0 : mm_H} {P : Nat → mm_F × Int32} {Q : Value → mm_H → Prop} (I : mm_SH h0) (W : lx_W ro h0 nC nF nM qm) (ha : a < nM) (M : lx_MO h0 q a) (hb : lx_is b) (eH : (P b).1.1 = nI H) (hH : H ≤ 4) (hpo : lk_np h0 a + lk_of h0 a ≤ H) (gv : lx_gv nC (P b).1.2.2.2) (hQ : Q (.int (lx_cv (lk_wc h0 (P b).1.2.2.2 H a))) (lx_L h0 P)) : ∀ (n p : Nat) (v5 : Value), p + n = lk_np h0 a → mm_go ro (d + 4) mm_m_Ru_callError 5 [.ref 15, .ref q, .ref b, .int (lx_cv (lk_wp h0 (P b).1.2.2.2 (6 + H - lk_np h0 a) a p)), .int (nI p), v5] [] (lx_L h0 P) Q := by
  intro n
  have G := mm_hM n_Ru_callError rfl
  obtain ⟨K, ⟨hC, h6⟩, MS, FD, SC, SV, AS, U, Z, MVs⟩ := W
  have MV := MVs a ha
  have n3 := MV.2.2.2.1
  have J : mm_SH (lx_L h0 P) := I
  have AS' : lx_AS (lx_L h0 P) nC := AS
  have ML := lx_MO_L (P := P) M
  have kq : mm_k (lx_L h0 P) q = 9 := M.2.1.1.1
  have cp : mm_i (lx_L h0 P) 516 q = nI (lk_np h0 a) := ML.2.2.1.2.2.2.1.trans MV.2.2.1
  have kb := (lx_fs J hb).1
  have e6 : ∀ K : Nat, (6 : Int32) + nI K = nI (6 + K) := fun K => lk_6
  induction n with
  | zero =>
    intro p v5 hp
    have ep : p = lk_np h0 a := by omega
    refine mm_go_from G (And.intro kq (mm_rf cp (And.intro (fun c_11 => mm_go_from G ?_) (fun c_11 => ?_))))
    · rw [ep]
      refine And.intro kq (mm_rf (b := mm_a h0 95 a) ML.2.2.1.2.2.1 (And.intro (fun c_57 => mm_go_from G ?_) (fun c_57 => ?_)))
      · have z : mm_a h0 95 a = 0 := c_57
        have o1 : lk_of h0 a = 1 := if_pos z
        have ew : lk_wc h0 (P b).1.2.2.2 H a = lk_mn (lk_wp h0 (P b).1.2.2.2 (6 + H - lk_np h0 a) a (lk_np h0 a)) (lk_wb (mm_up h0) ((P b).1.2.2.2 (6 + H - lk_np h0 a - 1)) (mm_a h0 87 a) 0 1 1) := if_neg (fun y => y z)
        rw [ew] at hQ
        have oc := MV.2.1
        obtain ⟨D, hD, eD⟩ := mm_of (N := 6) (x := mm_a h0 87 a) (by omega)
        have tD : (nI D).toInt = (D : Int) := mm_nt (by omega)
        have ej : 6 + (P b).1.1 - 1 - nI (lk_np h0 a) = nI (6 + H - lk_np h0 a - 1) := by
          rw [eH, e6, lx_1 (by omega), lk_nsub (by omega)]
          congr 1
          omega
        have eb : lk_wb (mm_up h0) ((P b).1.2.2.2 (6 + H - lk_np h0 a - 1)) (mm_a h0 87 a) 0 1 1 = lk_e5 (¬ lk_ir (mm_up h0) ((P b).1.2.2.2 (6 + H - lk_np h0 a - 1)) (D : Int)) (((P b).1.2.2.2 (6 + H - lk_np h0 a - 1)).1 = 4) (¬ ((P b).1.2.2.2 (6 + H - lk_np h0 a - 1)).2.2.1 = 0 ∧ (0 : Int32) = 0) (¬ ((P b).1.2.2.2 (6 + H - lk_np h0 a - 1)).2.2.2.1 &&& ((0 : Int32) ^^^ (-1)) = 0) := by
          refine lk_e5_iff (by rw [eD, tD]) ⟨fun y => y.2, fun y => ⟨rfl, y⟩⟩ ⟨fun y => ⟨y.2, rfl⟩, fun y => ⟨by decide, y.1⟩⟩ ?_
          have ez : ((P b).1.2.2.2 (6 + H - lk_np h0 a - 1)).2.2.2.1 &&& ((0 : Int32) ^^^ (-1)) = ((P b).1.2.2.2 (6 + H - lk_np h0 a - 1)).2.2.2.1 := by
            rw [show (0 : Int32) ^^^ (-1) = -1 by decide]
            exact Int32.and_neg_one
          rw [ez]
          exact ⟨fun y => y.2, fun y => ⟨by decide, y⟩⟩
        refine And.intro kq (mm_rf cp (And.intro ⟨rfl, kb⟩ (c_Fr_under I hb ej (by omega) (And.intro kq (mm_rf (b := mm_a h0 87 a) ML.2.2.1.1 (And.intro ⟨rfl, k_15 J⟩ (c_Ru_referenceError J eD AS' (gv _ (by omega)) hD (And.intro ⟨rfl, trivial⟩ ?_))))))))
        have eb' : lk_e5 (¬ lk_ir (mm_up (lx_L h0 P)) ((P b).1.2.2.2 (6 + H - lk_np h0 a - 1)) (D : Int)) (((P b).1.2.2.2 (6 + H - lk_np h0 a - 1)).1 = 4) (¬ ((P b).1.2.2.2 (6 + H - lk_np h0 a - 1)).2.2.1 = 0 ∧ (Int32.ofInt 0) = 0) (¬ ((P b).1.2.2.2 (6 + H - lk_np h0 a - 1)).2.2.2.1 &&& ((Int32.ofInt 0) ^^^ (-1)) = 0) = lk_wb (mm_up h0) ((P b).1.2.2.2 (6 + H - lk_np h0 a - 1)) (mm_a h0 87 a) 0 1 1 := eb.symm
        rw [eb']
        exact c_Ru_first (lx_wp_e _) lx_wb_e hQ
      · have z : ¬ mm_a h0 95 a = 0 := c_57
        have ew : lk_wc h0 (P b).1.2.2.2 H a = lk_wp h0 (P b).1.2.2.2 (6 + H - lk_np h0 a) a (lk_np h0 a) := if_pos z
        rw [ew] at hQ
        exact hQ
    · have z : ¬ (nI (lk_np h0 a)).toInt ≤ (nI p).toInt := c_11
      rw [mm_nt (by omega), mm_nt (by omega)] at z
      omega
  | succ n ih =>
    intro p v5 hp
    have hp3 : p < 3 := by omega
    have hB : 0 ≤ (nI p).toInt ∧ (nI p).toInt < ((3 : Nat) : Int) := mm_nb hp3 (by omega)
    have hc : (nI p).toNatClampNeg = p := mm_ncl (by omega)
    have PL : lx_PL (lx_L h0 P) (mm_q h0 (q + 1) p) (mm_a h0 93 (4 * a + p)) (mm_a h0 96 (4 * a + p)) (mm_a h0 94 (4 * a + p)) := lx_PL_L (M.2.2.2.1 p hp3 (by rw [MV.2.2.1, mm_nt (by omega)]; omega))
    obtain ⟨s1, _, _⟩ := SV.2 (4 * a + p) (by have := MV.1; omega)
    have ns : ¬ (mm_a h0 93 (4 * a + p)).toInt = -2 := lk_nn (n := -2) (MV.2.2.2.2.2 p (by omega)) (by decide)
    have ej : 6 + (P b).1.1 - 1 - (nI (lk_np h0 a) - 1 - nI p) = nI (6 + H - lk_np h0 a + p) := by
      rw [eH, e6, lx_1 (by omega), lx_1 (by omega), lk_nsub (by omega), lk_nsub (by omega)]
      congr 1
      omega
    refine mm_go_from G (And.intro kq (mm_rf cp (And.intro (fun c_11 => ?_) (fun c_11 => ?_))))
    · have z : (nI (lk_np h0 a)).toInt ≤ (nI p).toInt := c_11
      rw [mm_nt (by omega), mm_nt (by omega)] at z
      omega
    · have nx := ih (p + 1) (.int (lx_pk ((P b).1.2.2.2 (6 + H - lk_np h0 a + p)))) (by omega)
      rw [nI_succ] at nx
      exact And.intro kq (mm_rf cp (And.intro ⟨rfl, kb⟩ (c_Fr_under I hb ej (by omega) (And.intro kq (mm_rf ML.2.1.1.2.1 (And.intro ⟨⟨by rw [ML.2.1.1.2.2.1]; decide, by rw [ML.2.1.1.2.2.1]; decide⟩, mm_inb 3 ML.2.1.1.2.2.2 hB⟩ (mm_rf (b := mm_q h0 (q + 1) p) (by rw [hc]; rfl) (And.intro ⟨rfl, k_15 J⟩ (c_Ru_comingError J AS' (gv _ (by omega)) PL (by omega) (And.intro ⟨rfl, trivial⟩ (c_Ru_first (lx_wp_e _) lx_wf_e nx)))))))))))
theorem c_Ru_callError {ro : mm_Ro} {d q a b H nC nF nM : Nat} {qm : Nat → Nat} {h0 : mm_H} {P : Nat → mm_F × Int32} {Q : Value → mm_H → Prop} (I : mm_SH h0) (W : lx_W ro h0 nC nF nM qm) (ha : a < nM) (M : lx_MO h0 q a) (hb : lx_is b) (eH : (P b).1.1 = nI H) (hH : H ≤ 4) (hpo : lk_np h0 a + lk_of h0 a ≤ H) (gv : lx_gv nC (P b).1.2.2.2) (hQ : Q (.int (lx_cv (lk_wc h0 (P b).1.2.2.2 H a))) (lx_L h0 P)) : mm_ev ro (d + 5) n_Ru_callError [.ref 15, .ref q, .ref b] (lx_L h0 P) Q := mm_ev_at 5 (Z := mm_m_Ru_callError) rfl rfl (Nat.le_of_ble_eq_true rfl) rfl (l_ce_5 I W ha M hb eH hH hpo gv hQ (lk_np h0 a) 0 .null (by omega))
theorem c_Ru_leadsAway {ro : mm_Ro} {d q m i len nC nF nM : Nat} {qm : Nat → Nat} {h0 : mm_H} {P : Nat → mm_F × Int32} {Q : Value → mm_H → Prop} (I : mm_SH h0) (V : lx_V ro h0 nC nF nM qm q m len) (hi : i < len) (hQ : Q (.int (mm_b (lk_aw h0 m len i))) (lx_L h0 P)) : mm_ev ro (d + 2) n_Ru_leadsAway [.ref 15, .ref q, .int (nI i)] (lx_L h0 P) Q := by
  have G := mm_hM n_Ru_leadsAway rfl
  obtain ⟨W, hq, M, WM, IVs⟩ := V
  obtain ⟨w1, w2, w3, w4, w5, w6, w7, w8, w9, w10⟩ := WM
  have J : mm_SH (lx_L h0 P) := I
  have IV := w7 i hi
  have ho := IV.1.1
  have ML := lx_MO_L (P := P) M
  obtain ⟨_, ⟨⟨kq, _⟩, _, ⟨o1, o2, o3⟩, ⟨p1, p2, p3⟩, _⟩, ⟨_, _, _, _, _, cl, _⟩, _, _, hop, _⟩ := lx_MO_L (P := P) M
  have cq : mm_i (lx_L h0 P) 521 q = nI len := cl.trans w3
  have hB : 0 ≤ (nI i).toInt ∧ (nI i).toInt < ((20 : Nat) : Int) := mm_nb (by omega) (by omega)
  have hc : (nI i).toNatClampNeg = i := mm_ncl (by omega)
  have rop : mm_a (lx_L h0 P) (q + 3) (nI i).toNatClampNeg = nI (lk_o h0 m i) := by rw [hc, (hop i (by omega)).1]; exact IV.2.1
  have tl : (nI len).toInt = (len : Int) := mm_nt (by omega)
  have bt : ∀ f : Bool, ¬ ((if f then 1 else 0 : Int32) = 0) → f = true := fun f => by cases f <;> decide
  have wk : ∀ w, ((len : Int) ≤ lk_w h0 m i w ∧ w < 3) → lk_aw h0 m len i := fun w y => ⟨w, y.2, y.1⟩
  have g58 : ∀ n0 n1 : Int32, (¬ n0 = 0 ↔ (len : Int) ≤ lk_w h0 m i 0) → (¬ n1 = 0 ↔ (len : Int) ≤ lk_w h0 m i 1) → mm_go ro (d + 1) mm_m_Ru_leadsAway 58 [.ref 15, .ref q, .int (nI i), .int (nI (lk_o h0 m i)), .int n0, .int n1] [] (lx_L h0 P) Q := by
    intro n0 n1 h0' h1'
    have yes : lk_aw h0 m len i → mm_go ro (d + 1) mm_m_Ru_leadsAway 87 [.ref 15, .ref q, .int (nI i), .int (nI (lk_o h0 m i)), .int n0, .int n1] [] (lx_L h0 P) Q := fun y => mm_go_from G (mm_go_from G ⟨Or.inr rfl, mm_qe hQ (mm_b_t y)⟩)
    have no : ¬ (len : Int) ≤ lk_w h0 m i 2 → n0 = 0 → n1 = 0 → mm_go ro (d + 1) mm_m_Ru_leadsAway 91 [.ref 15, .ref q, .int (nI i), .int (nI (lk_o h0 m i)), .int n0, .int n1] [] (lx_L h0 P) Q := by
      intro y2 y0 y1
      refine mm_go_from G ⟨Or.inl rfl, mm_qe hQ (mm_b_f ?_)⟩
      rintro ⟨w, hw, y⟩
      have : w = 0 ∨ w = 1 ∨ w = 2 := by omega
      rcases this with z | z | z
      · rw [z] at y; exact h0'.mpr y y0
      · rw [z] at y; exact h1'.mpr y y1
      · rw [z] at y; exact y2 y
    refine mm_go_at 87 G (And.intro (fun c_60 => yes (wk 0 ⟨h0'.mp c_60, by omega⟩)) (fun c_60 => And.intro (fun c_65 => yes (wk 1 ⟨h1'.mp c_65, by omega⟩)) (fun c_65 => And.intro ⟨rfl, trivial⟩ (c_Op_mayThrow ho (And.intro (fun c_72 => no ?_ (mm_no c_60) (mm_no c_65)) (fun c_72 => ?_))))))
    · have z := lx_i0.mp c_72
      have e : lk_w h0 m i 2 = -1 := if_neg (of_decide_eq_false z)
      omega
    · have z := bt _ c_72
      have e : lk_w h0 m i 2 = lk_gd h0 m i := if_pos (of_decide_eq_true z)
      refine And.intro ⟨rfl, kq⟩ (c_Me_caughtAt ML (by omega) w6 (fun r hr => And.intro kq (mm_rf cq (And.intro (fun c_84 => no ?_ (mm_no c_60) (mm_no c_65)) (fun c_84 => yes (wk 2 ⟨?_, by omega⟩))))))
      · have y : r.toInt < (nI len).toInt := c_84
        have hr' : r.toInt = lk_gd h0 m i := hr
        omega
      · have y : ¬ r.toInt < (nI len).toInt := c_84
        have hr' : r.toInt = lk_gd h0 m i := hr
        omega
  have g29 : ∀ n0 : Int32, (¬ n0 = 0 ↔ (len : Int) ≤ lk_w h0 m i 0) → mm_go ro (d + 1) mm_m_Ru_leadsAway 29 [.ref 15, .ref q, .int (nI i), .int (nI (lk_o h0 m i)), .null, .null] [.int n0] (lx_L h0 P) Q := by
    intro n0 h0'
    refine mm_go_at 58 G (And.intro ⟨rfl, trivial⟩ (c_Op_jumps ho (And.intro (fun c_35 => mm_go_at 58 G (g58 n0 0 h0' ⟨fun y => absurd rfl y, fun y => ?_⟩)) (fun c_35 => ?_))))
    · have z := lx_i0.mp c_35
      have e : lk_w h0 m i 1 = -1 := if_neg (of_decide_eq_false z)
      omega
    · have z := of_decide_eq_true (bt _ c_35)
      obtain ⟨ea, a20⟩ := IV.2.2.2.2 z
      have e : lk_w h0 m i 1 = (lk_a h0 m i : Int) := (if_pos z).trans (by rw [ea, mm_nt (by omega)])
      have ta : (nI (lk_a h0 m i)).toInt = (lk_a h0 m i : Int) := mm_nt (by omega)
      have rar : mm_a (lx_L h0 P) (q + 4) (nI i).toNatClampNeg = nI (lk_a h0 m i) := by rw [hc, (hop i (by omega)).2]; exact ea
      refine And.intro kq (mm_rf p1 (And.intro ⟨p2, mm_inb 20 p3 hB⟩ (mm_rf rar (And.intro kq (mm_rf cq (And.intro (fun c_48 => mm_go_at 58 G (g58 n0 0 h0' ⟨fun y => absurd rfl y, fun y => ?_⟩)) (fun c_48 => mm_go_at 58 G (g58 n0 1 h0' ⟨fun _ => ?_, fun _ => by decide⟩))))))))
      · have y2 : (nI (lk_a h0 m i)).toInt < (nI len).toInt := c_48
        omega
      · have y2 : ¬ (nI (lk_a h0 m i)).toInt < (nI len).toInt := c_48
        omega
  refine mm_ev_at 29 (Z := mm_m_Ru_leadsAway) rfl rfl (Nat.le_of_ble_eq_true rfl) rfl ?_
  refine And.intro kq (mm_rf o1 (And.intro ⟨o2, mm_inb 20 o3 hB⟩ (mm_rf rop (And.intro ⟨rfl, trivial⟩ (c_Op_goesOn ho (And.intro (fun c_11 => mm_go_at 29 G (g29 0 ⟨fun y => absurd rfl y, fun y => ?_⟩)) (fun c_11 => ?_)))))))
  · have e := (lx_go_w ho).2 (lx_i0.mp c_11)
    omega
  · have e := (lx_go_w ho).1 (bt _ c_11)
    have e1 : (nI i + Int32.ofInt 1).toInt = (i : Int) + 1 := by
      rw [show nI i + Int32.ofInt 1 = nI (i + 1) from (nI_succ i).symm, mm_nt (by omega)]
      omega
    refine And.intro kq (mm_rf cq (And.intro (fun c_21 => mm_go_at 29 G (g29 0 ⟨fun y => absurd rfl y, fun y => ?_⟩)) (fun c_21 => g29 1 ⟨fun _ => ?_, fun _ => by decide⟩)))
    · have y2 : (nI i + Int32.ofInt 1).toInt < (nI len).toInt := c_21
      omega
    · have y2 : ¬ (nI i + Int32.ofInt 1).toInt < (nI len).toInt := c_21
      omega
