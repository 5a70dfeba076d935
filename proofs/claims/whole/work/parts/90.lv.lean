/-! THE CLASS: leave -/
theorem c_Op {ro : mm_Ro} {d z o : Nat} {h : mm_H} {Q : Value → mm_H → Prop} (f : Nat → Bool) (ho : o < 18) (hz : ∀ o, o < 18 → mm_run0 (d + 1) 40 z [.int (nI o)] h = some (.int (if f o then 1 else 0), h)) (hQ : Q (.int (if f o then 1 else 0)) h) : mm_ev ro (d + 1) z [.int (nI o)] h Q := by
  refine mm_ev0 40 (by rw [hz o ho]; rfl) (fun r h' e => ?_)
  rw [hz o ho] at e
  cases e
  exact hQ
theorem lx_oc {p : Nat → Prop} (h : p 0 ∧ p 1 ∧ p 2 ∧ p 3 ∧ p 4 ∧ p 5 ∧ p 6 ∧ p 7 ∧ p 8 ∧ p 9 ∧ p 10 ∧ p 11 ∧ p 12 ∧ p 13 ∧ p 14 ∧ p 15 ∧ p 16 ∧ p 17) : ∀ o, o < 18 → p o := by
  intro o ho
  obtain ⟨h0, h1, h2, h3, h4, h5, h6, h7, h8, h9, h10, h11, h12, h13, h14, h15, h16, h17⟩ := h
  rcases lk_o_cases ho with rfl | rfl | rfl | rfl | rfl | rfl | rfl | rfl | rfl | rfl | rfl | rfl | rfl | rfl | rfl | rfl | rfl | rfl <;> assumption
def lx_go (o : Nat) : Bool := decide (o < 13 ∨ o = 14 ∨ o = 15)
def lx_ju (o : Nat) : Bool := decide (13 ≤ o ∧ o ≤ 15)
def lx_th (o : Nat) : Bool := decide (o = 11 ∨ o = 12 ∨ o = 17)
theorem c_Op_goesOn {ro : mm_Ro} {d o : Nat} {h : mm_H} {Q : Value → mm_H → Prop} (ho : o < 18) (hQ : Q (.int (if lx_go o then 1 else 0)) h) : mm_ev ro (d + 1) n_Op_goesOn [.int (nI o)] h Q := c_Op lx_go ho (lx_oc ⟨rfl, rfl, rfl, rfl, rfl, rfl, rfl, rfl, rfl, rfl, rfl, rfl, rfl, rfl, rfl, rfl, rfl, rfl⟩) hQ
theorem c_Op_jumps {ro : mm_Ro} {d o : Nat} {h : mm_H} {Q : Value → mm_H → Prop} (ho : o < 18) (hQ : Q (.int (if lx_ju o then 1 else 0)) h) : mm_ev ro (d + 1) n_Op_jumps [.int (nI o)] h Q := c_Op lx_ju ho (lx_oc ⟨rfl, rfl, rfl, rfl, rfl, rfl, rfl, rfl, rfl, rfl, rfl, rfl, rfl, rfl, rfl, rfl, rfl, rfl⟩) hQ
theorem c_Op_mayThrow {ro : mm_Ro} {d o : Nat} {h : mm_H} {Q : Value → mm_H → Prop} (ho : o < 18) (hQ : Q (.int (if lx_th o then 1 else 0)) h) : mm_ev ro (d + 1) n_Op_mayThrow [.int (nI o)] h Q := c_Op lx_th ho (lx_oc ⟨rfl, rfl, rfl, rfl, rfl, rfl, rfl, rfl, rfl, rfl, rfl, rfl, rfl, rfl, rfl, rfl, rfl, rfl⟩) hQ
theorem lx_i0 {b : Bool} : ((if b then 1 else 0 : Int32) = 0) ↔ b = false := by cases b <;> decide
/-- a way of instruction i is followed -/
def lx_Dn (h : mm_H) (m len i : Nat) (P P' : Nat → mm_F × Int32) (w : Nat) : Prop := 0 ≤ lk_w h m i w → lk_w h m i w < (len : Int) → mm_fle (mm_up h) (lk_out h m i w (lx_X P i)) (lx_X P' (lk_w h m i w).toNat)
theorem lx_Dn_up {h : mm_H} {m len i w : Nat} {P P' P'' : Nat → mm_F × Int32} (a : lx_Dn h m len i P P' w) (b : lx_Ar h len P' P'') : lx_Dn h m len i P P'' w := fun y1 y2 => mm_fle_trans (a y1 y2) (b.1 _ (by omega))
/-- what is fixed while one method is looked through -/
def lx_V (ro : mm_Ro) (h : mm_H) (nC nF nM : Nat) (qm : Nat → Nat) (q m len : Nat) : Prop := lx_W ro h nC nF nM qm ∧ mm_r h 133 9 = q ∧ lx_MO h q m ∧ lk_WM h m len ∧ ∀ i, i < len → lx_IV h nC nF nM m i
theorem lx_outs {h : mm_H} {m len i w : Nat} {φ : mm_F} (W : lk_WM h m len) (hi : i < len) (o : mm_fok (lk_na h m) φ) : mm_fok (lk_na h m) (lk_out h m i w φ) ∧ ((lk_out h m i w φ).1 = -2 ∨ 0 ≤ (lk_out h m i w φ).1.toInt) := by
  obtain ⟨w1, w2, w3, w4, w5, w6, w7, w8, w9, w10⟩ := W
  refine ⟨(lk_out_ok w4 (by omega) (w7 i hi).1 o).1, ?_⟩
  by_cases q : lk_bad h m i φ.1.toInt
  · rw [lk_out_b q]; exact Or.inl rfl
  · rw [lk_out_g q]
    have g := lk_good q
    have := (o g.1).1
    exact Or.inr (lk_ew_pos (w7 i hi).1.1 (by omega))
theorem l_lv_175 {Φ : mm_F} {ro : mm_Ro} {d i q m len nC nF nM : Nat} {qm : Nat → Nat} {h0 : mm_H} {P P' : Nat → mm_F × Int32} {b : Int32} {v5 : Value} {Q : Value → mm_H → Prop} (I : mm_SH h0) (V : lx_V ro h0 nC nF nM qm q m len) (hi : i < len) (C0 : lx_Cv Φ h0 nC m len P) (n1 : ¬ (lx_X P i).1 = -1) (C : lx_Cv Φ h0 nC m len P') (R : lx_Ar h0 len P P') (hin : lx_th (lk_o h0 m i) = true → P' (16 + 2 * i) = P (16 + 2 * i)) (hb : ¬ b = 0 ↔ lk_bad h0 m i (lx_X P i).1.toInt) (D0 : lx_Dn h0 m len i P P' 0) (D1 : lx_Dn h0 m len i P P' 1) (hQ : ∀ P'', lx_Cv Φ h0 nC m len P'' → lx_Ar h0 len P P'' → (∀ w, w < 3 → lx_Dn h0 m len i P P'' w) → Q .null (lx_L h0 P'')) : mm_go ro (d + 4) mm_m_Lo_leave 175 [.ref 9, .int (nI i), .int (nI (lk_o h0 m i)), .ref (16 + 2 * i), .int b, v5] [] (lx_L h0 P') Q := by
  obtain ⟨W, hq, M, WM, IVs⟩ := V
  have WM' := WM
  obtain ⟨w1, w2, w3, w4, w5, w6, w7, w8, w9, w10⟩ := WM'
  have J : mm_SH (lx_L h0 P') := I
  have ho := (w7 i hi).1.1
  have kq : mm_k (lx_L h0 P') q = 9 := M.2.1.1.1
  have all : ∀ P'', lx_Ar h0 len P' P'' → lx_Dn h0 m len i P P'' 2 → ∀ w, w < 3 → lx_Dn h0 m len i P P'' w := fun P'' a d2 w hw => by
    have : w = 0 ∨ w = 1 ∨ w = 2 := by omega
    rcases this with z | z | z
    · rw [z]; exact lx_Dn_up D0 a
    · rw [z]; exact lx_Dn_up D1 a
    · rw [z]; exact d2
  have rf : lx_Ar h0 len P' P' := lx_Ar_refl C.2.2.1 (fun _ => rfl)
  have stop : lk_w h0 m i 2 = -1 → Q .null (lx_L h0 P') := fun z => hQ P' C R (all P' rf (fun y => by rw [z] at y; omega))
  have g194 : ∀ r : Int32, r.toInt = lk_w h0 m i 2 → (0 ≤ r.toInt → lx_th (lk_o h0 m i) = true) → mm_go ro (d + 4) mm_m_Lo_leave 194 [.ref 9, .int (nI i), .int (nI (lk_o h0 m i)), .ref (16 + 2 * i), .int b, v5] [.int r] (lx_L h0 P') Q := by
    intro r hr ht
    have w20 := lk_w20 (w := 2) WM hi
    refine mm_go_from (mm_hM n_Lo_leave rfl) (And.intro (fun c_199 => mm_go_from (mm_hM n_Lo_leave rfl) ?_) (fun c_199 => ?_))
    · have z : r = -1 := c_199
      refine stop ?_
      rw [← hr, z]
      decide
    · have z : ¬ r = -1 := c_199
      have z' : ¬ r.toInt = -1 := lk_nn (n := -1) z (by decide)
      have p : 0 ≤ r.toInt := by omega
      obtain ⟨e1, e2⟩ := lk_w_nI hr p (by omega)
      have ein := hin (ht p)
      have isi := lx_ii (i := i) (by omega)
      have n11 : ¬ 11 = 16 + 2 * i := by omega
      rw [e1]
      have gin := (C0.1 _ isi).2
      have f11 := (C.1 11 lx_11).1
      refine And.intro (k_9 J) (mm_rf (r_131 J) (And.intro ⟨rfl, (lx_fs J lx_11).1⟩ (c_Fr_become I lx_11 isi n11 ?_)))
      rw [ein]
      have ov := lx_outs (w := 2) WM hi (C0.2.1.1 i hi)
      have ly : (lk_w h0 m i 2).toNat < len → ∀ Y, lk_VF h0 m len Y → lk_PF h0 m len Y → mm_fle (mm_up h0) (lk_out h0 m i 2 (lx_X P i)) (Y (lk_w h0 m i 2).toNat) := fun hT => lk_way C0.2.1 (w7 i hi).1 hi n1 (by omega) (by omega) (by omega)
      -- the frame that comes to the guard's place
      have fin : ∀ c : mm_F, mm_feq (lk_out h0 m i 2 (lx_X P i)) c → lx_gv nC c.2.2.2 → mm_ev ro (d + 4) n_Lo_arrive [.ref 9, .int (nI (lk_w h0 m i 2).toNat), .ref 11] (lx_L h0 (lx_pu P' 11 (c, (P' 11).2))) (fun _ h1 => Q .null h1) := by
        intro c ec gc
        have C' : lx_Cv Φ h0 nC m len (lx_pu P' 11 (c, (P' 11).2)) := lx_Cv_11 (by omega) C ⟨f11, gc⟩
        have R' : lx_Ar h0 len P' (lx_pu P' 11 (c, (P' 11).2)) := lx_Ar_refl C.2.2.1 (fun j => lx_pu_f (by omega))
        refine c_Lo_arrive (b := 11) (ψ := lk_out h0 m i 2 (lx_X P i)) I W hq M w3 w2 (by omega) (Or.inl rfl) C' (by rw [lx_pu_t]; exact ec) ov.1 ov.2 ly (fun P'' C'' R'' le _ => ?_)
        have Rt := lx_Ar_trans R' R''
        exact hQ P'' C'' (lx_Ar_trans R Rt) (all P'' Rt (fun _ y2 => le (by omega)))
      refine And.intro ⟨rfl, k_9 J⟩ (c_Lo_beginCatch (nC := nC) I W.2.1.1 gin (fun nb => ?_) (fun zb gv => ?_))
      · have bad := hb.mp nb
        refine And.intro (k_9 J) (mm_rf (r_131 J) (And.intro ⟨rfl, k_9 J⟩ ?_))
        refine mm_ev_mono (fin (-2, (lx_X P i).2) ?_ gin) (fun r' h' hq' => hq')
        rw [lk_out_b bad]
        exact ⟨rfl, fun y => absurd y (by decide)⟩
      · have good : ¬ lk_bad h0 m i (lx_X P i).1.toInt := fun y => hb.mpr y zb
        refine And.intro (k_9 J) (mm_rf (r_131 J) (And.intro ⟨rfl, k_9 J⟩ ?_))
        refine mm_ev_mono (fin (1, (lx_X P i).2.1, (lx_X P i).2.2.1, lk_up (lx_X P i).2.2.2 6 (3, 0, 0, 0, -1)) ?_ gv) (fun r' h' hq' => hq')
        rw [lk_out_g good]
        exact mm_feq_refl
  refine mm_go_at 194 (mm_hM n_Lo_leave rfl) (And.intro ⟨rfl, trivial⟩ (c_Op_mayThrow ho (And.intro (fun c_179 => mm_go_at 194 (mm_hM n_Lo_leave rfl) ?_) (fun c_179 => ?_))))
  · have z : lx_th (lk_o h0 m i) = false := lx_i0.mp c_179
    refine g194 (-1) ?_ (fun y => absurd y (by decide))
    refine Eq.trans (by decide) (if_neg ?_).symm
    exact of_decide_eq_false z
  · have z : lx_th (lk_o h0 m i) = true := by
      cases e : lx_th (lk_o h0 m i)
      · exact absurd (lx_i0.mpr e) c_179
      · rfl
    refine And.intro (k_9 J) (mm_rf (show mm_r (lx_L h0 P') 133 9 = q from hq) (And.intro ⟨rfl, kq⟩ (c_Me_caughtAt (lx_MO_L M) (by omega) w6 (fun r hr => g194 r ?_ (fun _ => z)))))
    rw [hr]
    exact (if_pos (of_decide_eq_true z)).symm
