/-! THE CLASS: settle ends, with the least frames -/
/-- all that are not fresh are followed -/
def lx_Cl (h : mm_H) (m len : Nat) (P : Nat → mm_F × Int32) : Prop := ∀ j, j < len → (P (16 + 2 * j)).2 = 0 → ¬ (lx_X P j).1 = -1 → ∀ w, w < 3 → lk_cw h m len j (lx_X P) w
theorem lx_Cl_st {Φ : mm_F} {h : mm_H} {nC m len i : Nat} {P P' : Nat → mm_F × Int32} (WM : lk_WM h m len) (C : lx_Cv Φ h nC m len P) (C' : lx_Cv Φ h nC m len P') (K : ∀ j, j < len → ¬ j = i → (P (16 + 2 * j)).2 = 0 → ¬ (lx_X P j).1 = -1 → ∀ w, w < 3 → lk_cw h m len j (lx_X P) w) (R : lx_Ar h len P P') (D : ∀ w, w < 3 → lx_Dn h m len i P P' w) : lx_Cl h m len P' := by
  intro j hj f0 n1 w hw y1 y2
  have e : mm_feq (lx_X P j) (lx_X P' j) ∧ (P' (16 + 2 * j)).2 = (P (16 + 2 * j)).2 := by
    rcases R.2.1 j hj with z | z
    · exact z
    · exact absurd (f0.symm.trans z) (by decide)
  have n1' : ¬ (lx_X P j).1 = -1 := fun z => n1 (e.1.1.symm.trans z)
  have A := (WM.2.2.2.2.2.2.1 j hj).1
  have m1 : mm_fle (mm_up h) (lk_out h m j w (lx_X P' j)) (lk_out h m j w (lx_X P j)) := lk_out_mono A (C'.2.1.1 j hj) (C.2.1.1 j hj) n1 (mm_fle_of_eq (mm_feq_symm e.1) (C'.2.2.1 j hj))
  refine mm_fle_trans m1 ?_
  by_cases q : j = i
  · rw [q] at y1 y2 ⊢
    exact D w hw y1 y2
  · exact mm_fle_trans (K j hj q (e.2.symm.trans f0) n1' w hw y1 y2) (R.1 _ (by omega))
/-- fresh of frame i is put out -/
theorem lx_unf {Φ : mm_F} {h : mm_H} {nC m len i : Nat} {P : Nat → mm_F × Int32} (hi : i < 20) (C : lx_Cv Φ h nC m len P) : lx_Cv Φ h nC m len (lx_pu P (16 + 2 * i) ((P (16 + 2 * i)).1, 0)) ∧ lx_X (lx_pu P (16 + 2 * i) ((P (16 + 2 * i)).1, 0)) = lx_X P := by
  obtain ⟨c1, c2, c3, c4, c5, c6⟩ := C
  have eX : lx_X (lx_pu P (16 + 2 * i) ((P (16 + 2 * i)).1, 0)) = lx_X P := by
    rw [lx_X_pu]
    funext j
    by_cases q : j = i
    · rw [q, lk_fu_t]; rfl
    · rw [lk_fu_f q]
  refine ⟨⟨lx_ok_pu c1 ⟨Or.inl rfl, (c1 _ (lx_ii hi)).2⟩, by rw [eX]; exact c2, by rw [eX]; exact c3, by rw [eX]; exact c4, by rw [eX]; exact c5, fun j hj f => ?_⟩, eX⟩
  rw [eX]
  by_cases q : j = i
  · rw [q, lx_pu_t] at f
    exact absurd rfl f
  · rw [lx_pu_f (by omega)] at f
    exact c6 j hj f
theorem l_se_19 {Φ : mm_F} {ro : mm_Ro} {d q m len nC nF nM : Nat} {qm : Nat → Nat} {h0 : mm_H} {P0 : Nat → mm_F × Int32} {rd : Value} {Q : Value → mm_H → Prop} (I : mm_SH h0) (V : lx_V ro h0 nC nF nM qm q m len) (hQ : ∀ (P : Nat → mm_F × Int32) (b : Int32) (v3 : Value), lx_Cv Φ h0 nC m len P → lx_Cl h0 m len P → lk_rs len (lx_X P0) ≤ lk_rs len (lx_X P) → (lk_rs len (lx_X P0) < lk_rs len (lx_X P) ∨ ∀ j, j < len → (P (16 + 2 * j)).2 = 0) → ((b = 0 ∧ P = P0 ∧ ∀ j, j < len → (P0 (16 + 2 * j)).2 = 0) ∨ (b = 1 ∧ ∃ j, j < len ∧ ¬ (P0 (16 + 2 * j)).2 = 0)) → mm_go ro (d + 5) mm_m_Lo_settle 65 [.ref 9, .int b, rd, v3] [] (lx_L h0 P) Q) : ∀ (n i : Nat) (P : Nat → mm_F × Int32) (b : Int32), i + n = len → lx_Cv Φ h0 nC m len P → lx_Cl h0 m len P → lk_rs len (lx_X P0) ≤ lk_rs len (lx_X P) → (lk_rs len (lx_X P0) < lk_rs len (lx_X P) ∨ (∀ j, j < i → (P (16 + 2 * j)).2 = 0) ∧ ∀ j, i ≤ j → j < len → (P (16 + 2 * j)).2 = (P0 (16 + 2 * j)).2) → ((b = 0 ∧ P = P0 ∧ ∀ j, j < i → (P0 (16 + 2 * j)).2 = 0) ∨ (b = 1 ∧ ∃ j, j < len ∧ ¬ (P0 (16 + 2 * j)).2 = 0)) → mm_go ro (d + 5) mm_m_Lo_settle 19 [.ref 9, .int b, rd, .int (nI i)] [] (lx_L h0 P) Q := by
  intro n
  have V' := V
  obtain ⟨W, hq, M, WM, IVs⟩ := V'
  have WM' := WM
  obtain ⟨w1, w2, w3, w4, w5, w6, w7, w8, w9, w10⟩ := WM'
  have kq : ∀ P : Nat → mm_F × Int32, mm_k (lx_L h0 P) q = 9 := fun _ => M.2.1.1.1
  have cq : ∀ P : Nat → mm_F × Int32, mm_i (lx_L h0 P) 521 q = nI len := fun P => (lx_MO_L M).2.2.1.2.2.2.2.2.1.trans w3
  induction n with
  | zero =>
    intro i P b hin C K le f r
    have J : mm_SH (lx_L h0 P) := I
    have ei : i = len := by omega
    refine mm_go_at 65 (mm_hM n_Lo_settle rfl) (And.intro (k_9 J) (mm_rf (show mm_r (lx_L h0 P) 133 9 = q from hq) (And.intro (kq P) (mm_rf (cq P) (And.intro (fun c_27 => ?_) (fun c_27 => ?_))))))
    · rw [ei] at f r
      refine hQ P b _ C K le ?_ r
      rcases f with z | z
      · exact Or.inl z
      · exact Or.inr z.1
    · have z : ¬ (nI len).toInt ≤ (nI i).toInt := c_27
      rw [mm_nt (by omega), mm_nt (by omega)] at z
      omega
  | succ n ih =>
    intro i P b hin C K le f r
    have J : mm_SH (lx_L h0 P) := I
    have hi : i < len := by omega
    have hB : 0 ≤ (nI i).toInt ∧ (nI i).toInt < ((20 : Nat) : Int) := mm_nb (by omega) (by omega)
    have hc : (nI i).toNatClampNeg = i := mm_ncl (by omega)
    have isi := lx_ii (i := i) (by omega)
    have aq : ∀ P : Nat → mm_F × Int32, mm_q (lx_L h0 P) 10 (nI i).toNatClampNeg = 16 + 2 * i := fun P => by rw [hc]; exact J.2.2.2.1 i (by omega)
    have ka := (lx_fs J isi).1
    refine mm_go_at 65 (mm_hM n_Lo_settle rfl) (And.intro (k_9 J) (mm_rf (show mm_r (lx_L h0 P) 133 9 = q from hq) (And.intro (kq P) (mm_rf (cq P) (And.intro (fun c_27 => ?_) (fun c_27 => ?_))))))
    · have z : (nI len).toInt ≤ (nI i).toInt := c_27
      rw [mm_nt (by omega), mm_nt (by omega)] at z
      omega
    · refine And.intro (k_9 J) (mm_rf (r_130 J) (And.intro ⟨⟨by rw [k_10 J]; decide, by rw [k_10 J]; decide⟩, mm_inb 20 (n_10 J) hB⟩ (mm_rf (aq P) (And.intro ka (mm_rf (lx_i isi).2.2.2 (And.intro (fun c_39 => mm_go_from (mm_hM n_Lo_settle rfl) ?_) (fun c_39 => ?_)))))))
      · have f0 : (P (16 + 2 * i)).2 = 0 := c_39
        have g := ih (i + 1) P b (by omega) C K le (by
          rcases f with z | ⟨z1, z2⟩
          · exact Or.inl z
          · refine Or.inr ⟨fun j hj => ?_, fun j hj => z2 j (by omega)⟩
            by_cases y : j = i
            · rw [y]; exact f0
            · exact z1 j (by omega)) (by
          rcases r with ⟨z1, z2, z3⟩ | z
          · refine Or.inl ⟨z1, z2, fun j hj => ?_⟩
            by_cases y : j = i
            · rw [y, ← z2]; exact f0
            · exact z3 j (by omega)
          · exact Or.inr z)
        rw [nI_succ] at g
        exact g
      · have f1 : ¬ (P (16 + 2 * i)).2 = 0 := c_39
        have n1 := C.2.2.2.2.2 i (by omega) f1
        obtain ⟨C1, eX⟩ := lx_unf (i := i) (by omega) C
        refine And.intro (k_9 J) (mm_rf (r_130 J) (And.intro ⟨⟨by rw [k_10 J]; decide, by rw [k_10 J]; decide⟩, mm_inb 20 (n_10 J) hB⟩ (mm_rf (aq P) (And.intro ka (And.intro (Or.inl rfl) ?_)))))
        rw [(lxw_i isi _).2.2.2]
        have J1 : mm_SH (lx_L h0 (lx_pu P (16 + 2 * i) ((P (16 + 2 * i)).1, 0))) := I
        refine And.intro ⟨rfl, k_9 J1⟩ (c_Lo_leave (P := lx_pu P (16 + 2 * i) ((P (16 + 2 * i)).1, 0)) I V hi C1 (by rw [eX]; exact n1) (fun P2 C2 R2 D2 => ?_))
        have f0 : ∃ j, j < len ∧ ¬ (P0 (16 + 2 * j)).2 = 0 := by
          rcases r with ⟨_, z2, _⟩ | ⟨_, z⟩
          · exact ⟨i, hi, by rw [← z2]; exact f1⟩
          · exact z
        have K2 : lx_Cl h0 m len P2 := lx_Cl_st WM C1 C2 (fun j hj nj g0 n1' w hw => by
          rw [eX] at n1' ⊢
          rw [lx_pu_f (by omega)] at g0
          exact K j hj g0 n1' w hw) R2 D2
        have le2 := R2.2.2.2
        rw [eX] at le2
        have g := ih (i + 1) P2 1 (by omega) C2 K2 (by omega) (by
          rcases R2.2.2.1 with z | z
          · rw [eX] at z
            exact Or.inl (by omega)
          · rcases f with y | ⟨y1, y2⟩
            · exact Or.inl (by omega)
            · refine Or.inr ⟨fun j hj => ?_, fun j h1 h2 => ?_⟩
              · rw [(z j (by omega)).2]
                by_cases x : j = i
                · rw [x, lx_pu_t]
                · rw [lx_pu_f (by omega)]; exact y1 j (by omega)
              · rw [(z j h2).2, lx_pu_f (by omega)]
                exact y2 j (by omega) h2) (Or.inr ⟨rfl, f0⟩)
        rw [nI_succ] at g
        exact g
theorem l_se_4 {Φ : mm_F} {ro : mm_Ro} {d q m len nC nF nM : Nat} {qm : Nat → Nat} {h0 : mm_H} {Q : Value → mm_H → Prop} (I : mm_SH h0) (V : lx_V ro h0 nC nF nM qm q m len) (hQ : ∀ P : Nat → mm_F × Int32, lx_Cv Φ h0 nC m len P → lx_Cl h0 m len P → (∀ j, j < len → (P (16 + 2 * j)).2 = 0) → Q .null (lx_L h0 P)) : ∀ (n r : Nat) (P : Nat → mm_F × Int32) (v3 : Value), r + n = 6000 → lx_Cv Φ h0 nC m len P → lx_Cl h0 m len P → (r ≤ lk_rs len (lx_X P) ∨ ((∀ j, j < len → (P (16 + 2 * j)).2 = 0) ∧ r ≤ 5101)) → mm_go ro (d + 5) mm_m_Lo_settle 4 [.ref 9, .int 1, .int (nI r), v3] [] (lx_L h0 P) Q := by
  intro n
  have WM := V.2.2.2.1
  have h20 := WM.2.1
  have t10 : ((Int16.ofInt 10000).toInt32).toInt = 10000 := by decide
  have bnd : ∀ P : Nat → mm_F × Int32, lx_Cv Φ h0 nC m len P → lk_rs len (lx_X P) ≤ 5100 := fun P C => by
    have := lk_rs_max C.2.1.1
    have := Nat.mul_le_mul_right 255 h20
    omega
  induction n with
  | zero =>
    intro r P v3 hr C K f
    have := bnd P C
    rcases f with z | z
    · omega
    · omega
  | succ n ih =>
    intro r P v3 hr C K f
    have b5 := bnd P C
    have r5 : r ≤ 5101 := by
      rcases f with z | z
      · omega
      · exact z.2
    have J : mm_SH (lx_L h0 P) := I
    refine mm_go_at 19 (mm_hM n_Lo_settle rfl) (And.intro (fun z => absurd z (show ¬ (1 : Int32) = 0 by decide)) (fun _ => And.intro (fun c_12 => ?_) (fun _ => ?_)))
    · have z : ((Int16.ofInt 10000).toInt32).toInt ≤ (nI r).toInt := c_12
      rw [t10, mm_nt (by omega)] at z
      omega
    · refine l_se_19 (P0 := P) I V (fun P2 b v3' C2 K2 le2 f2 r2 => ?_) len 0 P 0 (by omega) C K (Nat.le_refl _) (Or.inr ⟨fun j hj => by omega, fun j _ _ => rfl⟩) (Or.inl ⟨rfl, rfl, fun j hj => by omega⟩)
      refine mm_go_from (mm_hM n_Lo_settle rfl) ?_
      rcases r2 with ⟨e1, e2, e3⟩ | ⟨e1, e2⟩
      · rw [e1]
        refine mm_go_from (mm_hM n_Lo_settle rfl) (And.intro (fun _ => mm_go_from (mm_hM n_Lo_settle rfl) ?_) (fun z => absurd rfl z))
        exact hQ P2 C2 K2 (fun j hj => by rw [e2]; exact e3 j hj)
      · rw [e1]
        have g := ih (r + 1) P2 v3' (by omega) C2 K2 (by
          rcases f2 with z | z
          · rcases f with y | ⟨y, _⟩
            · exact Or.inl (by omega)
            · obtain ⟨j, hj, nj⟩ := e2
              exact absurd (y j hj) nj
          · rcases f with y | ⟨y, _⟩
            · exact Or.inr ⟨z, by omega⟩
            · obtain ⟨j, hj, nj⟩ := e2
              exact absurd (y j hj) nj)
        rw [nI_succ] at g
        exact g
theorem c_Lo_settle {Φ : mm_F} {ro : mm_Ro} {d q m len nC nF nM : Nat} {qm : Nat → Nat} {h0 : mm_H} {P : Nat → mm_F × Int32} {Q : Value → mm_H → Prop} (I : mm_SH h0) (V : lx_V ro h0 nC nF nM qm q m len) (eΦ : Φ = lk_sf h0 m) (C : lx_Cv Φ h0 nC m len P) (K : lx_Cl h0 m len P) (hQ : ∀ P : Nat → mm_F × Int32, lx_ok nC P → lk_LF h0 m len (lx_X P) → (∀ j, len ≤ j → j < 20 → (lx_X P j).1 = -1) → Q .null (lx_L h0 P)) : mm_ev ro (d + 6) n_Lo_settle [.ref 9] (lx_L h0 P) Q := by
  have WM := V.2.2.2.1
  refine mm_ev_at 4 (Z := mm_m_Lo_settle) rfl rfl (Nat.le_of_ble_eq_true rfl) rfl ?_
  refine l_se_4 (r := 0) I V (fun P2 C2 K2 f2 => ?_) 6000 P .null (by omega) C K (Or.inl (Nat.zero_le _))
  refine hQ P2 C2.1 (lk_fin WM.2.2.2.1 (fun i hi => (WM.2.2.2.2.2.2.1 i hi).1) WM.2.1 C2.2.1 ⟨?_, fun i hi ni w hw => K2 i hi (f2 i hi) ni w hw⟩) C2.2.2.2.1
  rw [← eΦ]
  exact C2.2.2.2.2.1
