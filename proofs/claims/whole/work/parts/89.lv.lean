/-! THE CLASS: what its arrivals do to the frames -/
def lx_X (P : Nat → mm_F × Int32) : Nat → mm_F := fun i => (P (16 + 2 * i)).1
theorem lx_ii {i : Nat} (h : i < 20) : lx_is (16 + 2 * i) := Or.inr (Or.inr ⟨by omega, by omega, by omega⟩)
def lx_Cv (Φ : mm_F) (h : mm_H) (nC m len : Nat) (P : Nat → mm_F × Int32) : Prop := lx_ok nC P ∧ lk_In h m len (lx_X P) ∧ (∀ i, i < len → lk_pr (lx_X P i)) ∧ (∀ i, len ≤ i → i < 20 → (lx_X P i).1 = -1) ∧ mm_fle (mm_up h) Φ (lx_X P 0) ∧ ∀ i, i < 20 → ¬ (P (16 + 2 * i)).2 = 0 → ¬ (lx_X P i).1 = -1
theorem lx_X_pu {P : Nat → mm_F × Int32} {T : Nat} {x : mm_F × Int32} : lx_X (lx_pu P (16 + 2 * T) x) = lk_fu (lx_X P) T x.1 := by
  funext j
  by_cases q : j = T
  · rw [q, lk_fu_t]
    show (lx_pu P (16 + 2 * T) x (16 + 2 * T)).1 = _
    rw [lx_pu_t]
  · rw [lk_fu_f q]
    show (lx_pu P (16 + 2 * T) x (16 + 2 * j)).1 = _
    rw [lx_pu_f (by omega)]
    rfl
/-- out and jump are no frames of instructions -/
theorem lx_X_11 {P : Nat → mm_F × Int32} {a : Nat} {x : mm_F × Int32} (h : a < 16) : lx_X (lx_pu P a x) = lx_X P := by
  funext j
  show (lx_pu P a x (16 + 2 * j)).1 = _
  rw [lx_pu_f (by omega)]
  rfl
theorem lx_Cv_11 {Φ : mm_F} {h : mm_H} {nC m len a : Nat} {P : Nat → mm_F × Int32} {x : mm_F × Int32} (ha : a < 16) (V : lx_Cv Φ h nC m len P) (hx : (x.2 = 0 ∨ x.2 = 1) ∧ lx_gv nC x.1.2.2.2) : lx_Cv Φ h nC m len (lx_pu P a x) := by
  obtain ⟨v1, v2, v3, v4, v5, v6⟩ := V
  refine ⟨lx_ok_pu v1 hx, ?_, ?_, ?_, ?_, ?_⟩
  · rw [lx_X_11 ha]; exact v2
  · rw [lx_X_11 ha]; exact v3
  · rw [lx_X_11 ha]; exact v4
  · rw [lx_X_11 ha]; exact v5
  · intro i hi
    rw [lx_X_11 ha, lx_pu_f (by omega)]
    exact v6 i hi
/-- what an arrival leaves: all as before, or more -/
def lx_Ar (h : mm_H) (len : Nat) (P P' : Nat → mm_F × Int32) : Prop := (∀ j, j < len → mm_fle (mm_up h) (lx_X P j) (lx_X P' j)) ∧ (∀ j, j < len → (mm_feq (lx_X P j) (lx_X P' j) ∧ (P' (16 + 2 * j)).2 = (P (16 + 2 * j)).2) ∨ (P' (16 + 2 * j)).2 = 1) ∧ ((lk_rs len (lx_X P) < lk_rs len (lx_X P')) ∨ ∀ j, j < len → mm_feq (lx_X P j) (lx_X P' j) ∧ (P' (16 + 2 * j)).2 = (P (16 + 2 * j)).2) ∧ lk_rs len (lx_X P) ≤ lk_rs len (lx_X P')
theorem lx_Ar_refl {h : mm_H} {len : Nat} {P P' : Nat → mm_F × Int32} (pr : ∀ i, i < len → lk_pr (lx_X P i)) (e : ∀ j, P' (16 + 2 * j) = P (16 + 2 * j)) : lx_Ar h len P P' := by
  have eX : lx_X P' = lx_X P := funext (fun j => by show (P' _).1 = (P _).1; rw [e])
  unfold lx_Ar
  rw [eX]
  exact ⟨fun j hj => mm_fle_of_eq mm_feq_refl (pr j hj), fun j _ => Or.inl ⟨mm_feq_refl, by rw [e]⟩, Or.inr (fun j _ => ⟨mm_feq_refl, by rw [e]⟩), Nat.le_refl _⟩
theorem lx_Ar_trans {h : mm_H} {len : Nat} {P P' P'' : Nat → mm_F × Int32} (a : lx_Ar h len P P') (b : lx_Ar h len P' P'') : lx_Ar h len P P'' := by
  obtain ⟨a1, a2, a3, a4⟩ := a
  obtain ⟨b1, b2, b3, b4⟩ := b
  refine ⟨fun j hj => mm_fle_trans (a1 j hj) (b1 j hj), fun j hj => ?_, ?_, by omega⟩
  · rcases b2 j hj with ⟨z1, z2⟩ | z
    · rcases a2 j hj with ⟨y1, y2⟩ | y
      · exact Or.inl ⟨mm_feq_trans y1 z1, z2.trans y2⟩
      · exact Or.inr (z2.trans y)
    · exact Or.inr z
  · rcases a3 with z | z
    · exact Or.inl (by omega)
    · rcases b3 with y | y
      · exact Or.inl (by omega)
      · exact Or.inr (fun j hj => ⟨mm_feq_trans (z j hj).1 (y j hj).1, (y j hj).2.trans (z j hj).2⟩)
/-- an arrival -/
theorem lx_arr {Φ : mm_F} {h : mm_H} {nC m len T : Nat} {P : Nat → mm_F × Int32} {ψ ρ : mm_F} {fr : Int32} (U : mm_upo (mm_up h)) (V : lx_Cv Φ h nC m len P) (hT : T < len) (h20 : len ≤ 20) (oψ : mm_fok (lk_na h m) ψ) (pψ : ψ.1 = -2 ∨ 0 ≤ ψ.1.toInt) (l : ∀ Y, lk_VF h m len Y → lk_PF h m len Y → mm_fle (mm_up h) ψ (Y T)) (J : lk_jn (mm_up h) (lx_X P T) ψ ρ) (gv : lx_gv nC ρ.2.2.2) (f01 : fr = 0 ∨ fr = 1) (hf : (fr = 1 ∧ ¬ mm_feq (lx_X P T) ρ) ∨ (fr = (P (16 + 2 * T)).2 ∧ mm_feq (lx_X P T) ρ)) : lx_Cv Φ h nC m len (lx_pu P (16 + 2 * T) (ρ, fr)) ∧ lx_Ar h len P (lx_pu P (16 + 2 * T) (ρ, fr)) ∧ mm_fle (mm_up h) ψ (lx_X (lx_pu P (16 + 2 * T) (ρ, fr)) T) := by
  obtain ⟨v1, v2, v3, v4, v5, v6⟩ := V
  have eX := lx_X_pu (P := P) (T := T) (x := (ρ, fr))
  have oT := v2.1 T hT
  have up := lk_jn_up oT oψ pψ J
  have upT := up.2 (v3 T hT)
  have le : ∀ j, j < len → mm_fle (mm_up h) (lx_X P j) (lk_fu (lx_X P) T ρ j) := fun j hj => by
    by_cases q : j = T
    · rw [q, lk_fu_t]; exact upT
    · rw [lk_fu_f q]; exact mm_fle_of_eq mm_feq_refl (v3 j hj)
  obtain ⟨k1, k2⟩ := lk_jn_rank U oT oψ pψ J
  obtain ⟨s1, s2⟩ := lk_rs_up (ρ := ρ) hT k1
  have ef : ∀ j, ¬ j = T → (lx_pu P (16 + 2 * T) (ρ, fr) (16 + 2 * j)).2 = (P (16 + 2 * j)).2 := fun j hj => by rw [lx_pu_f (by omega)]
  have eT : (lx_pu P (16 + 2 * T) (ρ, fr) (16 + 2 * T)).2 = fr := by rw [lx_pu_t]
  refine ⟨⟨lx_ok_pu v1 ⟨f01, gv⟩, ?_, fun i hi => ?_, fun i h1 h2 => ?_, ?_, fun i h1 h2 => ?_⟩, ?_, ?_⟩
  · rw [eX]; exact lk_In_jn U v2 hT oψ pψ J l
  · rw [eX]
    by_cases q : i = T
    · rw [q, lk_fu_t]; exact Or.inr (lk_jn_pr pψ J)
    · rw [lk_fu_f q]; exact v3 i hi
  · rw [eX, lk_fu_f (by omega)]; exact v4 i h1 h2
  · rw [eX]; exact mm_fle_trans v5 (le 0 (by omega))
  · rw [eX]
    by_cases q : i = T
    · rw [q, lk_fu_t]
      rcases lk_jn_pr pψ J with z | z
      · rw [z]; decide
      · exact mm_not_m1 z
    · rw [lk_fu_f q]
      rw [ef i q] at h2
      exact v6 i h1 h2
  · unfold lx_Ar
    rw [eX]
    refine ⟨le, fun j hj => ?_, ?_, s1⟩
    · by_cases q : j = T
      · rw [q, lk_fu_t, eT]
        rcases hf with ⟨z, _⟩ | ⟨z1, z2⟩
        · exact Or.inr z
        · exact Or.inl ⟨z2, z1⟩
      · rw [lk_fu_f q]; exact Or.inl ⟨mm_feq_refl, ef j q⟩
    · rcases hf with ⟨_, z⟩ | ⟨z1, z2⟩
      · refine Or.inl ?_
        show lk_rs len (lx_X P) < lk_rs len (lk_fu (lx_X P) T ρ)
        rcases Nat.lt_or_ge (lk_rs len (lx_X P)) (lk_rs len (lk_fu (lx_X P) T ρ)) with y | y
        · exact y
        · exact absurd (k2 (s2 (by omega))) z
      · refine Or.inr (fun j hj => ?_)
        by_cases q : j = T
        · rw [q, lk_fu_t, eT]; exact ⟨z2, z1⟩
        · rw [lk_fu_f q]; exact ⟨mm_feq_refl, ef j q⟩
  · rw [eX, lk_fu_t]; exact up.1
/-- arrive: nothing where the method ends before -/
theorem c_Lo_arrive {Φ : mm_F} {ro : mm_Ro} {d T b q m len nC nF nM : Nat} {qm : Nat → Nat} {h0 : mm_H} {P : Nat → mm_F × Int32} {ψ : mm_F} {Q : Value → mm_H → Prop} (I : mm_SH h0) (W : lx_W ro h0 nC nF nM qm) (hq : mm_r h0 133 9 = q) (M : lx_MO h0 q m) (hl : mm_a h0 91 m = nI len) (h20 : len ≤ 20) (hT : T ≤ 20) (hb : b = 11 ∨ b = 13) (V : lx_Cv Φ h0 nC m len P) (eψ : mm_feq ψ (P b).1) (oψ : mm_fok (lk_na h0 m) ψ) (pψ : ψ.1 = -2 ∨ 0 ≤ ψ.1.toInt) (l : T < len → ∀ Y, lk_VF h0 m len Y → lk_PF h0 m len Y → mm_fle (mm_up h0) ψ (Y T)) (hQ : ∀ P', lx_Cv Φ h0 nC m len P' → lx_Ar h0 len P P' → (T < len → mm_fle (mm_up h0) ψ (lx_X P' T)) → (∀ a, ¬ a = 16 + 2 * T → P' a = P a) → Q .null (lx_L h0 P')) : mm_ev ro (d + 4) n_Lo_arrive [.ref 9, .int (nI T), .ref b] (lx_L h0 P) Q := by
  obtain ⟨K, ⟨hC, h6⟩, MS, FD, SC, SV, AS, U, Z, MVs⟩ := W
  have J0 : mm_SH (lx_L h0 P) := I
  have rq : mm_r (lx_L h0 P) 133 9 = q := hq
  have kq : mm_k (lx_L h0 P) q = 9 := M.2.1.1.1
  have cq : mm_i (lx_L h0 P) 521 q = nI len := (lx_MO_L M).2.2.1.2.2.2.2.2.1.trans hl
  refine mm_ev_in (Z := mm_m_Lo_arrive) rfl rfl (Nat.le_of_ble_eq_true rfl) rfl ?_
  refine And.intro (k_9 J0) (mm_rf rq (And.intro kq (mm_rf cq (And.intro (fun c_8 => mm_go_from (mm_hM n_Lo_arrive rfl) ?_) (fun c_8 => ?_)))))
  · have z : (nI len).toInt ≤ (nI T).toInt := c_8
    rw [mm_nt (by omega), mm_nt (by omega)] at z
    exact hQ P V (lx_Ar_refl V.2.2.1 (fun _ => rfl)) (fun y => by omega) (fun _ _ => rfl)
  · have z : ¬ (nI len).toInt ≤ (nI T).toInt := c_8
    rw [mm_nt (by omega), mm_nt (by omega)] at z
    have hTl : T < len := by omega
    have hB : 0 ≤ (nI T).toInt ∧ (nI T).toInt < ((20 : Nat) : Int) := mm_nb (by omega) (by omega)
    have hc : (nI T).toNatClampNeg = T := mm_ncl (by omega)
    have aq : mm_q (lx_L h0 P) 10 T = 16 + 2 * T := J0.2.2.2.1 T (by omega)
    have isT := lx_ii (i := T) (by omega)
    have isb : lx_is b := by
      rcases hb with z | z
      · rw [z]; exact lx_11
      · rw [z]; exact lx_13
    have nb : ¬ 16 + 2 * T = b := by omega
    obtain ⟨f01, gT⟩ := V.1 _ isT
    have gb := (V.1 _ isb).2
    refine And.intro (k_9 J0) (mm_rf (r_130 J0) (And.intro ⟨⟨by rw [k_10 J0]; decide, by rw [k_10 J0]; decide⟩, mm_inb 20 (n_10 J0) hB⟩ (mm_rf (b := 16 + 2 * T) (by rw [hc]; exact aq) (And.intro (k_9 J0) (mm_rf (r_128 J0) (And.intro ⟨rfl, (lx_fs J0 isT).1⟩ (c_Fr_join (nC := nC) (na := lk_na h0 m) I U Z AS hC isT isb nb (V.2.1.1 T hTl) (V.2.2.1 T hTl) (by rw [← eψ.1]; exact pψ) gT gb f01 (fun ρ fr' J gv f01' hf => ?_))))))))
    have J' : lk_jn (mm_up h0) (lx_X P T) ψ ρ := lk_jn_eq (mm_feq_symm eψ) (by rw [← eψ.1]; exact pψ) J
    obtain ⟨r1, r2, r3⟩ := lx_arr U V hTl h20 oψ pψ (l hTl) J' gv f01' hf
    exact hQ _ r1 r2 (fun _ => r3) (fun a ha => lx_pu_f ha)
