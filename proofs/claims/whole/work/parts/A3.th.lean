/-! THE CLASS: through -/
theorem lx_133 : ∀ t ∈ sh_r, ¬ (t.1 = 133 ∧ t.2.1 = 9) := by decide
theorem lx_SH133 {h : mm_H} {q : Nat} (I : mm_SH h) : mm_SH (mm_sr h 133 9 q) := ⟨I.1, I.2.1, fun t ht => (if_neg (lx_133 t ht)).trans (I.2.2.1 t ht), I.2.2.2.1, I.2.2.2.2⟩
/-- the first error, or none -/
def lk_no (h : mm_H) (nF m len : Nat) (X : Nat → mm_F) : Prop := ∀ j, j < len → (X j).1 = -1 ∨ lk_er h nF m len j (X j) = 9
def lk_fe (h : mm_H) (nF m len : Nat) (X : Nat → mm_F) (i : Nat) : Prop := i < len ∧ ¬ (X i).1 = -1 ∧ ¬ lk_er h nF m len i (X i) = 9 ∧ ∀ j, j < i → (X j).1 = -1 ∨ lk_er h nF m len j (X j) = 9
theorem l_th_7 {ro : mm_Ro} {d q nC : Nat} {h0 : mm_H} {Q : Value → mm_H → Prop} (I : mm_SH h0) (hQ : ∀ P : Nat → mm_F × Int32, lx_ok nC P → (∀ j, j < 20 → (lx_X P j).1 = -1 ∧ (P (16 + 2 * j)).2 = 0) → mm_go ro (d + 6) mm_m_Lo_through 42 [.ref 9, .ref q, .int (nI 20), .null] [] (lx_L h0 P) Q) : ∀ (n i : Nat) (P : Nat → mm_F × Int32), i + n = 20 → lx_ok nC P → (∀ j, j < i → (lx_X P j).1 = -1 ∧ (P (16 + 2 * j)).2 = 0) → mm_go ro (d + 6) mm_m_Lo_through 7 [.ref 9, .ref q, .int (nI i), .null] [] (lx_L h0 P) Q := by
  intro n
  have G := mm_hM n_Lo_through rfl
  have t20 : (Int32.ofNat 20).toInt = 20 := by decide
  have K10 : ∀ P : Nat → mm_F × Int32, 22 ≤ mm_k (lx_L h0 P) 10 ∧ mm_k (lx_L h0 P) 10 < 26 := fun P => by
    have e : mm_k (lx_L h0 P) 10 = 24 := k_10 I
    rw [e]
    decide
  induction n with
  | zero =>
    intro i P hi ok hz
    have J : mm_SH (lx_L h0 P) := I
    refine mm_go_at 42 G (And.intro (k_9 J) (mm_rf (r_130 J) (And.intro ⟨by rw [k_10 J]; decide, by rw [k_10 J]; decide⟩ ?_)))
    rw [n_10 J]
    refine And.intro (fun c_13 => ?_) (fun c_13 => ?_)
    · rw [show i = 20 by omega] at hz ⊢
      exact hQ P ok hz
    · have z : ¬ (Int32.ofNat 20).toInt ≤ (nI i).toInt := c_13
      rw [t20, mm_nt (by omega)] at z
      omega
  | succ n ih =>
    intro i P hi ok hz
    have J : mm_SH (lx_L h0 P) := I
    have hB : 0 ≤ (nI i).toInt ∧ (nI i).toInt < ((20 : Nat) : Int) := mm_nb (by omega) (by omega)
    have hc : (nI i).toNatClampNeg = i := mm_ncl (by omega)
    have isi := lx_ii (i := i) (by omega)
    have ka := (lx_fs J isi).1
    have aq : ∀ P : Nat → mm_F × Int32, mm_q (lx_L h0 P) 10 (nI i).toNatClampNeg = 16 + 2 * i := fun P => by rw [hc]; exact J.2.2.2.1 i (by omega)
    have nx := ih (i + 1) (lx_pu P (16 + 2 * i) ((-1, (P (16 + 2 * i)).1.2), 0)) (by omega) (lx_ok_pu ok ⟨Or.inl rfl, (ok _ isi).2⟩) (fun j hj => by
      by_cases y : j = i
      · rw [y]
        show (lx_pu P (16 + 2 * i) ((-1, (P (16 + 2 * i)).1.2), 0) (16 + 2 * i)).1.1 = -1 ∧ _
        rw [lx_pu_t]
        exact ⟨rfl, rfl⟩
      · show (lx_pu P (16 + 2 * i) ((-1, (P (16 + 2 * i)).1.2), 0) (16 + 2 * j)).1.1 = -1 ∧ _
        rw [lx_pu_f (by omega)]
        exact hz j (by omega))
    rw [nI_succ] at nx
    refine mm_go_at 42 G (And.intro (k_9 J) (mm_rf (r_130 J) (And.intro ⟨by rw [k_10 J]; decide, by rw [k_10 J]; decide⟩ ?_)))
    rw [n_10 J]
    refine And.intro (fun c_13 => ?_) (fun c_13 => ?_)
    · have z : (Int32.ofNat 20).toInt ≤ (nI i).toInt := c_13
      rw [t20, mm_nt (by omega)] at z
      omega
    · refine And.intro (k_9 J) (mm_rf (r_130 J) (And.intro ⟨⟨by rw [k_10 J]; decide, by rw [k_10 J]; decide⟩, mm_inb 20 (n_10 J) hB⟩ (mm_rf (aq P) (And.intro ka ?_))))
      rw [(lxw_i isi _).1]
      refine And.intro (k_9 J) (mm_rf (r_130 J) (And.intro ⟨K10 _, mm_inb 20 (n_10 J) hB⟩ (mm_rf (aq _) (And.intro ka (And.intro (Or.inl rfl) ?_)))))
      rw [(lxw_i isi _).2.2.2, lx_pu_u, lx_pu_t]
      exact nx
theorem l_th_93 {ro : mm_Ro} {d q m len nC nF nM : Nat} {qm : Nat → Nat} {h0 : mm_H} {P : Nat → mm_F × Int32} {Q : Value → mm_H → Prop} (I : mm_SH h0) (V : lx_V ro h0 nC nF nM qm q m len) (eF : mm_i h0 69 2 = nI nF) (ow : ∀ j, j < nF → ∃ D, D < 6 ∧ mm_a h0 82 j = nI D) (ok : lx_ok nC P) (VF : lk_VF h0 m len (lx_X P)) (hQ0 : lk_no h0 nF m len (lx_X P) → Q (.int 0) (lx_L h0 P)) (hQ1 : ∀ i, lk_fe h0 nF m len (lx_X P) i → Q (.int (lk_er h0 nF m len i (lx_X P i))) (mm_si (lx_L h0 P) 134 9 (nI i))) : ∀ (n i : Nat) (v3 : Value), i + n = len → (∀ j, j < i → (lx_X P j).1 = -1 ∨ lk_er h0 nF m len j (lx_X P j) = 9) → mm_go ro (d + 6) mm_m_Lo_through 93 [.ref 9, .ref q, .int (nI i), v3] [] (lx_L h0 P) Q := by
  intro n
  have G := mm_hM n_Lo_through rfl
  have V' := V
  obtain ⟨W, hq, M, WM, IVs⟩ := V'
  have h20 := WM.2.1
  have J : mm_SH (lx_L h0 P) := I
  have kq : mm_k (lx_L h0 P) q = 9 := M.2.1.1.1
  have cq : mm_i (lx_L h0 P) 521 q = nI len := (lx_MO_L M).2.2.1.2.2.2.2.2.1.trans WM.2.2.1
  induction n with
  | zero =>
    intro i v3 hi hj
    refine mm_go_from G (And.intro kq (mm_rf cq (And.intro (fun c_98 => mm_go_from G (hQ0 (fun j h1 => hj j (by omega)))) (fun c_98 => ?_))))
    have z : ¬ (nI len).toInt ≤ (nI i).toInt := c_98
    rw [mm_nt (by omega), mm_nt (by omega)] at z
    omega
  | succ n ih =>
    intro i v3 hi hj
    have hil : i < len := by omega
    have hB : 0 ≤ (nI i).toInt ∧ (nI i).toInt < ((20 : Nat) : Int) := mm_nb (by omega) (by omega)
    have hc : (nI i).toNatClampNeg = i := mm_ncl (by omega)
    have isi := lx_ii (i := i) (by omega)
    have ka := (lx_fs J isi).1
    have aq : mm_q (lx_L h0 P) 10 (nI i).toNatClampNeg = 16 + 2 * i := by rw [hc]; exact J.2.2.2.1 i (by omega)
    obtain ⟨fo, pr⟩ := VF i hil
    have gv := (ok _ isi).2
    have hr : -10 ≤ (lx_X P i).1.toInt ∧ (lx_X P i).1.toInt ≤ 10 := by
      rcases pr with z | z | z
      · rw [z]; decide
      · rw [z]; decide
      · have := (fo z).1
        omega
    have nx : ∀ v : Value, ((lx_X P i).1 = -1 ∨ lk_er h0 nF m len i (lx_X P i) = 9) → mm_go ro (d + 6) mm_m_Lo_through 160 [.ref 9, .ref q, .int (nI i), v] [] (lx_L h0 P) Q := by
      intro v y
      have w := ih (i + 1) v (by omega) (fun j h1 => by
        by_cases x : j = i
        · rw [x]; exact y
        · exact hj j (by omega))
      rw [nI_succ] at w
      exact mm_go_from G w
    -- the error as it stands, at 149
    have g149 : ∀ r : Int32, ((lx_X P i).1 = -1 ∧ r = 0) ∨ (¬ (lx_X P i).1 = -1 ∧ r = lx_cv (lk_er h0 nF m len i (lx_X P i))) → mm_go ro (d + 6) mm_m_Lo_through 149 [.ref 9, .ref q, .int (nI i), .int r] [] (lx_L h0 P) Q := by
      intro r hr
      have cv := lx_cv0 (h := h0) (nF := nF) (m := m) (len := len) (i := i) (φ := lx_X P i)
      refine mm_go_at 160 G (And.intro (fun c_150 => nx _ ?_) (fun c_150 => And.intro (k_9 J) ?_))
      · have z : r = 0 := c_150
        rcases hr with ⟨y, _⟩ | ⟨_, y⟩
        · exact Or.inl y
        · exact Or.inr (cv.1.mp (y.symm.trans z))
      · have z : ¬ r = 0 := c_150
        rcases hr with ⟨_, y⟩ | ⟨y1, y2⟩
        · exact absurd y z
        · have n9 : ¬ lk_er h0 nF m len i (lx_X P i) = 9 := fun x => z (y2.trans (cv.1.mpr x))
          have w := hQ1 i ⟨hil, y1, n9, hj⟩
          rw [← cv.2 n9, ← y2] at w
          exact w
    have g117 : ∀ r : Int32, (r = 0 → (lx_X P i).1 = -1 ∨ (¬ (lx_X P i).1 = -1 ∧ ¬ lk_aw h0 m len i ∧ ¬ (lx_X P i).1 = -2 ∧ ¬ lk_bad h0 m i (lx_X P i).1.toInt)) → (¬ r = 0 → ¬ (lx_X P i).1 = -1 ∧ r = lx_cv (lk_er h0 nF m len i (lx_X P i))) → mm_go ro (d + 6) mm_m_Lo_through 117 [.ref 9, .ref q, .int (nI i), .int r] [] (lx_L h0 P) Q := by
      intro r h0' h1'
      refine mm_go_at 149 G (And.intro (fun c_118 => g149 r (Or.inr (h1' c_118))) (fun c_118 => ?_))
      have r0 : r = 0 := mm_no c_118
      refine And.intro (k_9 J) (mm_rf (r_130 J) (And.intro ⟨⟨by rw [k_10 J]; decide, by rw [k_10 J]; decide⟩, mm_inb 20 (n_10 J) hB⟩ (mm_rf aq (And.intro ka (mm_rf (b := (lx_X P i).1) (lx_i isi).1 (And.intro (fun c_130 => g149 r (Or.inl ⟨?_, r0⟩)) (fun c_130 => ?_)))))))
      · have z : (lx_X P i).1.toInt < 0 := c_130
        rcases h0' r0 with y | ⟨_, _, y2, y3⟩
        · exact y
        · exact absurd (lk_bad_neg z) y3
      · have z : ¬ (lx_X P i).1.toInt < 0 := c_130
        have n1 : ¬ (lx_X P i).1 = -1 := mm_not_m1 (by omega)
        have y : ¬ lk_aw h0 m len i ∧ ¬ (lx_X P i).1 = -2 ∧ ¬ lk_bad h0 m i (lx_X P i).1.toInt := by
          rcases h0' r0 with y | ⟨_, y⟩
          · exact absurd y n1
          · exact y
        have g := lk_good y.2.2
        have h4 := (fo g.1).1
        have eH := lk_nI_of g.1 h4
        have ee : lk_er h0 nF m len i (lx_X P i) = lk_vo h0 nF m (lk_a h0 m i) (lx_X P i).1.toInt.toNat (lx_X P i).2.2.1 (lx_X P i).2.2.2 (lk_o h0 m i) := (if_neg y.1).trans ((if_neg y.2.1).trans (if_neg y.2.2))
        refine And.intro (k_9 J) (mm_rf (r_129 J) (And.intro (k_9 J) (mm_rf (r_130 J) (And.intro ⟨⟨by rw [k_10 J]; decide, by rw [k_10 J]; decide⟩, mm_inb 20 (n_10 J) hB⟩ (mm_rf aq (And.intro ⟨rfl, k_15 J⟩ (c_Ru_valueError I V eF ow hil eH (by omega) g.2.1 gv (g149 _ (Or.inr ⟨n1, ?_⟩)))))))))
        rw [ee]
    refine mm_go_at 117 G (And.intro kq (mm_rf cq (And.intro (fun c_98 => ?_) (fun c_98 => ?_))))
    · have z : (nI len).toInt ≤ (nI i).toInt := c_98
      rw [mm_nt (by omega), mm_nt (by omega)] at z
      omega
    · have ez : ∀ v : Int32, lk_er h0 nF m len i (lx_X P i) = v → ¬ v = 9 → lx_cv (lk_er h0 nF m len i (lx_X P i)) = v := fun v e n => by rw [e]; exact if_neg n
      exact And.intro (k_9 J) (mm_rf (r_129 J) (And.intro (k_9 J) (mm_rf (r_130 J) (And.intro ⟨⟨by rw [k_10 J]; decide, by rw [k_10 J]; decide⟩, mm_inb 20 (n_10 J) hB⟩ (mm_rf aq (And.intro ⟨rfl, k_15 J⟩ (c_Ru_wayError I V hil hr (fun y => g117 0 (fun _ => Or.inl y) (fun z => absurd rfl z)) (fun y a => g117 1 (fun z => absurd z (by decide)) (fun _ => ⟨y, (ez 1 (if_pos a) (by decide)).symm⟩)) (fun a y => g117 2 (fun z => absurd z (by decide)) (fun _ => ⟨by rw [y]; decide, (ez 2 ((if_neg a).trans (if_pos y)) (by decide)).symm⟩)) (fun y1 a y2 b => g117 3 (fun z => absurd z (by decide)) (fun _ => ⟨y1, (ez 3 ((if_neg a).trans ((if_neg y2).trans (if_pos b))) (by decide)).symm⟩)) (fun y1 a y2 b => g117 0 (fun _ => Or.inr ⟨y1, a, y2, b⟩) (fun z => absurd rfl z)))))))))
theorem c_Lo_through {ro : mm_Ro} {d q m len nC nF nM : Nat} {qm : Nat → Nat} {h h0 : mm_H} {P : Nat → mm_F × Int32} {Q : Value → mm_H → Prop} (I : mm_SH h) (e0 : h0 = mm_sr h 133 9 q) (W : lx_W ro h0 nC nF nM qm) (hm : m < nM) (M : lx_MO h0 q m) (hl : mm_a h0 91 m = nI len) (h20 : len ≤ 20) (eF : mm_i h0 69 2 = nI nF) (ow : ∀ j, j < nF → ∃ D, D < 6 ∧ mm_a h0 82 j = nI D) (WM : mm_a h0 90 m = -1 → 0 < len → lk_WM h0 m len ∧ ∀ i, i < len → lx_IV h0 nC nF nM m i) (ok : lx_ok nC P)
    (hQ1 : ¬ mm_a h0 90 m = -1 → ∀ P', lx_ok nC P' → (∀ j, j < 20 → (lx_X P' j).1 = -1) → ∀ r : Int32, (lk_os h0 m ∧ r = 9) ∨ (¬ lk_os h0 m ∧ r = 0) → Q (.int r) (lx_L h0 P'))
    (hQ2 : mm_a h0 90 m = -1 → len = 0 → ∀ P', lx_ok nC P' → (∀ j, j < 20 → (lx_X P' j).1 = -1) → Q (.int 8) (lx_L h0 P'))
    (hQ3 : mm_a h0 90 m = -1 → 0 < len → ∀ P', lx_ok nC P' → lk_LF h0 m len (lx_X P') → (∀ j, len ≤ j → j < 20 → (lx_X P' j).1 = -1) → lk_no h0 nF m len (lx_X P') → Q (.int 0) (lx_L h0 P'))
    (hQ4 : mm_a h0 90 m = -1 → 0 < len → ∀ P', lx_ok nC P' → lk_LF h0 m len (lx_X P') → (∀ j, len ≤ j → j < 20 → (lx_X P' j).1 = -1) → ∀ i, lk_fe h0 nF m len (lx_X P') i → Q (.int (lk_er h0 nF m len i (lx_X P' i))) (mm_si (lx_L h0 P') 134 9 (nI i))) : mm_ev ro (d + 7) n_Lo_through [.ref 9, .ref q] (lx_L h P) Q := by
  have G := mm_hM n_Lo_through rfl
  have J0 : mm_SH (lx_L h P) := I
  have I1 : mm_SH h0 := by rw [e0]; exact lx_SH133 I
  have hq1 : mm_r h0 133 9 = q := by rw [e0]; exact mm_r1
  have kq : mm_k h0 q = 9 := M.2.1.1.1
  refine mm_ev_at 7 (Z := mm_m_Lo_through) rfl rfl (Nat.le_of_ble_eq_true rfl) rfl ?_
  refine And.intro (k_9 J0) ?_
  show mm_go ro (d + 6) mm_m_Lo_through 7 [.ref 9, .ref q, .int (nI 0), .null] [] (lx_L (mm_sr h 133 9 q) P) Q
  rw [← e0]
  refine l_th_7 (nC := nC) I1 (fun P1 ok1 z1 => ?_) 20 0 P (by omega) ok (fun j hj => by omega)
  have J1 : mm_SH (lx_L h0 P1) := I1
  have ML := lx_MO_L (P := P1) M
  have W2 : lx_W ro (lx_L h0 P1) nC nF nM qm := by
    obtain ⟨K, c6, MS, FD, SC, SV, AS, U, Z, MVs⟩ := W
    exact ⟨K, c6, ⟨MS.1, fun k hk => ⟨(MS.2 k hk).1, lx_MO_L (MS.2 k hk).2⟩⟩, ⟨FD.1, fun f hf => ⟨lx_PL_L (FD.2 f hf).1, (FD.2 f hf).2⟩⟩, SC, SV, AS, U, Z, MVs⟩
  refine mm_go_at 93 G (And.intro ⟨rfl, kq⟩ (c_Me_isBuiltIn ML (And.intro (fun c_46 => mm_go_at 93 G ?_) (fun c_46 => ?_))))
  · have k1 : mm_a h0 90 m = -1 := Classical.not_not.mp (mm_b0.mp c_46)
    have cq : mm_i (lx_L h0 P1) 521 q = nI len := ML.2.2.1.2.2.2.2.2.1.trans hl
    refine And.intro kq (mm_rf cq (And.intro (fun c_71 => mm_go_at 93 G ?_) (fun c_71 => ?_)))
    · have l0 : 0 < len := Nat.pos_of_ne_zero (fun y => by
        have z : ¬ nI len = 0 := c_71
        rw [y] at z
        exact z rfl)
      obtain ⟨WMm, IVs⟩ := WM k1 l0
      have V : lx_V ro h0 nC nF nM qm q m len := ⟨W, hq1, M, WMm, IVs⟩
      have so := lk_sf_ok (h := h0) (m := m) WMm.2.2.2.1 WMm.2.2.2.2.1
      have is16 : lx_is (16 + 2 * 0) := lx_ii (i := 0) (by omega)
      refine And.intro (k_9 J1) (mm_rf (r_130 J1) (And.intro ⟨⟨by rw [k_10 J1]; decide, by rw [k_10 J1]; decide⟩, mm_inb 20 (n_10 J1) (by decide)⟩ (mm_rf (b := 16) (J1.2.2.2.1 0 (by omega)) (And.intro ⟨rfl, k_9 J1⟩ (c_Lo_begin (nC := nC) I1 W hm hq1 M (ok1 16 is16).2 (fun g hg gv => And.intro ⟨rfl, k_9 J1⟩ ?_))))))
      have fe : mm_feq (lk_sf h0 m) (0, -1, 0, g) := by
        refine ⟨rfl, fun _ => ⟨rfl, rfl, fun v hv => ?_⟩⟩
        have hv' : (v : Int) < 6 + (0 : Int32).toInt := hv
        have z0 : (0 : Int32).toInt = 0 := by decide
        exact (hg v (by omega)).symm
      have X0 : lx_X (lx_pu P1 16 ((0, -1, 0, g), 1)) 0 = (0, -1, 0, g) := by
        show (lx_pu P1 16 ((0, -1, 0, g), 1) (16 + 2 * 0)).1 = _
        rw [lx_pu_t]
      have Xj : ∀ j, ¬ j = 0 → lx_X (lx_pu P1 16 ((0, -1, 0, g), 1)) j = lx_X P1 j := fun j hj => by
        show (lx_pu P1 16 ((0, -1, 0, g), 1) (16 + 2 * j)).1 = _
        rw [lx_pu_f (by omega)]
        rfl
      have C : lx_Cv (lk_sf h0 m) h0 nC m len (lx_pu P1 16 ((0, -1, 0, g), 1)) := by
        refine ⟨lx_ok_pu ok1 ⟨Or.inr rfl, gv⟩, ⟨fun i hi => ?_, fun Y _ PY i hi => ?_⟩, fun i hi => ?_, fun i h1 h2 => ?_, ?_, fun i h1 h2 => ?_⟩
        · by_cases y : i = 0
          · rw [y, X0]; exact mm_fok_eq fe so.1
          · rw [Xj i y]
            exact fun x => absurd (z1 i (by omega)).1 (mm_not_m1 x)
        · by_cases y : i = 0
          · rw [y, X0]
            exact mm_fle_trans (mm_fle_of_eq (mm_feq_symm fe) (Or.inr (Or.inr (show 0 ≤ (0 : Int32).toInt by decide)))) PY.1
          · rw [Xj i y]
            exact Or.inl (z1 i (by omega)).1
        · by_cases y : i = 0
          · rw [y, X0]; exact Or.inr (Or.inr (show 0 ≤ (0 : Int32).toInt by decide))
          · rw [Xj i y]; exact Or.inl (z1 i (by omega)).1
        · rw [Xj i (by omega)]; exact (z1 i h2).1
        · rw [X0]
          exact mm_fle_of_eq fe (Or.inr (Or.inr so.2))
        · by_cases y : i = 0
          · rw [y, X0]; exact (show ¬ (0 : Int32) = -1 by decide)
          · rw [lx_pu_f (by omega)] at h2
            exact absurd (z1 i h1).2 h2
      have Kc : lx_Cl h0 m len (lx_pu P1 16 ((0, -1, 0, g), 1)) := by
        intro j hj f0 n1
        by_cases y : j = 0
        · rw [y] at f0
          have : (lx_pu P1 16 ((0, -1, 0, g), 1) (16 + 2 * 0)).2 = 1 := by rw [lx_pu_t]
          exact absurd (f0.symm.trans this) (by decide)
        · rw [Xj j y] at n1
          exact absurd (z1 j (by omega)).1 n1
      refine c_Lo_settle (nF := nF) (nM := nM) (qm := qm) I1 V rfl C Kc (fun P2 ok2 LF un => ?_)
      exact l_th_93 I1 V eF ow ok2 LF.1 (hQ3 k1 l0 P2 ok2 LF un) (hQ4 k1 l0 P2 ok2 LF un) len 0 .null (by omega) (fun j hj => by omega)
    · have l0 : len = 0 := by
        have z : nI len = nI 0 := mm_no c_71
        exact (nI_eq (by omega) (by omega)).mp z
      exact hQ2 k1 l0 P1 ok1 (fun j hj => (z1 j hj).1)
  · have k1 : ¬ mm_a h0 90 m = -1 := mm_nn c_46
    have w := hQ1 k1 P1 ok1 (fun j hj => (z1 j hj).1)
    refine And.intro (k_9 J1) (mm_rf (r_129 J1) (And.intro ⟨rfl, k_15 J1⟩ (c_Ru_isFitBuiltIn J1 W2 hm ML (And.intro (fun c_57 => mm_go_from G (w 9 (Or.inl ⟨Classical.not_not.mp (mm_b0.mp c_57), rfl⟩))) (fun c_57 => mm_go_from G (w 0 (Or.inr ⟨mm_nn c_57, rfl⟩)))))))
