/-! load: the code of both -/
theorem lk_sa {h : mm_H} {e : Int32 × Int32 × Int32} {c : mm_F} {hd : Nat → Int32 × Int32 × Int32} {sv : Nat → mm_V} {a j : Nat} {x : Int32} (ha : a < 102 ∨ 114 < a) : mm_sa (lk_L h e c hd sv) a j x = lk_L (mm_sa h a j x) e c hd sv := by
  refine lk_H (fun _ _ => rfl) (fun b k => ?_)
  by_cases q : b = a ∧ k = j
  · obtain ⟨rfl, rfl⟩ := q
    have e1 : mm_a (mm_sa (lk_L h e c hd sv) b k x) b k = x := mm_a1
    have e2 : mm_a (lk_L (mm_sa h b k x) e c hd sv) b k = x := by
      show (if b = 102 then _ else if b = 103 then _ else if b = 104 then _ else if b = 105 then _ else if b = 106 then _ else if b = 107 then _ else if b = 108 then _ else if b = 109 then _ else if b = 110 then _ else if b = 111 then _ else if b = 112 then _ else if b = 113 then _ else if b = 114 then _ else mm_a (mm_sa h b k x) b k) = _
      rw [if_neg (by omega), if_neg (by omega), if_neg (by omega), if_neg (by omega), if_neg (by omega), if_neg (by omega), if_neg (by omega), if_neg (by omega), if_neg (by omega), if_neg (by omega), if_neg (by omega), if_neg (by omega), if_neg (by omega), mm_a1]
    exact e1.trans e2.symm
  · have e1 : mm_a (mm_sa (lk_L h e c hd sv) a j x) b k = mm_a (lk_L h e c hd sv) b k := if_neg q
    have e2 : mm_a (mm_sa h a j x) b k = mm_a h b k := if_neg q
    refine e1.trans ?_
    show (if b = 102 then _ else if b = 103 then _ else if b = 104 then _ else if b = 105 then _ else if b = 106 then _ else if b = 107 then _ else if b = 108 then _ else if b = 109 then _ else if b = 110 then _ else if b = 111 then _ else if b = 112 then _ else if b = 113 then _ else if b = 114 then _ else mm_a h b k) = (if b = 102 then _ else if b = 103 then _ else if b = 104 then _ else if b = 105 then _ else if b = 106 then _ else if b = 107 then _ else if b = 108 then _ else if b = 109 then _ else if b = 110 then _ else if b = 111 then _ else if b = 112 then _ else if b = 113 then _ else if b = 114 then _ else mm_a (mm_sa h a j x) b k)
    rw [e2]
theorem lx_sa {h : mm_H} {P : Nat → mm_F × Int32} {a j : Nat} {x : Int32} (ha : ¬ lx_is (a - 1)) : mm_sa (lx_L h P) a j x = lx_L (mm_sa h a j x) P := by
  refine lk_H (fun _ _ => rfl) (fun b k => ?_)
  by_cases q : b = a ∧ k = j
  · obtain ⟨rfl, rfl⟩ := q
    have e1 : mm_a (mm_sa (lx_L h P) b k x) b k = x := mm_a1
    have e2 : mm_a (lx_L (mm_sa h b k x) P) b k = x := (if_neg (fun z => ha z.1)).trans mm_a1
    exact e1.trans e2.symm
  · have e1 : mm_a (mm_sa (lx_L h P) a j x) b k = mm_a (lx_L h P) b k := if_neg q
    have e2 : mm_a (mm_sa h a j x) b k = mm_a h b k := if_neg q
    refine e1.trans ?_
    show (if lx_is (b - 1) ∧ k < 10 then _ else mm_a h b k) = (if lx_is (b - 1) ∧ k < 10 then _ else mm_a (mm_sa h a j x) b k)
    rw [e2]
theorem lx_B_B {h : mm_H} {q q' : Nat} {x x' p p' : Int32} : lx_B (lx_B h q x p) q' x' p' = lx_B h q' x' p' := by
  have e1 : mm_u (mm_u (mm_r h) 133 9 q) 133 9 q' = mm_u (mm_r h) 133 9 q' := by
    funext f a
    show (if f = 133 ∧ a = 9 then q' else if f = 133 ∧ a = 9 then q else mm_r h f a) = (if f = 133 ∧ a = 9 then q' else mm_r h f a)
    by_cases z : f = 133 ∧ a = 9
    · rw [if_pos z, if_pos z]
    · rw [if_neg z, if_neg z, if_neg z]
  have e2 : mm_u (mm_u (mm_u (mm_u (mm_i h) 134 9 x) 3 1 p) 134 9 x') 3 1 p' = mm_u (mm_u (mm_i h) 134 9 x') 3 1 p' := by
    funext f a
    show (if f = 3 ∧ a = 1 then p' else if f = 134 ∧ a = 9 then x' else if f = 3 ∧ a = 1 then p else if f = 134 ∧ a = 9 then x else mm_i h f a) = (if f = 3 ∧ a = 1 then p' else if f = 134 ∧ a = 9 then x' else mm_i h f a)
    by_cases z : f = 3 ∧ a = 1
    · rw [if_pos z, if_pos z]
    · rw [if_neg z, if_neg z, if_neg z]
      by_cases y : f = 134 ∧ a = 9
      · rw [if_pos y, if_pos y]
      · rw [if_neg y, if_neg y, if_neg y]
  show (mm_k h, mm_u (mm_u (mm_u (mm_u (mm_i h) 134 9 x) 3 1 p) 134 9 x') 3 1 p', mm_u (mm_u (mm_r h) 133 9 q) 133 9 q', mm_n h, mm_a h, mm_q h, mm_t h, mm_s h) = _
  rw [e1, e2]
  rfl
theorem l_Mo_load {ro : mm_Ro} {d nC nF nM c : Nat} {qm : Nat → Nat} {h : mm_H} {X0 : Nat → mm_F} {Q : Value → mm_H → Prop} (T : lx_T ro h nC nF nM qm) (hc : c < nC)
    (q3 : ∀ (e : Int32 × Int32 × Int32) (c' : mm_F) (hd : Nat → Int32 × Int32 × Int32) (sv : Nat → mm_V) (v : Int32) (m i : Nat), lk_bn c'.2.2.2 → lk_bn sv → lk_lo h nC nF nM c X0 (lk_xr e.1 hd sv) v m i → ¬ v = 0 → e.2.1 = nI (32 * m + i) → Q (.int v) (lk_L h e c' hd sv))
    (q4 : ∀ (e : Int32 × Int32 × Int32) (c' : mm_F) (hd : Nat → Int32 × Int32 × Int32) (sv : Nat → mm_V), lk_bn c'.2.2.2 → lk_bn sv → lk_lo h nC nF nM c X0 (lk_xr e.1 hd sv) 0 0 0 → e.2.1 = -1 → Q (.int 0) (lk_L (mm_sa h 85 c 1) e c' hd sv)) :
    ∀ (N m : Nat) (e : Int32 × Int32 × Int32) (c' : mm_F) (hd : Nat → Int32 × Int32 × Int32) (sv : Nat → mm_V) (v3 v4 : Value), m + N = nM → lk_bn c'.2.2.2 → lk_bn sv → lk_LD h nC nF nM c X0 m (lk_xr e.1 hd sv) → mm_go ro (d + 7) mm_m_Mo_load 42 [.ref 80, .int (nI c), .int (nI m), v3, v4] [] (lk_L h e c' hd sv) Q := by
  have G := mm_hM n_Mo_load rfl
  have T' := T
  obtain ⟨I, XN, MN, W, _, MLs, _⟩ := T'
  have hC := MN.2.2.2.2.1
  have hM := MN.2.2.2.2.2.2
  have cc : (nI c).toNatClampNeg = c := mm_ncl (by omega)
  intro N
  induction N with
  | zero =>
    intro m e c' hd sv v3 v4 hm bc bs ld
    have J : mm_SH (lk_L h e c' hd sv) := I
    have MN' : mm_MN (lk_L h e c' hd sv) nC nF nM := MN
    have em : m = nM := by omega
    refine mm_go_at 42 G (And.intro (k_80 J) (mm_rf MN'.2.2.1 (And.intro (fun c_47 => mm_go_from G ?_) (fun c_47 => ?_))))
    · refine And.intro (k_80 J) (mm_rf (r_583 J) (And.intro ⟨k_85 J, mm_inb 6 (n_85 J) (mm_nb (by omega) (by omega)), Or.inr rfl⟩ ?_))
      rw [cc, lk_sa (by omega)]
      have J2 : mm_SH (lk_L (mm_sa h 85 c 1) e c' hd sv) := I
      refine And.intro (k_80 J2) ?_
      rw [lw_609]
      rw [em] at ld
      exact q4 (e.1, -1, e.2.2) c' hd sv bc bs (Or.inl ⟨rfl, ld⟩) rfl
    · have z : ¬ (nI nM).toInt ≤ (nI m).toInt := c_47
      rw [mm_nt (by omega), mm_nt (by omega)] at z
      omega
  | succ N ih =>
    intro m e c' hd sv v3 v4 hm bc bs ld
    have J : mm_SH (lk_L h e c' hd sv) := I
    have MN' : mm_MN (lk_L h e c' hd sv) nC nF nM := MN
    have hmM : m < nM := by omega
    have TL : lx_T ro (lk_L h e c' hd sv) nC nF nM qm := lx_T_ag lx_ag_k J T
    have sm : lk_sm h (lk_L h e c' hd sv) := mm_ag_sm lx_ag_k
    have cm : (nI m).toNatClampNeg = m := mm_ncl (by omega)
    obtain ⟨len, L⟩ := MLs m hmM
    refine mm_go_at 102 G (And.intro (k_80 J) (mm_rf MN'.2.2.1 (And.intro (fun c_47 => ?_) (fun c_47 => ?_))))
    · have z : (nI nM).toInt ≤ (nI m).toInt := c_47
      rw [mm_nt (by omega), mm_nt (by omega)] at z
      omega
    · refine And.intro (k_80 J) (mm_rf (r_585 J) (And.intro ⟨k_87 J, mm_inb 10 (n_87 J) (mm_nb (by omega) (by omega))⟩ (mm_rf (b := mm_a h 87 m) (by rw [cm]; rfl) (And.intro (fun c_57 => mm_go_at 102 G ?_) (fun c_57 => ?_)))))
      · refine And.intro ⟨rfl, k_80 J⟩ (c_Mo_varies TL hmM (And.intro (fun c_70 => mm_go_at 102 G ?_) (fun c_70 => ?_)))
        · have nv : ¬ lk_va h nM m := fun z => mm_b0.mp c_70 ((lk_va_sm sm).mp z)
          refine And.intro ⟨rfl, k_80 J⟩ (c_Mo_insp T hmM L bs bc (fun b c1 hd1 sv1 v i bc1 bs1 ins => ?_))
          have x1 : lk_xr (nI m) hd1 sv1 = lk_fr hd1 sv1 := lk_xr_n (by omega)
          have r := lk_ins_r ins
          refine And.intro (fun c_96 => ?_) (fun c_96 => ?_)
          · have z : v.toInt ≤ 0 := c_96
            have v0 : v = 0 := by
              rcases r with y | y | y
              · exact y.1
              · omega
              · omega
            have w := ih (m + 1) (nI m, nI (32 * m + i), b) c1 hd1 sv1 (.int (mm_b (lk_va (lk_L h e c' hd sv) nM m))) (.int v) (by omega) bc1 bs1 (by
              show lk_LD h nC nF nM c X0 (m + 1) (lk_xr (nI m) hd1 sv1)
              rw [x1]
              rw [v0] at ins
              exact lk_LD_next ld c_57 nv L ins)
            rw [nI_succ] at w
            exact mm_go_from G w
          · have z : ¬ v.toInt ≤ 0 := c_96
            have v0 : ¬ v = 0 := fun y => by rw [y] at z; exact z (by decide)
            refine q3 (nI m, nI (32 * m + i), b) c1 hd1 sv1 v m i bc1 bs1 (Or.inr (Or.inr ⟨hmM, c_57, ⟨_, ld⟩, nv, v0, len, L, ?_⟩)) v0 rfl
            show lk_ins h nF m len (lk_xr (nI m) hd1 sv1) v i
            rw [x1]
            exact ins
        · have yv : lk_va h nM m := (lk_va_sm sm).mpr (mm_nn c_70)
          refine And.intro (k_80 J) ?_
          rw [show (Int8.ofInt 32).toInt32 * nI m + (Int8.ofInt 31).toInt32 = nI (32 * m + 31) from lk_32 (i := 31), lw_609]
          exact q3 (e.1, nI (32 * m + 31), e.2.2) c' hd sv 10 m 31 bc bs (Or.inr (Or.inl ⟨hmM, c_57, ld, yv, rfl, rfl⟩)) (by decide) rfl
      · have w := ih (m + 1) e c' hd sv v3 v4 (by omega) bc bs (lk_LD_skip ld c_57)
        rw [nI_succ] at w
        exact mm_go_from G w
theorem c_Mo_load {ro : mm_Ro} {d nC nF nM : Nat} {x : Int32} {qm : Nat → Nat} {h : mm_H} {e : Int32 × Int32 × Int32} {c' : mm_F} {hd : Nat → Int32 × Int32 × Int32} {sv : Nat → mm_V} {Q : Value → mm_H → Prop} (T : lx_T ro h nC nF nM qm) (bs : lk_bn sv) (bc : lk_bn c'.2.2.2)
    (q1 : ¬ (∃ c, c < nC ∧ x = nI c ∧ mm_a h 85 c = 0) → Q (.int (-1)) (lk_L h e c' hd sv))
    (q2 : ∀ c, c < nC → x = nI c → mm_a h 85 c = 0 → 0 < c → mm_a h 85 (mm_a h 81 c).toNatClampNeg = 0 → Q (.int (-4)) (lk_L h e c' hd sv))
    (q3 : ∀ c, c < nC → x = nI c → mm_a h 85 c = 0 → (0 < c → ¬ mm_a h 85 (mm_a h 81 c).toNatClampNeg = 0) → ∀ (e1 : Int32 × Int32 × Int32) (c1 : mm_F) (hd1 : Nat → Int32 × Int32 × Int32) (sv1 : Nat → mm_V) (v : Int32) (m i : Nat), lk_bn c1.2.2.2 → lk_bn sv1 → lk_lo h nC nF nM c (lk_xr e.1 hd sv) (lk_xr e1.1 hd1 sv1) v m i → ¬ v = 0 → e1.2.1 = nI (32 * m + i) → Q (.int v) (lk_L h e1 c1 hd1 sv1))
    (q4 : ∀ c, c < nC → x = nI c → mm_a h 85 c = 0 → (0 < c → ¬ mm_a h 85 (mm_a h 81 c).toNatClampNeg = 0) → ∀ (e1 : Int32 × Int32 × Int32) (c1 : mm_F) (hd1 : Nat → Int32 × Int32 × Int32) (sv1 : Nat → mm_V), lk_bn c1.2.2.2 → lk_bn sv1 → lk_lo h nC nF nM c (lk_xr e.1 hd sv) (lk_xr e1.1 hd1 sv1) 0 0 0 → e1.2.1 = -1 → Q (.int 0) (lk_L (mm_sa h 85 c 1) e1 c1 hd1 sv1)) : mm_ev ro (d + 8) n_Mo_load [.ref 80, .int x] (lk_L h e c' hd sv) Q := by
  have G := mm_hM n_Mo_load rfl
  have T' := T
  obtain ⟨I, XN, MN, W, _, MLs, A0, _, AD⟩ := T'
  have J : mm_SH (lk_L h e c' hd sv) := I
  have MN' : mm_MN (lk_L h e c' hd sv) nC nF nM := MN
  have hC := MN.2.2.2.2.1
  have hM := MN.2.2.2.2.2.2
  refine mm_ev_at 42 (Z := mm_m_Mo_load) rfl rfl (Nat.le_of_ble_eq_true rfl) rfl ?_
  refine And.intro ⟨rfl, k_80 J⟩ (c_Mo_isC J MN' (And.intro (fun c_5 => mm_go_from G (q1 (fun ⟨c, y1, y2, _⟩ => mm_b0.mp c_5 (by rw [y2]; exact mm_nb y1 (by omega))))) (fun c_5 => ?_)))
  obtain ⟨c, hc, rfl⟩ := mm_of (mm_nn c_5)
  have cc : (nI c).toNatClampNeg = c := mm_ncl (by omega)
  have tc : (nI c).toInt = (c : Int) := mm_nt (by omega)
  refine And.intro (k_80 J) (mm_rf (r_583 J) (And.intro ⟨k_85 J, mm_inb 6 (n_85 J) (mm_nb (by omega) (by omega))⟩ (mm_rf (b := mm_a h 85 c) (by rw [cc]; rfl) (And.intro (fun c_14 => mm_go_at 42 G ?_) (fun c_14 => q1 (fun ⟨c2, y1, y2, y3⟩ => ?_))))))
  · have go : (0 < c → ¬ mm_a h 85 (mm_a h 81 c).toNatClampNeg = 0) → ∀ v3 v4, mm_go ro (d + 7) mm_m_Mo_load 42 [.ref 80, .int (nI c), .int (nI 0), v3, v4] [] (lk_L h e c' hd sv) Q := fun up v3 v4 => l_Mo_load T hc (q3 c hc rfl c_14 up) (q4 c hc rfl c_14 up) nM 0 e c' hd sv v3 v4 (by omega) bc bs lk_LD_0
    refine And.intro (fun c_20 => mm_go_at 42 G ?_) (fun c_20 => ?_)
    · have z : (nI c).toInt ≤ 0 := c_20
      exact go (fun y => by omega) _ _
    · have z : ¬ (nI c).toInt ≤ 0 := c_20
      have c0 : 0 < c := by omega
      obtain ⟨s, hs, es⟩ := AD c c0 hc
      have ec : mm_a (lk_L h e c' hd sv) 81 (nI c).toNatClampNeg = mm_a h 81 c := by rw [cc]; rfl
      have hBs : 0 ≤ (mm_a h 81 c).toInt ∧ (mm_a h 81 c).toInt < ((6 : Nat) : Int) := by rw [es]; exact mm_nb (by omega) (by omega)
      refine And.intro (k_80 J) (mm_rf (r_583 J) (And.intro (k_80 J) (mm_rf (r_579 J) (And.intro ⟨k_81 J, mm_inb 6 (n_81 J) (mm_nb (by omega) (by omega))⟩ (mm_rf ec (And.intro ⟨k_85 J, mm_inb 6 (n_85 J) hBs⟩ (mm_rf (b := mm_a h 85 (mm_a h 81 c).toNatClampNeg) rfl (And.intro (fun c_34 => mm_go_at 42 G ?_) (fun c_34 => q2 c hc rfl c_14 c0 (mm_no c_34))))))))))
      exact go (fun _ => c_34) _ _
  · have e2 : c = c2 := (nI_eq (by omega) (by omega)).mp y2
    rw [← e2] at y3
    exact c_14 y3
