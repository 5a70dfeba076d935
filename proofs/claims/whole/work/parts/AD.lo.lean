/-! load: the class -/
theorem lx_B_n {h : mm_H} {p : Int32} : mm_si h 3 1 p = lx_B h (mm_r h 133 9) (mm_i h 134 9) p := by
  unfold lx_B
  rw [mm_sr_id, mm_si_id]
theorem l_Ga_load {ro : mm_Ro} {d nC nF nM c : Nat} {qm : Nat → Nat} {h : mm_H} {X0 : Nat → mm_F} {Q : Value → mm_H → Prop} (T : lx_T ro h nC nF nM qm) (hc : c < nC)
    (q3 : ∀ (P : Nat → mm_F × Int32) (q : Nat) (y : Int32) (v : Int32) (m i : Nat), lx_ok nC P → lk_lo h nC nF nM c X0 (lx_X P) v m i → ¬ v = 0 → Q (.int v) (lx_L (lx_B h q y (lk_pz m v i)) P))
    (q4 : ∀ (P : Nat → mm_F × Int32) (q : Nat) (y : Int32), lx_ok nC P → lk_lo h nC nF nM c X0 (lx_X P) 0 0 0 → Q (.int 0) (lx_L (mm_si (mm_sa (lx_B h q y (-1)) 5 c 1) 68 2 1) P)) :
    ∀ (N m : Nat) (P : Nat → mm_F × Int32) (q : Nat) (y : Int32) (v3 v4 : Value), m + N = nM → lx_ok nC P → lk_LD h nC nF nM c X0 m (lx_X P) → mm_go ro (d + 7) mm_m_Ga_load 59 [.ref 1, .int (nI c), .int (nI m), v3, v4] [] (lx_L (lx_B h q y (-1)) P) Q := by
  have G := mm_hM n_Ga_load rfl
  have T' := T
  obtain ⟨I, XN, MN, W, _, MLs, _⟩ := T'
  have hC := XN.2.2.2.2.1
  have hM := XN.2.2.2.2.2.2
  have cc : (nI c).toNatClampNeg = c := mm_ncl (by omega)
  intro N
  induction N with
  | zero =>
    intro m P q y v3 v4 hm ok ld
    have J : mm_SH (lx_L (lx_B h q y (-1)) P) := lx_SHB (x := y) (p := -1) I
    have TL : lx_T ro (lx_L (lx_B h q y (-1)) P) nC nF nM qm := lx_T_ag (mm_ag_trans lx_ag_B lx_ag_L) J T
    have em : m = nM := by omega
    refine mm_go_at 59 G (And.intro (k_1 J) (mm_rf (r_0 J) (And.intro (k_2 J) (mm_rf TL.2.1.2.2.1 (And.intro (fun c_67 => mm_go_from G ?_) (fun c_67 => ?_))))))
    · refine And.intro (k_1 J) (mm_rf (r_0 J) (And.intro (k_2 J) (mm_rf (r_67 J) (And.intro ⟨k_5 J, mm_inb 6 (n_5 J) (mm_nb (by omega) (by omega)), Or.inr rfl⟩ ?_))))
      rw [cc, lx_sa (fun z => by have := lx_is_big z; omega)]
      have J2 : mm_SH (lx_L (mm_sa (lx_B h q y (-1)) 5 c 1) P) := lx_SHB (x := y) (p := -1) I
      refine And.intro (k_1 J2) (mm_rf (r_0 J2) (And.intro (k_2 J2) (And.intro (Or.inr rfl) ?_)))
      rw [lx_si (fun z => by have := lx_is_big z; omega)]
      rw [em] at ld
      exact q4 P q y ok (Or.inl ⟨rfl, ld⟩)
    · have z : ¬ (nI nM).toInt ≤ (nI m).toInt := c_67
      rw [mm_nt (by omega), mm_nt (by omega)] at z
      omega
  | succ N ih =>
    intro m P q y v3 v4 hm ok ld
    have J : mm_SH (lx_L (lx_B h q y (-1)) P) := lx_SHB (x := y) (p := -1) I
    have TB : lx_T ro (lx_B h q y (-1)) nC nF nM qm := lx_T_ag lx_ag_B (lx_SHB I) T
    have TL : lx_T ro (lx_L (lx_B h q y (-1)) P) nC nF nM qm := lx_T_ag (mm_ag_trans lx_ag_B lx_ag_L) J T
    have sm : lk_sm h (lx_L (lx_B h q y (-1)) P) := mm_ag_sm (mm_ag_trans lx_ag_B lx_ag_L)
    have smB : lk_sm h (lx_B h q y (-1)) := mm_ag_sm lx_ag_B
    have hmM : m < nM := by omega
    have cm : (nI m).toNatClampNeg = m := mm_ncl (by omega)
    obtain ⟨len, L⟩ := MLs m hmM
    have MS := TL.2.2.2.1.2.2.1
    have Mo := (MS.2 m hmM).2
    have aq : mm_q (lx_L (lx_B h q y (-1)) P) 8 (nI m).toNatClampNeg = qm m := by rw [cm]; exact (MS.2 m hmM).1
    have kq : mm_k (lx_L (lx_B h q y (-1)) P) (qm m) = 9 := Mo.2.1.1.1
    have eo : mm_i (lx_L (lx_B h q y (-1)) P) 512 (qm m) = mm_a h 87 m := Mo.2.2.1.1.trans (congrFun (sm 87 (by omega) (by omega) (by omega)).symm m)
    -- behind an error's number, at 112
    have g112 : ∀ (P1 : Nat → mm_F × Int32) (q1 : Nat) (y1 v : Int32) (i : Nat), lx_ok nC P1 → ((v = 10 ∧ i = 31) ∨ lk_ins h nF m len (lx_X P1) v i) → (1 ≤ v.toInt ∧ v.toInt ≤ 7 → y1 = nI i) → (v = 0 → lk_LD h nC nF nM c X0 (m + 1) (lx_X P1)) → (¬ v = 0 → lk_lo h nC nF nM c X0 (lx_X P1) v m i) → mm_go ro (d + 7) mm_m_Ga_load 112 [.ref 1, .int (nI c), .int (nI m), .ref (qm m), v4] [.int v] (lx_L (lx_B h q1 y1 (-1)) P1) Q := by
      intro P1 q1 y1 v i ok1 hv hy hz hn
      have J1 : mm_SH (lx_L (lx_B h q1 y1 (-1)) P1) := lx_SHB (x := y1) (p := -1) I
      refine mm_go_at 133 G (And.intro (fun c_116 => mm_go_from G ?_) (fun c_116 => ?_))
      · have w := ih (m + 1) P1 q1 y1 (.ref (qm m)) (.int v) (by omega) ok1 (hz c_116)
        rw [nI_succ] at w
        exact w
      · have w := hn c_116
        refine And.intro ⟨rfl, k_1 J1⟩ (c_Ga_placeOf J1 hv hy (And.intro (k_1 J1) ?_))
        rw [lx_si lx_n1, lx_B_si]
        exact q3 P1 q1 y1 v m i ok1 w c_116
    have g133 : ¬ mm_a h 87 m = nI c → mm_go ro (d + 7) mm_m_Ga_load 133 [.ref 1, .int (nI c), .int (nI m), .ref (qm m), v4] [] (lx_L (lx_B h q y (-1)) P) Q := by
      intro o
      have w := ih (m + 1) P q y (.ref (qm m)) v4 (by omega) ok (lk_LD_skip ld o)
      rw [nI_succ] at w
      exact mm_go_from G w
    refine mm_go_at 133 G (And.intro (k_1 J) (mm_rf (r_0 J) (And.intro (k_2 J) (mm_rf TL.2.1.2.2.1 (And.intro (fun c_67 => ?_) (fun c_67 => ?_))))))
    · have z : (nI nM).toInt ≤ (nI m).toInt := c_67
      rw [mm_nt (by omega), mm_nt (by omega)] at z
      omega
    · refine And.intro (k_1 J) (mm_rf (r_0 J) (And.intro (k_2 J) (mm_rf (r_73 J) (And.intro ⟨⟨by rw [k_8 J]; decide, by rw [k_8 J]; decide⟩, mm_inb 10 (n_8 J) (mm_nb (by omega) (by omega))⟩ (mm_rf aq (And.intro kq (mm_rf eo (And.intro (fun c_85 => g133 c_85) (fun c_85 => ?_)))))))))
      have o : mm_a h 87 m = nI c := mm_no c_85
      refine And.intro (k_1 J) (mm_rf (r_1 J) (And.intro ⟨rfl, k_9 J⟩ (c_Lo_departs TL hmM (And.intro (fun c_96 => mm_go_at 112 G ?_) (fun c_96 => ?_)))))
      · have nv : ¬ lk_va h nM m := fun z => mm_b0.mp c_96 ((lk_va_sm sm).mp z)
        refine And.intro (k_1 J) (mm_rf (r_1 J) (And.intro ⟨rfl, k_9 J⟩ (c_Lo_thr TB hmM (lx_ML_sm smB L) ok (fun P1 v i y1 ok1 ins hy => ?_))))
        have ins' := lk_ins_sm (lk_sm_symm smB) ins
        rw [lx_B_B]
        refine g112 P1 (qm m) y1 v i ok1 (Or.inr ins') hy (fun v0 => ?_) (fun v0 => Or.inr (Or.inr ⟨hmM, o, ⟨_, ld⟩, nv, v0, len, L, ins'⟩))
        rw [v0] at ins'
        exact lk_LD_next ld o nv L ins'
      · have yv : lk_va h nM m := (lk_va_sm sm).mpr (mm_nn c_96)
        have w := g112 P q y 10 31 ok (Or.inl ⟨rfl, rfl⟩) (fun z => absurd z (by decide)) (fun z => absurd z (by decide)) (fun _ => Or.inr (Or.inl ⟨hmM, o, ld, yv, rfl, rfl⟩))
        exact w
theorem c_Ga_load {ro : mm_Ro} {d nC nF nM : Nat} {x : Int32} {qm : Nat → Nat} {h : mm_H} {P : Nat → mm_F × Int32} {Q : Value → mm_H → Prop} (T : lx_T ro h nC nF nM qm) (ok : lx_ok nC P)
    (q1 : ¬ (∃ c, c < nC ∧ x = nI c ∧ mm_a h 5 c = 0) → Q (.int (-1)) (lx_L h P))
    (q2 : ∀ c, c < nC → x = nI c → mm_a h 5 c = 0 → 0 < c → mm_a h 5 (mm_a h 81 c).toNatClampNeg = 0 → Q (.int (-4)) (lx_L h P))
    (q3 : ∀ c, c < nC → x = nI c → mm_a h 5 c = 0 → (0 < c → ¬ mm_a h 5 (mm_a h 81 c).toNatClampNeg = 0) → ∀ (P1 : Nat → mm_F × Int32) (q : Nat) (y : Int32) (v : Int32) (m i : Nat), lx_ok nC P1 → lk_lo h nC nF nM c (lx_X P) (lx_X P1) v m i → ¬ v = 0 → Q (.int v) (lx_L (lx_B h q y (lk_pz m v i)) P1))
    (q4 : ∀ c, c < nC → x = nI c → mm_a h 5 c = 0 → (0 < c → ¬ mm_a h 5 (mm_a h 81 c).toNatClampNeg = 0) → ∀ (P1 : Nat → mm_F × Int32) (q : Nat) (y : Int32), lx_ok nC P1 → lk_lo h nC nF nM c (lx_X P) (lx_X P1) 0 0 0 → Q (.int 0) (lx_L (mm_si (mm_sa (lx_B h q y (-1)) 5 c 1) 68 2 1) P1)) : mm_ev ro (d + 8) n_Ga_load [.ref 1, .int x] (lx_L h P) Q := by
  have G := mm_hM n_Ga_load rfl
  have T' := T
  obtain ⟨I, XN, MN, W, _, MLs, A0, AB, AD⟩ := T'
  have J : mm_SH (lx_L h P) := I
  have TL : lx_T ro (lx_L h P) nC nF nM qm := lx_T_ag lx_ag_L J T
  have hC := XN.2.2.2.2.1
  have hM := XN.2.2.2.2.2.2
  have a5 : mm_a (lx_L h P) 5 = mm_a h 5 := rfl
  have a3 : mm_a (lx_L h P) 3 = mm_a h 3 := rfl
  refine mm_ev_at 59 (Z := mm_m_Ga_load) rfl rfl (Nat.le_of_ble_eq_true rfl) rfl ?_
  refine And.intro (k_1 J) (mm_rf (r_0 J) (And.intro ⟨rfl, k_2 J⟩ (c_St_isClass J TL.2.1 (And.intro (fun c_8 => mm_go_from G (q1 (fun ⟨c, y1, y2, _⟩ => mm_b0.mp c_8 (by rw [y2]; exact mm_nb y1 (by omega))))) (fun c_8 => ?_)))))
  obtain ⟨c, hc, rfl⟩ := mm_of (mm_nn c_8)
  have cc : (nI c).toNatClampNeg = c := mm_ncl (by omega)
  have tc : (nI c).toInt = (c : Int) := mm_nt (by omega)
  refine And.intro (k_1 J) (mm_rf (r_0 J) (And.intro (k_2 J) (mm_rf (r_67 J) (And.intro ⟨k_5 J, mm_inb 6 (n_5 J) (mm_nb (by omega) (by omega))⟩ (mm_rf (b := mm_a h 5 c) (by rw [cc, a5]) (And.intro (fun c_20 => mm_go_at 59 G ?_) (fun c_20 => q1 (fun ⟨c2, y1, y2, y3⟩ => ?_))))))))
  · have go : (0 < c → ¬ mm_a h 5 (mm_a h 81 c).toNatClampNeg = 0) → ∀ v3 v4, mm_go ro (d + 7) mm_m_Ga_load 59 [.ref 1, .int (nI c), .int (nI 0), v3, v4] [] (mm_si (lx_L h P) 3 1 (-1)) Q := by
      intro up v3 v4
      rw [lx_si lx_n1, lx_B_n]
      exact l_Ga_load T hc (q3 c hc rfl c_20 up) (q4 c hc rfl c_20 up) nM 0 P _ _ v3 v4 (by omega) ok lk_LD_0
    refine And.intro (fun c_26 => mm_go_at 59 G ?_) (fun c_26 => ?_)
    · have z : nI c = nI 0 := c_26
      have z' := (nI_eq (by omega) (by omega)).mp z
      exact And.intro (k_1 J) (go (fun y => by omega) _ _)
    · have c0 : 0 < c := Nat.pos_of_ne_zero (fun y => c_26 (by rw [y]; rfl))
      obtain ⟨s, hs, es⟩ := AD c c0 hc
      have ec : mm_a (lx_L h P) 3 (nI c).toNatClampNeg = mm_a h 81 c := by rw [cc, a3]; exact AB c hc
      have hBs : 0 ≤ (mm_a h 81 c).toInt ∧ (mm_a h 81 c).toInt < ((6 : Nat) : Int) := by rw [es]; exact mm_nb (by omega) (by omega)
      refine And.intro (k_1 J) (mm_rf (r_0 J) (And.intro (k_2 J) (mm_rf (r_67 J) (And.intro (k_1 J) (mm_rf (r_0 J) (And.intro (k_2 J) (mm_rf (r_65 J) (And.intro ⟨k_3 J, mm_inb 6 (n_3 J) (mm_nb (by omega) (by omega))⟩ (mm_rf ec (And.intro ⟨k_5 J, mm_inb 6 (n_5 J) hBs⟩ (mm_rf (b := mm_a h 5 (mm_a h 81 c).toNatClampNeg) (by rw [a5]) (And.intro (fun c_46 => mm_go_at 59 G ?_) (fun c_46 => q2 c hc rfl c_20 c0 (mm_no c_46))))))))))))))
      exact And.intro (k_1 J) (go (fun _ => c_46) _ _)
  · have e2 : c = c2 := (nI_eq (by omega) (by omega)).mp y2
    rw [← e2] at y3
    exact c_20 y3
