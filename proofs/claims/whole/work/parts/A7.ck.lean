/-! check: the class and the reference -/
def lx_B (h : mm_H) (q : Nat) (x p : Int32) : mm_H := mm_si (mm_si (mm_sr h 133 9 q) 134 9 x) 3 1 p
theorem mm_si_id {h : mm_H} {f a : Nat} : mm_si h f a (mm_i h f a) = h := by
  refine lk_H (fun x y => ?_) (fun _ _ => rfl)
  show (if x = f ∧ y = a then mm_i h f a else mm_i h x y) = mm_i h x y
  by_cases q : x = f ∧ y = a
  · rw [if_pos q, q.1, q.2]
  · rw [if_neg q]
theorem mm_sr_id {h : mm_H} {f a : Nat} : mm_sr h f a (mm_r h f a) = h := by
  have e : mm_u (mm_r h) f a (mm_r h f a) = mm_r h := by
    funext x y
    show (if x = f ∧ y = a then mm_r h f a else mm_r h x y) = mm_r h x y
    by_cases q : x = f ∧ y = a
    · rw [if_pos q, q.1, q.2]
    · rw [if_neg q]
  show (mm_k h, mm_i h, mm_u (mm_r h) f a (mm_r h f a), mm_n h, mm_a h, mm_q h, mm_t h, mm_s h) = h
  rw [e]
  rfl
theorem lx_is_big {a : Nat} (h : lx_is a) : 11 ≤ a ∧ a < 56 := by
  unfold lx_is at h
  omega
theorem lx_si {h : mm_H} {P : Nat → mm_F × Int32} {f a : Nat} {x : Int32} (ha : ¬ lx_is a) : mm_si (lx_L h P) f a x = lx_L (mm_si h f a x) P := by
  refine lk_H (fun y z => ?_) (fun _ _ => rfl)
  show (if y = f ∧ z = a then x else _) = _
  by_cases q : y = f ∧ z = a
  · rw [if_pos q]
    show x = if lx_is z then _ else mm_i (mm_si h f a x) y z
    rw [if_neg (by rw [q.2]; exact ha)]
    exact (if_pos q).symm
  · rw [if_neg q]
    have e : mm_i (mm_si h f a x) y z = mm_i h y z := if_neg q
    show _ = if lx_is z then (if y = 193 then _ else if y = 194 then _ else if y = 195 then _ else if y = 196 then _ else mm_i (mm_si h f a x) y z) else mm_i (mm_si h f a x) y z
    rw [e]
    rfl
theorem lx_n9 : ¬ lx_is 9 := fun h => by have := lx_is_big h; omega
theorem lx_n1 : ¬ lx_is 1 := fun h => by have := lx_is_big h; omega
theorem lx_B_id {h : mm_H} {q : Nat} : mm_sr h 133 9 q = lx_B h q (mm_i h 134 9) (mm_i h 3 1) := by
  have e1 : mm_si (mm_sr h 133 9 q) 134 9 (mm_i (mm_sr h 133 9 q) 134 9) = mm_sr h 133 9 q := mm_si_id
  have e2 : mm_si (mm_sr h 133 9 q) 3 1 (mm_i (mm_sr h 133 9 q) 3 1) = mm_sr h 133 9 q := mm_si_id
  unfold lx_B
  rw [show mm_i h 134 9 = mm_i (mm_sr h 133 9 q) 134 9 from rfl, e1, show mm_i h 3 1 = mm_i (mm_sr h 133 9 q) 3 1 from rfl, e2]
theorem lx_B_9 {h : mm_H} {q : Nat} {x : Int32} : mm_si (mm_sr h 133 9 q) 134 9 x = lx_B h q x (mm_i h 3 1) := by
  have e2 : mm_si (mm_si (mm_sr h 133 9 q) 134 9 x) 3 1 (mm_i (mm_si (mm_sr h 133 9 q) 134 9 x) 3 1) = mm_si (mm_sr h 133 9 q) 134 9 x := mm_si_id
  exact e2.symm
theorem mm_si_si {h : mm_H} {f a : Nat} {x y : Int32} : mm_si (mm_si h f a x) f a y = mm_si h f a y := by
  refine lk_H (fun u v => ?_) (fun _ _ => rfl)
  show (if u = f ∧ v = a then y else (if u = f ∧ v = a then x else mm_i h u v)) = (if u = f ∧ v = a then y else mm_i h u v)
  by_cases q : u = f ∧ v = a
  · rw [if_pos q, if_pos q]
  · rw [if_neg q, if_neg q, if_neg q]
theorem lx_B_si {h : mm_H} {q : Nat} {x p p' : Int32} : mm_si (lx_B h q x p) 3 1 p' = lx_B h q x p' := mm_si_si
theorem lx_SHB {h : mm_H} {q : Nat} {x p : Int32} (I : mm_SH h) : mm_SH (lx_B h q x p) := lx_SH133 I
theorem lx_ag_B {h : mm_H} {q : Nat} {x p : Int32} : mm_ag h (lx_B h q x p) := by
  refine ⟨rfl, fun f a ha => if_neg (by omega), rfl, rfl, fun f a ha => ?_, fun f hf => ?_, fun _ _ => rfl⟩
  · show (if f = 3 ∧ a = 1 then p else (if f = 134 ∧ a = 9 then x else mm_i h f a)) = mm_i h f a
    rw [if_neg (by omega), if_neg (by omega)]
  · show (if f = 3 ∧ 80 = 1 then p else (if f = 134 ∧ 80 = 9 then x else mm_i h f 80)) = mm_i h f 80
    rw [if_neg (by omega), if_neg (by omega)]
theorem lx_ag_L {h : mm_H} {P : Nat → mm_F × Int32} : mm_ag h (lx_L h P) := by
  have n : ∀ a : Nat, ((a = 2 ∧ True) ∨ 124 ≤ a) ∨ a = 80 → ¬ lx_is a := fun a q z => by have := lx_is_big z; omega
  refine ⟨rfl, fun _ _ _ => rfl, rfl, rfl, fun f a ha => if_neg (n a (Or.inl (ha.imp (fun z => ⟨z.1, trivial⟩) id))), fun f _ => (if_neg (n 80 (Or.inr rfl)) : (if lx_is 80 then (if f = 193 then (P 80).1.1 else if f = 194 then (P 80).1.2.1 else if f = 195 then (P 80).1.2.2.1 else if f = 196 then (P 80).2 else mm_i h f 80) else mm_i h f 80) = mm_i h f 80), fun a ha => funext (fun j => if_neg (fun z => ?_))⟩
  have := lx_is_big z.1
  omega
theorem lx_ag_k {h : mm_H} {e : Int32 × Int32 × Int32} {c : mm_F} {hd : Nat → Int32 × Int32 × Int32} {sv : Nat → mm_V} : mm_ag h (lk_L h e c hd sv) := by
  refine ⟨rfl, fun _ _ _ => rfl, rfl, rfl, fun f a ha => if_neg (by omega), fun f hf => ?_, fun a ha => funext (fun j => ?_)⟩
  · show (if 80 = 80 then (if f = 608 then e.1 else if f = 609 then e.2.1 else if f = 610 then e.2.2 else if f = 611 then c.1 else if f = 612 then c.2.1 else if f = 613 then c.2.2.1 else mm_i h f 80) else mm_i h f 80) = mm_i h f 80
    rw [if_pos rfl, if_neg (by omega), if_neg (by omega), if_neg (by omega), if_neg (by omega), if_neg (by omega), if_neg (by omega)]
  · show (if a = 102 then _ else if a = 103 then _ else if a = 104 then _ else if a = 105 then _ else if a = 106 then _ else if a = 107 then _ else if a = 108 then _ else if a = 109 then _ else if a = 110 then _ else if a = 111 then _ else if a = 112 then _ else if a = 113 then _ else if a = 114 then _ else mm_a h a j) = mm_a h a j
    rw [if_neg (by omega), if_neg (by omega), if_neg (by omega), if_neg (by omega), if_neg (by omega), if_neg (by omega), if_neg (by omega), if_neg (by omega), if_neg (by omega), if_neg (by omega), if_neg (by omega), if_neg (by omega), if_neg (by omega)]
theorem c_Lo_thr {ro : mm_Ro} {d m len nC nF nM : Nat} {qm : Nat → Nat} {h : mm_H} {P : Nat → mm_F × Int32} {Q : Value → mm_H → Prop} (T : lx_T ro h nC nF nM qm) (hm : m < nM) (L : lx_ML h nC nF nM m len) (ok : lx_ok nC P)
    (hQ : ∀ (P' : Nat → mm_F × Int32) (v : Int32) (i : Nat) (x : Int32), lx_ok nC P' → lk_ins h nF m len (lx_X P') v i → (1 ≤ v.toInt ∧ v.toInt ≤ 7 → x = nI i) → Q (.int v) (lx_L (lx_B h (qm m) x (mm_i h 3 1)) P')) : mm_ev ro (d + 7) n_Lo_through [.ref 9, .ref (qm m)] (lx_L h P) Q := by
  have I := T.1
  have ag : mm_ag h (mm_sr h 133 9 (qm m)) := by rw [lx_B_id]; exact lx_ag_B
  have T' := lx_T_ag ag (lx_SH133 I) T
  have W' := T'.2.2.2.1
  have XN' := T'.2.1
  have L' := lx_ML_sm (mm_ag_sm ag) L
  have bk : ∀ {X : Nat → mm_F} {v : Int32} {i : Nat}, lk_ins (mm_sr h 133 9 (qm m)) nF m len X v i → lk_ins h nF m len X v i := fun z => lk_ins_sm (mm_ag_sm (mm_ag_symm ag)) z
  refine c_Lo_through I rfl W' hm (W'.2.2.1.2 m hm).2 L'.2.1 L'.1 XN'.2.1 (fun j hj => ?_) (fun _ _ => ⟨lx_T_WM T' hm L', L'.2.2.1⟩) ok (fun k P' ok' un r hr => ?_) (fun k l0 P' ok' un => ?_) (fun k l0 P' ok' LF un no => ?_) (fun k l0 P' ok' LF un i fe => ?_)
  · obtain ⟨D, hD, e⟩ := T'.2.2.2.2.1 j hj
    exact ⟨D, by have := XN'.2.2.2.2.1; omega, e⟩
  · have w : lk_ins h nF m len (lx_X P') r 31 := bk (Or.inl ⟨k, un, rfl, hr⟩)
    rw [lx_B_id]
    refine hQ P' r 31 _ ok' w (fun z => ?_)
    rcases hr with ⟨_, e⟩ | ⟨_, e⟩
    · rw [e] at z; exact absurd z (by decide)
    · rw [e] at z; exact absurd z (by decide)
  · have w : lk_ins h nF m len (lx_X P') 8 31 := bk (Or.inr (Or.inl ⟨k, l0, un, rfl, rfl⟩))
    rw [lx_B_id]
    exact hQ P' 8 31 _ ok' w (fun z => absurd z (by decide))
  · have w : lk_ins h nF m len (lx_X P') 0 31 := bk (Or.inr (Or.inr ⟨k, l0, LF, un, Or.inl ⟨no, rfl, rfl⟩⟩))
    rw [lx_B_id]
    exact hQ P' 0 31 _ ok' w (fun z => absurd z (by decide))
  · have w := bk (Or.inr (Or.inr ⟨k, l0, LF, un, Or.inr ⟨fe, rfl⟩⟩))
    rw [lx_si lx_n9, lx_B_9]
    exact hQ P' _ i _ ok' w (fun _ => rfl)
theorem c_Mo_insp {ro : mm_Ro} {d m len nC nF nM : Nat} {qm : Nat → Nat} {h : mm_H} {e : Int32 × Int32 × Int32} {c : mm_F} {hd : Nat → Int32 × Int32 × Int32} {sv : Nat → mm_V} {Q : Value → mm_H → Prop} (T : lx_T ro h nC nF nM qm) (hm : m < nM) (L : lx_ML h nC nF nM m len) (bs : lk_bn sv) (bc : lk_bn c.2.2.2)
    (hQ : ∀ (b : Int32) (c' : mm_F) (hd' : Nat → Int32 × Int32 × Int32) (sv' : Nat → mm_V) (v : Int32) (i : Nat), lk_bn c'.2.2.2 → lk_bn sv' → lk_ins h nF m len (lk_fr hd' sv') v i → Q (.int v) (lk_L h (nI m, nI (32 * m + i), b) c' hd' sv')) : mm_ev ro (d + 7) n_Mo_inspect [.ref 80, .int (nI m)] (lk_L h e c hd sv) Q := by
  have T' := T
  obtain ⟨I, XN, MN, ⟨_, _, _, _, _, SV, _, U, Z, MVs⟩, _⟩ := T'
  have kd := lx_kd L.2.2.2.2.2.1.1
  refine c_Mo_inspect I MN.2.2.2.2.2.1 MN.2.1 L.2.1 L.1 U SV (MVs m hm) (fun _ _ => lx_T_WM T hm L) bs bc (fun k hd' un r hr => ?_) (fun k l0 hd' un => ?_) (fun k l0 b c' hd' sv' bc' bs' LF un no => ?_) (fun k l0 b c' hd' sv' bc' bs' LF un i fe => ?_)
  · exact hQ _ c hd' sv r 31 bc bs (Or.inl ⟨fun z => kd.mpr z k, un, rfl, hr⟩)
  · exact hQ _ c hd' sv 8 31 bc bs (Or.inr (Or.inl ⟨kd.mp k, l0, un, rfl, rfl⟩))
  · exact hQ b c' hd' sv' 0 31 bc' bs' (Or.inr (Or.inr ⟨kd.mp k, l0, LF, un, Or.inl ⟨no, rfl, rfl⟩⟩))
  · exact hQ b c' hd' sv' _ i bc' bs' (Or.inr (Or.inr ⟨kd.mp k, l0, LF, un, Or.inr ⟨fe, rfl⟩⟩))
/-- where an error stands -/
def lk_pz (m : Nat) (v : Int32) (i : Nat) : Int32 := if v = 0 then -1 else nI (32 * m + i)
theorem c_Mo_check {ro : mm_Ro} {d nC nF nM : Nat} {x : Int32} {qm : Nat → Nat} {h : mm_H} {e : Int32 × Int32 × Int32} {c : mm_F} {hd : Nat → Int32 × Int32 × Int32} {sv : Nat → mm_V} {Q : Value → mm_H → Prop} (T : lx_T ro h nC nF nM qm) (bs : lk_bn sv) (bc : lk_bn c.2.2.2)
    (q1 : ¬ (0 ≤ x.toInt ∧ x.toInt < (nM : Int)) → Q (.int (-1)) (lk_L h e c hd sv))
    (q2 : ∀ m, m < nM → x = nI m → ∀ len, lx_ML h nC nF nM m len → ∀ (b : Int32) (c' : mm_F) (hd' : Nat → Int32 × Int32 × Int32) (sv' : Nat → mm_V) (v : Int32) (i : Nat), lk_bn c'.2.2.2 → lk_bn sv' → lk_ins h nF m len (lk_fr hd' sv') v i → Q (.int v) (lk_L h (nI m, lk_pz m v i, b) c' hd' sv')) : mm_ev ro (d + 8) n_Mo_check [.ref 80, .int x] (lk_L h e c hd sv) Q := by
  have I := T.1
  have MN := T.2.2.1
  have J : mm_SH (lk_L h e c hd sv) := I
  have MN' : mm_MN (lk_L h e c hd sv) nC nF nM := MN
  have G := mm_hM n_Mo_check rfl
  refine mm_ev_in (Z := mm_m_Mo_check) rfl rfl (Nat.le_of_ble_eq_true rfl) rfl ?_
  refine And.intro ⟨rfl, k_80 J⟩ (c_Mo_isM J MN' (And.intro (fun c_5 => mm_go_from G ?_) (fun c_5 => q1 (mm_nb0 c_5))))
  obtain ⟨m, hm, rfl⟩ := mm_of (mm_nn c_5)
  obtain ⟨len, L⟩ := T.2.2.2.2.2.1 m hm
  refine And.intro ⟨rfl, k_80 J⟩ (c_Mo_insp T hm L bs bc (fun b c' hd' sv' v i bc' bs' ins => ?_))
  have w := q2 m hm rfl len L b c' hd' sv' v i bc' bs' ins
  have J' : mm_SH (lk_L h (nI m, nI (32 * m + i), b) c' hd' sv') := I
  refine And.intro (fun c_17 => mm_go_from G ?_) (fun c_17 => ?_)
  · rw [lk_pz, if_neg c_17] at w
    exact w
  · rw [lk_pz, if_pos (mm_no c_17)] at w
    refine And.intro (k_80 J') ?_
    rw [lw_609]
    exact w
theorem c_Ga_placeOf {ro : mm_Ro} {d m len nF i : Nat} {v : Int32} {X : Nat → mm_F} {h h1 : mm_H} {Q : Value → mm_H → Prop} (I : mm_SH h) (p : (v = 10 ∧ i = 31) ∨ lk_ins h1 nF m len X v i) (hx : 1 ≤ v.toInt ∧ v.toInt ≤ 7 → mm_i h 134 9 = nI i) (hQ : Q (.int (lk_pz m v i)) h) : mm_ev ro (d + 1) n_Ga_placeOf [.ref 1, .int (nI m), .int v] h Q := by
  have G := mm_hM n_Ga_placeOf rfl
  have r : (v = 0 ∧ i = 31) ∨ (1 ≤ v.toInt ∧ v.toInt ≤ 7) ∨ (8 ≤ v.toInt ∧ i = 31) := by
    rcases p with ⟨e, z⟩ | p
    · exact Or.inr (Or.inr ⟨by rw [e]; decide, z⟩)
    · rcases lk_ins_r p with z | z | z
      · exact Or.inl z
      · exact Or.inr (Or.inl ⟨z.1, z.2.1⟩)
      · exact Or.inr (Or.inr ⟨z.1, z.2.2⟩)
  have t8 : ((Int8.ofInt 8).toInt32).toInt = 8 := by decide
  have z0 : (0 : Int32).toInt = 0 := by decide
  refine mm_ev_in (Z := mm_m_Ga_placeOf) rfl rfl (Nat.le_of_ble_eq_true rfl) rfl ?_
  refine And.intro (fun c_1 => mm_go_from G ?_) (fun c_1 => ?_)
  · rw [lk_pz, if_neg c_1] at hQ
    rcases r with z | z | z
    · exact absurd z.1 c_1
    · refine And.intro (fun c_13 => mm_go_from G ?_) (fun c_13 => ?_)
      · refine And.intro (k_1 I) (mm_rf (r_1 I) (And.intro (k_9 I) (mm_rf (hx z) ?_)))
        rw [← lk_32] at hQ
        exact hQ
      · have y : ¬ v.toInt < ((Int8.ofInt 8).toInt32).toInt := c_13
        omega
    · refine And.intro (fun c_13 => ?_) (fun c_13 => mm_go_from G ?_)
      · have y : v.toInt < ((Int8.ofInt 8).toInt32).toInt := c_13
        omega
      · rw [z.2] at hQ
        rw [← show (Int8.ofInt 32).toInt32 * nI m + (Int8.ofInt 31).toInt32 = nI (32 * m + 31) from lk_32 (i := 31)] at hQ
        exact hQ
  · rw [lk_pz, if_pos (mm_no c_1)] at hQ
    exact hQ
theorem c_Ga_check {ro : mm_Ro} {d nC nF nM : Nat} {x : Int32} {qm : Nat → Nat} {h : mm_H} {P : Nat → mm_F × Int32} {Q : Value → mm_H → Prop} (T : lx_T ro h nC nF nM qm) (ok : lx_ok nC P)
    (q1 : ¬ (0 ≤ x.toInt ∧ x.toInt < (nM : Int)) → Q (.int (-1)) (lx_L h P))
    (q2 : ∀ m, m < nM → x = nI m → ∀ len, lx_ML h nC nF nM m len → ∀ (P' : Nat → mm_F × Int32) (v : Int32) (i : Nat) (y : Int32), lx_ok nC P' → lk_ins h nF m len (lx_X P') v i → Q (.int v) (lx_L (lx_B h (qm m) y (lk_pz m v i)) P')) : mm_ev ro (d + 8) n_Ga_check [.ref 1, .int x] (lx_L h P) Q := by
  have I := T.1
  have XN := T.2.1
  have J : mm_SH (lx_L h P) := I
  have XN' : mm_XN (lx_L h P) nC nF nM := (lx_T_ag (lx_ag_L (P := P)) J T).2.1
  have G := mm_hM n_Ga_check rfl
  have MS := T.2.2.2.1.2.2.1
  refine mm_ev_in (Z := mm_m_Ga_check) rfl rfl (Nat.le_of_ble_eq_true rfl) rfl ?_
  refine And.intro (k_1 J) (mm_rf (r_0 J) (And.intro ⟨rfl, k_2 J⟩ (c_St_isMethod J XN' (And.intro (fun c_8 => mm_go_from G ?_) (fun c_8 => q1 (mm_nb0 c_8))))))
  obtain ⟨m, hm, rfl⟩ := mm_of (mm_nn c_8)
  obtain ⟨len, L⟩ := T.2.2.2.2.2.1 m hm
  have h10 := XN.2.2.2.2.2.2
  have aq : mm_q (lx_L h P) 8 (nI m).toNatClampNeg = qm m := by rw [mm_ncl (by omega)]; exact (MS.2 m hm).1
  have kq : mm_k h (qm m) = 9 := (MS.2 m hm).2.2.1.1.1
  refine And.intro (k_1 J) (mm_rf (r_1 J) (And.intro (k_1 J) (mm_rf (r_0 J) (And.intro (k_2 J) (mm_rf (r_73 J) (And.intro ⟨⟨by rw [k_8 J]; decide, by rw [k_8 J]; decide⟩, mm_inb 10 (n_8 J) (mm_nb (by omega) (by omega))⟩ (mm_rf aq (And.intro ⟨rfl, k_9 J⟩ (c_Lo_thr T hm L ok (fun P' v i y ok' ins hy => ?_))))))))))
  have J' : mm_SH (lx_L (lx_B h (qm m) y (mm_i h 3 1)) P') := lx_SHB (x := y) (p := mm_i h 3 1) I
  have hx : 1 ≤ v.toInt ∧ v.toInt ≤ 7 → mm_i (lx_L (lx_B h (qm m) y (mm_i h 3 1)) P') 134 9 = nI i := fun z => hy z
  refine And.intro ⟨rfl, k_1 J'⟩ (c_Ga_placeOf J' (Or.inr ins) hx (And.intro (k_1 J') ?_))
  rw [lx_si lx_n1, lx_B_si]
  exact q2 m hm rfl len L P' v i y ok' ins
