/-! frame: what is told of a frame -/
def lk_pt (x : mm_V) (w : Int) : Int32 := if w = 0 then x.1 else if w = 1 then x.2.1 else if w = 2 then x.2.2.1 else if w = 3 then x.2.2.2.1 else if w = 4 then x.2.2.2.2 else -1
def lk_fa (φ : mm_F) (s w : Int) : Int32 := if s = -1 ∧ w = 0 then φ.1 else if φ.1.toInt < 0 then -1 else if s = -1 then (if w = 1 then φ.2.1 else if w = 2 then φ.2.2.1 else -1) else if 0 ≤ s ∧ s < 6 + φ.1.toInt then lk_pt (φ.2.2.2 s.toNat) w else -1
theorem lk_fa_eq {φ ψ : mm_F} (E : mm_feq φ ψ) (s w : Int) : lk_fa φ s w = lk_fa ψ s w := by
  unfold lk_fa
  rw [E.1]
  by_cases a : s = -1 ∧ w = 0
  · rw [if_pos a, if_pos a]
  · rw [if_neg a, if_neg a]
    by_cases b : ψ.1.toInt < 0
    · rw [if_pos b, if_pos b]
    · rw [if_neg b, if_neg b]
      obtain ⟨e1, e2, e3⟩ := E.2 (by rw [E.1]; omega)
      by_cases c : s = -1
      · rw [if_pos c, if_pos c, e1, e2]
      · rw [if_neg c, if_neg c]
        by_cases d : 0 ≤ s ∧ s < 6 + ψ.1.toInt
        · rw [if_pos d, if_pos d, e3 s.toNat (by show ((s.toNat : Nat) : Int) < 6 + φ.1.toInt; rw [E.1]; omega)]
        · rw [if_neg d, if_neg d]
theorem c_Va_part {ro : mm_Ro} {d : Nat} {x : mm_V} {w : Int32} {h : mm_H} {Q : Value → mm_H → Prop} (V : mm_vr x) (hQ : Q (.int (lk_pt x w.toInt)) h) : mm_ev ro (d + 2) n_Va_part [.int (lx_pk x), .int w] h Q := by
  have G := mm_hM n_Va_part rfl
  have f : ∀ v : Int32, lk_pt x w.toInt = v → Q (.int v) h := fun v e => by rw [← e]; exact hQ
  refine mm_ev_in (Z := mm_m_Va_part) rfl rfl (Nat.le_of_ble_eq_true rfl) rfl ?_
  refine And.intro (fun c => mm_go_from G (f (-1) ?_)) (And.intro (Nat.le_of_ble_eq_true rfl) ⟨fun c => mm_go_from G ?_, fun c => mm_go_from G ?_, fun c => mm_go_from G ?_, fun c => mm_go_from G ?_, fun c => mm_go_from G ?_, trivial⟩)
  · unfold lk_pt
    rw [if_neg (by omega), if_neg (by omega), if_neg (by omega), if_neg (by omega), if_neg (by omega)]
  · exact And.intro ⟨rfl, trivial⟩ (c_Va_kind V (f _ (if_pos c)))
  · exact And.intro ⟨rfl, trivial⟩ (c_Va_classOf V (f _ ((if_neg (by omega)).trans (if_pos c))))
  · have e : lk_pt x w.toInt = x.2.2.1 := (if_neg (by omega)).trans ((if_neg (by omega)).trans (if_pos c))
    refine And.intro ⟨rfl, trivial⟩ (c_Va_may V (And.intro (fun c_50 => mm_go_from G (f _ (e.trans c_50))) (fun c_50 => mm_go_from G (f _ (e.trans ?_)))))
    rcases V.2.2.2.1 with z | z
    · exact absurd z c_50
    · exact z
  · exact And.intro ⟨rfl, trivial⟩ (c_Va_marks V (f _ ((if_neg (by omega)).trans ((if_neg (by omega)).trans ((if_neg (by omega)).trans (if_pos c))))))
  · exact And.intro ⟨rfl, trivial⟩ (c_Va_origin V (f _ ((if_neg (by omega)).trans ((if_neg (by omega)).trans ((if_neg (by omega)).trans ((if_neg (by omega)).trans (if_pos c)))))))
theorem c_Lo_frameAt {ro : mm_Ro} {d : Nat} {i : Int32} {h : mm_H} {Q : Value → mm_H → Prop} (I : mm_SH h) (q1 : ∀ j, j < 20 → i = nI j → Q (.ref (16 + 2 * j)) h) (q2 : ¬ (0 ≤ i.toInt ∧ i.toInt < 20) → Q (.ref 0) h) : mm_ev ro (d + 2) n_Lo_frameAt [.ref 9, .int i] h Q := by
  have G := mm_hM n_Lo_frameAt rfl
  have t20 : (Int32.ofNat 20).toInt = 20 := by decide
  refine mm_ev_in (Z := mm_m_Lo_frameAt) rfl rfl (Nat.le_of_ble_eq_true rfl) rfl ?_
  refine And.intro (k_9 I) (mm_rf (r_130 I) (And.intro ⟨by rw [k_10 I]; decide, by rw [k_10 I]; decide⟩ ?_))
  rw [n_10 I]
  refine And.intro ⟨rfl, trivial⟩ (c_Ga_within I (And.intro (fun c_9 => mm_go_from G ?_) (fun c_9 => ?_)))
  · have z := mm_b0.mp c_9
    rw [t20] at z
    exact q2 z
  · have z := mm_nn c_9
    rw [t20] at z
    obtain ⟨j, hj, rfl⟩ := mm_of (N := 20) z
    have cj : (nI j).toNatClampNeg = j := mm_ncl (by omega)
    exact And.intro (k_9 I) (mm_rf (r_130 I) (And.intro ⟨⟨by rw [k_10 I]; decide, by rw [k_10 I]; decide⟩, mm_inb 20 (n_10 I) z⟩ (mm_rf (b := 16 + 2 * j) (by rw [cj]; exact I.2.2.2.1 j hj) (mm_go_from G (q1 j hj rfl)))))
theorem c_Ga_frame {ro : mm_Ro} {d nC : Nat} {i s w : Int32} {h : mm_H} {P : Nat → mm_F × Int32} {Q : Value → mm_H → Prop} (I : mm_SH h) (ok : lx_ok nC P) (h4 : ∀ j, j < 20 → (lx_X P j).1.toInt ≤ 4) (q1 : ∀ j, j < 20 → i = nI j → Q (.int (lk_fa (lx_X P j) s.toInt w.toInt)) (lx_L h P)) (q2 : ¬ (0 ≤ i.toInt ∧ i.toInt < 20) → Q (.int (-1)) (lx_L h P)) : mm_ev ro (d + 3) n_Ga_frame [.ref 1, .int i, .int s, .int w] (lx_L h P) Q := by
  have J : mm_SH (lx_L h P) := I
  have G := mm_hM n_Ga_frame rfl
  have m1 : (Int32.ofInt (-1)).toInt = -1 := by decide
  have o1 : (Int32.ofInt 1).toInt = 1 := by decide
  have o2 : (Int32.ofInt 2).toInt = 2 := by decide
  have z0 : (0 : Int32).toInt = 0 := by decide
  have t6 : ((Int8.ofInt 6).toInt32).toInt = 6 := by decide
  refine mm_ev_at 32 (Z := mm_m_Ga_frame) rfl rfl (Nat.le_of_ble_eq_true rfl) rfl ?_
  refine And.intro (k_1 J) (mm_rf (r_1 J) (And.intro ⟨rfl, k_9 J⟩ (c_Lo_frameAt J (fun j hj ej => ?_) (fun ni => ?_))))
  · have isj := lx_ii hj
    obtain ⟨kf, ka, na, ra⟩ := lx_fs J isj
    have e3 : mm_i (lx_L h P) 193 (16 + 2 * j) = (lx_X P j).1 := (lx_i isj).1
    have e4 : mm_i (lx_L h P) 194 (16 + 2 * j) = (lx_X P j).2.1 := (lx_i isj).2.1
    have e5 : mm_i (lx_L h P) 195 (16 + 2 * j) = (lx_X P j).2.2.1 := (lx_i isj).2.2.1
    have f : ∀ v : Int32, lk_fa (lx_X P j) s.toInt w.toInt = v → Q (.int v) (lx_L h P) := fun v e => by rw [← e]; exact q1 j hj ej
    have hh := h4 j hj
    have g32 : ¬ (s.toInt = -1 ∧ w.toInt = 0) → mm_go ro (d + 2) mm_m_Ga_frame 32 [.ref 1, .int i, .int s, .int w, .ref (16 + 2 * j)] [] (lx_L h P) Q := by
      intro n
      have u : lk_fa (lx_X P j) s.toInt w.toInt = (if (lx_X P j).1.toInt < 0 then -1 else if s.toInt = -1 then (if w.toInt = 1 then (lx_X P j).2.1 else if w.toInt = 2 then (lx_X P j).2.2.1 else -1) else if 0 ≤ s.toInt ∧ s.toInt < 6 + (lx_X P j).1.toInt then lk_pt ((lx_X P j).2.2.2 s.toInt.toNat) w.toInt else -1) := if_neg n
      refine mm_go_from G (And.intro kf (mm_rf e3 (And.intro (fun c_37 => mm_go_from G ?_) (fun c_37 => f _ (u.trans (if_pos (Int.not_le.mp c_37)))))))
      have u2 := u.trans (if_neg (Int.not_lt.mpr c_37))
      have hge : 0 ≤ (lx_X P j).1.toInt := c_37
      refine And.intro (fun c_44 => mm_go_from G ?_) (fun c_44 => ?_)
      · have ns : ¬ s.toInt = -1 := fun y => c_44 (Int32.toInt_inj.mp (y.trans m1.symm))
        have u3 := u2.trans (if_neg ns)
        have tb : ((Int8.ofInt 6).toInt32 + (lx_X P j).1).toInt = 6 + (lx_X P j).1.toInt := by
          have e := lk_add (a := (Int8.ofInt 6).toInt32) (b := (lx_X P j).1) (by omega) (by omega)
          omega
        refine And.intro kf (mm_rf e3 (And.intro ⟨rfl, trivial⟩ (c_Ga_within J (And.intro (fun c_87 => mm_go_from G (f _ (u3.trans (if_neg (fun y => mm_b0.mp c_87 (by rw [tb]; exact y)))))) (fun c_87 => ?_)))))
        have y := mm_nn c_87
        rw [tb] at y
        have cs : s.toNatClampNeg = s.toInt.toNat := rfl
        have hs10 : s.toInt.toNat < 10 := by omega
        have av : mm_a (lx_L h P) (16 + 2 * j + 1) s.toNatClampNeg = lx_pk ((lx_X P j).2.2.2 s.toInt.toNat) := lx_a isj hs10
        exact And.intro kf (mm_rf ra (And.intro ⟨ka, mm_inb 10 na (by omega)⟩ (mm_rf av (And.intro ⟨rfl, trivial⟩ (c_Va_part ((ok _ isj).2 _ hs10).1 (mm_go_from G (f _ (u3.trans (if_pos y)))))))))
      · have es : s.toInt = -1 := by
          have y : s = Int32.ofInt (-1) := mm_no c_44
          rw [y, m1]
        have u3 := u2.trans (if_pos es)
        refine And.intro (fun c_49 => mm_go_from G ?_) (fun c_49 => ?_)
        · have nw : ¬ w.toInt = 1 := fun y => c_49 (Int32.toInt_inj.mp (y.trans o1.symm))
          have u4 := u3.trans (if_neg nw)
          refine And.intro (fun c_62 => mm_go_from G (f _ (u4.trans (if_neg (fun y => c_62 (Int32.toInt_inj.mp (y.trans o2.symm))))))) (fun c_62 => ?_)
          have ew : w.toInt = 2 := by
            have y : w = Int32.ofInt 2 := mm_no c_62
            rw [y, o2]
          exact And.intro kf (mm_rf e5 (mm_go_from G (f _ (u4.trans (if_pos ew)))))
        · have ew : w.toInt = 1 := by
            have y : w = Int32.ofInt 1 := mm_no c_49
            rw [y, o1]
          exact And.intro kf (mm_rf e4 (mm_go_from G (f _ (u3.trans (if_pos ew)))))
    refine And.intro (fun c_12 => mm_go_at 32 G (And.intro (fun c_19 => g32 (fun y => c_19 (Int32.toInt_inj.mp (y.1.trans m1.symm)))) (fun c_19 => And.intro (fun c_23 => g32 (fun y => c_23 (Int32.toInt_inj.mp (y.2.trans z0.symm)))) (fun c_23 => ?_)))) (fun c_12 => absurd (show 16 + 2 * j = 0 from c_12) (by omega))
    have es : s.toInt = -1 := by
      have y : s = Int32.ofInt (-1) := mm_no c_19
      rw [y, m1]
    have ew : w.toInt = 0 := by
      have y : w = 0 := mm_no c_23
      rw [y, z0]
    exact And.intro kf (mm_rf e3 (f _ (if_pos ⟨es, ew⟩)))
  · exact And.intro (fun c_12 => absurd rfl c_12) (fun c_12 => q2 ni)

theorem c_Mo_frame {ro : mm_Ro} {d : Nat} {i s w : Int32} {h : mm_H} {e : Int32 × Int32 × Int32} {c' : mm_F} {hd : Nat → Int32 × Int32 × Int32} {sv : Nat → mm_V} {Q : Value → mm_H → Prop} (I : mm_SH h) (bs : lk_bn sv) (h4 : ∀ j, j < 20 → (lk_xr e.1 hd sv j).1.toInt ≤ 4) (q1 : ∀ j, j < 20 → i = nI j → Q (.int (lk_fa (lk_xr e.1 hd sv j) s.toInt w.toInt)) (lk_L h e c' hd sv)) (q2 : ¬ (0 ≤ i.toInt ∧ i.toInt < 20) → Q (.int (-1)) (lk_L h e c' hd sv)) : mm_ev ro (d + 2) n_Mo_frame [.ref 80, .int i, .int s, .int w] (lk_L h e c' hd sv) Q := by
  have J : mm_SH (lk_L h e c' hd sv) := I
  have G := mm_hM n_Mo_frame rfl
  have m1 : (Int32.ofInt (-1)).toInt = -1 := by decide
  have o1 : (Int32.ofInt 1).toInt = 1 := by decide
  have o2 : (Int32.ofInt 2).toInt = 2 := by decide
  have z0 : (0 : Int32).toInt = 0 := by decide
  have t5 : (Int32.ofInt 5).toInt = 5 := by decide
  have z0' : (Int32.ofInt 0).toInt = 0 := by decide
  have t19 : ((Int8.ofInt 19).toInt32).toInt = 19 := by decide
  -- a height below 0: nothing is told
  have neg : ∀ x : Int32, x.toInt < 0 → (∀ v : Int32, (s.toInt = -1 ∧ w.toInt = 0 → v = x) → (¬ (s.toInt = -1 ∧ w.toInt = 0) → v = -1) → Q (.int v) (lk_L h e c' hd sv)) → mm_go ro (d + 1) mm_m_Mo_frame 32 [.ref 80, .int i, .int s, .int w, .int x, .null] [] (lk_L h e c' hd sv) Q := by
    intro x hx f
    have g44 : ¬ (s.toInt = -1 ∧ w.toInt = 0) → mm_go ro (d + 1) mm_m_Mo_frame 44 [.ref 80, .int i, .int s, .int w, .int x, .null] [] (lk_L h e c' hd sv) Q := by
      intro n
      exact mm_go_from G (And.intro (fun c_46 => mm_go_from G (f (-1) (fun y => absurd y n) (fun _ => rfl))) (fun c_46 => absurd (show x.toInt < (0 : Int32).toInt from hx) c_46))
    refine mm_go_at 44 G (And.intro (fun c_34 => g44 (fun y => c_34 (Int32.toInt_inj.mp (y.1.trans m1.symm)))) (fun c_34 => And.intro (fun c_38 => g44 (fun y => c_38 (Int32.toInt_inj.mp (y.2.trans z0.symm)))) (fun c_38 => f x (fun _ => rfl) (fun n => absurd ⟨?_, ?_⟩ n))))
    · have y : s = Int32.ofInt (-1) := mm_no c_34
      rw [y, m1]
    · have y : w = 0 := mm_no c_38
      rw [y, z0]
  have lf : ∀ j, lk_xr e.1 hd sv j = (if e.1.toInt < 0 then (-1, -1, 0, fun _ => (0, -1, 0, 0, -1)) else lk_fr hd sv j) := by
    intro j
    unfold lk_xr
    by_cases q : e.1.toInt < 0
    · rw [if_pos q, if_pos q]
    · rw [if_neg q, if_neg q]
  have fneg : ∀ (φ : mm_F) (v : Int32), φ.1.toInt < 0 → (s.toInt = -1 ∧ w.toInt = 0 → v = φ.1) → (¬ (s.toInt = -1 ∧ w.toInt = 0) → v = -1) → lk_fa φ s.toInt w.toInt = v := by
    intro φ v hn a b
    unfold lk_fa
    by_cases q : s.toInt = -1 ∧ w.toInt = 0
    · rw [if_pos q, a q]
    · rw [if_neg q, if_pos hn, b q]
  have g22 : ∀ x : Int32, (¬ (0 ≤ i.toInt ∧ i.toInt < 20) ∧ x = -1) ∨ (∃ j, j < 20 ∧ i = nI j ∧ x = (hd j).1) → mm_go ro (d + 1) mm_m_Mo_frame 20 [.ref 80, .int i, .int s, .int w, .null, .null] [.int x] (lk_L h e c' hd sv) Q := by
    intro x hx
    refine mm_go_at 32 G (And.intro (k_80 J) (mm_rf (b := e.1) rfl (And.intro (fun c_26 => ?_) (fun c_26 => ?_))))
    · have e0 : ¬ e.1.toInt < 0 := Int.not_lt.mpr c_26
      rcases hx with ⟨ni, ex⟩ | ⟨j, hj, ej, ex⟩
      · exact neg x (by rw [ex]; decide) (fun v a b => by
          by_cases q : s.toInt = -1 ∧ w.toInt = 0
          · rw [a q, ex]; exact q2 ni
          · rw [b q]; exact q2 ni)
      · have lj : lk_xr e.1 hd sv j = lk_fr hd sv j := (lf j).trans (if_neg e0)
        have w1 := q1 j hj ej
        have hh := h4 j hj
        rw [lj] at w1 hh
        have hh' : (hd j).1.toInt ≤ 4 := hh
        rw [← ex] at hh'
        have fx : ∀ v : Int32, lk_fa (lk_fr hd sv j) s.toInt w.toInt = v → Q (.int v) (lk_L h e c' hd sv) := fun v y => by rw [← y]; exact w1
        by_cases hx0 : x.toInt < 0
        · exact neg x hx0 (fun v a b => fx v (fneg _ v (by show (hd j).1.toInt < 0; rw [← ex]; exact hx0) (fun q => (a q).trans ex) b))
        · have cj : (nI j).toNatClampNeg = j := mm_ncl (by omega)
          have hBj : 0 ≤ (nI j).toInt ∧ (nI j).toInt < ((20 : Nat) : Int) := mm_nb hj (by omega)
          have e1x : (lk_fr hd sv j).1 = x := ex.symm
          rw [ej]
          have g63 : ¬ (s.toInt = -1 ∧ w.toInt = 0) → (-1 ≤ s.toInt ∧ s.toInt < 6 + x.toInt) → mm_go ro (d + 1) mm_m_Mo_frame 63 [.ref 80, .int (nI j), .int s, .int w, .int x, .null] [] (lk_L h e c' hd sv) Q := by
            intro n hs
            have u : lk_fa (lk_fr hd sv j) s.toInt w.toInt = (if s.toInt = -1 then (if w.toInt = 1 then (lk_fr hd sv j).2.1 else if w.toInt = 2 then (lk_fr hd sv j).2.2.1 else -1) else if 0 ≤ s.toInt ∧ s.toInt < 6 + (lk_fr hd sv j).1.toInt then lk_pt ((lk_fr hd sv j).2.2.2 s.toInt.toNat) w.toInt else -1) := (if_neg n).trans (if_neg (by rw [e1x]; exact hx0))
            refine mm_go_at 106 G (And.intro (fun c_73 => mm_go_from G ?_) (fun c_73 => ?_))
            · have ns : ¬ s.toInt = -1 := fun y => c_73 (Int32.toInt_inj.mp (y.trans m1.symm))
              have s0 : 0 ≤ s.toInt ∧ s.toInt < 6 + (lk_fr hd sv j).1.toInt := ⟨by omega, by rw [e1x]; omega⟩
              obtain ⟨v, hv, ev⟩ := mm_of (N := 10) (x := s) (by omega)
              have u2 := (u.trans (if_neg ns)).trans (if_pos s0)
              have sv1 : s.toInt.toNat = v := by rw [ev, mm_nt (by omega)]; omega
              have ss : (lk_fr hd sv j).2.2.2 s.toInt.toNat = sv (10 * j + v) := by
                rw [sv1]
                show sv (10 * j + v % 10) = _
                rw [Nat.mod_eq_of_lt hv]
              rw [ss] at u2
              have ix : (Int8.ofInt 10).toInt32 * nI j + s = nI (10 * j + v) := by rw [ev]; exact mm_lin 10 j v
              have hB : 0 ≤ ((Int8.ofInt 10).toInt32 * nI j + s).toInt ∧ ((Int8.ofInt 10).toInt32 * nI j + s).toInt < ((200 : Nat) : Int) := by rw [ix]; exact mm_nb (by omega) (by omega)
              have cx : ((Int8.ofInt 10).toInt32 * nI j + s).toNatClampNeg = 10 * j + v := by rw [ix]; exact mm_ncl (by omega)
              refine And.intro (fun c => mm_go_from G (fx (-1) (u2.trans ?_))) (And.intro (Nat.le_of_ble_eq_true rfl) ⟨fun c => mm_go_from G ?_, fun c => mm_go_from G ?_, fun c => mm_go_from G ?_, fun c => mm_go_from G ?_, fun c => mm_go_from G ?_, trivial⟩)
              · unfold lk_pt
                rw [if_neg (by omega), if_neg (by omega), if_neg (by omega), if_neg (by omega), if_neg (by omega)]
              · exact And.intro (k_80 J) (mm_rf (r_603 J) (And.intro ⟨k_105 J, mm_inb 200 (n_105 J) hB⟩ (mm_rf (b := (sv (10 * j + v)).1) (by rw [cx]; rfl) (fx _ (u2.trans (if_pos c))))))
              · exact And.intro (k_80 J) (mm_rf (r_604 J) (And.intro ⟨k_106 J, mm_inb 200 (n_106 J) hB⟩ (mm_rf (b := (sv (10 * j + v)).2.1) (by rw [cx]; rfl) (fx _ (u2.trans ((if_neg (by omega)).trans (if_pos c)))))))
              · have e2 : lk_pt (sv (10 * j + v)) w.toInt = (sv (10 * j + v)).2.2.1 := (if_neg (by omega)).trans ((if_neg (by omega)).trans (if_pos c))
                refine And.intro (k_80 J) (mm_rf (r_607 J) (And.intro ⟨k_109 J, mm_inb 200 (n_109 J) hB⟩ (mm_rf (b := (sv (10 * j + v)).2.2.1) (by rw [cx]; rfl) (And.intro (fun c_163 => mm_go_from G (fx _ ((u2.trans e2).trans c_163))) (fun c_163 => mm_go_from G (fx _ ((u2.trans e2).trans ?_)))))))
                rcases bs (10 * j + v) with y | y
                · exact absurd y c_163
                · exact y
              · exact And.intro (k_80 J) (mm_rf (r_605 J) (And.intro ⟨k_107 J, mm_inb 200 (n_107 J) hB⟩ (mm_rf (b := (sv (10 * j + v)).2.2.2.1) (by rw [cx]; rfl) (fx _ (u2.trans ((if_neg (by omega)).trans ((if_neg (by omega)).trans ((if_neg (by omega)).trans (if_pos c)))))))))
              · exact And.intro (k_80 J) (mm_rf (r_606 J) (And.intro ⟨k_108 J, mm_inb 200 (n_108 J) hB⟩ (mm_rf (b := (sv (10 * j + v)).2.2.2.2) (by rw [cx]; rfl) (fx _ (u2.trans ((if_neg (by omega)).trans ((if_neg (by omega)).trans ((if_neg (by omega)).trans ((if_neg (by omega)).trans (if_pos c))))))))))
            · have es : s.toInt = -1 := by
                have y : s = Int32.ofInt (-1) := mm_no c_73
                rw [y, m1]
              have u3 := u.trans (if_pos es)
              refine And.intro (fun c_78 => mm_go_from G ?_) (fun c_78 => ?_)
              · have nw : ¬ w.toInt = 1 := fun y => c_78 (Int32.toInt_inj.mp (y.trans o1.symm))
                have u4 := u3.trans (if_neg nw)
                refine And.intro (fun c_92 => mm_go_from G (fx _ (u4.trans (if_neg (fun y => c_92 (Int32.toInt_inj.mp (y.trans o2.symm))))))) (fun c_92 => ?_)
                have ew : w.toInt = 2 := by
                  have y : w = Int32.ofInt 2 := mm_no c_92
                  rw [y, o2]
                exact And.intro (k_80 J) (mm_rf (r_602 J) (And.intro ⟨k_104 J, mm_inb 20 (n_104 J) hBj⟩ (mm_rf (b := (hd j).2.2) (by rw [cj]; rfl) (mm_go_from G (fx _ (u4.trans (if_pos ew)))))))
              · have ew : w.toInt = 1 := by
                  have y : w = Int32.ofInt 1 := mm_no c_78
                  rw [y, o1]
                exact And.intro (k_80 J) (mm_rf (r_601 J) (And.intro ⟨k_103 J, mm_inb 20 (n_103 J) hBj⟩ (mm_rf (b := (hd j).2.1) (by rw [cj]; rfl) (mm_go_from G (fx _ (u3.trans (if_pos ew)))))))
          have g44 : ¬ (s.toInt = -1 ∧ w.toInt = 0) → mm_go ro (d + 1) mm_m_Mo_frame 44 [.ref 80, .int (nI j), .int s, .int w, .int x, .null] [] (lk_L h e c' hd sv) Q := by
            intro n
            have tb : (Int32.ofInt 5 + x).toInt = 5 + x.toInt := by
              have y := lk_add (a := Int32.ofInt 5) (b := x) (by omega) (by omega)
              omega
            refine mm_go_at 63 G (And.intro (fun c_46 => absurd (show x.toInt < 0 from c_46) hx0) (fun c_46 => ?_))
            refine And.intro ⟨rfl, trivial⟩ (c_Mo_within J (And.intro (fun c_58 => ?_) (fun c_58 => ?_)))
            · have y := mm_nn c_58
              rw [tb, m1] at y
              exact g63 n (by omega)
            · have y := mm_nb0 c_58
              rw [tb, m1] at y
              refine fx _ ((if_neg n).trans ((if_neg (by rw [e1x]; exact hx0)).trans ((if_neg (by omega)).trans (if_neg (by rw [e1x]; omega)))))
          refine mm_go_at 44 G (And.intro (fun c_34 => g44 (fun y => c_34 (Int32.toInt_inj.mp (y.1.trans m1.symm)))) (fun c_34 => And.intro (fun c_38 => g44 (fun y => c_38 (Int32.toInt_inj.mp (y.2.trans z0.symm)))) (fun c_38 => fx _ ((if_pos ⟨?_, ?_⟩).trans e1x))))
          · have y : s = Int32.ofInt (-1) := mm_no c_34
            rw [y, m1]
          · have y : w = 0 := mm_no c_38
            rw [y, z0]
    · have e0 : e.1.toInt < 0 := Int.not_le.mp c_26
      refine neg (-1) (by decide) (fun v a b => ?_)
      rcases hx with ⟨ni, ex⟩ | ⟨j, hj, ej, ex⟩
      · by_cases q : s.toInt = -1 ∧ w.toInt = 0
        · rw [a q]; exact q2 ni
        · rw [b q]; exact q2 ni
      · have w1 := q1 j hj ej
        rw [lf j, if_pos e0, fneg (-1, -1, 0, fun _ => (0, -1, 0, 0, -1)) v (by decide) a b] at w1
        exact w1
  refine mm_ev_at 20 (Z := mm_m_Mo_frame) rfl rfl (Nat.le_of_ble_eq_true rfl) rfl ?_
  refine And.intro ⟨rfl, trivial⟩ (c_Mo_within J (And.intro (fun c_7 => mm_go_at 20 G ?_) (fun c_7 => ?_)))
  · have y := mm_b0.mp c_7
    rw [z0', t19] at y
    exact g22 (-1) (Or.inl ⟨by omega, rfl⟩)
  · have y := mm_nn c_7
    rw [z0', t19] at y
    obtain ⟨j, hj, ej⟩ := mm_of (N := 20) (x := i) (by omega)
    have cj : i.toNatClampNeg = j := by rw [ej]; exact mm_ncl (by omega)
    exact And.intro (k_80 J) (mm_rf (r_600 J) (And.intro ⟨k_102 J, mm_inb 20 (n_102 J) (by omega)⟩ (mm_rf (b := (hd j).1) (by rw [cj]; rfl) (g22 _ (Or.inr ⟨j, hj, ej, rfl⟩)))))
