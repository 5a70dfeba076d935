/-! the reference's step, whole -/
def rs_pu (o : Nat) : Prop := (3 ≤ o ∧ o ≤ 6) ∨ (9 ≤ o ∧ o ≤ 10) ∨ o = 12 ∨ o = 14 ∨ o = 15 ∨ o = 17
theorem l_56 {ro : mm_Ro} {d w H o : Nat} {v2 v3 v5 : Value} {s : mm_H} {Q : Value → mm_H → Prop} (ho : o < 18) (I : mm_SH s) (hw : w < 6) (e3 : mm_i s 633 80 = nI (w + 1)) (e0 : mm_a s 120 w = nI H) (h4 : H ≤ 4) (h0 : rs_pu o → 0 < H) (hp : rs_pu o → mm_go ro (d + 3) mm_m_Mo_step 119 [.ref 80, .int (nI w), v2, v3, .int (nI o), v5, .null, .null, .null] [.int (rs_tp s w H)] (rs_pop s w H) Q) (hn : ¬ rs_pu o → mm_go ro (d + 3) mm_m_Mo_step 119 [.ref 80, .int (nI w), v2, v3, .int (nI o), v5, .null, .null, .null] [.int 0] s Q) : mm_go ro (d + 3) mm_m_Mo_step 56 [.ref 80, .int (nI w), v2, v3, .int (nI o), v5, .null, .null, .null] [] s Q := by
  have G := mm_hM n_Mo_step rfl
  have to : (nI o).toInt = (o : Int) := mm_nt (by omega)
  have P1 : rs_pu o → mm_go ro (d + 3) mm_m_Mo_step 111 [.ref 80, .int (nI w), v2, v3, .int (nI o), v5, .null, .null, .null] [] s Q := fun z => mm_go_at 119 G (And.intro ⟨rfl, k_80 I⟩ (c_Mo_pull I hw e3 e0 (h0 z) h4 (hp z)))
  have P2 : ¬ rs_pu o → mm_go ro (d + 3) mm_m_Mo_step 118 [.ref 80, .int (nI w), v2, v3, .int (nI o), v5, .null, .null, .null] [] s Q := fun z => mm_go_at 119 G (hn z)
  have eq : ∀ k : Nat, k < 18 → (nI o = nI k ↔ o = k) := fun k hk => nI_eq (by omega) (by omega)
  have P83 : ¬ ((3 ≤ o ∧ o ≤ 6) ∨ (9 ≤ o ∧ o ≤ 10)) → mm_go ro (d + 3) mm_m_Mo_step 83 [.ref 80, .int (nI w), v2, v3, .int (nI o), v5, .null, .null, .null] [] s Q := by
    intro n
    refine mm_go_at 111 G (And.intro (fun c => P1 ?_) (fun c87 => And.intro (fun c => P1 ?_) (fun c94 => And.intro (fun c => P1 ?_) (fun c101 => And.intro (fun c => P2 ?_) (fun c108 => P1 ?_)))))
    · have := (eq 12 (by omega)).mp c
      unfold rs_pu; omega
    · have := (eq 14 (by omega)).mp c
      unfold rs_pu; omega
    · have := (eq 15 (by omega)).mp c
      unfold rs_pu; omega
    · have n1 : ¬ o = 12 := fun z => c87 ((eq 12 (by omega)).mpr z)
      have n2 : ¬ o = 14 := fun z => c94 ((eq 14 (by omega)).mpr z)
      have n3 : ¬ o = 15 := fun z => c101 ((eq 15 (by omega)).mpr z)
      have n4 : ¬ o = 17 := fun z => c ((eq 17 (by omega)).mpr z)
      unfold rs_pu; omega
    · have := (eq 17 (by omega)).mp (mm_no c108)
      unfold rs_pu; omega
  have P69 : ¬ (3 ≤ o ∧ o ≤ 6) → mm_go ro (d + 3) mm_m_Mo_step 69 [.ref 80, .int (nI w), v2, v3, .int (nI o), v5, .null, .null, .null] [] s Q := by
    intro n
    refine mm_go_at 83 G (And.intro (fun c => P83 ?_) (fun c73 => And.intro (fun c => P1 ?_) (fun c80 => P83 ?_)))
    · have c' : (nI o).toInt < ((Int8.ofInt 9).toInt32).toInt := c
      rw [to, show ((Int8.ofInt 9).toInt32).toInt = 9 by decide] at c'
      omega
    · have c' : ¬ (nI o).toInt < ((Int8.ofInt 9).toInt32).toInt := c73
      have c2 : (nI o).toInt ≤ ((Int8.ofInt 10).toInt32).toInt := c
      rw [to, show ((Int8.ofInt 9).toInt32).toInt = 9 by decide] at c'
      rw [to, show ((Int8.ofInt 10).toInt32).toInt = 10 by decide] at c2
      unfold rs_pu; omega
    · have c2 : ¬ (nI o).toInt ≤ ((Int8.ofInt 10).toInt32).toInt := c80
      rw [to, show ((Int8.ofInt 10).toInt32).toInt = 10 by decide] at c2
      omega
  refine mm_go_at 69 G (And.intro (fun c => P69 ?_) (fun c59 => And.intro (fun c => P1 ?_) (fun c66 => P69 ?_)))
  · have c' : (nI o).toInt < (Int32.ofInt 3).toInt := c
    rw [to, show (Int32.ofInt 3).toInt = 3 by decide] at c'
    omega
  · have c' : ¬ (nI o).toInt < (Int32.ofInt 3).toInt := c59
    have c2 : (nI o).toInt ≤ ((Int8.ofInt 6).toInt32).toInt := c
    rw [to, show (Int32.ofInt 3).toInt = 3 by decide] at c'
    rw [to, show ((Int8.ofInt 6).toInt32).toInt = 6 by decide] at c2
    unfold rs_pu; omega
  · have c2 : ¬ (nI o).toInt ≤ ((Int8.ofInt 6).toInt32).toInt := c66
    rw [to, show ((Int8.ofInt 6).toInt32).toInt = 6 by decide] at c2
    omega
def rs_ob (s : mm_H) (n : Nat) (x : Int32) : Prop := x = 0 ∨ ∃ o c, 0 < o ∧ o ≤ n ∧ x = nI o ∧ c < 6 ∧ mm_a s 116 o = nI c
/-- what must hold that a call goes well -/
def rs_cl (K : mm_H) (nM : Nat) (s : mm_H) (w B a : Nat) : Prop := (¬ mm_a K 95 a = 0 → rs_dj K B a) ∧ (mm_a K 95 a = 0 → mm_a s 119 (4 * w + B) = 0 ∨ ∃ k j, k < 25 ∧ mm_a s 119 (4 * w + B) = nI k ∧ (mm_a s 116 k).toInt < 6 ∧ lk_at K nM (mm_a K 88 a) (mm_a s 116 k).toInt j ∧ rs_dj K B j)
/-- what must hold that an instruction goes well -/
def rs_ok (K : mm_H) (nM n : Nat) (s : mm_H) (w H m a : Nat) : Nat → Prop
  | 0 => H < 4
  | 1 => H < 4
  | 2 => H < 4 ∧ a < 6
  | 3 => 0 < H ∧ a < 6
  | 4 => 0 < H ∧ H < 4
  | 5 => 0 < H
  | 6 => 1 < H
  | 7 => H < 4 ∧ a < 6
  | 8 => True
  | 9 => 0 < H ∧ a < 12 ∧ rs_ob s n (rs_tp s w H)
  | 10 => 1 < H ∧ a < 12 ∧ rs_ob s n (mm_a s 119 (4 * w + (H - 2)))
  | 11 => a < 10 ∧ lk_MV K a ∧ lk_np K a + lk_of K a ≤ H ∧ rs_cl K nM s w (H - (lk_np K a + lk_of K a)) a
  | 12 => 0 < H ∧ a < 6 ∧ rs_ob s n (rs_tp s w H)
  | 13 => True
  | 14 => 0 < H
  | 15 => 0 < H
  | 16 => (mm_a K 93 (4 * m + 3) = -2 ∨ 0 < H) ∧ (0 < w → ∃ g, mm_a s 120 (w - 1) = nI g ∧ g ≤ 4 ∧ (mm_a K 93 (4 * m + 3) = -2 ∨ g < 4)) ∧ (0 ≤ (mm_a K 93 (4 * m + 3)).toInt → rs_ob s n (rs_tp s w H))
  | _ => 0 < H ∧ rs_ob s n (rs_tp s w H)
/-- where a run stands -/
def rs_gs (n : Nat) (s : mm_H) (w H m i : Nat) : Prop := (w < 6 ∧ H ≤ 4 ∧ m < 10 ∧ i < 20 ∧ n ≤ 24) ∧ mm_i s 633 80 = nI (w + 1) ∧ mm_i s 635 80 = -1 ∧ mm_a s 120 w = nI H ∧ mm_a s 122 w = nI m ∧ mm_a s 121 w = nI i ∧ mm_i s 629 80 = nI n ∧ ∃ T P, mm_i s 630 80 = nI T ∧ T < 1000 ∧ mm_i s 631 80 = nI P ∧ P < 1000
theorem rs_ob_o {s : mm_H} {n : Nat} {x : Int32} (hn : n ≤ 24) (h : rs_ob s n x) : ¬ x = 0 → ∃ o, 0 < o ∧ o < 25 ∧ x = nI o := by
  intro z
  rcases h with y | ⟨o, c, o0, o1, o2, _⟩
  · exact absurd y z
  · exact ⟨o, o0, by omega, o2⟩
theorem c_Mo_step {ro : mm_Ro} {d w H m i n N nC nF nM : Nat} {h : mm_H} {Q : Value → mm_H → Prop} (I : mm_SH h) (MN : mm_MN h nC nF nM) (U : mm_upo (mm_up h)) (gs : rs_gs n h w H m i) (IV : lk_IV h m i) (r2 : -2 ≤ (mm_a h 93 (4 * m + 3)).toInt) (eN : mm_i h 628 80 = nI N) (hN : N ≤ 8) (rz : rs_rz h (mm_sa h 121 w (nI (i + 1))) (w + 1)) (ok : rs_ok h nM n h w H m (lk_a h m i) (lk_o h m i)) (hQ : Q .null (rs_op (kc h) nM (mm_sa h 121 w (nI (i + 1))) w H m i (lk_o h m i))) : mm_ev ro (d + 4) n_Mo_step [.ref 80] h Q := by
  have G := mm_hM n_Mo_step rfl
  obtain ⟨⟨hw, h4, hm, hi, hn⟩, e3, e5, e0, e2, e1, en, T, P, eT, hT, eP, hP⟩ := gs
  have ew : nI (w + 1) - 1 = nI w := nI_pred w
  have cw : (nI w).toNatClampNeg = w := mm_ncl (by omega)
  have bw : 0 ≤ (nI w).toInt ∧ (nI w).toInt < ((6 : Nat) : Int) := mm_nb hw (by omega)
  have cw' : (nI (w + 1) - 1).toNatClampNeg = w := by rw [ew]; exact cw
  have bw' : 0 ≤ (nI (w + 1) - 1).toInt ∧ (nI (w + 1) - 1).toInt < ((6 : Nat) : Int) := by rw [ew]; exact bw
  have eX : (Int8.ofInt 20).toInt32 * nI m + nI i = nI (20 * m + i) := mm_lin 20 m i
  have bX : 0 ≤ ((Int8.ofInt 20).toInt32 * nI m + nI i).toInt ∧ ((Int8.ofInt 20).toInt32 * nI m + nI i).toInt < ((200 : Nat) : Int) := by rw [eX]; exact mm_nb (by omega) (by omega)
  have cX : ((Int8.ofInt 20).toInt32 * nI m + nI i).toNatClampNeg = 20 * m + i := by rw [eX]; exact mm_ncl (by omega)
  obtain ⟨AV, o7, IV3, IV4, IV5⟩ := IV
  have ho := AV.1
  have S1 : mm_SH (mm_sa h 121 w (nI (i + 1))) := SH_sa I
  have key : mm_go ro (d + 3) mm_m_Mo_step 56 [.ref 80, .int (nI w), .int (nI m), .int (nI i), .int (nI (lk_o h m i)), .int (mm_a h 98 (20 * m + i)), .null, .null, .null] [] (mm_sa h 121 w (nI (i + 1))) Q := by
    have hK : lk_gd h = lk_gd (kc h) ∧ ∀ m, lk_GV (kc h) m → lk_GV h m := ⟨rfl, fun m z => z⟩
    have ks : kc (mm_sa h 121 w (nI (i + 1))) = kc h := kc_sa (by omega)
    have f3 : mm_i (mm_sa h 121 w (nI (i + 1))) 633 80 = nI (w + 1) := e3
    have f0 : mm_a (mm_sa h 121 w (nI (i + 1))) 120 w = nI H := e0
    have sgd : lk_gd (rs_pop (mm_sa h 121 w (nI (i + 1))) w H) = lk_gd (kc h) ∧ ∀ m, lk_GV (kc h) m → lk_GV (rs_pop (mm_sa h 121 w (nI (i + 1))) w H) m := ⟨rfl, fun m z => z⟩
    have rzp : rs_rz (kc h) (rs_pop (mm_sa h 121 w (nI (i + 1))) w H) (w + 1) := rz
    have sP : mm_SH (rs_pop (mm_sa h 121 w (nI (i + 1))) w H) := SH_sa S1
    have p3 : mm_i (rs_pop (mm_sa h 121 w (nI (i + 1))) w H) 633 80 = nI (w + 1) := e3
    have p0 : mm_a (rs_pop (mm_sa h 121 w (nI (i + 1))) w H) 120 w = nI (H - 1) := mm_a1
    have obs : ∀ x, rs_ob h n x → ¬ x = 0 → ∃ o, 0 < o ∧ o < 25 ∧ x = nI o := fun x z => rs_ob_o hn z
    have tp2 : rs_tp (rs_pop (mm_sa h 121 w (nI (i + 1))) w H) w (H - 1) = mm_a h 119 (4 * w + (H - 2)) := by
      show mm_a h 119 (4 * w + (H - 1 - 1)) = _
      rw [show H - 1 - 1 = H - 2 by omega]
    have npu : ∀ k, lk_o h m i = k → (¬ rs_pu k) → mm_go ro (d + 3) mm_m_Mo_step 119 [.ref 80, .int (nI w), .int (nI m), .int (nI i), .int (nI k), .int (mm_a h 98 (20 * m + i)), .null, .null, .null] [.int 0] (mm_sa h 121 w (nI (i + 1))) Q → mm_go ro (d + 3) mm_m_Mo_step 56 [.ref 80, .int (nI w), .int (nI m), .int (nI i), .int (nI (lk_o h m i)), .int (mm_a h 98 (20 * m + i)), .null, .null, .null] [] (mm_sa h 121 w (nI (i + 1))) Q := by
      intro k hk np z
      rw [hk]
      exact l_56 (by omega) S1 hw f3 f0 h4 (fun y => absurd y np) (fun y => absurd y np) (fun _ => z)
    have pul : ∀ k, lk_o h m i = k → rs_pu k → 0 < H → mm_go ro (d + 3) mm_m_Mo_step 119 [.ref 80, .int (nI w), .int (nI m), .int (nI i), .int (nI k), .int (mm_a h 98 (20 * m + i)), .null, .null, .null] [.int (rs_tp (mm_sa h 121 w (nI (i + 1))) w H)] (rs_pop (mm_sa h 121 w (nI (i + 1))) w H) Q → mm_go ro (d + 3) mm_m_Mo_step 56 [.ref 80, .int (nI w), .int (nI m), .int (nI i), .int (nI (lk_o h m i)), .int (mm_a h 98 (20 * m + i)), .null, .null, .null] [] (mm_sa h 121 w (nI (i + 1))) Q := by
      intro k hk np h0 z
      rw [hk]
      exact l_56 (by omega) S1 hw f3 f0 h4 (fun _ => h0) (fun _ => z) (fun y => absurd np y)
    have c18 : lk_o h m i = 0 ∨ lk_o h m i = 1 ∨ lk_o h m i = 2 ∨ lk_o h m i = 3 ∨ lk_o h m i = 4 ∨ lk_o h m i = 5 ∨ lk_o h m i = 6 ∨ lk_o h m i = 7 ∨ lk_o h m i = 8 ∨ lk_o h m i = 9 ∨ lk_o h m i = 10 ∨ lk_o h m i = 11 ∨ lk_o h m i = 12 ∨ lk_o h m i = 13 ∨ lk_o h m i = 14 ∨ lk_o h m i = 15 ∨ lk_o h m i = 16 ∨ lk_o h m i = 17 := by omega
    rcases c18 with k | k | k | k | k | k | k | k | k | k | k | k | k | k | k | k | k | k
    · rw [k] at ok hQ
      exact npu 0 k (by unfold rs_pu; omega) (l_sp_0 S1 hw f3 f0 ok hQ)
    · rw [k] at ok hQ
      exact npu 1 k (by unfold rs_pu; omega) (l_sp_1 S1 hw f3 f0 ok hQ)
    · rw [k] at ok hQ
      refine npu 2 k (by unfold rs_pu; omega) ?_
      rw [IV4 (by omega)]
      exact l_sp_2 S1 hw f3 f0 ok.1 ok.2 hQ
    · rw [k] at ok hQ
      refine pul 3 k (by unfold rs_pu; omega) ok.1 ?_
      rw [IV4 (by omega)]
      exact l_sp_3 sP hw p3 p0 ok.2 hQ
    · rw [k] at ok hQ
      refine pul 4 k (by unfold rs_pu; omega) ok.1 (l_sp_4 sP hw p3 p0 (by have := ok.2; omega) ?_)
      rw [show H - 1 + 1 = H by have := ok.1; omega]
      exact hQ
    · rw [k] at ok hQ
      exact pul 5 k (by unfold rs_pu; omega) ok (l_sp_5 sP hw p3 p0 hQ)
    · rw [k] at ok hQ
      have ok' : 1 < H := ok
      refine pul 6 k (by unfold rs_pu; omega) (by omega) (l_sp_6 sP hw p3 p0 (by omega) (by omega) ?_)
      rw [tp2, show H - 1 - 1 = H - 2 by omega]
      exact hQ
    · rw [k] at ok hQ
      refine npu 7 k (by unfold rs_pu; omega) ?_
      rw [(AV.2.2.1 (by omega)).2]
      refine l_sp_7 (n := n) S1 hw f3 f0 e5 ok.1 hn en ok.2 ?_
      have z : Q .null (rs_make (kc h) (mm_sa h 121 w (nI (i + 1))) w H (mm_i h 629 80).toNatClampNeg (lk_a h m i)) := hQ
      rw [en, mm_ncl (by omega)] at z
      exact z
    · rw [k] at ok hQ
      exact npu 8 k (by unfold rs_pu; omega) (l_sp_8 S1 hw f3 f0 hQ)
    · rw [k] at ok hQ
      obtain ⟨o1, o2, o3⟩ : 0 < H ∧ lk_a h m i < 12 ∧ rs_ob h n (rs_tp h w H) := ok
      refine pul 9 k (by unfold rs_pu; omega) o1 ?_
      rw [IV4 (by omega)]
      exact l_sp_9 sP hw p3 p0 (by omega) o2 (obs _ o3) hQ
    · rw [k] at ok hQ
      obtain ⟨o1, o2, o3⟩ : 1 < H ∧ lk_a h m i < 12 ∧ rs_ob h n (mm_a h 119 (4 * w + (H - 2))) := ok
      refine pul 10 k (by unfold rs_pu; omega) (by omega) ?_
      rw [IV4 (by omega)]
      refine l_sp_10 sP hw p3 p0 (by omega) (by omega) o2 (by rw [tp2]; exact obs _ o3) ?_
      rw [tp2]
      exact hQ
    · rw [k] at ok hQ
      obtain ⟨o1, o2, o3, o4, o5⟩ : lk_a h m i < 10 ∧ lk_MV h (lk_a h m i) ∧ lk_np h (lk_a h m i) + lk_of h (lk_a h m i) ≤ H ∧ rs_cl h nM h w (H - (lk_np h (lk_a h m i) + lk_of h (lk_a h m i))) (lk_a h m i) := ok
      refine npu 11 k (by unfold rs_pu; omega) ?_
      rw [(IV3 k).1]
      refine mm_go_from G (And.intro (fun c => absurd c (by decide)) (And.intro (Nat.le_of_ble_eq_true rfl) ⟨fun c => absurd c (by decide), fun c => absurd c (by decide), fun c => absurd c (by decide), fun c => absurd c (by decide), fun c => absurd c (by decide), fun c => absurd c (by decide), fun c => absurd c (by decide), fun c => absurd c (by decide), fun c => absurd c (by decide), fun c => absurd c (by decide), fun c => absurd c (by decide), fun _ => mm_go_from G ?_, fun c => absurd c (by decide), fun c => absurd c (by decide), fun c => absurd c (by decide), fun c => absurd c (by decide), fun c => absurd c (by decide), fun c => absurd c (by decide), trivial⟩))
      exact And.intro ⟨rfl, k_80 S1⟩ (c_Mo_call (h := (mm_sa h 121 w (nI (i + 1)))) (w := w) (H := H) (B := H - (lk_np h (lk_a h m i) + lk_of h (lk_a h m i))) S1 MN U hw o1 o2 f3 e5 f0 h4 (by show H - (lk_np h (lk_a h m i) + lk_of h (lk_a h m i)) + (lk_np h (lk_a h m i) + lk_of h (lk_a h m i)) = H; omega) o4 o5 eT hT eN hN eP hP (mm_go_from G hQ))
    · rw [k] at ok hQ
      obtain ⟨o1, o2, o3⟩ : 0 < H ∧ lk_a h m i < 6 ∧ rs_ob h n (rs_tp h w H) := ok
      refine pul 12 k (by unfold rs_pu; omega) o1 ?_
      rw [(AV.2.2.1 (by omega)).2]
      refine l_sp_12 (K := kc h) (D := 0) sP hw p3 p0 sgd U (by omega) o2 (fun z => ?_) rzp hQ
      rcases o3 with y | ⟨o, c, y1, y2, y3, y4, y5⟩
      · exact absurd y z
      · exact ⟨o, y1, by omega, y3, by show (mm_a h 116 o).toInt < 6; rw [y5, mm_nt (by omega)]; omega⟩
    · rw [k] at ok hQ
      exact npu 13 k (by unfold rs_pu; omega) (l_sp_13 S1 hw f3 f0 hQ)
    · rw [k] at ok hQ
      exact pul 14 k (by unfold rs_pu; omega) ok (l_sp_14 sP hw p3 p0 hQ)
    · rw [k] at ok hQ
      exact pul 15 k (by unfold rs_pu; omega) ok (l_sp_15 sP hw p3 p0 hQ)
    · rw [k] at ok hQ
      obtain ⟨o1, o2, o3⟩ : (mm_a h 93 (4 * m + 3) = -2 ∨ 0 < H) ∧ (0 < w → ∃ g, mm_a h 120 (w - 1) = nI g ∧ g ≤ 4 ∧ (mm_a h 93 (4 * m + 3) = -2 ∨ g < 4)) ∧ (0 ≤ (mm_a h 93 (4 * m + 3)).toInt → rs_ob h n (rs_tp h w H)) := ok
      have hg : ∃ g, 0 < w → mm_a h 120 (w - 1) = nI g ∧ g ≤ 4 ∧ (mm_a h 93 (4 * m + 3) = -2 ∨ g < 4) := by
        by_cases q : 0 < w
        · obtain ⟨g, z⟩ := o2 q
          exact ⟨g, fun _ => z⟩
        · exact ⟨0, fun z => absurd z q⟩
      obtain ⟨g, hg⟩ := hg
      refine npu 16 k (by unfold rs_pu; omega) (l_sp_16 (g := g) S1 hw f3 f0 hm r2 h4 o1 hg (fun z _ y => ?_) hQ)
      obtain ⟨o, _, y2, y3⟩ := obs _ (o3 z) y
      exact ⟨o, y2, y3⟩
    · rw [k] at ok hQ
      obtain ⟨o1, o3⟩ : 0 < H ∧ rs_ob h n (rs_tp h w H) := ok
      exact pul 17 k (by unfold rs_pu; omega) o1 (l_sp_17 (K := kc h) sP hw p3 p0 sgd (obs _ o3) rzp hQ)
  refine mm_ev_at 56 (Z := mm_m_Mo_step) rfl rfl (Nat.le_of_ble_eq_true rfl) rfl ?_
  refine And.intro (k_80 I) (mm_rf e3 (And.intro (k_80 I) (mm_rf (r_626 I) (And.intro ⟨k_122 I, mm_inb 6 (n_122 I) bw'⟩ (mm_rf (show mm_a h 122 (nI (w + 1) - 1).toNatClampNeg = nI m by rw [cw']; exact e2) (And.intro (k_80 I) (mm_rf (r_625 I) (And.intro ⟨k_121 I, mm_inb 6 (n_121 I) bw'⟩ (mm_rf (show mm_a h 121 (nI (w + 1) - 1).toNatClampNeg = nI i by rw [cw']; exact e1) (And.intro (k_80 I) (mm_rf (r_595 I) (And.intro ⟨k_97 I, mm_inb 200 (n_97 I) bX⟩ (mm_rf (show mm_a h 97 ((Int8.ofInt 20).toInt32 * nI m + nI i).toNatClampNeg = nI (lk_o h m i) by rw [cX]; exact o7) (And.intro (k_80 I) (mm_rf (r_596 I) (And.intro ⟨k_98 I, mm_inb 200 (n_98 I) bX⟩ (mm_rf (show mm_a h 98 ((Int8.ofInt 20).toInt32 * nI m + nI i).toNatClampNeg = mm_a h 98 (20 * m + i) by rw [cX]) (And.intro (k_80 I) (mm_rf (r_625 I) (And.intro ⟨k_121 I, mm_inb 6 (n_121 I) bw'⟩ ?_))))))))))))))))))))
  show mm_go ro (d + 3) mm_m_Mo_step 56 [.ref 80, .int (nI (w + 1) - 1), .int (nI m), .int (nI i), .int (nI (lk_o h m i)), .int (mm_a h 98 (20 * m + i)), .null, .null, .null] [] (mm_sa h 121 (nI (w + 1) - 1).toNatClampNeg (nI i + 1)) Q
  rw [cw', ew, ← nI_succ]
  exact key
