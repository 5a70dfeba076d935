/-! THE REFERENCE'S FRAME AT HAND: set, push, keep, settle, take -/
def lk_bn (g : Nat → mm_V) : Prop := ∀ v, (g v).2.2.1 = 0 ∨ (g v).2.2.1 = 1
theorem lk_bn_up {g : Nat → mm_V} {j : Nat} {x : mm_V} (h : lk_bn g) (hx : x.2.2.1 = 0 ∨ x.2.2.1 = 1) : lk_bn (lk_up g j x) := by
  intro v
  by_cases q : v = j
  · rw [q, lk_up_t]; exact hx
  · rw [lk_up_f q]; exact h v
theorem lk_up_up {g : Nat → mm_V} {j : Nat} {x y : mm_V} : lk_up (lk_up g j x) j y = lk_up g j y := by
  funext v
  by_cases q : v = j
  · rw [q, lk_up_t, lk_up_t]
  · rw [lk_up_f q, lk_up_f q, lk_up_f q]
def lk_pre (A g : Nat → mm_V) (j : Nat) : Nat → mm_V := fun v => if v < j then A v else g v
theorem lk_pre_t {A g : Nat → mm_V} {j v : Nat} (h : v < j) : lk_pre A g j v = A v := if_pos h
theorem lk_pre_f {A g : Nat → mm_V} {j v : Nat} (h : ¬ v < j) : lk_pre A g j v = g v := if_neg h
theorem lk_pre_0 {A g : Nat → mm_V} : lk_pre A g 0 = g := funext (fun _ => if_neg (Nat.not_lt_zero _))
theorem lk_pre_up {A g : Nat → mm_V} {j : Nat} : lk_up (lk_pre A g j) j (A j) = lk_pre A g (j + 1) := by
  funext v
  by_cases q : v = j
  · rw [q, lk_up_t, lk_pre_t (by omega)]
  · rw [lk_up_f q]
    by_cases q2 : v < j
    · rw [lk_pre_t q2, lk_pre_t (by omega)]
    · rw [lk_pre_f q2, lk_pre_f (by omega)]
theorem lk_pre_same {A g : Nat → mm_V} {j : Nat} (h : A j = g j) : lk_pre A g (j + 1) = lk_pre A g j := by
  funext v
  by_cases q : v = j
  · rw [q, lk_pre_t (by omega), lk_pre_f (by omega), h]
  · by_cases q2 : v < j
    · rw [lk_pre_t q2, lk_pre_t (by omega)]
    · rw [lk_pre_f q2, lk_pre_f (by omega)]
theorem lk_bn_pre {A g : Nat → mm_V} {j : Nat} (h : lk_bn A) (hg : lk_bn g) : lk_bn (lk_pre A g j) := by
  intro v
  by_cases q : v < j
  · rw [lk_pre_t q]; exact h v
  · rw [lk_pre_f q]; exact hg v
theorem c_Mo_set {ro : mm_Ro} {d j : Nat} {h0 : mm_H} {e : Int32 × Int32 × Int32} {c : mm_F} {hd : Nat → Int32 × Int32 × Int32} {sv : Nat → mm_V} {x k r n w : Int32} {Q : Value → mm_H → Prop} (I : mm_SH h0) (hx : x = nI j) (hj : j < 10) (hn : n = 0 ∨ n = 1) (hQ : Q .null (lk_L h0 e (c.1, c.2.1, c.2.2.1, lk_up c.2.2.2 j (k, r, n, w, -1)) hd sv)) : mm_ev ro (d + 1) n_Mo_set [.ref 80, .int x, .int k, .int r, .int n, .int w] (lk_L h0 e c hd sv) Q := by
  subst hx
  have J : mm_SH (lk_L h0 e c hd sv) := I
  have hB : 0 ≤ (nI j).toInt ∧ (nI j).toInt < ((10 : Nat) : Int) := mm_nb hj (by omega)
  have hc : (nI j).toNatClampNeg = j := mm_ncl (by omega)
  refine mm_ev_in (Z := mm_m_Mo_set) rfl rfl (Nat.le_of_ble_eq_true rfl) rfl ?_
  refine And.intro (k_80 J) (mm_rf (r_614 J) (And.intro ⟨k_110 J, mm_inb 10 (n_110 J) hB⟩ (And.intro (k_80 J) (mm_rf (r_615 J) (And.intro ⟨k_111 J, mm_inb 10 (n_111 J) hB⟩ (And.intro (k_80 J) (mm_rf (r_618 J) (And.intro ⟨k_114 J, mm_inb 10 (n_114 J) hB, hn⟩ (And.intro (k_80 J) (mm_rf (r_616 J) (And.intro ⟨k_112 J, mm_inb 10 (n_112 J) hB⟩ (And.intro (k_80 J) (mm_rf (r_617 J) (And.intro ⟨k_113 J, mm_inb 10 (n_113 J) hB⟩ (?_)))))))))))))))
  refine mm_qq hQ rfl ?_
  show mm_sa (mm_sa (mm_sa (mm_sa (mm_sa (lk_L h0 e c hd sv) 110 (nI j).toNatClampNeg k) 111 (nI j).toNatClampNeg r) 114 (nI j).toNatClampNeg n) 112 (nI j).toNatClampNeg w) 113 (nI j).toNatClampNeg (-1) = _
  rw [hc]
  exact lw_set
theorem c_Mo_push {ro : mm_Ro} {d j : Nat} {h0 : mm_H} {e : Int32 × Int32 × Int32} {c : mm_F} {hd : Nat → Int32 × Int32 × Int32} {sv : Nat → mm_V} {k r n w : Int32} {Q : Value → mm_H → Prop} (I : mm_SH h0) (hx : 6 + c.1 = nI j) (hj : j < 10) (hn : n = 0 ∨ n = 1) (hQ : Q .null (lk_L h0 e (c.1 + 1, c.2.1, c.2.2.1, lk_up c.2.2.2 j (k, r, n, w, -1)) hd sv)) : mm_ev ro (d + 2) n_Mo_push [.ref 80, .int k, .int r, .int n, .int w] (lk_L h0 e c hd sv) Q := by
  have J : mm_SH (lk_L h0 e c hd sv) := I
  refine mm_ev_in (Z := mm_m_Mo_push) rfl rfl (Nat.le_of_ble_eq_true rfl) rfl ?_
  refine And.intro (k_80 J) (mm_rf (show mm_i (lk_L h0 e c hd sv) 611 80 = c.1 from rfl) (And.intro ⟨rfl, k_80 J⟩ (c_Mo_set I hx hj hn (And.intro (k_80 J) (mm_rf rfl (And.intro (k_80 J) (?_)))))))
  exact mm_qq hQ rfl lw_611
theorem c_Mo_pushSaid {ro : mm_Ro} {d j : Nat} {h0 : mm_H} {e : Int32 × Int32 × Int32} {c : mm_F} {hd : Nat → Int32 × Int32 × Int32} {sv : Nat → mm_V} {s n w : Int32} {Q : Value → mm_H → Prop} (I : mm_SH h0) (hx : 6 + c.1 = nI j) (hj : j < 10) (hn : n = 0 ∨ n = 1) (hQ : Q .null (lk_L h0 e (c.1 + 1, c.2.1, c.2.2.1, lk_up c.2.2.2 j (lk_sv s n w)) hd sv)) : mm_ev ro (d + 3) n_Mo_pushSaid [.ref 80, .int s, .int n, .int w] (lk_L h0 e c hd sv) Q := by
  have J : mm_SH (lk_L h0 e c hd sv) := I
  refine mm_ev_in (Z := mm_m_Mo_pushSaid) rfl rfl (Nat.le_of_ble_eq_true rfl) rfl ?_
  refine And.intro (fun c_2 => mm_go_from (mm_hM n_Mo_pushSaid rfl) ?_) (fun c_2 => ?_)
  · have q : ¬ s = -1 := c_2
    have e1 : lk_sv s n w = (3, s, n, w, -1) := if_neg q
    rw [e1] at hQ
    exact And.intro ⟨rfl, k_80 J⟩ (c_Mo_push I hx hj hn hQ)
  · have q : s = -1 := mm_no c_2
    have e1 : lk_sv s n w = (1, -1, 0, w, -1) := if_pos q
    rw [e1] at hQ
    exact And.intro ⟨rfl, k_80 J⟩ (c_Mo_push I hx hj (Or.inl rfl) (mm_go_from (mm_hM n_Mo_pushSaid rfl) hQ))
/-- a slot as it is kept: a local has no origin -/
def lk_kp (v : Nat) (x : mm_V) : mm_V := if v < 6 then lk_wo x (-1) else x
theorem lk_10 {i v : Nat} : (Int8.ofInt 10).toInt32 * nI i + nI v = nI (10 * i + v) := mm_lin 10 i v
theorem c_Mo_keep {ro : mm_Ro} {d i v : Nat} {h0 : mm_H} {e : Int32 × Int32 × Int32} {c : mm_F} {hd : Nat → Int32 × Int32 × Int32} {sv : Nat → mm_V} {Q : Value → mm_H → Prop} (I : mm_SH h0) (hi : i < 20) (hv : v < 10) (hb : lk_bn c.2.2.2) (hQ : Q .null (lk_L h0 e c hd (lk_up sv (10 * i + v) (lk_kp v (c.2.2.2 v))))) : mm_ev ro (d + 1) n_Mo_keep [.ref 80, .int (nI i), .int (nI v)] (lk_L h0 e c hd sv) Q := by
  have J : mm_SH (lk_L h0 e c hd sv) := I
  have hB : 0 ≤ (nI v).toInt ∧ (nI v).toInt < ((10 : Nat) : Int) := mm_nb hv (by omega)
  have hc : (nI v).toNatClampNeg = v := mm_ncl (by omega)
  have hX : 0 ≤ ((Int8.ofInt 10).toInt32 * nI i + nI v).toInt ∧ ((Int8.ofInt 10).toInt32 * nI i + nI v).toInt < ((200 : Nat) : Int) := by rw [lk_10]; exact mm_nb (by omega) (by omega)
  have hXc : ((Int8.ofInt 10).toInt32 * nI i + nI v).toNatClampNeg = 10 * i + v := by rw [lk_10]; exact mm_ncl (by omega)
  have hn : mm_a (lk_L h0 e c hd sv) 114 (nI v).toNatClampNeg = (c.2.2.2 v).2.2.1 := by rw [hc]; rfl
  refine mm_ev_in (Z := mm_m_Mo_keep) rfl rfl (Nat.le_of_ble_eq_true rfl) rfl ?_
  refine And.intro (k_80 J) (mm_rf (r_603 J) (And.intro (k_80 J) (mm_rf (r_614 J) (And.intro ⟨k_110 J, mm_inb 10 (n_110 J) hB⟩ (mm_rf (show mm_a (lk_L h0 e c hd sv) 110 (nI v).toNatClampNeg = (c.2.2.2 v).1 by rw [hc]; rfl) (And.intro ⟨k_105 J, mm_inb 200 (n_105 J) hX⟩ (And.intro (k_80 J) (mm_rf (r_604 J) (And.intro (k_80 J) (mm_rf (r_615 J) (And.intro ⟨k_111 J, mm_inb 10 (n_111 J) hB⟩ (mm_rf (show mm_a (lk_L h0 e c hd sv) 111 (nI v).toNatClampNeg = (c.2.2.2 v).2.1 by rw [hc]; rfl) (And.intro ⟨k_106 J, mm_inb 200 (n_106 J) hX⟩ (And.intro (k_80 J) (mm_rf (r_607 J) (And.intro (k_80 J) (mm_rf (r_618 J) (And.intro ⟨k_114 J, mm_inb 10 (n_114 J) hB⟩ (mm_rf hn (And.intro ⟨k_109 J, mm_inb 200 (n_109 J) hX, hb v⟩ (And.intro (k_80 J) (mm_rf (r_605 J) (And.intro (k_80 J) (mm_rf (r_616 J) (And.intro ⟨k_112 J, mm_inb 10 (n_112 J) hB⟩ (mm_rf (show mm_a (lk_L h0 e c hd sv) 112 (nI v).toNatClampNeg = (c.2.2.2 v).2.2.2.1 by rw [hc]; rfl) (And.intro ⟨k_107 J, mm_inb 200 (n_107 J) hX⟩ (And.intro (k_80 J) (mm_rf (r_606 J) (And.intro (fun c_63 => mm_go_from (mm_hM n_Mo_keep rfl) ?_) (fun c_63 => ?_)))))))))))))))))))))))))))))))
  · have q : (6 : Int) ≤ (nI v).toInt := c_63
    rw [mm_nt (by omega)] at q
    refine And.intro (k_80 J) (mm_rf (r_617 J) (And.intro ⟨k_113 J, mm_inb 10 (n_113 J) hB⟩ (mm_rf (show mm_a (lk_L h0 e c hd sv) 113 (nI v).toNatClampNeg = (c.2.2.2 v).2.2.2.2 by rw [hc]; rfl) (And.intro ⟨k_108 J, mm_inb 200 (n_108 J) hX⟩ (?_)))))
    have e1 : lk_kp v (c.2.2.2 v) = c.2.2.2 v := if_neg (by omega)
    rw [e1] at hQ
    refine mm_qq hQ rfl ?_
    show mm_sa (mm_sa (mm_sa (mm_sa (mm_sa (lk_L h0 e c hd sv) 105 ((Int8.ofInt 10).toInt32 * nI i + nI v).toNatClampNeg _) 106 ((Int8.ofInt 10).toInt32 * nI i + nI v).toNatClampNeg _) 109 ((Int8.ofInt 10).toInt32 * nI i + nI v).toNatClampNeg _) 107 ((Int8.ofInt 10).toInt32 * nI i + nI v).toNatClampNeg _) 108 ((Int8.ofInt 10).toInt32 * nI i + nI v).toNatClampNeg _ = _
    rw [hXc]
    exact lw_keep
  · have q : ¬ (6 : Int) ≤ (nI v).toInt := c_63
    rw [mm_nt (by omega)] at q
    refine mm_go_from (mm_hM n_Mo_keep rfl) (And.intro ⟨k_108 J, mm_inb 200 (n_108 J) hX⟩ (?_))
    have e1 : lk_kp v (c.2.2.2 v) = lk_wo (c.2.2.2 v) (-1) := if_pos (by omega)
    rw [e1] at hQ
    refine mm_qq hQ rfl ?_
    show mm_sa (mm_sa (mm_sa (mm_sa (mm_sa (lk_L h0 e c hd sv) 105 ((Int8.ofInt 10).toInt32 * nI i + nI v).toNatClampNeg _) 106 ((Int8.ofInt 10).toInt32 * nI i + nI v).toNatClampNeg _) 109 ((Int8.ofInt 10).toInt32 * nI i + nI v).toNatClampNeg _) 107 ((Int8.ofInt 10).toInt32 * nI i + nI v).toNatClampNeg _) 108 ((Int8.ofInt 10).toInt32 * nI i + nI v).toNatClampNeg _ = _
    rw [hXc]
    exact lw_keep
/-- what settle makes of a slot -/
def lk_sk (k : Int32) (x : mm_V) : mm_V := if x.1 = 4 then (if k = 0 then (0, -1, x.2.2) else (k, x.2)) else x
theorem lk_6 {H : Nat} : (Int8.ofInt 6).toInt32 + nI H = nI (6 + H) := nI_add 6 H
theorem l_Mo_settle {ro : mm_Ro} {d H : Nat} {h0 : mm_H} {e : Int32 × Int32 × Int32} {s f k : Int32} {g : Nat → mm_V} {hd : Nat → Int32 × Int32 × Int32} {sv : Nat → mm_V} {Q : Value → mm_H → Prop} (I : mm_SH h0) (hH : H ≤ 4) (hQ : Q .null (lk_L h0 e (nI H, -1, 0, lk_pre (fun v => lk_sk k (g v)) g (6 + H)) hd sv)) : ∀ (n j : Nat), j + n = 6 + H → mm_go ro d mm_m_Mo_settle 2 [.ref 80, .int k, .int (nI j)] [] (lk_L h0 e (nI H, s, f, lk_pre (fun v => lk_sk k (g v)) g j) hd sv) Q := by
  intro n
  induction n with
  | zero =>
    intro j hj
    have J : mm_SH (lk_L h0 e (nI H, s, f, lk_pre (fun v => lk_sk k (g v)) g j) hd sv) := I
    refine mm_go_from (mm_hM n_Mo_settle rfl) (And.intro (k_80 J) (mm_rf (show mm_i (lk_L h0 e (nI H, s, f, lk_pre (fun v => lk_sk k (g v)) g j) hd sv) 611 80 = nI H from rfl) (And.intro (fun c_10 => mm_go_from (mm_hM n_Mo_settle rfl) ?_) (fun c_10 => ?_))))
    · refine And.intro (k_80 J) (And.intro (k_80 J) ?_)
      refine mm_qq hQ rfl ?_
      rw [show j = 6 + H by omega]
      show mm_si (mm_si (lk_L h0 e (nI H, s, f, lk_pre (fun v => lk_sk k (g v)) g (6 + H)) hd sv) 612 80 (-1)) 613 80 0 = _
      rw [lw_612, lw_613]
    · have c : ¬ ((Int8.ofInt 6).toInt32 + nI H).toInt ≤ (nI j).toInt := c_10
      rw [lk_6, mm_nt (by omega), mm_nt (by omega)] at c
      omega
  | succ n ih =>
    intro j hj
    have J : mm_SH (lk_L h0 e (nI H, s, f, lk_pre (fun v => lk_sk k (g v)) g j) hd sv) := I
    have hB : 0 ≤ (nI j).toInt ∧ (nI j).toInt < ((10 : Nat) : Int) := mm_nb (by omega) (by omega)
    have hc : (nI j).toNatClampNeg = j := mm_ncl (by omega)
    have nx := ih (j + 1) (by omega)
    rw [nI_succ] at nx
    have ek : mm_a (lk_L h0 e (nI H, s, f, lk_pre (fun v => lk_sk k (g v)) g j) hd sv) 110 (nI j).toNatClampNeg = (g j).1 := by
      rw [hc]
      show (lk_pre (fun v => lk_sk k (g v)) g j j).1 = _
      rw [lk_pre_f (by omega)]
    refine mm_go_from (mm_hM n_Mo_settle rfl) (And.intro (k_80 J) (mm_rf (show mm_i (lk_L h0 e (nI H, s, f, lk_pre (fun v => lk_sk k (g v)) g j) hd sv) 611 80 = nI H from rfl) (And.intro (fun c_10 => ?_) (fun c_10 => ?_))))
    · have c : ((Int8.ofInt 6).toInt32 + nI H).toInt ≤ (nI j).toInt := c_10
      rw [lk_6, mm_nt (by omega), mm_nt (by omega)] at c
      omega
    · refine And.intro (k_80 J) (mm_rf (r_614 J) (And.intro ⟨k_110 J, mm_inb 10 (n_110 J) hB⟩ (mm_rf ek (And.intro (fun c_20 => mm_go_from (mm_hM n_Mo_settle rfl) ?_) (fun c_20 => mm_go_from (mm_hM n_Mo_settle rfl) ?_)))))
      · have q : (g j).1 = 4 := c_20
        refine And.intro (k_80 J) (mm_rf (r_614 J) (And.intro ⟨k_110 J, mm_inb 10 (n_110 J) hB⟩ (And.intro (fun c_34 => mm_go_from (mm_hM n_Mo_settle rfl) ?_) (fun c_34 => ?_))))
        · have k0 : ¬ k = 0 := c_34
          have e1 : lk_sk k (g j) = (k, (g j).2) := (if_pos q).trans (if_neg k0)
          rw [← lk_pre_up, e1] at nx
          have e2 : mm_sa (lk_L h0 e (nI H, s, f, lk_pre (fun v => lk_sk k (g v)) g j) hd sv) 110 (nI j).toNatClampNeg k = lk_L h0 e (nI H, s, f, lk_up (lk_pre (fun v => lk_sk k (g v)) g j) j (k, (g j).2)) hd sv := by
            rw [hc, lw_k]
            show lk_L h0 e (nI H, s, f, lk_up (lk_pre (fun v => lk_sk k (g v)) g j) j (k, (lk_pre (fun v => lk_sk k (g v)) g j j).2)) hd sv = _
            rw [lk_pre_f (by omega)]
          rw [← e2] at nx
          exact nx
        · have k0 : k = 0 := mm_no c_34
          refine And.intro (k_80 J) (mm_rf (r_615 J) (And.intro ⟨k_111 J, mm_inb 10 (n_111 J) hB⟩ ?_))
          have e1 : lk_sk k (g j) = (0, -1, (g j).2.2) := (if_pos q).trans (if_pos k0)
          rw [← lk_pre_up, e1] at nx
          have e2 : mm_sa (mm_sa (lk_L h0 e (nI H, s, f, lk_pre (fun v => lk_sk k (g v)) g j) hd sv) 110 (nI j).toNatClampNeg k) 111 (nI j).toNatClampNeg (-1) = lk_L h0 e (nI H, s, f, lk_up (lk_pre (fun v => lk_sk k (g v)) g j) j (0, -1, (g j).2.2)) hd sv := by
            rw [hc, lw_kc]
            show lk_L h0 e (nI H, s, f, lk_up (lk_pre (fun v => lk_sk k (g v)) g j) j (k, -1, (lk_pre (fun v => lk_sk k (g v)) g j j).2.2)) hd sv = _
            rw [lk_pre_f (by omega), k0]
          rw [← e2] at nx
          exact nx
      · have q : ¬ (g j).1 = 4 := c_20
        have e1 : lk_sk k (g j) = g j := if_neg q
        rw [lk_pre_same e1] at nx
        exact nx
theorem c_Mo_settle {ro : mm_Ro} {d H : Nat} {h0 : mm_H} {e : Int32 × Int32 × Int32} {s f k : Int32} {g : Nat → mm_V} {hd : Nat → Int32 × Int32 × Int32} {sv : Nat → mm_V} {Q : Value → mm_H → Prop} (I : mm_SH h0) (hH : H ≤ 4) (hQ : Q .null (lk_L h0 e (nI H, -1, 0, lk_pre (fun v => lk_sk k (g v)) g (6 + H)) hd sv)) : mm_ev ro (d + 1) n_Mo_settle [.ref 80, .int k] (lk_L h0 e (nI H, s, f, g) hd sv) Q := by
  refine mm_ev_at 2 (Z := mm_m_Mo_settle) rfl rfl (Nat.le_of_ble_eq_true rfl) rfl ?_
  have := l_Mo_settle (ro := ro) (d := d) (s := s) (f := f) I hH hQ (6 + H) 0 (Nat.zero_add _)
  rw [lk_pre_0] at this
  exact this
theorem l_Mo_take {ro : mm_Ro} {d i N : Nat} {h0 : mm_H} {e : Int32 × Int32 × Int32} {c : mm_F} {hd : Nat → Int32 × Int32 × Int32} {sv : Nat → mm_V} {Q : Value → mm_H → Prop} (I : mm_SH h0) (hi : i < 20) (hN : 6 + c.1 = nI N) (hN10 : N ≤ 10) (hb : lk_bn sv) (hQ : Q .null (lk_L h0 e (c.1, c.2.1, c.2.2.1, lk_pre (fun v => sv (10 * i + v)) c.2.2.2 N) hd sv)) : ∀ (n j : Nat) (w : Value), j + n = N → mm_go ro (d + 1) mm_m_Mo_take 32 [.ref 80, .int (nI i), .int (nI j), w] [] (lk_L h0 e (c.1, c.2.1, c.2.2.1, lk_pre (fun v => sv (10 * i + v)) c.2.2.2 j) hd sv) Q := by
  intro n
  induction n with
  | zero =>
    intro j w hj
    have J : mm_SH (lk_L h0 e (c.1, c.2.1, c.2.2.1, lk_pre (fun v => sv (10 * i + v)) c.2.2.2 j) hd sv) := I
    refine mm_go_from (mm_hM n_Mo_take rfl) (And.intro (k_80 J) (mm_rf (show mm_i (lk_L h0 e (c.1, c.2.1, c.2.2.1, lk_pre (fun v => sv (10 * i + v)) c.2.2.2 j) hd sv) 611 80 = c.1 from rfl) (And.intro (fun c_40 => mm_go_from (mm_hM n_Mo_take rfl) ?_) (fun c_40 => ?_))))
    · rw [show j = N by omega]
      exact hQ
    · have q : ¬ ((6 : Int32) + c.1).toInt ≤ (nI j).toInt := c_40
      rw [hN, mm_nt (by omega), mm_nt (by omega)] at q
      omega
  | succ n ih =>
    intro j w hj
    have J : mm_SH (lk_L h0 e (c.1, c.2.1, c.2.2.1, lk_pre (fun v => sv (10 * i + v)) c.2.2.2 j) hd sv) := I
    have hB : 0 ≤ (nI j).toInt ∧ (nI j).toInt < ((10 : Nat) : Int) := mm_nb (by omega) (by omega)
    have hc : (nI j).toNatClampNeg = j := mm_ncl (by omega)
    have hX : 0 ≤ ((Int8.ofInt 10).toInt32 * nI i + nI j).toInt ∧ ((Int8.ofInt 10).toInt32 * nI i + nI j).toInt < ((200 : Nat) : Int) := by rw [lk_10]; exact mm_nb (by omega) (by omega)
    have hXc : ((Int8.ofInt 10).toInt32 * nI i + nI j).toNatClampNeg = 10 * i + j := by rw [lk_10]; exact mm_ncl (by omega)
    have nx := ih (j + 1) (.int ((Int8.ofInt 10).toInt32 * nI i + nI j)) (by omega)
    rw [nI_succ] at nx
    refine mm_go_from (mm_hM n_Mo_take rfl) (And.intro (k_80 J) (mm_rf (show mm_i (lk_L h0 e (c.1, c.2.1, c.2.2.1, lk_pre (fun v => sv (10 * i + v)) c.2.2.2 j) hd sv) 611 80 = c.1 from rfl) (And.intro (fun c_40 => ?_) (fun c_40 => ?_))))
    · have q : ((6 : Int32) + c.1).toInt ≤ (nI j).toInt := c_40
      rw [hN, mm_nt (by omega), mm_nt (by omega)] at q
      omega
    · refine And.intro (k_80 J) (mm_rf (r_603 J) (And.intro ⟨k_105 J, mm_inb 200 (n_105 J) hX⟩ (mm_rf (b := (sv (10 * i + j)).1) (by rw [hXc]; rfl) (And.intro (k_80 J) (mm_rf (r_604 J) (And.intro ⟨k_106 J, mm_inb 200 (n_106 J) hX⟩ (mm_rf (b := (sv (10 * i + j)).2.1) (by rw [hXc]; rfl) (And.intro (k_80 J) (mm_rf (r_607 J) (And.intro ⟨k_109 J, mm_inb 200 (n_109 J) hX⟩ (mm_rf (b := (sv (10 * i + j)).2.2.1) (by rw [hXc]; rfl) (And.intro (k_80 J) (mm_rf (r_605 J) (And.intro ⟨k_107 J, mm_inb 200 (n_107 J) hX⟩ (mm_rf (b := (sv (10 * i + j)).2.2.2.1) (by rw [hXc]; rfl) (And.intro ⟨rfl, k_80 J⟩ (c_Mo_set I rfl (by omega) (hb _) ?_)))))))))))))))))
      refine And.intro (k_80 J) (mm_rf (r_617 J) (And.intro (k_80 J) (mm_rf (r_606 J) (And.intro ⟨k_108 J, mm_inb 200 (n_108 J) hX⟩ (mm_rf (b := (sv (10 * i + j)).2.2.2.2) (by rw [hXc]; rfl) (And.intro ⟨k_113 J, mm_inb 10 (n_113 J) hB⟩ ?_))))))
      rw [← lk_pre_up] at nx
      rw [hc, lw_o]
      show mm_go ro (d + 1) mm_m_Mo_take 32 _ [] (lk_L h0 e (c.1, c.2.1, c.2.2.1, lk_up (lk_up (lk_pre (fun v => sv (10 * i + v)) c.2.2.2 j) j _) j (lk_wo (lk_up (lk_pre (fun v => sv (10 * i + v)) c.2.2.2 j) j _ j) _)) hd sv) Q
      rw [lk_up_t, lk_up_up]
      exact nx
theorem c_Mo_take {ro : mm_Ro} {d i N : Nat} {h0 : mm_H} {e : Int32 × Int32 × Int32} {c : mm_F} {hd : Nat → Int32 × Int32 × Int32} {sv : Nat → mm_V} {Q : Value → mm_H → Prop} (I : mm_SH h0) (hi : i < 20) (hN : 6 + (hd i).1 = nI N) (hN10 : N ≤ 10) (hb : lk_bn sv) (hQ : Q .null (lk_L h0 e ((hd i).1, (hd i).2.1, (hd i).2.2, lk_pre (fun v => sv (10 * i + v)) c.2.2.2 N) hd sv)) : mm_ev ro (d + 2) n_Mo_take [.ref 80, .int (nI i)] (lk_L h0 e c hd sv) Q := by
  have J : mm_SH (lk_L h0 e c hd sv) := I
  have hB : 0 ≤ (nI i).toInt ∧ (nI i).toInt < ((20 : Nat) : Int) := mm_nb hi (by omega)
  have hc : (nI i).toNatClampNeg = i := mm_ncl (by omega)
  refine mm_ev_at 32 (Z := mm_m_Mo_take) rfl rfl (Nat.le_of_ble_eq_true rfl) rfl ?_
  refine And.intro (k_80 J) (mm_rf (r_600 J) (And.intro ⟨k_102 J, mm_inb 20 (n_102 J) hB⟩ (mm_rf (b := (hd i).1) (by rw [hc]; rfl) (And.intro (k_80 J) (And.intro (k_80 J) (mm_rf (r_601 J) (And.intro ⟨k_103 J, mm_inb 20 (n_103 J) hB⟩ (mm_rf (b := (hd i).2.1) (by rw [hc]; rfl) (And.intro (k_80 J) (And.intro (k_80 J) (mm_rf (r_602 J) (And.intro ⟨k_104 J, mm_inb 20 (n_104 J) hB⟩ (mm_rf (b := (hd i).2.2) (by rw [hc]; rfl) (And.intro (k_80 J) (?_)))))))))))))))
  have := l_Mo_take (ro := ro) (d := d) (c := ((hd i).1, (hd i).2.1, (hd i).2.2, c.2.2.2)) I hi hN hN10 hb hQ N 0 .null (Nat.zero_add _)
  rw [lk_pre_0] at this
  rw [lw_611, lw_612, lw_613]
  exact this
