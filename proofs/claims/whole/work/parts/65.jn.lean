/-! THE REFERENCE: join -/
theorem l_jn_E {ro : mm_Ro} {d X : Nat} {h0 : mm_H} {e : Int32 × Int32 × Int32} {c : mm_F} {hd : Nat → Int32 × Int32 × Int32} {sv : Nat → mm_V} {vv vs : Value} {k r n w o : Int32} {Q : Value → mm_H → Prop} (I : mm_SH h0) (hX : X < 200) (hn : n = 0 ∨ n = 1) (hQ : Q .null (lk_L h0 e c hd (lk_up sv X (k, r, n, w, o)))) : mm_go ro d mm_m_Mo_join 275 [.ref 80, .int (nI X), vv, vs, .int k, .int r, .int n, .int w, .int o] [] (lk_L h0 e c hd sv) Q := by
  have J : mm_SH (lk_L h0 e c hd sv) := I
  have hB : 0 ≤ (nI X).toInt ∧ (nI X).toInt < ((200 : Nat) : Int) := mm_nb hX (by omega)
  have hc : (nI X).toNatClampNeg = X := mm_ncl (by omega)
  refine mm_go_from (mm_hM n_Mo_join rfl) (And.intro (k_80 J) (mm_rf (r_603 J) (And.intro ⟨k_105 J, mm_inb 200 (n_105 J) hB⟩ (And.intro (k_80 J) (mm_rf (r_604 J) (And.intro ⟨k_106 J, mm_inb 200 (n_106 J) hB⟩ (And.intro (k_80 J) (mm_rf (r_607 J) (And.intro ⟨k_109 J, mm_inb 200 (n_109 J) hB, hn⟩ (And.intro (k_80 J) (mm_rf (r_605 J) (And.intro ⟨k_107 J, mm_inb 200 (n_107 J) hB⟩ (And.intro (k_80 J) (mm_rf (r_606 J) (And.intro ⟨k_108 J, mm_inb 200 (n_108 J) hB⟩ ?_)))))))))))))))
  refine mm_qq hQ rfl ?_
  show mm_sa (mm_sa (mm_sa (mm_sa (mm_sa (lk_L h0 e c hd sv) 105 (nI X).toNatClampNeg k) 106 (nI X).toNatClampNeg r) 109 (nI X).toNatClampNeg n) 107 (nI X).toNatClampNeg w) 108 (nI X).toNatClampNeg o = _
  rw [hc]
  exact lw_keep
theorem l_jn_D {ro : mm_Ro} {d X : Nat} {h0 : mm_H} {e : Int32 × Int32 × Int32} {c : mm_F} {hd : Nat → Int32 × Int32 × Int32} {sv : Nat → mm_V} {vv vs v8 : Value} {k r n w o : Int32} {Q : Value → mm_H → Prop} (I : mm_SH h0) (hX : X < 200) (hn : n = 0 ∨ n = 1) (hQ : ∀ b : Int32, (b = 1 ∧ ¬ (k, r, n, w, o) = sv X) ∨ (b = e.2.2 ∧ (k, r, n, w, o) = sv X) → Q .null (lk_L h0 (e.1, e.2.1, b) c hd (lk_up sv X (k, r, n, w, o)))) : mm_go ro d mm_m_Mo_join 213 [.ref 80, .int (nI X), vv, vs, .int k, .int r, .int n, .int w, v8] [.int o] (lk_L h0 e c hd sv) Q := by
  have J : mm_SH (lk_L h0 e c hd sv) := I
  have hB : 0 ≤ (nI X).toInt ∧ (nI X).toInt < ((200 : Nat) : Int) := mm_nb hX (by omega)
  have hc : (nI X).toNatClampNeg = X := mm_ncl (by omega)
  have g1 : ¬ (k, r, n, w, o) = sv X → mm_go ro d mm_m_Mo_join 270 [.ref 80, .int (nI X), vv, vs, .int k, .int r, .int n, .int w, .int o] [] (lk_L h0 e c hd sv) Q := by
    intro ne
    refine mm_go_at 275 (mm_hM n_Mo_join rfl) (And.intro (k_80 J) (And.intro (Or.inr rfl) ?_))
    rw [lw_610]
    exact l_jn_E I hX hn (hQ 1 (Or.inl ⟨rfl, ne⟩))
  refine mm_go_at 275 (mm_hM n_Mo_join rfl) ?_
  refine And.intro (k_80 J) (mm_rf (r_603 J) (And.intro ⟨k_105 J, mm_inb 200 (n_105 J) hB⟩ (mm_rf (b := (sv X).1) (by rw [hc]; rfl) (And.intro (fun c_223 => g1 (fun z => c_223 (congrArg (fun y : mm_V => y.1) z))) (fun c_223 => ?_)))))
  refine And.intro (k_80 J) (mm_rf (r_604 J) (And.intro ⟨k_106 J, mm_inb 200 (n_106 J) hB⟩ (mm_rf (b := (sv X).2.1) (by rw [hc]; rfl) (And.intro (fun c_234 => g1 (fun z => c_234 (congrArg (fun y : mm_V => y.2.1) z))) (fun c_234 => ?_)))))
  refine And.intro (k_80 J) (mm_rf (r_607 J) (And.intro ⟨k_109 J, mm_inb 200 (n_109 J) hB⟩ (mm_rf (b := (sv X).2.2.1) (by rw [hc]; rfl) (And.intro (fun c_245 => g1 (fun z => c_245 (congrArg (fun y : mm_V => y.2.2.1) z))) (fun c_245 => ?_)))))
  refine And.intro (k_80 J) (mm_rf (r_605 J) (And.intro ⟨k_107 J, mm_inb 200 (n_107 J) hB⟩ (mm_rf (b := (sv X).2.2.2.1) (by rw [hc]; rfl) (And.intro (fun c_256 => g1 (fun z => c_256 (congrArg (fun y : mm_V => y.2.2.2.1) z))) (fun c_256 => ?_)))))
  refine And.intro (k_80 J) (mm_rf (r_606 J) (And.intro ⟨k_108 J, mm_inb 200 (n_108 J) hB⟩ (mm_rf (b := (sv X).2.2.2.2) (by rw [hc]; rfl) (And.intro (fun c_267 => ?_) (fun c_267 => ?_)))))
  · have q1 : k = (sv X).1 := mm_no c_223
    have q2 : r = (sv X).2.1 := mm_no c_234
    have q3 : n = (sv X).2.2.1 := mm_no c_245
    have q4 : w = (sv X).2.2.2.1 := mm_no c_256
    have q5 : o = (sv X).2.2.2.2 := c_267
    exact l_jn_E I hX hn (hQ e.2.2 (Or.inr ⟨rfl, by rw [q1, q2, q3, q4, q5]⟩))
  · refine And.intro (k_80 J) (And.intro (Or.inr rfl) ?_)
    show mm_go ro d mm_m_Mo_join 275 _ [] (mm_si (lk_L h0 e c hd sv) 610 80 1) Q
    rw [lw_610]
    exact l_jn_E I hX hn (hQ 1 (Or.inl ⟨rfl, fun z => c_267 (congrArg (fun y : mm_V => y.2.2.2.2) z)⟩))
theorem l_jn_C2 {ro : mm_Ro} {d X V : Nat} {h0 : mm_H} {e : Int32 × Int32 × Int32} {c : mm_F} {hd : Nat → Int32 × Int32 × Int32} {sv : Nat → mm_V} {vs v6 v7 v8 : Value} {k r n : Int32} {Q : Value → mm_H → Prop} (I : mm_SH h0) (hX : X < 200) (hV : V < 10) (hn : n = 0 ∨ n = 1) (hQ : ∀ b o : Int32, ((6 ≤ V ∧ (sv X).2.2.2.2 = (c.2.2.2 V).2.2.2.2 ∧ o = (c.2.2.2 V).2.2.2.2) ∨ (¬ (6 ≤ V ∧ (sv X).2.2.2.2 = (c.2.2.2 V).2.2.2.2) ∧ o = -1)) → (b = 1 ∧ ¬ (k, r, n, (sv X).2.2.2.1 ||| (c.2.2.2 V).2.2.2.1, o) = sv X) ∨ (b = e.2.2 ∧ (k, r, n, (sv X).2.2.2.1 ||| (c.2.2.2 V).2.2.2.1, o) = sv X) → Q .null (lk_L h0 (e.1, e.2.1, b) c hd (lk_up sv X (k, r, n, (sv X).2.2.2.1 ||| (c.2.2.2 V).2.2.2.1, o)))) : mm_go ro d mm_m_Mo_join 165 [.ref 80, .int (nI X), .int (nI V), vs, .int k, .int r, v6, v7, v8] [.int n] (lk_L h0 e c hd sv) Q := by
  have J : mm_SH (lk_L h0 e c hd sv) := I
  have hB : 0 ≤ (nI X).toInt ∧ (nI X).toInt < ((200 : Nat) : Int) := mm_nb hX (by omega)
  have hc : (nI X).toNatClampNeg = X := mm_ncl (by omega)
  have hB2 : 0 ≤ (nI V).toInt ∧ (nI V).toInt < ((10 : Nat) : Int) := mm_nb hV (by omega)
  have hc2 : (nI V).toNatClampNeg = V := mm_ncl (by omega)
  have t6 : ((Int8.ofInt 6).toInt32).toInt = 6 := by decide
  have tV : (nI V).toInt = (V : Int) := mm_nt (by omega)
  refine mm_go_at 213 (mm_hM n_Mo_join rfl) ?_
  refine And.intro (k_80 J) (mm_rf (r_605 J) (And.intro ⟨k_107 J, mm_inb 200 (n_107 J) hB⟩ (mm_rf (b := (sv X).2.2.2.1) (by rw [hc]; rfl) (And.intro (k_80 J) (mm_rf (r_616 J) (And.intro ⟨k_112 J, mm_inb 10 (n_112 J) hB2⟩ (mm_rf (b := (c.2.2.2 V).2.2.2.1) (by rw [hc2]; rfl) (And.intro (fun c_185 => ?_) (fun c_185 => ?_)))))))))
  · have q : (nI V).toInt < 6 := c_185
    exact mm_go_at 213 (mm_hM n_Mo_join rfl) (l_jn_D I hX hn (fun b z => hQ b (-1) (Or.inr ⟨fun y => by omega, rfl⟩) z))
  · have q : ¬ (nI V).toInt < 6 := c_185
    refine And.intro (k_80 J) (mm_rf (r_606 J) (And.intro ⟨k_108 J, mm_inb 200 (n_108 J) hB⟩ (mm_rf (b := (sv X).2.2.2.2) (by rw [hc]; rfl) (And.intro (k_80 J) (mm_rf (r_617 J) (And.intro ⟨k_113 J, mm_inb 10 (n_113 J) hB2⟩ (mm_rf (b := (c.2.2.2 V).2.2.2.2) (by rw [hc2]; rfl) (And.intro (fun c_200 => ?_) (fun c_200 => ?_)))))))))
    · have q2 : ¬ (sv X).2.2.2.2 = (c.2.2.2 V).2.2.2.2 := c_200
      exact mm_go_at 213 (mm_hM n_Mo_join rfl) (l_jn_D I hX hn (fun b z => hQ b (-1) (Or.inr ⟨fun y => q2 y.2, rfl⟩) z))
    · have q2 : (sv X).2.2.2.2 = (c.2.2.2 V).2.2.2.2 := mm_no c_200
      exact And.intro (k_80 J) (mm_rf (r_617 J) (And.intro ⟨k_113 J, mm_inb 10 (n_113 J) hB2⟩ (mm_rf (b := (c.2.2.2 V).2.2.2.2) (by rw [hc2]; rfl) (l_jn_D I hX hn (fun b z => hQ b _ (Or.inl ⟨by omega, q2, rfl⟩) z)))))
/-- what is left of a join once kind and C are there -/
def lk_jp (V : Nat) (x y : mm_V) (k r : Int32) (z : mm_V) : Prop := z.1 = k ∧ z.2.1 = r ∧ z.2.2.1 = x.2.2.1 ||| y.2.2.1 ∧ z.2.2.2.1 = x.2.2.2.1 ||| y.2.2.2.1 ∧ ((6 ≤ V ∧ x.2.2.2.2 = y.2.2.2.2 ∧ z.2.2.2.2 = y.2.2.2.2) ∨ (¬ (6 ≤ V ∧ x.2.2.2.2 = y.2.2.2.2) ∧ z.2.2.2.2 = -1))
theorem l_jn_C {ro : mm_Ro} {d X V : Nat} {h0 : mm_H} {e : Int32 × Int32 × Int32} {c : mm_F} {hd : Nat → Int32 × Int32 × Int32} {sv : Nat → mm_V} {vs v6 v7 v8 : Value} {k r : Int32} {Q : Value → mm_H → Prop} (I : mm_SH h0) (hX : X < 200) (hV : V < 10) (b1 : (sv X).2.2.1 = 0 ∨ (sv X).2.2.1 = 1) (b2 : (c.2.2.2 V).2.2.1 = 0 ∨ (c.2.2.2 V).2.2.1 = 1) (hQ : ∀ (b : Int32) (z : mm_V), lk_jp V (sv X) (c.2.2.2 V) k r z → (b = 1 ∧ ¬ z = sv X) ∨ (b = e.2.2 ∧ z = sv X) → Q .null (lk_L h0 (e.1, e.2.1, b) c hd (lk_up sv X z))) : mm_go ro d mm_m_Mo_join 142 [.ref 80, .int (nI X), .int (nI V), vs, .int k, .int r, v6, v7, v8] [] (lk_L h0 e c hd sv) Q := by
  have J : mm_SH (lk_L h0 e c hd sv) := I
  have hB : 0 ≤ (nI X).toInt ∧ (nI X).toInt < ((200 : Nat) : Int) := mm_nb hX (by omega)
  have hc : (nI X).toNatClampNeg = X := mm_ncl (by omega)
  have hB2 : 0 ≤ (nI V).toInt ∧ (nI V).toInt < ((10 : Nat) : Int) := mm_nb hV (by omega)
  have hc2 : (nI V).toNatClampNeg = V := mm_ncl (by omega)
  have g : ∀ n : Int32, n = (sv X).2.2.1 ||| (c.2.2.2 V).2.2.1 → mm_go ro d mm_m_Mo_join 165 [.ref 80, .int (nI X), .int (nI V), vs, .int k, .int r, v6, v7, v8] [.int n] (lk_L h0 e c hd sv) Q := by
    intro n en
    refine l_jn_C2 I hX hV (by rw [en]; exact mm_n01 b1 b2) (fun b o ho hb => hQ b _ ⟨rfl, rfl, en, rfl, ho⟩ hb)
  have g1 : (sv X).2.2.1 ||| (c.2.2.2 V).2.2.1 = 1 → mm_go ro d mm_m_Mo_join 160 [.ref 80, .int (nI X), .int (nI V), vs, .int k, .int r, v6, v7, v8] [] (lk_L h0 e c hd sv) Q := fun q => mm_go_from (mm_hM n_Mo_join rfl) (g 1 q.symm)
  refine mm_go_at 165 (mm_hM n_Mo_join rfl) ?_
  refine And.intro (k_80 J) (mm_rf (r_607 J) (And.intro ⟨k_109 J, mm_inb 200 (n_109 J) hB⟩ (mm_rf (b := (sv X).2.2.1) (by rw [hc]; rfl) (And.intro (fun c_148 => ?_) (fun c_148 => ?_)))))
  · have q : ¬ (sv X).2.2.1 = 0 := c_148
    have q1 : (sv X).2.2.1 = 1 := b1.resolve_left q
    refine g1 ?_
    rw [q1]
    rcases b2 with z | z <;> rw [z] <;> decide
  · have q : (sv X).2.2.1 = 0 := mm_no c_148
    refine And.intro (k_80 J) (mm_rf (r_618 J) (And.intro ⟨k_114 J, mm_inb 10 (n_114 J) hB2⟩ (mm_rf (b := (c.2.2.2 V).2.2.1) (by rw [hc2]; rfl) (And.intro (fun c_157 => ?_) (fun c_157 => ?_)))))
    · have q2 : (c.2.2.2 V).2.2.1 = 0 := c_157
      exact mm_go_at 165 (mm_hM n_Mo_join rfl) (g 0 (by rw [q, q2]; decide))
    · have q2 : ¬ (c.2.2.2 V).2.2.1 = 0 := c_157
      exact g 1 (by rw [q, b2.resolve_left q2]; decide)
theorem l_jn_B {ro : mm_Ro} {d X V : Nat} {h0 : mm_H} {e : Int32 × Int32 × Int32} {c : mm_F} {hd : Nat → Int32 × Int32 × Int32} {sv : Nat → mm_V} {vs v6 v7 v8 : Value} {k r : Int32} {Q : Value → mm_H → Prop} (I : mm_SH h0) (hX : X < 200) (hV : V < 10) (b1 : (sv X).2.2.1 = 0 ∨ (sv X).2.2.1 = 1) (b2 : (c.2.2.2 V).2.2.1 = 0 ∨ (c.2.2.2 V).2.2.1 = 1) (hQ : ∀ (b : Int32) (z : mm_V), lk_jp V (sv X) (c.2.2.2 V) k (if k.toInt < 3 then -1 else r) z → (b = 1 ∧ ¬ z = sv X) ∨ (b = e.2.2 ∧ z = sv X) → Q .null (lk_L h0 (e.1, e.2.1, b) c hd (lk_up sv X z))) : mm_go ro d mm_m_Mo_join 133 [.ref 80, .int (nI X), .int (nI V), vs, .int k, .int r, v6, v7, v8] [] (lk_L h0 e c hd sv) Q := by
  refine mm_go_at 142 (mm_hM n_Mo_join rfl) (And.intro (fun c_136 => ?_) (fun c_136 => ?_))
  · have q : (3 : Int) ≤ k.toInt := c_136
    rw [if_neg (by omega)] at hQ
    exact l_jn_C I hX hV b1 b2 hQ
  · have q : ¬ (3 : Int) ≤ k.toInt := c_136
    rw [if_pos (by omega)] at hQ
    exact l_jn_C I hX hV b1 b2 hQ
/-- up from a C to the first that another one is BELOW -/
theorem l_jn_106 {ro : mm_Ro} {d X V : Nat} {h0 : mm_H} {e : Int32 × Int32 × Int32} {c : mm_F} {hd : Nat → Int32 × Int32 × Int32} {sv : Nat → mm_V} {vs v6 v7 v8 : Value} {k : Int32} {a : Int} {Q : Value → mm_H → Prop} (I : mm_SH h0) (U : mm_upo (mm_up h0)) (Z : mm_upz (mm_up h0)) (hX : X < 200) (hV : V < 10) (b1 : (sv X).2.2.1 = 0 ∨ (sv X).2.2.1 = 1) (b2 : (c.2.2.2 V).2.2.1 = 0 ∨ (c.2.2.2 V).2.2.1 = 1) (hk : k = 3) (hy : 0 ≤ (c.2.2.2 V).2.1.toInt ∧ (c.2.2.2 V).2.1.toInt ≤ 5) (ha : a < 6) (hQ : ∀ (b r : Int32) (z : mm_V), mm_lca (mm_up h0) a (c.2.2.2 V).2.1.toInt r.toInt → lk_jp V (sv X) (c.2.2.2 V) 3 r z → (b = 1 ∧ ¬ z = sv X) ∨ (b = e.2.2 ∧ z = sv X) → Q .null (lk_L h0 (e.1, e.2.1, b) c hd (lk_up sv X z))) : ∀ (n : Nat) (r : Int32), r.toInt < (n : Int) → mm_bel (mm_up h0) a r.toInt → (∀ z, mm_bel (mm_up h0) a z → mm_bel (mm_up h0) (c.2.2.2 V).2.1.toInt z → z ≤ r.toInt) → mm_go ro (d + 1) mm_m_Mo_join 106 [.ref 80, .int (nI X), .int (nI V), vs, .int k, .int r, v6, v7, v8] [] (lk_L h0 e c hd sv) Q := by
  intro n
  have J : mm_SH (lk_L h0 e c hd sv) := I
  have hB2 : 0 ≤ (nI V).toInt ∧ (nI V).toInt < ((10 : Nat) : Int) := mm_nb hV (by omega)
  have hc2 : (nI V).toNatClampNeg = V := mm_ncl (by omega)
  induction n with
  | zero =>
    intro r h1 h2 _
    have := h2.1
    omega
  | succ n ih =>
    intro r h1 h2 h3
    have r0 := h2.1
    have r6 := mm_bel_le U ha h2
    refine mm_go_at 133 (mm_hM n_Mo_join rfl) (And.intro (k_80 J) (mm_rf (r_615 J) (And.intro ⟨k_111 J, mm_inb 10 (n_111 J) hB2⟩ (mm_rf (b := (c.2.2.2 V).2.1) (by rw [hc2]; rfl) (And.intro ⟨rfl, k_80 J⟩ (c_Mo_isBelow J U (by omega) (And.intro (fun c_118 => ?_) (fun c_118 => ?_))))))))
    · have q : mm_bel (mm_up h0) (c.2.2.2 V).2.1.toInt r.toInt := mm_nn c_118
      refine l_jn_B I hX hV b1 b2 (fun b z hz hb => hQ b r z ⟨h2, q, h3⟩ ?_ hb)
      rw [hk] at hz
      exact hz
    · have q : ¬ mm_bel (mm_up h0) (c.2.2.2 V).2.1.toInt r.toInt := mm_nb0 c_118
      have rn : ¬ r.toInt = 0 := fun z => q (by rw [z]; exact mm_bel_zero U Z 5 _ hy.1 (by omega) (by omega))
      have hR : 0 ≤ r.toInt ∧ r.toInt < ((6 : Nat) : Int) := by omega
      have hRc : r.toNatClampNeg = r.toInt.toNat := rfl
      refine And.intro (k_80 J) (mm_rf (r_579 J) (And.intro ⟨k_81 J, mm_inb 6 (n_81 J) hR⟩ (mm_rf (b := mm_a h0 81 r.toInt.toNat) rfl ?_)))
      have eu : (mm_a h0 81 r.toInt.toNat).toInt = mm_up h0 r.toInt.toNat := rfl
      have u1 := U r.toInt.toNat (by omega)
      have u2 := Z r.toInt.toNat (by omega) (by omega)
      have bl : mm_bel (mm_up h0) r.toInt (mm_up h0 r.toInt.toNat) := ⟨u2, 1, by
        show (if r.toInt < 0 then (-1 : Int) else mm_up h0 r.toInt.toNat) = _
        rw [if_neg (by omega)]⟩
      refine ih (mm_a h0 81 r.toInt.toNat) (by rw [eu]; omega) (by rw [eu]; exact mm_bel_trans h2 bl) (fun z z1 z2 => ?_)
      rw [eu]
      have z3 := h3 z z1 z2
      have z4 : mm_bel (mm_up h0) r.toInt z := mm_bel_chain U ha h2 z1 z3
      obtain ⟨z0, j, hj⟩ := z4
      cases j with
      | zero =>
        have : r.toInt = z := hj
        rw [← this] at z2
        exact absurd z2 q
      | succ j =>
        have e2 : mm_anc (mm_up h0) (1 + j) r.toInt = z := by rw [Nat.add_comm]; exact hj
        rw [mm_anc_add] at e2
        have e3 : mm_anc (mm_up h0) 1 r.toInt = mm_up h0 r.toInt.toNat := bl.2.choose_spec ▸ by
          show (if r.toInt < 0 then (-1 : Int) else mm_up h0 r.toInt.toNat) = _
          rw [if_neg (by omega)]
          exact bl.2.choose_spec.symm
        rw [e3] at e2
        exact mm_bel_le U (by omega) ⟨z0, j, e2⟩
theorem lk_dr22 {x : mm_V} : (mm_dr x).2.2 = x.2.2 := by
  unfold mm_dr
  split <;> rfl
theorem lk_ds22 {P : Prop} {x : mm_V} : (mm_ds P x).2.2 = x.2.2 := by
  by_cases p : P
  · rw [mm_ds_t p]
  · rw [mm_ds_f p, lk_dr22]
theorem lk_ds_n4 {P : Prop} {x : mm_V} (h : ¬ x.1 = 4) : mm_ds P x = x := by
  by_cases p : P
  · rw [mm_ds_t p]
  · rw [mm_ds_f p, lk_dr_f h]
theorem lk_kp1 {V : Nat} {y : mm_V} : (lk_kp V y).1 = y.1 ∧ (lk_kp V y).2.1 = y.2.1 ∧ (lk_kp V y).2.2.1 = y.2.2.1 ∧ (lk_kp V y).2.2.2.1 = y.2.2.2.1 := by
  unfold lk_kp
  split <;> exact ⟨rfl, rfl, rfl, rfl⟩
theorem lk_ds_kp {P : Prop} {V : Nat} {y : mm_V} : (mm_ds P (lk_kp V y)).1 = (mm_ds P y).1 ∧ (mm_ds P (lk_kp V y)).2.1 = (mm_ds P y).2.1 := by
  obtain ⟨a, b, _, _⟩ := lk_kp1 (V := V) (y := y)
  by_cases p : P
  · rw [mm_ds_t p, mm_ds_t p]; exact ⟨a, b⟩
  · rw [mm_ds_f p, mm_ds_f p]
    by_cases q : y.1 = 4
    · rw [lk_dr_t q, lk_dr_t (a.trans q)]; exact ⟨rfl, rfl⟩
    · rw [lk_dr_f q, lk_dr_f (fun z => q (a.symm.trans z))]; exact ⟨a, b⟩
theorem lk_jp_vj {up : Nat → Int} {P : Prop} {V : Nat} {x y z : mm_V} {k r : Int32} (hx0 : V < 6 → x.2.2.2.2 = -1) (kj : mm_kj up (mm_ds P x).1 (mm_ds P x).2.1 (mm_ds P y).1 (mm_ds P y).2.1 k r) (hz : lk_jp V x y k r z) : mm_vj up (mm_ds P x) (mm_ds P (lk_kp V y)) z := by
  obtain ⟨z1, z2, z3, z4, z5⟩ := hz
  obtain ⟨_, _, p3, p4⟩ := lk_kp1 (V := V) (y := y)
  unfold mm_vj
  rw [lk_ds_kp.1, lk_ds_kp.2, lk_ds22, lk_ds22, z1, z2, p3, p4]
  refine ⟨kj, z3, z4, ?_⟩
  by_cases q : V < 6
  · have e : (lk_kp V y).2.2.2.2 = -1 := by unfold lk_kp; rw [if_pos q]; rfl
    rw [e, hx0 q]
    rcases z5 with ⟨a, _⟩ | ⟨_, a⟩
    · omega
    · exact Or.inl ⟨rfl, a⟩
  · have e : lk_kp V y = y := if_neg q
    rw [e]
    rcases z5 with ⟨_, a, b⟩ | ⟨a, b⟩
    · exact Or.inl ⟨a, b.trans a.symm⟩
    · exact Or.inr ⟨fun t => a ⟨by omega, t⟩, b⟩
theorem lk_kj0 {up : Nat → Int} {P : Prop} {x y : mm_V} (hx : mm_vr x) (h : ¬ x.1 = y.1 ∨ (x.1 = 4 ∧ ¬ P)) (n1 : ¬ (x.1 = 2 ∧ y.1 = 3)) (n2 : ¬ (x.1 = 3 ∧ y.1 = 2)) : mm_kj up (mm_ds P x).1 (mm_ds P x).2.1 (mm_ds P y).1 (mm_ds P y).2.1 0 (-1) := by
  have d1 : ∀ (u : mm_V) (k : Int32), ¬ k = 0 → (mm_dr u).1 = k → u.1 = k := by
    intro u k hk e
    by_cases q : u.1 = 4
    · rw [lk_dr_t q] at e
      exact absurd e.symm hk
    · rw [lk_dr_f q] at e; exact e
  by_cases p : P
  · rw [mm_ds_t p, mm_ds_t p]
    have h1 : ¬ x.1 = y.1 := by
      rcases h with h | h
      · exact h
      · exact absurd p h.2
    exact Or.inr (Or.inr (Or.inr (Or.inr ⟨h1, n1, n2, rfl, rfl⟩)))
  · rw [mm_ds_f p, mm_ds_f p]
    by_cases q : (mm_dr x).1 = (mm_dr y).1
    · have k0 : (mm_dr x).1 = 0 := by
        by_cases q4 : x.1 = 4
        · rw [lk_dr_t q4]
        · have e1 : mm_dr x = x := lk_dr_f q4
          rw [e1] at q ⊢
          by_cases y4 : y.1 = 4
          · rw [lk_dr_t y4] at q; exact q
          · rw [lk_dr_f y4] at q
            rcases h with h | h
            · exact absurd q h
            · exact absurd h.1 q4
      refine Or.inr (Or.inl ⟨q, by rw [k0]; decide, k0.symm, ?_⟩)
      exact ((mm_dr_vr hx).2.1 (by rw [k0]; decide)).symm
    · exact Or.inr (Or.inr (Or.inr (Or.inr ⟨q, fun t => n1 ⟨d1 _ _ (by decide) t.1, d1 _ _ (by decide) t.2⟩, fun t => n2 ⟨d1 _ _ (by decide) t.1, d1 _ _ (by decide) t.2⟩, rfl, rfl⟩)))
theorem lk_t3 {x : Int32} (h : ¬ x = 3) (h4 : ¬ x = 4) (r : 0 ≤ x.toInt ∧ x.toInt ≤ 4) : x.toInt < 3 := by
  have a : ¬ x.toInt = 3 := lk_nn (n := 3) h (by decide)
  have b : ¬ x.toInt = 4 := lk_nn (n := 4) h4 (by decide)
  omega
theorem c_Mo_join {ro : mm_Ro} {d X V : Nat} {h0 : mm_H} {e : Int32 × Int32 × Int32} {c : mm_F} {hd : Nat → Int32 × Int32 × Int32} {sv : Nat → mm_V} {s : Int32} {Q : Value → mm_H → Prop} (I : mm_SH h0) (U : mm_upo (mm_up h0)) (Z : mm_upz (mm_up h0)) (hX : X < 200) (hV : V < 10) (hx : mm_vr (sv X)) (hy : mm_vr (c.2.2.2 V)) (hx0 : V < 6 → (sv X).2.2.2.2 = -1) (hQ : ∀ (b : Int32) (z : mm_V), mm_vj (mm_up h0) (mm_ds (¬ s = 0) (sv X)) (mm_ds (¬ s = 0) (lk_kp V (c.2.2.2 V))) z → (b = 1 ∧ ¬ z = sv X) ∨ (b = e.2.2 ∧ z = sv X) → Q .null (lk_L h0 (e.1, e.2.1, b) c hd (lk_up sv X z))) : mm_ev ro (d + 2) n_Mo_join [.ref 80, .int (nI X), .int (nI V), .int s] (lk_L h0 e c hd sv) Q := by
  have J : mm_SH (lk_L h0 e c hd sv) := I
  have hB : 0 ≤ (nI X).toInt ∧ (nI X).toInt < ((200 : Nat) : Int) := mm_nb hX (by omega)
  have hc : (nI X).toNatClampNeg = X := mm_ncl (by omega)
  have hB2 : 0 ≤ (nI V).toInt ∧ (nI V).toInt < ((10 : Nat) : Int) := mm_nb hV (by omega)
  have hc2 : (nI V).toNatClampNeg = V := mm_ncl (by omega)
  have b1 := hx.2.2.2.1
  have b2 := hy.2.2.2.1
  have t3 : (3 : Int32).toInt = 3 := by decide
  have t4 : (4 : Int32).toInt = 4 := by decide
  have fin : ∀ (k r r' : Int32), mm_kj (mm_up h0) (mm_ds (¬ s = 0) (sv X)).1 (mm_ds (¬ s = 0) (sv X)).2.1 (mm_ds (¬ s = 0) (c.2.2.2 V)).1 (mm_ds (¬ s = 0) (c.2.2.2 V)).2.1 k r' → (if k.toInt < 3 then -1 else r) = r' → mm_go ro (d + 1) mm_m_Mo_join 133 [.ref 80, .int (nI X), .int (nI V), .int s, .int k, .int r, .null, .null, .null] [] (lk_L h0 e c hd sv) Q := by
    intro k r r' kj er
    refine l_jn_B I hX hV b1 b2 (fun b z hz hb => hQ b z ?_ hb)
    rw [er] at hz
    exact lk_jp_vj hx0 kj hz
  have g48 : ((sv X).1 = 2 ∧ (c.2.2.2 V).1 = 3) ∨ ((sv X).1 = 3 ∧ (c.2.2.2 V).1 = 2) → mm_go ro (d + 1) mm_m_Mo_join 48 [.ref 80, .int (nI X), .int (nI V), .int s, .int (sv X).1, .int (sv X).2.1, .null, .null, .null] [] (lk_L h0 e c hd sv) Q := by
    intro q
    have e1 : mm_ds (¬ s = 0) (sv X) = sv X := lk_ds_n4 (by rcases q with ⟨q, _⟩ | ⟨q, _⟩ <;> rw [q] <;> decide)
    have e2 : mm_ds (¬ s = 0) (c.2.2.2 V) = c.2.2.2 V := lk_ds_n4 (by rcases q with ⟨_, q⟩ | ⟨_, q⟩ <;> rw [q] <;> decide)
    rw [e1, e2] at fin
    refine mm_go_from (mm_hM n_Mo_join rfl) (And.intro (fun c_51 => mm_go_from (mm_hM n_Mo_join rfl) ?_) (fun c_51 => ?_))
    · have n3 : ¬ (sv X).1 = 3 := c_51
      have q' : (sv X).1 = 2 ∧ (c.2.2.2 V).1 = 3 := by
        rcases q with q | q
        · exact q
        · exact absurd q.1 n3
      exact And.intro (k_80 J) (mm_rf (r_615 J) (And.intro ⟨k_111 J, mm_inb 10 (n_111 J) hB2⟩ (mm_rf (b := (c.2.2.2 V).2.1) (by rw [hc2]; rfl) (fin 3 (c.2.2.2 V).2.1 (c.2.2.2 V).2.1 (Or.inr (Or.inr (Or.inl ⟨q'.1, q'.2, rfl, rfl⟩))) (if_neg (by decide))))))
    · have e3 : (sv X).1 = 3 := mm_no c_51
      have q' : (c.2.2.2 V).1 = 2 := by
        rcases q with q | q
        · exact absurd (e3.symm.trans q.1) (by decide)
        · exact q.2
      exact mm_go_from (mm_hM n_Mo_join rfl) (fin 3 (sv X).2.1 (sv X).2.1 (Or.inr (Or.inr (Or.inr (Or.inl ⟨e3, q', rfl, rfl⟩)))) (if_neg (by decide)))
  have g94 : (¬ (sv X).1 = (c.2.2.2 V).1 ∨ ((sv X).1 = 4 ∧ s = 0)) → ¬ ((sv X).1 = 2 ∧ (c.2.2.2 V).1 = 3) → ¬ ((sv X).1 = 3 ∧ (c.2.2.2 V).1 = 2) → mm_go ro (d + 1) mm_m_Mo_join 94 [.ref 80, .int (nI X), .int (nI V), .int s, .int (sv X).1, .int (sv X).2.1, .null, .null, .null] [] (lk_L h0 e c hd sv) Q := by
    intro q n1 n2
    refine mm_go_from (mm_hM n_Mo_join rfl) (fin 0 _ (-1) (lk_kj0 hx ?_ n1 n2) (if_pos (by decide)))
    rcases q with q | q
    · exact Or.inl q
    · exact Or.inr ⟨q.1, fun z => z q.2⟩
  have g100 : (sv X).1 = (c.2.2.2 V).1 → (¬ (sv X).1 = 4 ∨ ¬ s = 0) → mm_go ro (d + 1) mm_m_Mo_join 100 [.ref 80, .int (nI X), .int (nI V), .int s, .int (sv X).1, .int (sv X).2.1, .null, .null, .null] [] (lk_L h0 e c hd sv) Q := by
    intro q1 q2
    have e1 : mm_ds (¬ s = 0) (sv X) = sv X := by
      rcases q2 with q2 | q2
      · exact lk_ds_n4 q2
      · exact mm_ds_t q2
    have e2 : mm_ds (¬ s = 0) (c.2.2.2 V) = c.2.2.2 V := by
      rcases q2 with q2 | q2
      · exact lk_ds_n4 (by rw [← q1]; exact q2)
      · exact mm_ds_t q2
    rw [e1, e2] at fin
    refine mm_go_at 106 (mm_hM n_Mo_join rfl) (And.intro (fun c_103 => ?_) (fun c_103 => ?_))
    · have n3 : ¬ (sv X).1 = 3 := c_103
      refine fin _ _ (sv X).2.1 (Or.inr (Or.inl ⟨q1, n3, rfl, rfl⟩)) ?_
      split
      · rename_i z
        exact (hx.2.1 z).symm
      · rfl
    · have e3 : (sv X).1 = 3 := mm_no c_103
      have rx := hx.2.2.1 (by rw [e3, t3]; omega)
      have ry := hy.2.2.1 (by rw [← q1, e3, t3]; omega)
      refine l_jn_106 (a := (sv X).2.1.toInt) I U Z hX hV b1 b2 e3 ry (by omega) (fun b r z hl hz hb => hQ b z ?_ hb) 6 (sv X).2.1 (by omega) (mm_bel_refl rx.1) (fun z z1 _ => mm_bel_le U (by omega) z1)
      exact lk_jp_vj hx0 (by rw [e1, e2]; exact Or.inl ⟨e3, q1.symm.trans e3, rfl, hl⟩) hz
  have g73 : ¬ ((sv X).1 = 2 ∧ (c.2.2.2 V).1 = 3) → ¬ ((sv X).1 = 3 ∧ (c.2.2.2 V).1 = 2) → mm_go ro (d + 1) mm_m_Mo_join 73 [.ref 80, .int (nI X), .int (nI V), .int s, .int (sv X).1, .int (sv X).2.1, .null, .null, .null] [] (lk_L h0 e c hd sv) Q := by
    intro n1 n2
    refine mm_go_at 94 (mm_hM n_Mo_join rfl) (And.intro (k_80 J) (mm_rf (r_614 J) (And.intro ⟨k_110 J, mm_inb 10 (n_110 J) hB2⟩ (mm_rf (b := (c.2.2.2 V).1) (by rw [hc2]; rfl) (And.intro (fun c_81 => g94 (Or.inl c_81) n1 n2) (fun c_81 => And.intro (fun c_87 => g100 (mm_no c_81) (Or.inl c_87)) (fun c_87 => And.intro (fun c_91 => g100 (mm_no c_81) (Or.inr c_91)) (fun c_91 => ?_))))))))
    exact g94 (Or.inr ⟨mm_no c_87, mm_no c_91⟩) n1 n2
  have g32 : ¬ ((sv X).1 = 2 ∧ (c.2.2.2 V).1 = 3) → mm_go ro (d + 1) mm_m_Mo_join 32 [.ref 80, .int (nI X), .int (nI V), .int s, .int (sv X).1, .int (sv X).2.1, .null, .null, .null] [] (lk_L h0 e c hd sv) Q := by
    intro n1
    refine mm_go_at 48 (mm_hM n_Mo_join rfl) (And.intro (fun c_35 => g73 n1 (fun z => c_35 z.1)) (fun c_35 => ?_))
    refine And.intro (k_80 J) (mm_rf (r_614 J) (And.intro ⟨k_110 J, mm_inb 10 (n_110 J) hB2⟩ (mm_rf (b := (c.2.2.2 V).1) (by rw [hc2]; rfl) (And.intro (fun c_45 => g73 n1 (fun z => c_45 z.2)) (fun c_45 => ?_)))))
    exact g48 (Or.inr ⟨mm_no c_35, mm_no c_45⟩)
  refine mm_ev_at 32 (Z := mm_m_Mo_join) rfl rfl (Nat.le_of_ble_eq_true rfl) rfl ?_
  refine And.intro (k_80 J) (mm_rf (r_603 J) (And.intro ⟨k_105 J, mm_inb 200 (n_105 J) hB⟩ (mm_rf (b := (sv X).1) (by rw [hc]; rfl) (And.intro (k_80 J) (mm_rf (r_604 J) (And.intro ⟨k_106 J, mm_inb 200 (n_106 J) hB⟩ (mm_rf (b := (sv X).2.1) (by rw [hc]; rfl) (And.intro (fun c_19 => ?_) (fun c_19 => ?_)))))))))
  · exact g32 (fun z => c_19 z.1)
  · refine And.intro (k_80 J) (mm_rf (r_614 J) (And.intro ⟨k_110 J, mm_inb 10 (n_110 J) hB2⟩ (mm_rf (b := (c.2.2.2 V).1) (by rw [hc2]; rfl) (And.intro (fun c_29 => ?_) (fun c_29 => ?_)))))
    · exact g48 (Or.inl ⟨mm_no c_19, c_29⟩)
    · exact g32 (fun z => c_29 z.2)
