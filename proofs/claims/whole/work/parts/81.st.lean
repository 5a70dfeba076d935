/-! THE CLASS: below, common; join of values -/
/-- for each C the sum of 2^d for all d that it is BELOW -/
def lx_AS (h : mm_H) (nC : Nat) : Prop := nC ≤ 6 ∧ ∀ c, c < nC → ∃ S, S < 64 ∧ mm_a h 4 c = nI S ∧ ∀ d, d < 6 → (S.testBit d = true ↔ mm_bel (mm_up h) (c : Int) (d : Int))
theorem lx_sm : ∀ D, D < 32 → ((nI D &&& 31).toBitVec.smod 32).toNat = D := by decide
theorem lx_bit {S D : Nat} (hS : S < 16384) (hD : D < 32) : nI S >>> (nI D &&& 31) &&& 1 = nI (if S.testBit D then 1 else 0) := by
  rw [pk_shrN (by omega) _ D (lx_sm D hD), lx_and1, Nat.testBit_eq_decide_div_mod_eq]
  congr 1
  by_cases q : S / 2 ^ D % 2 = 1
  · rw [q]; rfl
  · rw [decide_eq_false q, if_neg (by decide)]
    omega
theorem lx_bit0 {S D : Nat} (hS : S < 16384) (hD : D < 32) : nI S >>> (nI D &&& 31) &&& 1 = 0 ↔ ¬ S.testBit D = true := by
  rw [lx_bit hS hD]
  by_cases q : S.testBit D = true
  · rw [if_pos q]; exact ⟨fun z => absurd z (by decide), fun z => absurd q z⟩
  · rw [if_neg q]; exact ⟨fun _ => q, fun _ => by decide⟩
theorem c_St_below {ro : mm_Ro} {d nC c D : Nat} {h : mm_H} {Q : Value → mm_H → Prop} (I : mm_SH h) (A : lx_AS h nC) (hc : c < nC) (hD : D < 6) (hQ : Q (.int (mm_b (mm_bel (mm_up h) (c : Int) (D : Int)))) h) : mm_ev ro (d + 1) n_St_below [.ref 2, .int (nI c), .int (nI D)] h Q := by
  obtain ⟨a6, A⟩ := A
  obtain ⟨S, hS, eS, hb⟩ := A c hc
  have hB : 0 ≤ (nI c).toInt ∧ (nI c).toInt < ((6 : Nat) : Int) := mm_nb (by omega) (by omega)
  have hcc : (nI c).toNatClampNeg = c := mm_ncl (by omega)
  refine mm_ev_in (Z := mm_m_St_below) rfl rfl (Nat.le_of_ble_eq_true rfl) rfl ?_
  refine And.intro (k_2 I) (mm_rf (r_66 I) (And.intro ⟨k_4 I, mm_inb 6 (n_4 I) hB⟩ (mm_rf (b := nI S) (by rw [hcc]; exact eS) (And.intro (fun c_10 => mm_go_from (mm_hM n_St_below rfl) ?_) (fun c_10 => mm_go_from (mm_hM n_St_below rfl) ?_)))))
  · have z : nI S >>> (nI D &&& 31) &&& 1 = 0 := c_10
    exact ⟨Or.inl rfl, mm_qe hQ (mm_b_f (fun y => (lx_bit0 (by omega) (by omega)).mp z ((hb D hD).mpr y)))⟩
  · have z : ¬ nI S >>> (nI D &&& 31) &&& 1 = 0 := c_10
    refine ⟨Or.inr rfl, mm_qe hQ (mm_b_t ((hb D hD).mp ?_))⟩
    exact Classical.not_not.mp (fun y => z ((lx_bit0 (by omega) (by omega)).mpr y))
theorem l_St_common {ro : mm_Ro} {d c D S : Nat} {h : mm_H} {Q : Value → mm_H → Prop} (hS : S < 64) (hQ : ∀ e : Nat, e < 6 → (S.testBit e = true ∨ e = 0) → (∀ z, z < 6 → S.testBit z = true → z ≤ e) → Q (.int (nI e)) h) : ∀ (n : Nat), n < 6 → (∀ z, z < 6 → S.testBit z = true → z ≤ n) → mm_go ro d mm_m_St_common 17 [.ref 2, .int (nI c), .int (nI D), .int (nI S), .int (nI n)] [] h Q := by
  intro n
  induction n with
  | zero =>
    intro _ hz
    refine mm_go_from (mm_hM n_St_common rfl) (And.intro (fun c_19 => mm_go_from (mm_hM n_St_common rfl) (hQ 0 (by omega) (Or.inr rfl) hz)) (fun c_19 => ?_))
    exact absurd (show (nI 0).toInt ≤ (0 : Int32).toInt by decide) c_19
  | succ n ih =>
    intro hn hz
    refine mm_go_from (mm_hM n_St_common rfl) (And.intro (fun c_19 => ?_) (fun c_19 => ?_))
    · have z : (nI (n + 1)).toInt ≤ (0 : Int32).toInt := c_19
      rw [mm_nt (by omega), show (0 : Int32).toInt = 0 by decide] at z
      omega
    · refine And.intro (fun c_28 => mm_go_from (mm_hM n_St_common rfl) ?_) (fun c_28 => ?_)
      · have z : nI S >>> (nI (n + 1) &&& 31) &&& 1 = 0 := c_28
        have nb := (lx_bit0 (by omega) (by omega)).mp z
        have e1 : nI (n + 1) + Int32.ofInt (-1) = nI n := by
          have m1 : (Int32.ofInt (-1)).toInt = -1 := by decide
          have t1 : (nI (n + 1)).toInt = ((n + 1 : Nat) : Int) := mm_nt (by omega)
          refine Int32.toInt_inj.mp ?_
          rw [lk_add (by omega) (by omega), t1, m1, mm_nt (by omega)]
          omega
        have g := ih (by omega) (fun z' h1 h2 => by
          have := hz z' h1 h2
          have : ¬ z' = n + 1 := fun y => nb (by rw [← y]; exact h2)
          omega)
        rw [← e1] at g
        exact g
      · have z : ¬ nI S >>> (nI (n + 1) &&& 31) &&& 1 = 0 := c_28
        exact hQ (n + 1) hn (Or.inl (Classical.not_not.mp (fun y => z ((lx_bit0 (by omega) (by omega)).mpr y)))) hz
theorem c_St_common {ro : mm_Ro} {d nC c D : Nat} {h : mm_H} {Q : Value → mm_H → Prop} (I : mm_SH h) (U : mm_upo (mm_up h)) (Z : mm_upz (mm_up h)) (A : lx_AS h nC) (hc : c < nC) (hD : D < nC) (hQ : ∀ e : Nat, e < nC → mm_lca (mm_up h) (c : Int) (D : Int) (e : Int) → Q (.int (nI e)) h) : mm_ev ro (d + 1) n_St_common [.ref 2, .int (nI c), .int (nI D)] h Q := by
  obtain ⟨a6, A⟩ := A
  obtain ⟨S, hS, eS, hb⟩ := A c hc
  obtain ⟨T, hT, eT, hb'⟩ := A D hD
  have hB : 0 ≤ (nI c).toInt ∧ (nI c).toInt < ((6 : Nat) : Int) := mm_nb (by omega) (by omega)
  have hcc : (nI c).toNatClampNeg = c := mm_ncl (by omega)
  have hB2 : 0 ≤ (nI D).toInt ∧ (nI D).toInt < ((6 : Nat) : Int) := mm_nb (by omega) (by omega)
  have hcc2 : (nI D).toNatClampNeg = D := mm_ncl (by omega)
  have tb : ∀ z, (S &&& T).testBit z = true ↔ S.testBit z = true ∧ T.testBit z = true := fun z => by rw [Nat.testBit_and, Bool.and_eq_true]
  refine mm_ev_at 17 (Z := mm_m_St_common) rfl rfl (Nat.le_of_ble_eq_true rfl) rfl ?_
  refine And.intro (k_2 I) (mm_rf (r_66 I) (And.intro ⟨k_4 I, mm_inb 6 (n_4 I) hB⟩ (mm_rf (b := nI S) (by rw [hcc]; exact eS) (And.intro (k_2 I) (mm_rf (r_66 I) (And.intro ⟨k_4 I, mm_inb 6 (n_4 I) hB2⟩ (mm_rf (b := nI T) (by rw [hcc2]; exact eT) ?_)))))))
  have L := l_St_common (ro := ro) (d := d) (c := c) (D := D) (h := h) (Q := Q) (S := S &&& T) (by have : S &&& T ≤ S := Nat.and_le_left; omega) (fun e he h1 h2 => hQ e ?_ ?_) 5 (by omega) (fun z hz _ => by omega)
  · rw [← mm_nI_and] at L
    exact L
  · rcases h1 with h1 | h1
    · have b1 := (hb e he).mp ((tb e).mp h1).1
      have := mm_bel_le U (by omega) b1
      omega
    · omega
  · have le1 : mm_bel (mm_up h) (c : Int) (e : Int) ∧ mm_bel (mm_up h) (D : Int) (e : Int) := by
      rcases h1 with h1 | h1
      · exact ⟨(hb e he).mp ((tb e).mp h1).1, (hb' e he).mp ((tb e).mp h1).2⟩
      · rw [h1]; exact ⟨mm_bel_zero U Z 5 _ (by omega) (by omega) (by omega), mm_bel_zero U Z 5 _ (by omega) (by omega) (by omega)⟩
    refine ⟨le1.1, le1.2, fun z z1 z2 => ?_⟩
    have q1 := mm_bel_le U (by omega) z1
    have q0 := z1.1
    have t1 := (hb z.toNat (by omega)).mpr (by rw [show ((z.toNat : Nat) : Int) = z by omega]; exact z1)
    have t2 := (hb' z.toNat (by omega)).mpr (by rw [show ((z.toNat : Nat) : Int) = z by omega]; exact z2)
    have := h2 z.toNat (by omega) ((tb _).mpr ⟨t1, t2⟩)
    omega
def lx_vr (nC : Nat) (x : mm_V) : Prop := mm_vr x ∧ x.2.1.toInt < (nC : Int)
theorem lx_lca1 {up : Nat → Int} (U : mm_upo up) {c : Int} (h0 : 0 ≤ c) (h6 : c < 6) : mm_lca up c c c := ⟨mm_bel_refl h0, mm_bel_refl h0, fun z z1 _ => mm_bel_le U h6 z1⟩
theorem lx_vj_self {up : Nat → Int} (U : mm_upo up) {x : mm_V} (h : mm_vr x) : mm_vj up x x x := by
  refine ⟨?_, by rw [Int32.or_self], by rw [Int32.or_self], Or.inl ⟨rfl, rfl⟩⟩
  by_cases q : x.1 = 3
  · have := h.2.2.1 (by rw [q]; decide)
    exact Or.inl ⟨q, q, q, lx_lca1 U this.1 (by omega)⟩
  · exact Or.inr (Or.inl ⟨rfl, q, rfl, rfl⟩)
theorem c_Va_join {ro : mm_Ro} {d nC : Nat} {x y : mm_V} {h : mm_H} {Q : Value → mm_H → Prop} (I : mm_SH h) (U : mm_upo (mm_up h)) (Z : mm_upz (mm_up h)) (A : lx_AS h nC) (hx : lx_vr nC x) (hy : lx_vr nC y) (hQ : ∀ r, mm_vj (mm_up h) x y r → lx_vr nC r → Q (.int (lx_pk r)) h) : mm_ev ro (d + 2) n_Va_join [.int (lx_pk x), .int (lx_pk y), .ref 2] h Q := by
  obtain ⟨vx, cx⟩ := hx
  obtain ⟨vy, cy⟩ := hy
  have n6 := A.1
  have t3 : (3 : Int32).toInt = 3 := by decide
  have nn := mm_n01 vx.2.2.2.1 vy.2.2.2.1
  have ww := mm_or15 vx.2.2.2.2.1 vy.2.2.2.2.1
  -- what is joined but for kind and C
  have jv : ∀ (o k c : Int32), (x.2.2.2.2 = y.2.2.2.2 ∧ o = x.2.2.2.2) ∨ (¬ x.2.2.2.2 = y.2.2.2.2 ∧ o = -1) → mm_kj (mm_up h) x.1 x.2.1 y.1 y.2.1 k c → mm_vj (mm_up h) x y (k, c, x.2.2.1 ||| y.2.2.1, x.2.2.2.1 ||| y.2.2.2.1, o) := fun o k c ho hk => ⟨hk, rfl, rfl, ho⟩
  have orr : ∀ o : Int32, (x.2.2.2.2 = y.2.2.2.2 ∧ o = x.2.2.2.2) ∨ (¬ x.2.2.2.2 = y.2.2.2.2 ∧ o = -1) → -1 ≤ o.toInt ∧ o.toInt ≤ 5 := by
    intro o ho
    rcases ho with ⟨_, z⟩ | ⟨_, z⟩
    · rw [z]; exact vx.2.2.2.2.2
    · rw [z]; decide
  have v0 : ∀ o : Int32, (-1 ≤ o.toInt ∧ o.toInt ≤ 5) → mm_vr (0, -1, x.2.2.1 ||| y.2.2.1, x.2.2.2.1 ||| y.2.2.2.1, o) := fun o ho => ⟨(by decide : 0 ≤ (0 : Int32).toInt ∧ (0 : Int32).toInt ≤ 4), fun _ => rfl, fun q => absurd q (by decide : ¬ 3 ≤ (0 : Int32).toInt), nn, ww, ho⟩
  have g75 : ∀ o : Int32, (x.2.2.2.2 = y.2.2.2.2 ∧ o = x.2.2.2.2) ∨ (¬ x.2.2.2.2 = y.2.2.2.2 ∧ o = -1) → mm_go ro (d + 1) mm_m_Va_join 75 [.int (lx_pk x), .int (lx_pk y), .ref 2, .int x.1, .int y.1, .int (lx_pk (0, -1, x.2.2.1 ||| y.2.2.1, x.2.2.2.1 ||| y.2.2.2.1, o))] [] h Q := by
    intro o ho
    have ro5 := orr o ho
    have v0' := v0 o ro5
    have fin : ∀ k c : Int32, mm_kj (mm_up h) x.1 x.2.1 y.1 y.2.1 k c → c.toInt < (nC : Int) → mm_vr (k, c, x.2.2.1 ||| y.2.2.1, x.2.2.2.1 ||| y.2.2.2.1, o) ∧ Q (.int (lx_pk (k, c, x.2.2.1 ||| y.2.2.1, x.2.2.2.1 ||| y.2.2.2.1, o))) h := by
      intro k c hk hc
      have j := jv o k c ho hk
      have vr := (mm_vj_vr U vx vy j).1
      exact ⟨vr, hQ _ j ⟨vr, hc⟩⟩
    have g105 : ¬ (x.1 = 3 ∧ y.1 = 3) → mm_go ro (d + 1) mm_m_Va_join 105 [.int (lx_pk x), .int (lx_pk y), .ref 2, .int x.1, .int y.1, .int (lx_pk (0, -1, x.2.2.1 ||| y.2.2.1, x.2.2.2.1 ||| y.2.2.2.1, o))] [] h Q := by
      intro n33
      have g122 : (x.1 = y.1 ∨ (x.1 = 3 ∧ y.1 = 2)) → mm_go ro (d + 1) mm_m_Va_join 122 [.int (lx_pk x), .int (lx_pk y), .ref 2, .int x.1, .int y.1, .int (lx_pk (0, -1, x.2.2.1 ||| y.2.2.1, x.2.2.2.1 ||| y.2.2.2.1, o))] [] h Q := by
        intro w
        refine mm_go_from (mm_hM n_Va_join rfl) (And.intro ⟨rfl, trivial⟩ (c_Va_classOf vx (And.intro ⟨rfl, trivial⟩ ?_)))
        have f := fin x.1 x.2.1 (by
          rcases w with w | ⟨w1, w2⟩
          · exact Or.inr (Or.inl ⟨w, fun z => n33 ⟨z, w.symm.trans z⟩, rfl, rfl⟩)
          · exact Or.inr (Or.inr (Or.inr (Or.inl ⟨w1, w2, w1, rfl⟩)))) cx
        exact c_Va_withKind v0' f.1 f.2
      have g133 : ¬ x.1 = y.1 → ¬ (x.1 = 3 ∧ y.1 = 2) → mm_go ro (d + 1) mm_m_Va_join 133 [.int (lx_pk x), .int (lx_pk y), .ref 2, .int x.1, .int y.1, .int (lx_pk (0, -1, x.2.2.1 ||| y.2.2.1, x.2.2.2.1 ||| y.2.2.2.1, o))] [] h Q := by
        intro w1 w2
        have last : ¬ (x.1 = 2 ∧ y.1 = 3) → Q (.int (lx_pk (0, -1, x.2.2.1 ||| y.2.2.1, x.2.2.2.1 ||| y.2.2.2.1, o))) h := fun w3 => hQ _ (jv o 0 (-1) ho (Or.inr (Or.inr (Or.inr (Or.inr ⟨w1, w3, w2, rfl, rfl⟩))))) ⟨v0', by show (-1 : Int32).toInt < (nC : Int); rw [show (-1 : Int32).toInt = -1 by decide]; omega⟩
        refine mm_go_from (mm_hM n_Va_join rfl) (And.intro (fun c_135 => mm_go_from (mm_hM n_Va_join rfl) (last (fun z => c_135 z.1))) (fun c_135 => And.intro (fun c_141 => mm_go_from (mm_hM n_Va_join rfl) (last (fun z => c_141 z.2))) (fun c_141 => ?_)))
        refine And.intro ⟨rfl, trivial⟩ (c_Va_classOf vy (And.intro ⟨rfl, trivial⟩ ?_))
        have f := fin 3 y.2.1 (Or.inr (Or.inr (Or.inl ⟨mm_no c_135, mm_no c_141, rfl, rfl⟩))) cy
        exact c_Va_withKind v0' f.1 (mm_go_from (mm_hM n_Va_join rfl) f.2)
      refine mm_go_at 122 (mm_hM n_Va_join rfl) (And.intro (fun c_108 => g122 (Or.inl c_108)) (fun c_108 => And.intro (fun c_113 => g133 c_108 (fun z => c_113 z.1)) (fun c_113 => And.intro (fun c_119 => g133 c_108 (fun z => c_119 z.2)) (fun c_119 => ?_))))
      exact g122 (Or.inr ⟨mm_no c_113, mm_no c_119⟩)
    refine mm_go_from (mm_hM n_Va_join rfl) (And.intro (fun c_77 => g105 (fun z => c_77 z.1)) (fun c_77 => And.intro (fun c_83 => g105 (fun z => c_83 z.2)) (fun c_83 => ?_)))
    have k3 : x.1 = 3 := mm_no c_77
    have l3 : y.1 = 3 := mm_no c_83
    have rx := vx.2.2.1 (by rw [k3, t3]; omega)
    have ry := vy.2.2.1 (by rw [l3, t3]; omega)
    obtain ⟨a, ha, ea⟩ := mm_of (N := nC) (x := x.2.1) (by omega)
    obtain ⟨b, hb, eb⟩ := mm_of (N := nC) (x := y.2.1) (by omega)
    refine And.intro ⟨rfl, trivial⟩ (c_Va_classOf vx (And.intro ⟨rfl, trivial⟩ (c_Va_classOf vy (And.intro ⟨rfl, k_2 I⟩ ?_))))
    rw [ea, eb]
    refine c_St_common I U Z A ha hb (fun e he hl => And.intro ⟨rfl, trivial⟩ ?_)
    have f := fin 3 (nI e) (Or.inl ⟨k3, l3, rfl, by
      rw [ea, eb, mm_nt (by omega), mm_nt (by omega), mm_nt (by omega)]
      exact hl⟩) (by rw [mm_nt (by omega)]; omega)
    exact c_Va_withKind v0' f.1 f.2
  have g39 : ∀ n : Int32, n = x.2.2.1 ||| y.2.2.1 → mm_go ro (d + 1) mm_m_Va_join 39 [.int (lx_pk x), .int (lx_pk y), .ref 2, .int x.1, .int y.1, .null] [.int n, .int (-1), .int 0] h Q := by
    intro n en
    refine mm_go_at 75 (mm_hM n_Va_join rfl) (And.intro ⟨rfl, trivial⟩ (c_Va_marks vx (And.intro ⟨rfl, trivial⟩ (c_Va_marks vy (And.intro ⟨rfl, trivial⟩ ?_)))))
    rw [en]
    refine c_Va_of (v0 (-1) (by decide)) (And.intro ⟨rfl, trivial⟩ (c_Va_origin vx (And.intro ⟨rfl, trivial⟩ (c_Va_origin vy (And.intro (fun c_61 => g75 (-1) (Or.inr ⟨c_61, rfl⟩)) (fun c_61 => And.intro ⟨rfl, trivial⟩ (c_Va_origin vx (And.intro ⟨rfl, trivial⟩ ?_))))))))
    exact c_Va_withOrigin (v0 (-1) (by decide)) vx.2.2.2.2.2 (g75 x.2.2.2.2 (Or.inl ⟨mm_no c_61, rfl⟩))
  refine mm_ev_at 39 (Z := mm_m_Va_join) rfl rfl (Nat.le_of_ble_eq_true rfl) rfl ?_
  refine And.intro (fun c_2 => mm_go_at 39 (mm_hM n_Va_join rfl) ?_) (fun c_2 => ?_)
  · refine And.intro ⟨rfl, trivial⟩ (c_Va_kind vx (And.intro ⟨rfl, trivial⟩ (c_Va_kind vy (And.intro ⟨rfl, trivial⟩ (c_Va_may vx (And.intro (fun c_24 => mm_go_at 39 (mm_hM n_Va_join rfl) (g39 1 ?_)) (fun c_24 => And.intro ⟨rfl, trivial⟩ (c_Va_may vy (And.intro (fun c_31 => mm_go_at 39 (mm_hM n_Va_join rfl) (g39 0 ?_)) (fun c_31 => g39 1 ?_))))))))))
    · have q : x.2.2.1 = 1 := vx.2.2.2.1.resolve_left c_24
      rw [q]
      rcases vy.2.2.2.1 with z | z <;> rw [z] <;> decide
    · have q1 : x.2.2.1 = 0 := mm_no c_24
      have q2 : y.2.2.1 = 0 := c_31
      rw [q1, q2]; decide
    · have q1 : x.2.2.1 = 0 := mm_no c_24
      have q2 : y.2.2.1 = 1 := vy.2.2.2.1.resolve_left c_31
      rw [q1, q2]; decide
  · have e : x = y := lx_inj vx vy (mm_no c_2)
    refine hQ x ?_ ⟨vx, cx⟩
    rw [← e]
    exact lx_vj_self U vx
