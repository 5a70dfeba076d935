/-! WHAT HOLDS BETWEEN TWO CALLS -/
/-- Methods and Places lie apart -/
def rr_D (h : mm_H) (nF nM : Nat) (qm : Nat → Nat) : Prop := 123 ≤ mm_t h ∧ (∀ m, m < nM → qm m + 7 ≤ mm_t h) ∧ (∀ m m', m < nM → m' < nM → qm m = qm m' → m = m') ∧ (∀ m p, m < nM → p < lk_np h m → mm_q h (qm m + 1) p ≤ mm_t h ∧ ∀ m', m' < nM → ¬ mm_q h (qm m + 1) p = qm m' + 2) ∧ (∀ f, f < nF → mm_q h 7 f ≤ mm_t h ∧ ∀ m', m' < nM → ¬ mm_q h 7 f = qm m' + 2) ∧ ∀ m m', m < nM → m' < nM → mm_a h 87 m = mm_a h 87 m' → mm_a h 88 m = mm_a h 88 m' → m = m'
/-- what is not in use is empty -/
def rr_U (h : mm_H) (nM : Nat) : Prop := ∀ m, nM ≤ m → m < 10 → (mm_a h 89 m = 0 ∧ mm_a h 91 m = 0 ∧ mm_a h 92 m = 0) ∧ (mm_a h 96 (4 * m + 3) = 0 ∧ mm_a h 94 (4 * m + 3) = 0) ∧ (∀ i, i < 20 → mm_a h 97 (20 * m + i) = 0 ∧ mm_a h 98 (20 * m + i) = 0) ∧ ∀ j, j < 2 → mm_a h 99 (2 * m + j) = 0 ∧ mm_a h 100 (2 * m + j) = 0 ∧ mm_a h 101 (2 * m + j) = 0
/-- what is loaded -/
def rr_L (h : mm_H) (nC nF nM : Nat) : Prop := (∀ c, c < 6 → mm_a h 5 c = mm_a h 85 c ∧ (mm_a h 85 c = 0 ∨ mm_a h 85 c = 1)) ∧ (mm_i h 68 2 = 0 ↔ ¬ mm_fz h) ∧ (∀ c, nC ≤ c → c < 6 → mm_a h 85 c = 0) ∧ (∀ c, 0 < c → c < nC → ¬ mm_a h 85 c = 0 → ¬ mm_a h 85 (mm_a h 81 c).toNatClampNeg = 0) ∧ ∀ m c, m < nM → c < nC → mm_a h 87 m = nI c → ¬ mm_a h 85 c = 0 → lk_fine h nC nF nM m
/-- the class's frames as they lie -/
def lx_VW (h : mm_H) (P : Nat → mm_F × Int32) : Prop := ∀ a, lx_is a → (mm_i h 193 a = (P a).1.1 ∧ mm_i h 194 a = (P a).1.2.1 ∧ mm_i h 195 a = (P a).1.2.2.1 ∧ mm_i h 196 a = (P a).2) ∧ ∀ j, j < 10 → mm_a h (a + 1) j = lx_pk ((P a).1.2.2.2 j)
theorem lx_VW_L {h : mm_H} {P : Nat → mm_F × Int32} (v : lx_VW h P) : lx_L h P = h := by
  refine lk_H (fun f a => ?_) (fun a j => ?_)
  · show (if lx_is a then (if f = 193 then (P a).1.1 else if f = 194 then (P a).1.2.1 else if f = 195 then (P a).1.2.2.1 else if f = 196 then (P a).2 else mm_i h f a) else mm_i h f a) = mm_i h f a
    by_cases q : lx_is a
    · obtain ⟨⟨v1, v2, v3, v4⟩, _⟩ := v a q
      rw [if_pos q]
      by_cases y1 : f = 193
      · rw [if_pos y1, y1, v1]
      by_cases y2 : f = 194
      · rw [if_neg y1, if_pos y2, y2, v2]
      by_cases y3 : f = 195
      · rw [if_neg y1, if_neg y2, if_pos y3, y3, v3]
      by_cases y4 : f = 196
      · rw [if_neg y1, if_neg y2, if_neg y3, if_pos y4, y4, v4]
      rw [if_neg y1, if_neg y2, if_neg y3, if_neg y4]
    · rw [if_neg q]
  · show (if lx_is (a - 1) ∧ j < 10 then lx_pk ((P (a - 1)).1.2.2.2 j) else mm_a h a j) = mm_a h a j
    by_cases q : lx_is (a - 1) ∧ j < 10
    · have := lx_is_big q.1
      have e : a - 1 + 1 = a := by omega
      have w := (v (a - 1) q.1).2 j q.2
      rw [e] at w
      rw [if_pos q, w]
    · rw [if_neg q]
theorem lx_L_VW {h : mm_H} {P : Nat → mm_F × Int32} : lx_VW (lx_L h P) P := fun a q => ⟨lx_i q, fun j hj => lx_a q hj⟩
/-- the reference's frames as they lie -/
def rr_hd (h : mm_H) : Nat → Int32 × Int32 × Int32 := fun j => (mm_a h 102 j, mm_a h 103 j, mm_a h 104 j)
def rr_sv (h : mm_H) : Nat → mm_V := fun j => (mm_a h 105 j, mm_a h 106 j, mm_a h 109 j, mm_a h 107 j, mm_a h 108 j)
def rr_e (h : mm_H) : Int32 × Int32 × Int32 := (mm_i h 608 80, mm_i h 609 80, mm_i h 610 80)
def rr_c (h : mm_H) : mm_F := (mm_i h 611 80, mm_i h 612 80, mm_i h 613 80, fun v => (mm_a h 110 v, mm_a h 111 v, mm_a h 114 v, mm_a h 112 v, mm_a h 113 v))
theorem rr_vw {h : mm_H} : lk_L h (rr_e h) (rr_c h) (rr_hd h) (rr_sv h) = h := by
  refine lk_H (fun f a => ?_) (fun a j => ?_)
  · show (if a = 80 then (if f = 608 then mm_i h 608 80 else if f = 609 then mm_i h 609 80 else if f = 610 then mm_i h 610 80 else if f = 611 then mm_i h 611 80 else if f = 612 then mm_i h 612 80 else if f = 613 then mm_i h 613 80 else mm_i h f a) else mm_i h f a) = mm_i h f a
    by_cases q : a = 80
    · rw [if_pos q, q]
      by_cases y : f = 608
      · rw [if_pos y, y]
      rw [if_neg y]
      by_cases y : f = 609
      · rw [if_pos y, y]
      rw [if_neg y]
      by_cases y : f = 610
      · rw [if_pos y, y]
      rw [if_neg y]
      by_cases y : f = 611
      · rw [if_pos y, y]
      rw [if_neg y]
      by_cases y : f = 612
      · rw [if_pos y, y]
      rw [if_neg y]
      by_cases y : f = 613
      · rw [if_pos y, y]
      rw [if_neg y]
    · rw [if_neg q]
  · show (if a = 102 then mm_a h 102 j else if a = 103 then mm_a h 103 j else if a = 104 then mm_a h 104 j else if a = 105 then mm_a h 105 j else if a = 106 then mm_a h 106 j else if a = 107 then mm_a h 107 j else if a = 108 then mm_a h 108 j else if a = 109 then mm_a h 109 j else if a = 110 then mm_a h 110 j else if a = 111 then mm_a h 111 j else if a = 112 then mm_a h 112 j else if a = 113 then mm_a h 113 j else if a = 114 then mm_a h 114 j else mm_a h a j) = mm_a h a j
    by_cases y : a = 102
    · rw [if_pos y, y]
    rw [if_neg y]
    by_cases y : a = 103
    · rw [if_pos y, y]
    rw [if_neg y]
    by_cases y : a = 104
    · rw [if_pos y, y]
    rw [if_neg y]
    by_cases y : a = 105
    · rw [if_pos y, y]
    rw [if_neg y]
    by_cases y : a = 106
    · rw [if_pos y, y]
    rw [if_neg y]
    by_cases y : a = 107
    · rw [if_pos y, y]
    rw [if_neg y]
    by_cases y : a = 108
    · rw [if_pos y, y]
    rw [if_neg y]
    by_cases y : a = 109
    · rw [if_pos y, y]
    rw [if_neg y]
    by_cases y : a = 110
    · rw [if_pos y, y]
    rw [if_neg y]
    by_cases y : a = 111
    · rw [if_pos y, y]
    rw [if_neg y]
    by_cases y : a = 112
    · rw [if_pos y, y]
    rw [if_neg y]
    by_cases y : a = 113
    · rw [if_pos y, y]
    rw [if_neg y]
    by_cases y : a = 114
    · rw [if_pos y, y]
    rw [if_neg y]
/-- the frames: of the class, of the reference -/
def rr_V (h : mm_H) (nC : Nat) (P : Nat → mm_F × Int32) : Prop := lx_VW h P ∧ lx_ok nC P ∧ lk_bn (rr_sv h) ∧ lk_bn (rr_c h).2.2.2 ∧ mm_i h 3 1 = mm_i h 609 80 ∧ ∀ k, k < 20 → mm_feq (lx_X P k) (lk_xr (mm_i h 608 80) (rr_hd h) (rr_sv h) k) ∧ (lx_X P k).1.toInt ≤ 4
/-- what runs leave -/
def rr_M (h : mm_H) : Prop := (∃ n, n ≤ 8 ∧ mm_i h 322 56 = nI n ∧ mm_i h 628 80 = nI n ∧ ∀ j, j < n → mm_a h 57 j = mm_a h 115 j) ∧ (∃ k, k ≤ 400 ∧ mm_i h 327 56 = nI k ∧ mm_i h 631 80 = nI k ∧ ∀ j, j < 16 → j < k → mm_a h 58 j = mm_a h 123 j) ∧ mm_i h 324 56 = mm_i h 636 80 ∧ mm_i h 325 56 = mm_i h 632 80 ∧ mm_i h 326 56 = mm_i h 629 80 ∧ mm_i h 328 56 = mm_i h 630 80 ∧ mm_i h 329 56 = mm_i h 634 80
/-- what is not of the stock stays -/
def mm_an (h h' : mm_H) : Prop := (∀ f a, (9 ≤ a ∧ a < 80) ∨ a = 1 → mm_i h' f a = mm_i h f a) ∧ (∀ f, 579 ≤ f → mm_i h' f 80 = mm_i h f 80) ∧ ∀ a, (9 ≤ a ∧ a < 80) ∨ (102 ≤ a ∧ a < 124) → mm_a h' a = mm_a h a
theorem an_rf {h : mm_H} : mm_an h h := ⟨fun _ _ _ => rfl, fun _ _ => rfl, fun _ _ => rfl⟩
theorem an_si {h g : mm_H} {f a : Nat} {x : Int32} (n : mm_an h g) (q : (a = 2 ∨ 124 ≤ a) ∨ (a = 80 ∧ f < 579)) : mm_an h (mm_si g f a x) := ⟨fun f' a' z => (if_neg (by omega)).trans (n.1 f' a' z), fun f' z => (if_neg (by omega)).trans (n.2.1 f' z), n.2.2⟩
theorem an_sa {h g : mm_H} {a j : Nat} {x : Int32} (n : mm_an h g) (q : a < 9 ∨ (80 ≤ a ∧ a < 102) ∨ 124 ≤ a) : mm_an h (mm_sa g a j x) := ⟨n.1, n.2.1, fun a' z => (funext (fun i => if_neg (by omega))).trans (n.2.2 a' z)⟩
theorem an_sq {h g : mm_H} {a j x : Nat} (n : mm_an h g) : mm_an h (mm_sq g a j x) := n
theorem an_new {h g : mm_H} {k m : Nat} (n : mm_an h g) (q : 123 ≤ mm_t g) : mm_an h (mm_new g k m) := ⟨fun f' a' z => (if_neg (by omega)).trans (n.1 f' a' z), fun f' z => (if_neg (by omega)).trans (n.2.1 f' z), fun a' z => (if_neg (by omega)).trans (n.2.2 a' z)⟩
theorem rr_V_an {h h' : mm_H} {nC : Nat} {P : Nat → mm_F × Int32} (n : mm_an h h') (v : rr_V h nC P) : rr_V h' nC P := by
  obtain ⟨n1, n2, n3⟩ := n
  obtain ⟨v1, v2, v3, v4, v5, v6⟩ := v
  have e1 : rr_sv h' = rr_sv h := by
    unfold rr_sv
    rw [n3 105 (by omega), n3 106 (by omega), n3 107 (by omega), n3 108 (by omega), n3 109 (by omega)]
  have e2 : rr_hd h' = rr_hd h := by
    unfold rr_hd
    rw [n3 102 (by omega), n3 103 (by omega), n3 104 (by omega)]
  have e3 : rr_c h' = rr_c h := by
    unfold rr_c
    rw [n2 611 (by omega), n2 612 (by omega), n2 613 (by omega), n3 110 (by omega), n3 111 (by omega), n3 112 (by omega), n3 113 (by omega), n3 114 (by omega)]
  refine ⟨fun a q => ?_, v2, by rw [e1]; exact v3, by rw [e3]; exact v4, ?_, fun k hk => ?_⟩
  · have b := lx_is_big q
    rw [n1 193 a (by omega), n1 194 a (by omega), n1 195 a (by omega), n1 196 a (by omega), n3 (a + 1) (by omega)]
    exact v1 a q
  · rw [n1 3 1 (by omega), n2 609 (by omega)]
    exact v5
  · rw [n2 608 (by omega), e1, e2]
    exact v6 k hk
theorem rr_M_an {h h' : mm_H} (n : mm_an h h') (v : rr_M h) : rr_M h' := by
  obtain ⟨n1, n2, n3⟩ := n
  unfold rr_M
  rw [n1 322 56 (by omega), n1 327 56 (by omega), n1 324 56 (by omega), n1 325 56 (by omega), n1 326 56 (by omega), n1 328 56 (by omega), n1 329 56 (by omega), n2 628 (by omega), n2 631 (by omega), n2 636 (by omega), n2 632 (by omega), n2 629 (by omega), n2 630 (by omega), n2 634 (by omega), n3 57 (by omega), n3 115 (by omega), n3 58 (by omega), n3 123 (by omega)]
  exact v
theorem lx_ok_up {nC nC' : Nat} {P : Nat → mm_F × Int32} (h : nC ≤ nC') (ok : lx_ok nC P) : lx_ok nC' P := fun a q => ⟨(ok a q).1, fun v hv => ⟨((ok a q).2 v hv).1, by have := ((ok a q).2 v hv).2; omega⟩⟩
def rr (ro : mm_Ro) (h : mm_H) : Prop := ∃ nC nF nM qm P, lx_T ro h nC nF nM qm ∧ rr_D h nF nM qm ∧ rr_U h nM ∧ rr_L h nC nF nM ∧ rr_V h nC P ∧ rr_M h
/-- a call's end -/
def rr_P (ro : mm_Ro) (h h' : mm_H) : Prop := rr ro h' ∧ mm_t h' ≤ mm_t h + 8 ∧ mm_s h' ≤ mm_s h + 66
def rr_2 (ro : mm_Ro) (D zx zm : Nat) (As : List Value) (h : mm_H) : Prop := mm_ev ro D zx (.ref 1 :: As) h (fun r h1 => ∃ v, r = .int v ∧ mm_ev ro D zm (.ref 80 :: As) h1 (fun r' h2 => r' = .int v ∧ rr_P ro h h2))
