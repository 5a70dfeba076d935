/-! RUNNING: the reference's run -/
theorem rv_self {h g : mm_H} (a : ∀ f, 629 ≤ f → mm_i g f 80 = mm_i h f 80) (b : ∀ k, 116 ≤ k → k ≤ 123 → mm_a g k = mm_a h k) : rv h g = h := by
  have e : rv h g = (mm_k h, mm_i h, mm_r h, mm_n h, mm_a h, mm_q h, mm_t h, mm_s h) := by
    refine rv_ext (h := h) (fun f x => ?_) (fun k j => ?_)
    · show (if x = 80 ∧ 629 ≤ f then mm_i g f 80 else mm_i h f x) = mm_i h f x
      by_cases q : x = 80 ∧ 629 ≤ f
      · rw [if_pos q, q.1]; exact a f q.2
      · rw [if_neg q]
    · show (if 116 ≤ k ∧ k ≤ 123 then mm_a g k j else mm_a h k j) = mm_a h k j
      by_cases q : 116 ≤ k ∧ k ≤ 123
      · rw [if_pos q, b k q.1 q.2]
      · rw [if_neg q]
  exact e
theorem rv_ri0 {h g : mm_H} : ri0 (rv h g) = rv h (ri0 g) := by
  unfold ri0
  rw [rv_si (by omega), rv_si (by omega), rv_si (by omega), rv_si (by omega), rv_si (by omega), rv_si (by omega), rv_si (by omega), rv_si (by omega)]
theorem rv_lo2 {h s : mm_H} {np : Nat} {x y : Int32} : lo2 (rv h s) 118 np x y = rv h (lo2 s 118 np x y) := by
  unfold lo2
  rw [rv_sa (by omega)]
  split
  · split
    · rw [rv_sa (by omega)]
    · rw [rv_sa (by omega)]
  · split
    · rfl
    · rfl
theorem rv_ri1 {h g : mm_H} {m np : Nat} {x y : Int32} (a : ∀ f, 629 ≤ f → mm_i g f 80 = mm_i h f 80) (b : ∀ k, 116 ≤ k → k ≤ 123 → mm_a g k = mm_a h k) : ri1 h m np x y = rv h (ri1 g m np x y) := by
  have e := rv_self a b
  unfold ri1
  rw [← rv_lo2, ← rv_enter, ← rv_ri0, e]
theorem l_Mo_57 {ro : mm_Ro} {D m : Nat} {v2 v3 : Value} {h : mm_H} {Q : Value → mm_H → Prop} (I : mm_SH h) (hm : m < 10) (MV : lk_MV h m) (hQ1 : (∀ p, p < lk_np h m → mm_a h 93 (4 * m + p) = -1) → ∀ v4, mm_go ro (D + 4) mm_m_Mo_run 91 [.ref 80, .int (nI m), v2, v3, v4] [] h Q) (hQ0 : ¬ (∀ p, p < lk_np h m → mm_a h 93 (4 * m + p) = -1) → Q (.int (-1)) h) : ∀ (n p : Nat), p + n = lk_np h m → (∀ t, t < p → mm_a h 93 (4 * m + t) = -1) → mm_go ro (D + 4) mm_m_Mo_run 57 [.ref 80, .int (nI m), v2, v3, .int (nI (4 * m + p))] [] h Q := by
  have G := mm_hM n_Mo_run rfl
  have v3' := MV.2.2.1
  have v4 := MV.2.2.2.1
  have r89 : mm_a h 89 (nI m).toNatClampNeg = nI (lk_np h m) := by rw [mm_ncl (by omega)]; exact v3'
  have eX : Int32.ofInt 4 * nI m + nI (lk_np h m) = nI (4 * m + lk_np h m) := mm_lin 4 m _
  intro n
  induction n with
  | zero =>
    intro p hp al
    refine mm_go_at 91 G (And.intro (k_80 I) (mm_rf (r_587 I) (And.intro ⟨k_89 I, mm_inb 10 (n_89 I) (mm_nb hm (by omega))⟩ (mm_rf r89 (And.intro (fun c => hQ1 (fun t ht => al t (by omega)) _) (fun c => ?_))))))
    have c' : ¬ (Int32.ofInt 4 * nI m + nI (lk_np h m)).toInt ≤ (nI (4 * m + p)).toInt := c
    rw [eX, mm_nt (by omega), mm_nt (by omega)] at c'
    omega
  | succ n ih =>
    intro p hp al
    refine mm_go_at 91 G (And.intro (k_80 I) (mm_rf (r_587 I) (And.intro ⟨k_89 I, mm_inb 10 (n_89 I) (mm_nb hm (by omega))⟩ (mm_rf r89 (And.intro (fun c => ?_) (fun c => ?_))))))
    · have c' : (Int32.ofInt 4 * nI m + nI (lk_np h m)).toInt ≤ (nI (4 * m + p)).toInt := c
      rw [eX, mm_nt (by omega), mm_nt (by omega)] at c'
      omega
    · refine And.intro (k_80 I) (mm_rf (r_591 I) (And.intro ⟨k_93 I, mm_inb 40 (n_93 I) (mm_nb (by omega) (by omega))⟩ (mm_rf (show mm_a h 93 (nI (4 * m + p)).toNatClampNeg = mm_a h 93 (4 * m + p) by rw [mm_ncl (by omega)]) (And.intro (fun c2 => mm_go_from G ?_) (fun c2 => ?_)))))
      · have e : mm_a h 93 (4 * m + p) = -1 := c2
        have z := ih (p + 1) (by omega) (fun t ht => by
          by_cases y : t = p
          · rw [y]; exact e
          · exact al t (by omega))
        rw [← Nat.add_assoc, nI_succ] at z
        exact z
      · have e : ¬ mm_a h 93 (4 * m + p) = -1 := c2
        exact hQ0 (fun y => e (y p (by omega)))
theorem l_Mo_91 {ro : mm_Ro} {D m : Nat} {x y : Int32} {v4 : Value} {h : mm_H} {Q : Value → mm_H → Prop} (I : mm_SH h) (hm : m < 10) (MV : lk_MV h m) (np2 : lk_np h m ≤ 2) (hQ : mm_go ro (D + 4) mm_m_Mo_run 169 [.ref 80, .int (nI m), .int x, .int y, v4] [] (ri1 h m (lk_np h m) x y) Q) : mm_go ro (D + 4) mm_m_Mo_run 91 [.ref 80, .int (nI m), .int x, .int y, v4] [] h Q := by
  have G := mm_hM n_Mo_run rfl
  have v3' := MV.2.2.1
  have v4' := MV.2.2.2.1
  have z0 : (0 : Int32).toInt = 0 := by decide
  have c0 : (Int32.ofInt 0).toNatClampNeg = 0 := by decide
  have c1 : (Int32.ofInt 1).toNatClampNeg = 1 := by decide
  refine mm_go_at 169 G (And.intro (k_80 I) (And.intro (k_80 I) (And.intro (k_80 I) (And.intro (k_80 I) (And.intro (k_80 I) (And.intro (k_80 I) (And.intro (k_80 I) (And.intro (k_80 I) (And.intro ⟨rfl, k_80 I⟩ ?_)))))))))
  show mm_ev ro (D + 4) n_Mo_enter [.ref 80, .int (nI m)] (ri0 h) (fun r h' => mm_wp ro (D + 4) mm_m_Mo_run Q 169 (mm_from mm_m_Mo_run 136) [.ref 80, .int (nI m), .int x, .int y, v4] [] h')
  have J0 : mm_SH (ri0 h) := SH_si (SH_si (SH_si (SH_si (SH_si (SH_si (SH_si (SH_si I)))))))
  have a89 : mm_a (ri0 h) 89 = mm_a h 89 := rfl
  have e3 := (ri0_i (h := h)).2.2.2.2.1
  unfold ri1 at hQ
  generalize ri0 h = g at *
  have J : mm_SH (rs_enter g 0 (nI m)) := by
    unfold rs_enter rs_ent0
    split
    · exact SH_si (SH_si (fi_SH (SH_sa (SH_sa (SH_sa J0)))))
    · exact SH_si (fi_SH (SH_sa (SH_sa (SH_sa J0))))
  refine c_Mo_enter (d := D + 3) (w := 0) J0 (by omega) e3 ?_
  have b89 : mm_a (rs_enter g 0 (nI m)) 89 m = nI (lk_np h m) := by
    rw [en_a (by omega), a89]
    exact v3'
  generalize rs_enter g 0 (nI m) = k at *
  have r89 : mm_a k 89 (nI m).toNatClampNeg = nI (lk_np h m) := by rw [mm_ncl (by omega)]; exact b89
  unfold lo2 at hQ
  have bm : 0 ≤ (nI m).toInt ∧ (nI m).toInt < ((10 : Nat) : Int) := mm_nb hm (by omega)
  refine And.intro (k_80 J) (mm_rf (r_587 J) (And.intro ⟨k_89 J, mm_inb 10 (n_89 J) bm⟩ (mm_rf r89 (And.intro (fun c_142 => mm_go_at 169 G ?_) (fun c_142 => ?_)))))
  · have c' : (nI (lk_np h m)).toInt ≤ (0 : Int32).toInt := c_142
    rw [mm_nt (by omega), z0] at c'
    rw [if_neg (by omega), if_neg (by omega)] at hQ
    refine And.intro (k_80 J) (mm_rf (r_587 J) (And.intro ⟨k_89 J, mm_inb 10 (n_89 J) bm⟩ (mm_rf r89 (And.intro (fun c_159 => hQ) (fun c_159 => ?_)))))
    have c2 : ¬ (nI (lk_np h m)).toInt ≤ (Int32.ofInt 1).toInt := c_159
    rw [mm_nt (by omega), show (Int32.ofInt 1).toInt = 1 by decide] at c2
    omega
  · have c' : ¬ (nI (lk_np h m)).toInt ≤ (0 : Int32).toInt := c_142
    rw [mm_nt (by omega), z0] at c'
    rw [if_pos (show 0 < lk_np h m by omega), ← c0] at hQ
    refine And.intro (k_80 J) (mm_rf (r_622 J) (And.intro ⟨k_118 J, mm_inb 36 (n_118 J) (by decide)⟩ ?_))
    have J2 : mm_SH (mm_sa k 118 (Int32.ofInt 0).toNatClampNeg x) := SH_sa J
    have r89' : mm_a (mm_sa k 118 (Int32.ofInt 0).toNatClampNeg x) 89 (nI m).toNatClampNeg = nI (lk_np h m) := (mm_a2 (by omega)).trans r89
    generalize mm_sa k 118 (Int32.ofInt 0).toNatClampNeg x = k2 at *
    refine And.intro (k_80 J2) (mm_rf (r_587 J2) (And.intro ⟨k_89 J2, mm_inb 10 (n_89 J2) bm⟩ (mm_rf r89' (And.intro (fun c_159 => ?_) (fun c_159 => ?_)))))
    · have c2 : (nI (lk_np h m)).toInt ≤ (Int32.ofInt 1).toInt := c_159
      rw [mm_nt (by omega), show (Int32.ofInt 1).toInt = 1 by decide] at c2
      rw [if_neg (by omega)] at hQ
      exact hQ
    · have c2 : ¬ (nI (lk_np h m)).toInt ≤ (Int32.ofInt 1).toInt := c_159
      rw [mm_nt (by omega), show (Int32.ofInt 1).toInt = 1 by decide] at c2
      rw [if_pos (by omega), ← c1] at hQ
      exact And.intro (k_80 J2) (mm_rf (r_622 J2) (And.intro ⟨k_118 J2, mm_inb 36 (n_118 J2) (by decide)⟩ hQ))
