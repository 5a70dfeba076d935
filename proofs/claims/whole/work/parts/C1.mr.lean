/-! RUNNING: the reference's run -/
theorem rv_self {h g : mm_H} (a : ∀ f, 629 ≤ f → mm_i g f 80 = mm_i h f 80) (b : ∀ k, 116 ≤ k → k ≤ 123 → mm_a g k = mm_a h k) : rv h g = h := by
  have e : rv h g = (mm_k h, mm_i h, mm_r h, mm_n h, mm_a h, mm_q h, mm_t h, mm_s h) := by
    refine rv_ext (h := h) (fun f x => ?_) (fun k j => ?_)
    · show (if x = 80 ∧ 629 ≤ f then mm_i g f 80 else mm_i h f x) = mm_i h f x
      by_cases q : x = 80 ∧ 629 ≤ f
      · rw [if_pos q, q.1]; exact a f q.2
      · rw [if_neg q]
    · show (if 116 ≤ k ∧ k ≤ 123 then mm_a g k j else mm_a h k j) = mm_a h k j
      by_cases q : 116 ≤ k ∧ k ≤ 123
      · rw [if_pos q, b k q.1 q.2]
      · rw [if_neg q]
  exact e
theorem rv_ri0 {h g : mm_H} : ri0 (rv h g) = rv h (ri0 g) := by
  unfold ri0
  rw [rv_si (by omega), rv_si (by omega), rv_si (by omega), rv_si (by omega), rv_si (by omega), rv_si (by omega), rv_si (by omega), rv_si (by omega)]
theorem rv_lo2 {h s : mm_H} {np : Nat} {x y : Int32} : lo2 (rv h s) 118 np x y = rv h (lo2 s 118 np x y) := by
  unfold lo2
  rw [rv_sa (by omega)]
  split
  · split
    · rw [rv_sa (by omega)]
    · rw [rv_sa (by omega)]
  · split
    · rfl
    · rfl
theorem rv_ri1 {h g : mm_H} {m np : Nat} {x y : Int32} (a : ∀ f, 629 ≤ f → mm_i g f 80 = mm_i h f 80) (b : ∀ k, 116 ≤ k → k ≤ 123 → mm_a g k = mm_a h k) : ri1 h m np x y = rv h (ri1 g m np x y) := by
  have e := rv_self a b
  unfold ri1
  rw [← rv_lo2, ← rv_enter, ← rv_ri0, e]
theorem l_Mo_57 {ro : mm_Ro} {D m : Nat} {v2 v3 : Value} {h : mm_H} {Q : Value → mm_H → Prop} (I : mm_SH h) (hm : m < 10) (MV : lk_MV h m) (hQ1 : (∀ p, p < lk_np h m → mm_a h 93 (4 * m + p) = -1) → ∀ v4, mm_go ro (D + 4) mm_m_Mo_run 91 [.ref 80, .int (nI m), v2, v3, v4] [] h Q) (hQ0 : ¬ (∀ p, p < lk_np h m → mm_a h 93 (4 * m + p) = -1) → Q (.int (-1)) h) : ∀ (n p : Nat), p + n = lk_np h m → (∀ t, t < p → mm_a h 93 (4 * m + t) = -1) → mm_go ro (D + 4) mm_m_Mo_run 57 [.ref 80, .int (nI m), v2, v3, .int (nI (4 * m + p))] [] h Q := by
  have G := mm_hM n_Mo_run rfl
  have v3' := MV.2.2.1
  have v4 := MV.2.2.2.1
  have r89 : mm_a h 89 (nI m).toNatClampNeg = nI (lk_np h m) := by rw [mm_ncl (by omega)]; exact v3'
  have eX : Int32.ofInt 4 * nI m + nI (lk_np h m) = nI (4 * m + lk_np h m) := mm_lin 4 m _
  intro n
  induction n with
  | zero =>
    intro p hp al
    refine mm_go_at 91 G (And.intro (k_80 I) (mm_rf (r_587 I) (And.intro ⟨k_89 I, mm_inb 10 (n_89 I) (mm_nb hm (by omega))⟩ (mm_rf r89 (And.intro (fun c => hQ1 (fun t ht => al t (by omega)) _) (fun c => ?_))))))
    have c' : ¬ (Int32.ofInt 4 * nI m + nI (lk_np h m)).toInt ≤ (nI (4 * m + p)).toInt := c
    rw [eX, mm_nt (by omega), mm_nt (by omega)] at c'
    omega
  | succ n ih =>
    intro p hp al
    refine mm_go_at 91 G (And.intro (k_80 I) (mm_rf (r_587 I) (And.intro ⟨k_89 I, mm_inb 10 (n_89 I) (mm_nb hm (by omega))⟩ (mm_rf r89 (And.intro (fun c => ?_) (fun c => ?_))))))
    · have c' : (Int32.ofInt 4 * nI m + nI (lk_np h m)).toInt ≤ (nI (4 * m + p)).toInt := c
      rw [eX, mm_nt (by omega), mm_nt (by omega)] at c'
      omega
    · refine And.intro (k_80 I) (mm_rf (r_591 I) (And.intro ⟨k_93 I, mm_inb 40 (n_93 I) (mm_nb (by omega) (by omega))⟩ (mm_rf (show mm_a h 93 (nI (4 * m + p)).toNatClampNeg = mm_a h 93 (4 * m + p) by rw [mm_ncl (by omega)]) (And.intro (fun c2 => mm_go_from G ?_) (fun c2 => ?_)))))
      · have e : mm_a h 93 (4 * m + p) = -1 := c2
        have z := ih (p + 1) (by omega) (fun t ht => by
          by_cases y : t = p
          · rw [y]; exact e
          · exact al t (by omega))
        rw [← Nat.add_assoc, nI_succ] at z
        exact z
      · have e : ¬ mm_a h 93 (4 * m + p) = -1 := c2
        exact hQ0 (fun y => e (y p (by omega)))
theorem l_Mo_91 {ro : mm_Ro} {D m : Nat} {x y : Int32} {v4 : Value} {h : mm_H} {Q : Value → mm_H → Prop} (I : mm_SH h) (hm : m < 10) (MV : lk_MV h m) (np2 : lk_np h m ≤ 2) (hQ : mm_go ro (D + 4) mm_m_Mo_run 169 [.ref 80, .int (nI m), .int x, .int y, v4] [] (ri1 h m (lk_np h m) x y) Q) : mm_go ro (D + 4) mm_m_Mo_run 91 [.ref 80, .int (nI m), .int x, .int y, v4] [] h Q := by
  have G := mm_hM n_Mo_run rfl
  have v3' := MV.2.2.1
  have v4' := MV.2.2.2.1
  have z0 : (0 : Int32).toInt = 0 := by decide
  have c0 : (Int32.ofInt 0).toNatClampNeg = 0 := by decide
  have c1 : (Int32.ofInt 1).toNatClampNeg = 1 := by decide
  refine mm_go_at 169 G (And.intro (k_80 I) (And.intro (k_80 I) (And.intro (k_80 I) (And.intro (k_80 I) (And.intro (k_80 I) (And.intro (k_80 I) (And.intro (k_80 I) (And.intro (k_80 I) (And.intro ⟨rfl, k_80 I⟩ ?_)))))))))
  show mm_ev ro (D + 4) n_Mo_enter [.ref 80, .int (nI m)] (ri0 h) (fun r h' => mm_wp ro (D + 4) mm_m_Mo_run Q 169 (mm_from mm_m_Mo_run 136) [.ref 80, .int (nI m), .int x, .int y, v4] [] h')
  have J0 : mm_SH (ri0 h) := SH_si (SH_si (SH_si (SH_si (SH_si (SH_si (SH_si (SH_si I)))))))
  have a89 : mm_a (ri0 h) 89 = mm_a h 89 := rfl
  have e3 := (ri0_i (h := h)).2.2.2.2.1
  unfold ri1 at hQ
  generalize ri0 h = g at *
  have J : mm_SH (rs_enter g 0 (nI m)) := by
    unfold rs_enter rs_ent0
    split
    · exact SH_si (SH_si (fi_SH (SH_sa (SH_sa (SH_sa J0)))))
    · exact SH_si (fi_SH (SH_sa (SH_sa (SH_sa J0))))
  refine c_Mo_enter (d := D + 3) (w := 0) J0 (by omega) e3 ?_
  have b89 : mm_a (rs_enter g 0 (nI m)) 89 m = nI (lk_np h m) := by
    rw [en_a (by omega), a89]
    exact v3'
  generalize rs_enter g 0 (nI m) = k at *
  have r89 : mm_a k 89 (nI m).toNatClampNeg = nI (lk_np h m) := by rw [mm_ncl (by omega)]; exact b89
  unfold lo2 at hQ
  have bm : 0 ≤ (nI m).toInt ∧ (nI m).toInt < ((10 : Nat) : Int) := mm_nb hm (by omega)
  refine And.intro (k_80 J) (mm_rf (r_587 J) (And.intro ⟨k_89 J, mm_inb 10 (n_89 J) bm⟩ (mm_rf r89 (And.intro (fun c_142 => mm_go_at 169 G ?_) (fun c_142 => ?_)))))
  · have c' : (nI (lk_np h m)).toInt ≤ (0 : Int32).toInt := c_142
    rw [mm_nt (by omega), z0] at c'
    rw [if_neg (by omega), if_neg (by omega)] at hQ
    refine And.intro (k_80 J) (mm_rf (r_587 J) (And.intro ⟨k_89 J, mm_inb 10 (n_89 J) bm⟩ (mm_rf r89 (And.intro (fun c_159 => hQ) (fun c_159 => ?_)))))
    have c2 : ¬ (nI (lk_np h m)).toInt ≤ (Int32.ofInt 1).toInt := c_159
    rw [mm_nt (by omega), show (Int32.ofInt 1).toInt = 1 by decide] at c2
    omega
  · have c' : ¬ (nI (lk_np h m)).toInt ≤ (0 : Int32).toInt := c_142
    rw [mm_nt (by omega), z0] at c'
    rw [if_pos (show 0 < lk_np h m by omega), ← c0] at hQ
    refine And.intro (k_80 J) (mm_rf (r_622 J) (And.intro ⟨k_118 J, mm_inb 36 (n_118 J) (by decide)⟩ ?_))
    have J2 : mm_SH (mm_sa k 118 (Int32.ofInt 0).toNatClampNeg x) := SH_sa J
    have r89' : mm_a (mm_sa k 118 (Int32.ofInt 0).toNatClampNeg x) 89 (nI m).toNatClampNeg = nI (lk_np h m) := (mm_a2 (by omega)).trans r89
    generalize mm_sa k 118 (Int32.ofInt 0).toNatClampNeg x = k2 at *
    refine And.intro (k_80 J2) (mm_rf (r_587 J2) (And.intro ⟨k_89 J2, mm_inb 10 (n_89 J2) bm⟩ (mm_rf r89' (And.intro (fun c_159 => ?_) (fun c_159 => ?_)))))
    · have c2 : (nI (lk_np h m)).toInt ≤ (Int32.ofInt 1).toInt := c_159
      rw [mm_nt (by omega), show (Int32.ofInt 1).toInt = 1 by decide] at c2
      rw [if_neg (by omega)] at hQ
      exact hQ
    · have c2 : ¬ (nI (lk_np h m)).toInt ≤ (Int32.ofInt 1).toInt := c_159
      rw [mm_nt (by omega), show (Int32.ofInt 1).toInt = 1 by decide] at c2
      rw [if_pos (by omega), ← c1] at hQ
      exact And.intro (k_80 J2) (mm_rf (r_622 J2) (And.intro ⟨k_118 J2, mm_inb 36 (n_118 J2) (by decide)⟩ hQ))
theorem c_Mo_run {ro : mm_Ro} {D nC nF nM N : Nat} {z x y : Int32} {h g : mm_H} {Q : Value → mm_H → Prop} (I : mm_SH h) (MN : mm_MN h nC nF nM) (F : KF (kc h) nC nF nM) (eN : mm_i h 628 80 = nI N) (hN : N ≤ 8) (ga : ∀ f, 629 ≤ f → mm_i g f 80 = mm_i h f 80) (gb : ∀ k, 116 ≤ k → k ≤ 123 → mm_a g k = mm_a h k) (q1 : (∀ m c, m < nM → z = nI m → c < nC → mm_a h 87 m = nI c → ¬ cs h 85 m c) → Q (.int (-1)) h) (q2 : ∀ m c, m < nM → z = nI m → c < nC → mm_a h 87 m = nI c → cs h 85 m c → ∀ s', s' = rs_run (kc h) nM 400 (ri1 g m (lk_np h m) x y) → (¬ mm_i s' 635 80 = -1 → Q (.int (mm_i s' 635 80)) (rv h s')) ∧ (mm_i s' 635 80 = -1 → Q (.int 4) (rv h (mm_si s' 635 80 4)))) : mm_ev ro (D + 5) n_Mo_run [.ref 80, .int z, .int x, .int y] h Q := by
  have G := mm_hM n_Mo_run rfl
  have h10 := F.1.2.2.2
  have h6 := F.1.2.1
  have z0 : (0 : Int32).toInt = 0 := by decide
  have no : (∀ m c, m < nM → z = nI m → c < nC → mm_a h 87 m = nI c → ¬ cs h 85 m c) → mm_go ro (D + 4) mm_m_Mo_run 50 [.ref 80, .int z, .int x, .int y, .null] [] h Q := fun n => mm_go_from G (q1 n)
  refine mm_ev_at 50 (Z := mm_m_Mo_run) rfl rfl (Nat.le_of_ble_eq_true rfl) rfl ?_
  refine And.intro ⟨rfl, k_80 I⟩ (c_Mo_isM (d := D + 2) I MN (And.intro (fun c_5 => no (fun m c hm ez _ _ _ => ?_)) (fun c_5 => ?_)))
  · refine mm_b0.mp c_5 ?_
    rw [ez]
    exact mm_nb hm (by omega)
  obtain ⟨z1, z2⟩ := mm_nn c_5
  obtain ⟨m, hmz⟩ : ∃ m : Nat, z.toInt.toNat = m := ⟨_, rfl⟩
  have ez : z = nI m := by rw [← hmz]; exact mm_nz z1 (by omega)
  have hm : m < nM := by omega
  clear hmz
  subst ez
  have MV : lk_MV h m := F.2.2.2.2.2.1 m hm
  obtain ⟨len, ML⟩ := F.2.2.2.2.2.2.1 m hm
  have k9 : -1 ≤ (mm_a h 90 m).toInt := ML.2.2.2.2.2.1.1
  have kd := lx_kd k9
  obtain ⟨c, c1, c2'⟩ := own_c F hm
  have c2 : mm_a h 87 m = nI c := c2'
  have cm : (nI m).toNatClampNeg = m := mm_ncl (by omega)
  have bm : 0 ≤ (nI m).toInt ∧ (nI m).toInt < ((10 : Nat) : Int) := mm_nb (by omega) (by omega)
  have un : ∀ m' c', m' < nM → nI m = nI m' → c' < nC → mm_a h 87 m' = nI c' → m = m' ∧ c = c' := fun m' c' a1 a2 a3 a4 => by
    have e1 : m = m' := mm_nee (by omega) (by omega) a2
    subst e1
    exact ⟨rfl, mm_nee (by omega) (by omega) (c2.symm.trans a4)⟩
  have nok : ¬ cs h 85 m c → mm_go ro (D + 4) mm_m_Mo_run 50 [.ref 80, .int (nI m), .int x, .int y, .null] [] h Q := fun n => no (fun m' c' a1 a2 a3 a4 => by
    obtain ⟨e1, e2⟩ := un m' c' a1 a2 a3 a4
    rw [← e1, ← e2]
    exact n)
  refine And.intro (k_80 I) (mm_rf (r_593 I) (And.intro ⟨k_95 I, mm_inb 10 (n_95 I) bm⟩ (mm_rf (show mm_a h 95 (nI m).toNatClampNeg = mm_a h 95 m by rw [cm]) (And.intro (fun c_14 => nok (fun y => y.1 c_14)) (fun c_14 => ?_)))))
  have n1 : ¬ mm_a h 95 m = 0 := c_14
  refine And.intro (k_80 I) (mm_rf (r_588 I) (And.intro ⟨k_90 I, mm_inb 10 (n_90 I) bm⟩ (mm_rf (show mm_a h 90 (nI m).toNatClampNeg = mm_a h 90 m by rw [cm]) (And.intro (fun c_23 => nok (fun y => ?_)) (fun c_23 => ?_)))))
  · have c' : (0 : Int32).toInt ≤ (mm_a h 90 m).toInt := c_23
    rw [y.2.1] at c'
    exact absurd c' (by decide)
  have n2 : mm_a h 90 m = -1 := by
    have c' : ¬ (0 : Int32).toInt ≤ (mm_a h 90 m).toInt := c_23
    rw [z0] at c'
    exact kd.mp c'
  refine And.intro (k_80 I) (mm_rf (r_583 I) (And.intro (k_80 I) (mm_rf (r_585 I) (And.intro ⟨k_87 I, mm_inb 10 (n_87 I) bm⟩ (mm_rf (show mm_a h 87 (nI m).toNatClampNeg = nI c by rw [cm]; exact c2) (And.intro ⟨k_85 I, mm_inb 6 (n_85 I) (mm_nb (by omega) (by omega))⟩ (mm_rf (show mm_a h 85 (nI c).toNatClampNeg = mm_a h 85 c by rw [mm_ncl (by omega)]) (And.intro (fun c_37 => nok (fun y => y.2.2.1 c_37)) (fun c_37 => ?_)))))))))
  have n3 : ¬ mm_a h 85 c = 0 := c_37
  refine And.intro (k_80 I) (mm_rf (r_587 I) (And.intro ⟨k_89 I, mm_inb 10 (n_89 I) bm⟩ (mm_rf (show mm_a h 89 (nI m).toNatClampNeg = nI (lk_np h m) by rw [cm]; exact MV.2.2.1) (And.intro (fun c_47 => mm_go_at 57 G ?_) (fun c_47 => nok (fun y => ?_))))))
  · have c' : (nI (lk_np h m)).toInt ≤ (Int32.ofInt 2).toInt := c_47
    have n4 := MV.2.2.2.1
    rw [mm_nt (by omega), show (Int32.ofInt 2).toInt = 2 by decide] at c'
    have e4 : Int32.ofInt 4 * nI m = nI (4 * m + 0) := pk_mul 4 m
    have key := l_Mo_57 (ro := ro) (D := D) (v2 := .int x) (v3 := .int y) (Q := Q) I (by omega) MV (fun al v4 => l_Mo_91 I (by omega) MV (by omega) ?_) (fun n => q1 (fun m' c' a1 a2 a3 a4 ok => ?_)) (lk_np h m) 0 (Nat.zero_add _) (fun t ht => absurd ht (by omega))
    · rw [← e4] at key
      exact key
    · rw [rv_ri1 ga gb]
      obtain ⟨_, _, _, a4, _, _, a7, _⟩ := ri1_i (h := g) (m := m) (np := lk_np h m) (x := x) (y := y)
      have ok : cs h 85 m c := ⟨n1, n2, n3, by omega, al⟩
      exact l_Mo_run I MN F eN hN 400 0 (ri1 g m (lk_np h m) x y) rfl a4 (Or.inl a7) (fun _ => ty_init F hm c1 c2 ok) (q2 m c hm rfl c1 c2 ok)
    · obtain ⟨e1, e2⟩ := un m' c' a1 a2 a3 a4
      subst e1
      exact n ok.2.2.2.2
  · have c' : ¬ (nI (lk_np h m)).toInt ≤ (Int32.ofInt 2).toInt := c_47
    have n4 := MV.2.2.2.1
    rw [mm_nt (by omega), show (Int32.ofInt 2).toInt = 2 by decide] at c'
    have := y.2.2.2.1
    omega
