/-! varies, departs -/
def lk_mz (w w' : Int32) : Prop := w &&& (w' ^^^ (-1)) = 0
def lk_pa (h : mm_H) (f t : Nat) : Prop := ((mm_a h 93 f).toInt < 0 ∨ (mm_a h 93 t).toInt < 0) ∧ (¬ mm_a h 93 f = mm_a h 93 t ∨ (mm_a h 93 f = -1 ∧ ¬ lk_mz (mm_a h 94 f) (mm_a h 94 t))) ∨ ¬ ((mm_a h 93 f).toInt < 0 ∨ (mm_a h 93 t).toInt < 0) ∧ (¬ mm_bel (mm_up h) (mm_a h 93 f).toInt (mm_a h 93 t).toInt ∨ (¬ mm_a h 96 f = 0 ∧ mm_a h 96 t = 0) ∨ ¬ lk_mz (mm_a h 94 f) (mm_a h 94 t))
theorem c_Mo_parts {ro : mm_Ro} {d f t : Nat} {h : mm_H} {Q : Value → mm_H → Prop} (I : mm_SH h) (U : mm_upo (mm_up h)) (S : lk_SV h) (hf : f < 40) (ht : t < 40) (hQ : Q (.int (mm_b (lk_pa h f t))) h) : mm_ev ro (d + 2) n_Mo_parts [.ref 80, .int (nI f), .int (nI t)] h Q := by
  have G := mm_hM n_Mo_parts rfl
  have yes : lk_pa h f t → Q (.int 1) h := fun y => mm_qe hQ (mm_b_t y)
  have no : ¬ lk_pa h f t → Q (.int 0) h := fun y => mm_qe hQ (mm_b_f y)
  have hBf : 0 ≤ (nI f).toInt ∧ (nI f).toInt < ((40 : Nat) : Int) := mm_nb hf (by omega)
  have hBt : 0 ≤ (nI t).toInt ∧ (nI t).toInt < ((40 : Nat) : Int) := mm_nb ht (by omega)
  have cf : (nI f).toNatClampNeg = f := mm_ncl (by omega)
  have ct : (nI t).toNatClampNeg = t := mm_ncl (by omega)
  have a93f : mm_a h 93 (nI f).toNatClampNeg = mm_a h 93 f := by rw [cf]
  have a93t : mm_a h 93 (nI t).toNatClampNeg = mm_a h 93 t := by rw [ct]
  have a94f : mm_a h 94 (nI f).toNatClampNeg = mm_a h 94 f := by rw [cf]
  have a94t : mm_a h 94 (nI t).toNatClampNeg = mm_a h 94 t := by rw [ct]
  have a96f : mm_a h 96 (nI f).toNatClampNeg = mm_a h 96 f := by rw [cf]
  have a96t : mm_a h 96 (nI t).toNatClampNeg = mm_a h 96 t := by rw [ct]
  have g18 : ((mm_a h 93 f).toInt < 0 ∨ (mm_a h 93 t).toInt < 0) → mm_go ro (d + 1) mm_m_Mo_parts 18 [.ref 80, .int (nI f), .int (nI t)] [] h Q := by
    intro c
    refine mm_go_from G (And.intro (k_80 I) (mm_rf (r_591 I) (And.intro ⟨k_93 I, mm_inb 40 (n_93 I) hBf⟩ (mm_rf a93f (And.intro (k_80 I) (mm_rf (r_591 I) (And.intro ⟨k_93 I, mm_inb 40 (n_93 I) hBt⟩ (mm_rf a93t (And.intro (fun c_30 => mm_go_from G ?_) (fun c_30 => ⟨Or.inr rfl, yes (Or.inl ⟨c, Or.inl c_30⟩)⟩))))))))))
    refine And.intro (k_80 I) (mm_rf (r_591 I) (And.intro ⟨k_93 I, mm_inb 40 (n_93 I) hBf⟩ (mm_rf a93f (And.intro (fun c_42 => mm_go_from G ⟨Or.inl rfl, no ?_⟩) (fun c_42 => ?_)))))
    · rintro (⟨_, y | y⟩ | ⟨y, _⟩)
      · exact y c_30
      · exact c_42 y.1
      · exact y c
    · refine And.intro (k_80 I) (mm_rf (r_592 I) (And.intro ⟨k_94 I, mm_inb 40 (n_94 I) hBf⟩ (mm_rf a94f (And.intro (k_80 I) (mm_rf (r_592 I) (And.intro ⟨k_94 I, mm_inb 40 (n_94 I) hBt⟩ (mm_rf a94t (And.intro (fun c_60 => mm_go_from G ⟨Or.inl rfl, no ?_⟩) (fun c_60 => mm_go_from G ⟨Or.inr rfl, yes (Or.inl ⟨c, Or.inr ⟨mm_no c_42, c_60⟩⟩)⟩)))))))))
      rintro (⟨_, y | y⟩ | ⟨y, _⟩)
      · exact y c_30
      · exact y.2 c_60
      · exact y c
  refine mm_ev_at 18 (Z := mm_m_Mo_parts) rfl rfl (Nat.le_of_ble_eq_true rfl) rfl ?_
  refine And.intro (k_80 I) (mm_rf (r_591 I) (And.intro ⟨k_93 I, mm_inb 40 (n_93 I) hBf⟩ (mm_rf a93f (And.intro (fun c_6 => g18 (Or.inl c_6)) (fun c_6 => And.intro (k_80 I) (mm_rf (r_591 I) (And.intro ⟨k_93 I, mm_inb 40 (n_93 I) hBt⟩ (mm_rf a93t (And.intro (fun c_15 => mm_go_at 106 G ?_) (fun c_15 => g18 (Or.inr (Int.not_le.mp c_15))))))))))))
  have nn : ¬ ((mm_a h 93 f).toInt < 0 ∨ (mm_a h 93 t).toInt < 0) := fun y => by
    rcases y with y | y
    · exact c_6 y
    · exact absurd c_15 (Int.not_le.mpr y)
  have hx := (S.2 f hf).1.2
  refine And.intro (k_80 I) (mm_rf (r_591 I) (And.intro ⟨k_93 I, mm_inb 40 (n_93 I) hBf⟩ (mm_rf a93f (And.intro (k_80 I) (mm_rf (r_591 I) (And.intro ⟨k_93 I, mm_inb 40 (n_93 I) hBt⟩ (mm_rf a93t (And.intro ⟨rfl, k_80 I⟩ (c_Mo_isBelow I U (by omega) (And.intro (fun c_85 => mm_go_from G (mm_go_from G ⟨Or.inr rfl, yes (Or.inr ⟨nn, Or.inl (mm_b0.mp c_85)⟩)⟩)) (fun c_85 => ?_)))))))))))
  have bl := mm_nn c_85
  have g106 : ¬ (¬ mm_a h 96 f = 0 ∧ mm_a h 96 t = 0) → mm_go ro (d + 1) mm_m_Mo_parts 106 [.ref 80, .int (nI f), .int (nI t)] [] h Q := by
    intro c
    refine mm_go_from G (And.intro (k_80 I) (mm_rf (r_592 I) (And.intro ⟨k_94 I, mm_inb 40 (n_94 I) hBf⟩ (mm_rf a94f (And.intro (k_80 I) (mm_rf (r_592 I) (And.intro ⟨k_94 I, mm_inb 40 (n_94 I) hBt⟩ (mm_rf a94t (And.intro (fun c_121 => mm_go_from G ⟨Or.inl rfl, no ?_⟩) (fun c_121 => mm_go_from G ⟨Or.inr rfl, yes (Or.inr ⟨nn, Or.inr (Or.inr c_121)⟩)⟩))))))))))
    rintro (⟨y, _⟩ | ⟨_, y | y | y⟩)
    · exact nn y
    · exact y bl
    · exact c y
    · exact y c_121
  refine And.intro (k_80 I) (mm_rf (r_594 I) (And.intro ⟨k_96 I, mm_inb 40 (n_96 I) hBf⟩ (mm_rf a96f (And.intro (fun c_94 => g106 (fun y => y.1 c_94)) (fun c_94 => And.intro (k_80 I) (mm_rf (r_594 I) (And.intro ⟨k_96 I, mm_inb 40 (n_96 I) hBt⟩ (mm_rf a96t (And.intro (fun c_103 => mm_go_from G (mm_go_from G ⟨Or.inr rfl, yes (Or.inr ⟨nn, Or.inr (Or.inl ⟨c_94, c_103⟩)⟩)⟩)) (fun c_103 => g106 (fun y => c_103 y.2)))))))))))
theorem lk_pa_fi {h : mm_H} {f t : Nat} (hs : ¬ mm_a h 93 f = -2) (S : -2 ≤ (mm_a h 93 f).toInt) : (lk_fi (mm_up h) (mm_a h 93 f) (mm_a h 96 f) (mm_a h 93 t) (mm_a h 96 t) ∧ lk_mz (mm_a h 94 f) (mm_a h 94 t)) ↔ ¬ lk_pa h f t := by
  have t1 : (-1 : Int32).toInt = -1 := by decide
  have t2 : (-2 : Int32).toInt = -2 := by decide
  have hs' : ¬ (mm_a h 93 f).toInt = -2 := fun e => hs (Int32.toInt_inj.mp (e.trans t2.symm))
  by_cases q : (mm_a h 93 f).toInt < 0 ∨ (mm_a h 93 t).toInt < 0
  · constructor
    · rintro ⟨⟨_, a⟩, b⟩ (⟨_, y | y⟩ | ⟨y, _⟩)
      · exact y (a q)
      · exact y.2 b
      · exact y q
    · intro n
      have e : mm_a h 93 f = mm_a h 93 t := Classical.not_not.mp (fun y => n (Or.inl ⟨q, Or.inl y⟩))
      have e1 : mm_a h 93 f = -1 := Int32.toInt_inj.mp (by rw [← e] at q; omega)
      exact ⟨⟨fun y => absurd q y, fun _ => e⟩, Classical.not_not.mp (fun y => n (Or.inl ⟨q, Or.inr ⟨e1, y⟩⟩))⟩
  · constructor
    · rintro ⟨⟨a, _⟩, b⟩ (⟨y, _⟩ | ⟨_, y | y | y⟩)
      · exact q y
      · exact y (a q).1
      · rcases (a q).2 with z | z
        · exact z y.2
        · exact y.1 z
      · exact y b
    · intro n
      refine ⟨⟨fun _ => ⟨Classical.not_not.mp (fun y => n (Or.inr ⟨q, Or.inl y⟩)), ?_⟩, fun y => absurd y q⟩, Classical.not_not.mp (fun y => n (Or.inr ⟨q, Or.inr (Or.inr y)⟩))⟩
      by_cases z : mm_a h 96 t = 0
      · exact Or.inr (Classical.not_not.mp (fun y => n (Or.inr ⟨q, Or.inr (Or.inl ⟨y, z⟩)⟩)))
      · exact Or.inl z
theorem c_Ru_fitsWithMarks {ro : mm_Ro} {d nC p p' : Nat} {h : mm_H} {s n w s' n' w' : Int32} {Q : Value → mm_H → Prop} (I : mm_SH h) (A : lx_AS h nC) (L : lx_PL h p s n w) (L' : lx_PL h p' s' n' w') (hs : s.toInt < (nC : Int)) (hs' : s'.toInt < (nC : Int)) (hQ : Q (.int (mm_b (lk_fi (mm_up h) s n s' n' ∧ lk_mz w w'))) h) : mm_ev ro (d + 3) n_Ru_fitsWithMarks [.ref 15, .ref p, .ref p'] h Q := by
  have G := mm_hM n_Ru_fitsWithMarks rfl
  have yes : (lk_fi (mm_up h) s n s' n' ∧ lk_mz w w') → Q (.int 1) h := fun y => mm_qe hQ (mm_b_t y)
  have no : ¬ (lk_fi (mm_up h) s n s' n' ∧ lk_mz w w') → Q (.int 0) h := fun y => mm_qe hQ (mm_b_f y)
  refine mm_ev_in (Z := mm_m_Ru_fitsWithMarks) rfl rfl (Nat.le_of_ble_eq_true rfl) rfl ?_
  refine And.intro ⟨rfl, k_15 I⟩ (c_Ru_fits I A L L' hs hs' (And.intro (fun c_6 => mm_go_from G ⟨Or.inl rfl, no (fun y => mm_b0.mp c_6 y.1)⟩) (fun c_6 => ?_)))
  exact And.intro L.2.1 (mm_rf L.2.2.2.2 (And.intro L'.2.1 (mm_rf L'.2.2.2.2 (And.intro (fun c_20 => mm_go_from G ⟨Or.inl rfl, no (fun y => c_20 y.2)⟩) (fun c_20 => mm_go_from G ⟨Or.inr rfl, yes ⟨mm_nn c_6, mm_no c_20⟩⟩)))))
/-- m departs from u -/
def lk_vy (h : mm_H) (m u : Nat) : Prop := ¬ mm_a h 95 m = 0 ∨ ¬ mm_a h 95 u = 0 ∨ ¬ lk_np h m = lk_np h u ∨ (∃ p, p < lk_np h m ∧ lk_pa h (4 * u + p) (4 * m + p)) ∨ lk_pa h (4 * m + 3) (4 * u + 3)
def lk_va (h : mm_H) (nM m : Nat) : Prop := ∃ u, lk_at h nM (mm_a h 88 m) (mm_up h (mm_a h 87 m).toInt.toNat) u ∧ lk_vy h m u
theorem lk_va_sm {h h' : mm_H} {nM m : Nat} (s : lk_sm h h') : lk_va h nM m ↔ lk_va h' nM m := by
  have e : lk_va h nM m ↔ lk_va (lk_c h) nM m := Iff.rfl
  have e' : lk_va h' nM m ↔ lk_va (lk_c h') nM m := Iff.rfl
  rw [e, e', lk_c_eq s]
theorem lx_4 {m p : Nat} : Int32.ofInt 4 * nI m + nI p = nI (4 * m + p) := mm_lin 4 m p
theorem l_Mo_varies {ro : mm_Ro} {d m u : Nat} {h : mm_H} {Q : Value → mm_H → Prop} (I : mm_SH h) (U : mm_upo (mm_up h)) (S : lk_SV h) (Mm : lk_MV h m) (Mu : lk_MV h u) (en : lk_np h m = lk_np h u) (q1 : (∃ p, p < lk_np h m ∧ lk_pa h (4 * u + p) (4 * m + p)) ∨ lk_pa h (4 * m + 3) (4 * u + 3) → Q (.int 1) h) (q0 : ¬ ((∃ p, p < lk_np h m ∧ lk_pa h (4 * u + p) (4 * m + p)) ∨ lk_pa h (4 * m + 3) (4 * u + 3)) → Q (.int 0) h) : ∀ (N p : Nat) (v : Value), p + N = lk_np h m → (∀ j, j < p → ¬ lk_pa h (4 * u + j) (4 * m + j)) → mm_go ro (d + 2) mm_m_Mo_varies 83 [.ref 80, .int (nI m), .int (nI u), .int (nI p), v] [] h Q := by
  have G := mm_hM n_Mo_varies rfl
  have hm := Mm.1
  have hu := Mu.1
  have h3 := Mm.2.2.2.1
  have hBm : 0 ≤ (nI m).toInt ∧ (nI m).toInt < ((10 : Nat) : Int) := mm_nb hm (by omega)
  have em : mm_a h 89 (nI m).toNatClampNeg = nI (lk_np h m) := by rw [mm_ncl (by omega)]; exact Mm.2.2.1
  intro N
  induction N with
  | zero =>
    intro p v hp hj
    refine mm_go_at 83 G (And.intro (k_80 I) (mm_rf (r_587 I) (And.intro ⟨k_89 I, mm_inb 10 (n_89 I) hBm⟩ (mm_rf em (And.intro (fun c_90 => mm_go_from G ?_) (fun c_90 => ?_))))))
    · have e1 : Int32.ofInt 4 * nI m + Int32.ofInt 3 = nI (4 * m + 3) := lx_4 (p := 3)
      have e2 : Int32.ofInt 4 * nI u + Int32.ofInt 3 = nI (4 * u + 3) := lx_4 (p := 3)
      have w : mm_ev ro (d + 2) n_Mo_parts [.ref 80, .int (nI (4 * m + 3)), .int (nI (4 * u + 3))] h (fun r h1 => (mm_m_Mo_varies.2.2.2.1 = some .int ∨ mm_m_Mo_varies.2.2.2.1 = some .boolean ∧ (r = .int 0 ∨ r = .int 1)) ∧ Q r h1) := by
        refine c_Mo_parts I U S (by omega) (by omega) ?_
        by_cases y : lk_pa h (4 * m + 3) (4 * u + 3)
        · rw [mm_b_t y]; exact ⟨Or.inr ⟨rfl, Or.inr rfl⟩, q1 (Or.inr y)⟩
        · rw [mm_b_f y]
          refine ⟨Or.inr ⟨rfl, Or.inl rfl⟩, q0 ?_⟩
          rintro (⟨j, j1, j2⟩ | z)
          · exact hj j (by omega) j2
          · exact y z
      rw [← e1, ← e2] at w
      refine And.intro ⟨rfl, k_80 I⟩ (mm_ev_mono w (fun r h1 hr => ?_))
      obtain ⟨h1', h2'⟩ := hr
      rcases h1' with z | ⟨_, z | z⟩
      · exact absurd z (by decide)
      · rw [z] at h2' ⊢; exact ⟨Or.inl rfl, h2'⟩
      · rw [z] at h2' ⊢; exact ⟨Or.inr rfl, h2'⟩
    · have z : ¬ (nI (lk_np h m)).toInt ≤ (nI p).toInt := c_90
      rw [mm_nt (by omega), mm_nt (by omega)] at z
      omega
  | succ N ih =>
    intro p v hp hj
    refine mm_go_at 83 G (And.intro (k_80 I) (mm_rf (r_587 I) (And.intro ⟨k_89 I, mm_inb 10 (n_89 I) hBm⟩ (mm_rf em (And.intro (fun c_90 => ?_) (fun c_90 => ?_))))))
    · have z : (nI (lk_np h m)).toInt ≤ (nI p).toInt := c_90
      rw [mm_nt (by omega), mm_nt (by omega)] at z
      omega
    · have e1 : Int32.ofInt 4 * nI u + nI p = nI (4 * u + p) := lx_4
      have e2 : Int32.ofInt 4 * nI m + nI p = nI (4 * m + p) := lx_4
      have w : ∀ Q', Q' (.int (mm_b (lk_pa h (4 * u + p) (4 * m + p)))) h → mm_ev ro (d + 2) n_Mo_parts [.ref 80, .int (Int32.ofInt 4 * nI u + nI p), .int (Int32.ofInt 4 * nI m + nI p)] h Q' := by
        intro Q' hQ'
        rw [e1, e2]
        exact c_Mo_parts I U S (by omega) (by omega) hQ'
      refine And.intro ⟨rfl, k_80 I⟩ (w _ (And.intro (fun c_111 => mm_go_at 83 G ?_) (fun c_111 => ⟨Or.inr rfl, q1 (Or.inl ⟨p, by omega, mm_nn c_111⟩)⟩)))
      have x := ih (p + 1) (.int (mm_b (lk_pa h (4 * u + p) (4 * m + p)))) (by omega) (fun j h1 => by
        by_cases y : j = p
        · rw [y]; exact mm_b0.mp c_111
        · exact hj j (by omega))
      rw [nI_succ] at x
      exact x
theorem c_Mo_varies {ro : mm_Ro} {d nC nF nM m : Nat} {qm : Nat → Nat} {h : mm_H} {Q : Value → mm_H → Prop} (T : lx_T ro h nC nF nM qm) (hm : m < nM) (hQ : Q (.int (mm_b (lk_va h nM m))) h) : mm_ev ro (d + 3) n_Mo_varies [.ref 80, .int (nI m)] h Q := by
  obtain ⟨I, V, MN, W, ow, ML, AB⟩ := T
  obtain ⟨_, _, _, _, _, S, _, U, _, MVs⟩ := W
  have Mm := MVs m hm
  have hm10 := Mm.1
  have G := mm_hM n_Mo_varies rfl
  have hBm : 0 ≤ (nI m).toInt ∧ (nI m).toInt < ((10 : Nat) : Int) := mm_nb hm10 (by omega)
  have cm : (nI m).toNatClampNeg = m := mm_ncl (by omega)
  have a87 : mm_a h 87 (nI m).toNatClampNeg = mm_a h 87 m := by rw [cm]
  have a88 : mm_a h 88 (nI m).toNatClampNeg = mm_a h 88 m := by rw [cm]
  have a95 : mm_a h 95 (nI m).toNatClampNeg = mm_a h 95 m := by rw [cm]
  have em : mm_a h 89 (nI m).toNatClampNeg = nI (lk_np h m) := by rw [cm]; exact Mm.2.2.1
  have ho := Mm.2.1
  have hBo : 0 ≤ (mm_a h 87 m).toInt ∧ (mm_a h 87 m).toInt < ((6 : Nat) : Int) := by omega
  have eu : (mm_a h 81 (mm_a h 87 m).toNatClampNeg).toInt = mm_up h (mm_a h 87 m).toInt.toNat := rfl
  have yes : lk_va h nM m → Q (.int 1) h := fun y => mm_qe hQ (mm_b_t y)
  have no : ¬ lk_va h nM m → Q (.int 0) h := fun y => mm_qe hQ (mm_b_f y)
  -- nothing above
  have none : lk_nf h nM (mm_a h 88 m) (mm_up h (mm_a h 87 m).toInt.toNat) → mm_go ro (d + 2) mm_m_Mo_varies 39 [.ref 80, .int (nI m), .null, .null, .null] [.int (-1)] h Q := by
    intro nf
    refine mm_go_from G (And.intro (fun c_41 => ?_) (fun c_41 => ⟨Or.inl rfl, no ?_⟩))
    · exact absurd (show (0 : Int32).toInt ≤ (-1 : Int32).toInt from c_41) (by decide)
    · rintro ⟨u, hu, _⟩
      exact lk_at_nf hu nf
  have some : ∀ u, lk_at h nM (mm_a h 88 m) (mm_up h (mm_a h 87 m).toInt.toNat) u → mm_go ro (d + 2) mm_m_Mo_varies 39 [.ref 80, .int (nI m), .null, .null, .null] [.int (nI u)] h Q := by
    intro u at_
    have hu : u < nM := by
      obtain ⟨k, _, ⟨a, _⟩, _⟩ := at_
      exact a
    have Mu := MVs u hu
    have hu10 := Mu.1
    have hBu : 0 ≤ (nI u).toInt ∧ (nI u).toInt < ((10 : Nat) : Int) := mm_nb hu10 (by omega)
    have cu : (nI u).toNatClampNeg = u := mm_ncl (by omega)
    have a95u : mm_a h 95 (nI u).toNatClampNeg = mm_a h 95 u := by rw [cu]
    have eu' : mm_a h 89 (nI u).toNatClampNeg = nI (lk_np h u) := by rw [cu]; exact Mu.2.2.1
    have va : lk_va h nM m ↔ lk_vy h m u := ⟨fun ⟨u', a, b⟩ => by rw [lk_at_uni at_ a]; exact b, fun b => ⟨u, at_, b⟩⟩
    have yy : lk_vy h m u → mm_go ro (d + 2) mm_m_Mo_varies 79 [.ref 80, .int (nI m), .int (nI u), .null, .null] [] h Q := fun y => mm_go_from G ⟨Or.inr rfl, yes (va.mpr y)⟩
    refine mm_go_at 79 G (And.intro (fun c_41 => mm_go_at 79 G ?_) (fun c_41 => ?_))
    · refine And.intro (k_80 I) (mm_rf (r_593 I) (And.intro ⟨k_95 I, mm_inb 10 (n_95 I) hBm⟩ (mm_rf a95 (And.intro (fun c_52 => yy (Or.inl c_52)) (fun c_52 => And.intro (k_80 I) (mm_rf (r_593 I) (And.intro ⟨k_95 I, mm_inb 10 (n_95 I) hBu⟩ (mm_rf a95u (And.intro (fun c_61 => yy (Or.inr (Or.inl c_61))) (fun c_61 => ?_))))))))))
      have np3 := Mm.2.2.2.1
      have np3u := Mu.2.2.2.1
      refine And.intro (k_80 I) (mm_rf (r_587 I) (And.intro ⟨k_89 I, mm_inb 10 (n_89 I) hBm⟩ (mm_rf em (And.intro (k_80 I) (mm_rf (r_587 I) (And.intro ⟨k_89 I, mm_inb 10 (n_89 I) hBu⟩ (mm_rf eu' (And.intro (fun c_76 => mm_go_at 83 G ?_) (fun c_76 => ?_)))))))))
      · have en : lk_np h m = lk_np h u := (nI_eq (by omega) (by omega)).mp c_76
        exact l_Mo_varies I U S Mm Mu en (fun y => yes (va.mpr (Or.inr (Or.inr (Or.inr y))))) (fun y => no (fun z => by
          rcases va.mp z with a | a | a | a
          · exact c_52 a
          · exact c_61 a
          · exact a en
          · exact y a)) (lk_np h m) 0 .null (by omega) (fun j hj => by omega)
      · have w := yy (Or.inr (Or.inr (Or.inl (fun e => c_76 (show nI (lk_np h m) = nI (lk_np h u) by rw [e])))))
        exact w
    · have z : ¬ 0 ≤ (nI u).toInt := c_41
      omega
  refine mm_ev_at 39 (Z := mm_m_Mo_varies) rfl rfl (Nat.le_of_ble_eq_true rfl) rfl ?_
  refine And.intro (k_80 I) (mm_rf (r_579 I) (And.intro (k_80 I) (mm_rf (r_585 I) (And.intro ⟨k_87 I, mm_inb 10 (n_87 I) hBm⟩ (mm_rf a87 (And.intro ⟨k_81 I, mm_inb 6 (n_81 I) hBo⟩ (mm_rf rfl (And.intro (fun c_11 => mm_go_at 39 G ?_) (fun c_11 => ?_)))))))))
  · refine And.intro (k_80 I) (mm_rf (r_579 I) (And.intro (k_80 I) (mm_rf (r_585 I) (And.intro ⟨k_87 I, mm_inb 10 (n_87 I) hBm⟩ (mm_rf a87 (And.intro ⟨k_81 I, mm_inb 6 (n_81 I) hBo⟩ (mm_rf rfl (And.intro (k_80 I) (mm_rf (r_586 I) (And.intro ⟨k_88 I, mm_inb 10 (n_88 I) hBm⟩ (mm_rf a88 (And.intro ⟨rfl, k_80 I⟩ (c_Mo_find I MN U ?_ (fun j hj => some j hj) (fun nf => none nf))))))))))))))
    have := U (mm_a h 87 m).toNatClampNeg (by show (mm_a h 87 m).toInt.toNat < 6; omega)
    have e2 : mm_up h (mm_a h 87 m).toNatClampNeg = (mm_a h 81 (mm_a h 87 m).toNatClampNeg).toInt := rfl
    have hc : ((mm_a h 87 m).toNatClampNeg : Int) = (mm_a h 87 m).toInt := by
      show (((mm_a h 87 m).toInt.toNat : Nat) : Int) = _
      omega
    omega
  · refine none (fun k hk => ?_)
    have z : ¬ 0 ≤ (mm_a h 81 (mm_a h 87 m).toNatClampNeg).toInt := c_11
    rw [eu] at z
    have w := mm_anc_neg (up := mm_up h) (x := mm_up h (mm_a h 87 m).toInt.toNat) (k := 0) (Int.not_le.mp z) k
    rw [Nat.zero_add] at w
    omega
