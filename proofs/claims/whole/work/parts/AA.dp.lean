/-! mayReplace, departs -/
theorem lx_prm {h : mm_H} {q m p : Nat} (M : lx_MO h q m) (V : lk_MV h m) (hp : p < lk_np h m) : lx_PL h (mm_q h (q + 1) p) (mm_a h 93 (4 * m + p)) (mm_a h 96 (4 * m + p)) (mm_a h 94 (4 * m + p)) := by
  refine M.2.2.2.1 p (by have := V.2.2.2.1; omega) ?_
  rw [V.2.2.1, mm_nt (by have := V.2.2.2.1; omega)]
  omega
theorem l_Ru_mayReplace {ro : mm_Ro} {d nC nF nM m u : Nat} {qm : Nat → Nat} {h : mm_H} {Q : Value → mm_H → Prop} (I : mm_SH h) (W : lx_W ro h nC nF nM qm) (hm : m < nM) (hu : u < nM) (en : lk_np h m = lk_np h u) (q0 : (∃ p, p < lk_np h m ∧ lk_pa h (4 * u + p) (4 * m + p)) ∨ lk_pa h (4 * m + 3) (4 * u + 3) → Q (.int 0) h) (q1 : ¬ ((∃ p, p < lk_np h m ∧ lk_pa h (4 * u + p) (4 * m + p)) ∨ lk_pa h (4 * m + 3) (4 * u + 3)) → Q (.int 1) h) : ∀ (N p : Nat), p + N = lk_np h m → (∀ j, j < p → ¬ lk_pa h (4 * u + j) (4 * m + j)) → mm_go ro (d + 3) mm_m_Ru_mayReplace 29 [.ref 15, .ref (qm m), .ref (qm u), .int (nI p)] [] h Q := by
  have G := mm_hM n_Ru_mayReplace rfl
  obtain ⟨_, _, MS, _, SC, SV, AS, U, _, MVs⟩ := W
  have Mm := (MS.2 m hm).2
  have Mu := (MS.2 u hu).2
  have Vm := MVs m hm
  have Vu := MVs u hu
  have h3 := Vm.2.2.2.1
  have em : mm_i h 516 (qm m) = nI (lk_np h m) := Mm.2.2.1.2.2.2.1.trans Vm.2.2.1
  have km : mm_k h (qm m) = 9 := Mm.2.1.1.1
  have ku : mm_k h (qm u) = 9 := Mu.2.1.1.1
  have hm10 := Vm.1
  have hu10 := Vu.1
  intro N
  induction N with
  | zero =>
    intro p hp hj
    refine mm_go_at 29 G (And.intro km (mm_rf em (And.intro (fun c_34 => mm_go_from G ?_) (fun c_34 => ?_))))
    · have nj : ¬ ∃ p, p < lk_np h m ∧ lk_pa h (4 * u + p) (4 * m + p) := fun ⟨j, j1, j2⟩ => hj j (by omega) j2
      refine And.intro ⟨rfl, km⟩ (c_Me_gives Mm (And.intro (fun c_68 => mm_go_from G ?_) (fun c_68 => ?_)))
      · have s2 : mm_a h 93 (4 * m + 3) = -2 := Classical.not_not.mp (mm_b0.mp c_68)
        have pe : lk_pa h (4 * m + 3) (4 * u + 3) ↔ ¬ mm_a h 93 (4 * u + 3) = -2 := by
          have ng : (mm_a h 93 (4 * m + 3)).toInt < 0 ∨ (mm_a h 93 (4 * u + 3)).toInt < 0 := Or.inl (by rw [s2]; decide)
          constructor
          · rintro (⟨_, y | y⟩ | ⟨y, _⟩)
            · exact fun e => y (s2.trans e.symm)
            · rw [s2] at y; exact absurd y.1 (by decide)
            · exact absurd ng y
          · exact fun y => Or.inl ⟨ng, Or.inl (fun e => y (e.symm.trans s2))⟩
        refine And.intro ⟨rfl, ku⟩ (c_Me_gives Mu (And.intro (fun c_90 => mm_go_from G ⟨Or.inl rfl, q0 (Or.inr (pe.mpr (mm_nn c_90)))⟩) (fun c_90 => mm_go_from G ⟨Or.inr rfl, q1 ?_⟩)))
        rintro (y | y)
        · exact nj y
        · exact mm_nb0 c_90 (pe.mp y)
      · have s2 : ¬ mm_a h 93 (4 * m + 3) = -2 := mm_nn c_68
        have pf := lk_pa_fi (h := h) (f := 4 * m + 3) (t := 4 * u + 3) s2 (SV.2 _ (by omega)).1.1
        have w : ∀ v : Int32, v = mm_b (lk_fi (mm_up h) (mm_a h 93 (4 * m + 3)) (mm_a h 96 (4 * m + 3)) (mm_a h 93 (4 * u + 3)) (mm_a h 96 (4 * u + 3)) ∧ lk_mz (mm_a h 94 (4 * m + 3)) (mm_a h 94 (4 * u + 3))) → (v = 0 ∨ v = 1) ∧ Q (.int v) h := by
          intro v hv
          by_cases y : lk_pa h (4 * m + 3) (4 * u + 3)
          · rw [mm_b_f (fun z => pf.mp z y)] at hv
            rw [hv]
            exact ⟨Or.inl rfl, q0 (Or.inr y)⟩
          · rw [mm_b_t (pf.mpr y)] at hv
            rw [hv]
            refine ⟨Or.inr rfl, q1 ?_⟩
            rintro (z | z)
            · exact nj z
            · exact y z
        exact And.intro km (mm_rf Mm.2.1.2.1.1 (And.intro ku (mm_rf Mu.2.1.2.1.1 (And.intro ⟨rfl, k_15 I⟩ (c_Ru_fitsWithMarks I AS Mm.2.2.2.2.1 Mu.2.2.2.2.1 (SC.2 m hm).1 (SC.2 u hu).1 (mm_go_from G (w _ rfl)))))))
    · have z : ¬ (nI (lk_np h m)).toInt ≤ (nI p).toInt := c_34
      rw [mm_nt (by omega), mm_nt (by omega)] at z
      omega
  | succ N ih =>
    intro p hp hj
    have hB : 0 ≤ (nI p).toInt ∧ (nI p).toInt < ((3 : Nat) : Int) := mm_nb (by omega) (by omega)
    have cp : (nI p).toNatClampNeg = p := mm_ncl (by omega)
    have s2 : ¬ mm_a h 93 (4 * u + p) = -2 := Vu.2.2.2.2.2 p (by omega)
    have pf := lk_pa_fi (h := h) (f := 4 * u + p) (t := 4 * m + p) s2 (SV.2 _ (by omega)).1.1
    have Eu := Mu.2.1.1
    have Em := Mm.2.1.1
    refine mm_go_at 29 G (And.intro km (mm_rf em (And.intro (fun c_34 => ?_) (fun c_34 => ?_))))
    · have z : (nI (lk_np h m)).toInt ≤ (nI p).toInt := c_34
      rw [mm_nt (by omega), mm_nt (by omega)] at z
      omega
    · refine And.intro ku (mm_rf Eu.2.1 (And.intro ⟨⟨by rw [Eu.2.2.1]; decide, by rw [Eu.2.2.1]; decide⟩, mm_inb 3 Eu.2.2.2 hB⟩ (mm_rf (b := mm_q h (qm u + 1) p) (by rw [cp]) (And.intro km (mm_rf Em.2.1 (And.intro ⟨⟨by rw [Em.2.2.1]; decide, by rw [Em.2.2.1]; decide⟩, mm_inb 3 Em.2.2.2 hB⟩ (mm_rf (b := mm_q h (qm m + 1) p) (by rw [cp]) (And.intro ⟨rfl, k_15 I⟩ (c_Ru_fitsWithMarks I AS (lx_prm Mu Vu (by omega)) (lx_prm Mm Vm (by omega)) ((SC.2 u hu).2.2 p (by omega)) ((SC.2 m hm).2.2 p (by omega)) (And.intro (fun c_53 => mm_go_at 29 G ?_) (fun c_53 => ⟨Or.inl rfl, q0 (Or.inl ⟨p, by omega, Classical.not_not.mp (fun y => mm_nb0 c_53 (pf.mpr y))⟩)⟩)))))))))))
      have x := ih (p + 1) (by omega) (fun j h1 => by
        by_cases y : j = p
        · rw [y]; exact pf.mp (mm_nn c_53)
        · exact hj j (by omega))
      rw [nI_succ] at x
      exact x
theorem c_Ru_mayReplace {ro : mm_Ro} {d nC nF nM m u : Nat} {qm : Nat → Nat} {h : mm_H} {Q : Value → mm_H → Prop} (I : mm_SH h) (W : lx_W ro h nC nF nM qm) (hm : m < nM) (hu : u < nM) (hQ : Q (.int (mm_b (¬ lk_vy h m u))) h) : mm_ev ro (d + 4) n_Ru_mayReplace [.ref 15, .ref (qm m), .ref (qm u)] h Q := by
  have G := mm_hM n_Ru_mayReplace rfl
  have W' := W
  obtain ⟨_, _, MS, _, SC, SV, AS, U, _, MVs⟩ := W'
  have Mm := (MS.2 m hm).2
  have Mu := (MS.2 u hu).2
  have Vm := MVs m hm
  have Vu := MVs u hu
  have em : mm_i h 516 (qm m) = nI (lk_np h m) := Mm.2.2.1.2.2.2.1.trans Vm.2.2.1
  have eu : mm_i h 516 (qm u) = nI (lk_np h u) := Mu.2.2.1.2.2.2.1.trans Vu.2.2.1
  have sm : mm_i h 514 (qm m) = mm_a h 95 m := Mm.2.2.1.2.2.1
  have su : mm_i h 514 (qm u) = mm_a h 95 u := Mu.2.2.1.2.2.1
  have km : mm_k h (qm m) = 9 := Mm.2.1.1.1
  have ku : mm_k h (qm u) = 9 := Mu.2.1.1.1
  have np3 := Vm.2.2.2.1
  have np3u := Vu.2.2.2.1
  have yy : lk_vy h m u → mm_go ro (d + 3) mm_m_Ru_mayReplace 25 [.ref 15, .ref (qm m), .ref (qm u), .null] [] h Q := fun y => mm_go_from G ⟨Or.inl rfl, mm_qe hQ (mm_b_f (fun z => z y))⟩
  refine mm_ev_at 25 (Z := mm_m_Ru_mayReplace) rfl rfl (Nat.le_of_ble_eq_true rfl) rfl ?_
  refine And.intro km (mm_rf sm (And.intro (fun c_4 => yy (Or.inl c_4)) (fun c_4 => And.intro ku (mm_rf su (And.intro (fun c_11 => yy (Or.inr (Or.inl c_11))) (fun c_11 => And.intro km (mm_rf em (And.intro ku (mm_rf eu (And.intro (fun c_22 => mm_go_at 29 G ?_) (fun c_22 => yy (Or.inr (Or.inr (Or.inl (fun e => c_22 (show nI (lk_np h m) = nI (lk_np h u) by rw [e]))))))))))))))))
  have en : lk_np h m = lk_np h u := (nI_eq (by omega) (by omega)).mp c_22
  exact l_Ru_mayReplace I W hm hu en (fun y => mm_qe hQ (mm_b_f (fun z => z (Or.inr (Or.inr (Or.inr y)))))) (fun y => mm_qe hQ (mm_b_t (fun z => by
    rcases z with a | a | a | a
    · exact c_4 a
    · exact c_11 a
    · exact a en
    · exact y a))) (lk_np h m) 0 (by omega) (fun j hj => by omega)
theorem c_Lo_departs {ro : mm_Ro} {d nC nF nM m : Nat} {qm : Nat → Nat} {h : mm_H} {Q : Value → mm_H → Prop} (T : lx_T ro h nC nF nM qm) (hm : m < nM) (hQ : Q (.int (mm_b (lk_va h nM m))) h) : mm_ev ro (d + 5) n_Lo_departs [.ref 9, .ref (qm m)] h Q := by
  have T' := T
  obtain ⟨I, V, MN, W, ow, ML, A0, AB, AD⟩ := T'
  have W' := W
  obtain ⟨_, _, MS, _, SC, SV, AS, U, _, MVs⟩ := W'
  have Mm := (MS.2 m hm).2
  have Vm := MVs m hm
  have km : mm_k h (qm m) = 9 := Mm.2.1.1.1
  have ho := Vm.2.1
  have hoC := (SC.2 m hm).2.1
  have G := mm_hM n_Lo_departs rfl
  have hC := V.2.2.2.2.1
  have e12 : mm_i h 512 (qm m) = mm_a h 87 m := Mm.2.2.1.1
  have e13 : mm_i h 513 (qm m) = mm_a h 88 m := Mm.2.2.1.2.1
  have eu : (mm_a h 81 (mm_a h 87 m).toNatClampNeg).toInt = mm_up h (mm_a h 87 m).toInt.toNat := rfl
  have hc : ((mm_a h 87 m).toNatClampNeg : Int) = (mm_a h 87 m).toInt := by
    show (((mm_a h 87 m).toInt.toNat : Nat) : Int) = _
    omega
  have e3 : mm_a h 3 (mm_a h 87 m).toNatClampNeg = mm_a h 81 (mm_a h 87 m).toNatClampNeg := AB _ (by omega)
  have hx : mm_a h 81 (mm_a h 87 m).toNatClampNeg = -1 ∨ (0 ≤ (mm_a h 81 (mm_a h 87 m).toNatClampNeg).toInt ∧ (mm_a h 81 (mm_a h 87 m).toNatClampNeg).toInt < (nC : Int)) := by
    by_cases q : (mm_a h 87 m).toNatClampNeg = 0
    · rw [q]; exact Or.inl A0
    · obtain ⟨s, hs1, hs2⟩ := AD (mm_a h 87 m).toNatClampNeg (by omega) (by omega)
      right
      rw [hs2, mm_nt (by omega)]
      omega
  refine mm_ev_in (Z := mm_m_Lo_departs) rfl rfl (Nat.le_of_ble_eq_true rfl) rfl ?_
  refine And.intro (k_9 I) (mm_rf (r_128 I) (And.intro (k_2 I) (mm_rf (r_65 I) (And.intro km (mm_rf e12 (And.intro ⟨k_3 I, mm_inb 6 (n_3 I) (by omega)⟩ (mm_rf e3 (And.intro (k_9 I) (mm_rf (r_128 I) (And.intro km (mm_rf e13 (And.intro ⟨rfl, k_2 I⟩ (c_St_nearest T hx (fun u at_ => ?_) (fun nf => ?_))))))))))))))
  · have at2 : lk_at h nM (mm_a h 88 m) (mm_up h (mm_a h 87 m).toInt.toNat) u := at_
    have hu : u < nM := by
      obtain ⟨k, _, ⟨a, _⟩, _⟩ := at2
      exact a
    have q0 : ¬ qm u = 0 := fun e => by have := (MS.2 u hu).2.1; omega
    have va : lk_va h nM m ↔ lk_vy h m u := ⟨fun ⟨u', a, b⟩ => by rw [lk_at_uni at2 a]; exact b, fun b => ⟨u, at2, b⟩⟩
    refine And.intro (fun c_27 => absurd c_27 q0) (fun c_27 => ?_)
    refine And.intro (k_9 I) (mm_rf (r_129 I) (And.intro ⟨rfl, k_15 I⟩ (c_Ru_mayReplace I W hm hu (And.intro (fun c_39 => mm_go_from G ⟨Or.inl rfl, mm_qe hQ (mm_b_f (fun z => mm_nn c_39 (va.mp z)))⟩) (fun c_39 => mm_go_from G ⟨Or.inr rfl, mm_qe hQ (mm_b_t (va.mpr (Classical.not_not.mp (mm_nb0 c_39))))⟩)))))
  · refine And.intro (fun c_27 => mm_go_from G ⟨Or.inl rfl, mm_qe hQ (mm_b_f ?_)⟩) (fun c_27 => absurd rfl c_27)
    rintro ⟨u, hu, _⟩
    exact lk_at_nf hu nf
