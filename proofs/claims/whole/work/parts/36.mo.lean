/-- what an instruction's argument must be -/
def mm_arg (nC nF nM : Nat) (o a : Int) : Prop := ((o = 2 ∨ o = 3) → 0 ≤ a ∧ a ≤ 5) ∧ ((o = 7 ∨ o = 12) → 0 ≤ a ∧ a < (nC : Int)) ∧ ((o = 9 ∨ o = 10) → 0 ≤ a ∧ a < (nF : Int)) ∧ (o = 11 → 0 ≤ a ∧ a < (nM : Int)) ∧ ((13 ≤ o ∧ o ≤ 15) → 0 ≤ a ∧ a ≤ 19)
theorem mm_eI {o : Int32} {k : Int} (hk : (Int32.ofInt k).toInt = k) : o = Int32.ofInt k ↔ o.toInt = k := by
  constructor
  · intro e; rw [e]; exact hk
  · intro e; exact Int32.toInt_inj.mp (e.trans hk.symm)
theorem c_Mo_add {ro : mm_Ro} {d nC nF nM : Nat} {np nl ng : Nat → Nat} {m o a : Int32} {h : mm_H} {Q : Value → mm_H → Prop} (I : mm_SH h) (V : mm_MN h nC nF nM) (A : mm_MA h np nl ng)
    (q1 : mm_fz h → Q (.int (-3)) h) (q2 : ¬ mm_fz h → ¬ ((0 ≤ m.toInt ∧ m.toInt < (nM : Int)) ∧ (0 ≤ o.toInt ∧ o.toInt ≤ 17) ∧ mm_arg nC nF nM o.toInt a.toInt) → Q (.int (-1)) h)
    (q3 : ¬ mm_fz h → ∀ k, k < nM → m = nI k → (0 ≤ o.toInt ∧ o.toInt ≤ 17) → mm_arg nC nF nM o.toInt a.toInt → nl k = 20 → Q (.int (-2)) h)
    (q4 : ¬ mm_fz h → ∀ k, k < nM → m = nI k → (0 ≤ o.toInt ∧ o.toInt ≤ 17) → mm_arg nC nF nM o.toInt a.toInt → nl k < 20 → Q (.int (nI (nl k + 1))) (mm_sa (mm_sa (mm_sa h 97 (20 * k + nl k) o) 98 (20 * k + nl k) a) 91 k (nI (nl k + 1)))) : mm_ev ro (d + 3) n_Mo_add [.ref 80, .int m, .int o, .int a] h Q := by
  refine mm_ev_in (Z := mm_m_Mo_add) rfl rfl (Nat.le_of_ble_eq_true rfl) rfl ?_
  have hM := V.2.2.2.2.2.2
  have hC := V.2.2.2.2.1
  have hF := V.2.2.2.2.2.1
  refine And.intro ⟨rfl, k_80 I⟩ (c_Mo_frozen I (And.intro (fun c_4 => mm_go_from (mm_hM n_Mo_add rfl) ?_) (fun c_4 => q1 (mm_nn c_4))))
  have f := mm_b0.mp c_4
  refine And.intro ⟨rfl, k_80 I⟩ (c_Mo_isM I V (And.intro (fun c_15 => mm_go_from (mm_hM n_Mo_add rfl) (q2 f (fun q => mm_b0.mp c_15 q.1))) (fun c_15 => ?_)))
  refine And.intro ⟨rfl, trivial⟩ (c_Mo_within I (And.intro (fun c_25 => mm_go_from (mm_hM n_Mo_add rfl) ?_) (fun c_25 => q2 f (fun q => mm_nb0 c_25 q.2.1))))
  obtain ⟨k, hk, rfl⟩ := mm_of (mm_nn c_15)
  have ho : 0 ≤ o.toInt ∧ o.toInt ≤ 17 := mm_nn c_25
  have hk10 : k < 10 := by omega
  have hc : (nI k).toNatClampNeg = k := mm_ncl (by omega)
  have hB : 0 ≤ (nI k).toInt ∧ (nI k).toInt < ((10 : Nat) : Int) := mm_nb hk10 (by omega)
  have e0 : mm_a h 91 (nI k).toNatClampNeg = nI (nl k) := by rw [hc]; exact (A k hk10).2.1.1
  have fin : mm_arg nC nF nM o.toInt a.toInt → ∀ w : Value, mm_go ro (d + 2) mm_m_Mo_add 141 [.ref 80, .int (nI k), .int o, .int a, w] [] h Q := by
    intro hv w
    refine mm_go_from (mm_hM n_Mo_add rfl) (And.intro (k_80 I) (mm_rf (r_589 I) (And.intro ⟨k_91 I, mm_inb 10 (n_91 I) hB⟩ (mm_rf e0 (And.intro (fun c_149 => mm_go_from (mm_hM n_Mo_add rfl) ?_) (fun c_149 => q3 f k hk rfl ho hv (mm_nee (by have := (A k hk10).2.1.2; omega) (by omega) (mm_no c_149))))))))
    have hl : nl k < 20 := mm_nel (A k hk10).2.1.2 (by omega) c_149
    have eg : (20 : Int32) * nI k + nI (nl k) = nI (20 * k + nl k) := mm_lin 20 k (nl k)
    have hcg : ((20 : Int32) * nI k + nI (nl k)).toNatClampNeg = 20 * k + nl k := by rw [eg]; exact mm_ncl (by omega)
    have hBg : 0 ≤ ((20 : Int32) * nI k + nI (nl k)).toInt ∧ ((20 : Int32) * nI k + nI (nl k)).toInt < ((200 : Nat) : Int) := by rw [eg]; exact mm_nb (by omega) (by omega)
    refine And.intro (k_80 I) (mm_rf (r_595 I) (And.intro (k_80 I) (mm_rf (r_589 I) (And.intro ⟨k_91 I, mm_inb 10 (n_91 I) hB⟩ (mm_rf e0 (And.intro ⟨k_97 I, mm_inb 200 (n_97 I) hBg⟩ (And.intro (k_80 I) (mm_rf (r_596 I) (And.intro (k_80 I) (mm_rf (r_589 I) (And.intro ⟨k_91 I, mm_inb 10 (n_91 I) hB⟩ (mm_rf e0 (And.intro ⟨k_98 I, mm_inb 200 (n_98 I) hBg⟩ (And.intro (k_80 I) (mm_rf (r_589 I) (And.intro ⟨k_91 I, mm_inb 10 (n_91 I) hB⟩ (mm_rf e0 (And.intro ⟨k_91 I, mm_inb 10 (n_91 I) hB⟩ (And.intro (k_80 I) (mm_rf (r_589 I) (And.intro ⟨k_91 I, mm_inb 10 (n_91 I) hB⟩ (mm_rf mm_a1 ?_))))))))))))))))))))))
    refine mm_qq (q4 f k hk rfl ho hv hl) ?_ ?_
    · show Value.int (nI (nl k) + 1) = _
      rw [← nI_succ]
    · show mm_sa (mm_sa (mm_sa h 97 ((20 : Int32) * nI k + nI (nl k)).toNatClampNeg o) 98 ((20 : Int32) * nI k + nI (nl k)).toNatClampNeg a) 91 (nI k).toNatClampNeg (nI (nl k) + 1) = _
      rw [hc, hcg, ← nI_succ]
  have bad : ¬ mm_arg nC nF nM o.toInt a.toInt → Q (.int (-1)) h := fun q => q2 f (fun z => q z.2.2)
  have tl : ∀ mo : Int32, -2 ≤ mo.toInt → ((mo.toInt = -2 ∨ (0 ≤ a.toInt ∧ a.toInt ≤ mo.toInt)) ↔ mm_arg nC nF nM o.toInt a.toInt) → mm_go ro (d + 2) mm_m_Mo_add 120 [.ref 80, .int (nI k), .int o, .int a, .null] [.int mo] h Q := by
    intro mo h1 h2
    refine mm_go_from (mm_hM n_Mo_add rfl) (And.intro (fun c_126 => fin (h2.mp (Or.inl ?_)) _) (fun c_126 => ?_))
    · have c : mo.toInt ≤ -2 := c_126
      omega
    · have c : ¬ mo.toInt ≤ -2 := c_126
      refine And.intro ⟨rfl, trivial⟩ (c_Mo_within I (And.intro (fun c_136 => fin (h2.mp (Or.inr (mm_nn c_136))) _) (fun c_136 => bad (fun q => ?_))))
      rcases h2.mpr q with z | z
      · omega
      · exact mm_nb0 c_136 z
  have E : ∀ j : Int, (Int32.ofInt j).toInt = j → (o = Int32.ofInt j ↔ o.toInt = j) := fun j hj => mm_eI hj
  have p1 : ∀ n : Nat, n ≤ 12 → (nI n - Int32.ofInt 1).toInt = (n : Int) - 1 := fun n hn => mm_prd (by omega)
  -- which instruction
  have lv : ∀ j : Int, (Int8.ofInt j).toInt32 = Int32.ofInt j → True := fun _ _ => trivial
  refine And.intro (fun c_32 => mm_go_from (mm_hM n_Mo_add rfl) (tl (Int32.ofInt 5) (by decide) ?_)) (fun c_32 => ?_)
  · have c : o.toInt = 2 := (E 2 (by decide)).mp c_32
    unfold mm_arg
    rw [show (Int32.ofInt 5).toInt = 5 by decide]
    omega
  have n2 : ¬ o.toInt = 2 := fun z => c_32 ((E 2 (by decide)).mpr z)
  have ops7 : (o.toInt = 7 ∨ o.toInt = 12) → mm_go ro (d + 2) mm_m_Mo_add 56 [.ref 80, .int (nI k), .int o, .int a, .null] [] h Q := by
    intro hq
    refine mm_go_from (mm_hM n_Mo_add rfl) (And.intro (k_80 I) (mm_rf V.1 (tl (nI nC - Int32.ofInt 1) (by rw [p1 nC (by omega)]; omega) ?_)))
    rw [p1 nC (by omega)]
    unfold mm_arg
    omega
  have ops9 : (o.toInt = 9 ∨ o.toInt = 10) → mm_go ro (d + 2) mm_m_Mo_add 77 [.ref 80, .int (nI k), .int o, .int a, .null] [] h Q := by
    intro hq
    refine mm_go_from (mm_hM n_Mo_add rfl) (And.intro (k_80 I) (mm_rf V.2.1 (tl (nI nF - Int32.ofInt 1) (by rw [p1 nF (by omega)]; omega) ?_)))
    rw [p1 nF (by omega)]
    unfold mm_arg
    omega
  have none : ¬ (o.toInt = 2 ∨ o.toInt = 3 ∨ o.toInt = 7 ∨ o.toInt = 12 ∨ o.toInt = 9 ∨ o.toInt = 10 ∨ o.toInt = 11 ∨ (13 ≤ o.toInt ∧ o.toInt ≤ 15)) → mm_go ro (d + 2) mm_m_Mo_add 118 [.ref 80, .int (nI k), .int o, .int a, .null] [] h Q := by
    intro hq
    refine mm_go_at 120 (mm_hM n_Mo_add rfl) (tl (Int8.ofInt (-2)).toInt32 (by decide) ?_)
    rw [show ((Int8.ofInt (-2)).toInt32).toInt = -2 by decide]
    unfold mm_arg
    omega
  refine And.intro (fun c_37 => mm_go_from (mm_hM n_Mo_add rfl) ?_) (fun c_37 => tl (Int32.ofInt 5) (by decide) ?_)
  · have n3 : ¬ o.toInt = 3 := fun z => c_37 ((E 3 (by decide)).mpr z)
    refine And.intro (fun c_47 => ops7 (Or.inl ((E 7 (by decide)).mp c_47))) (fun c_47 => ?_)
    have n7 : ¬ o.toInt = 7 := fun z => c_47 ((E 7 (by decide)).mpr z)
    refine And.intro (fun c_53 => mm_go_from (mm_hM n_Mo_add rfl) ?_) (fun c_53 => ?_)
    · have n12 : ¬ o.toInt = 12 := fun z => c_53 ((E 12 (by decide)).mpr z)
      refine And.intro (fun c_68 => ops9 (Or.inl ((E 9 (by decide)).mp c_68))) (fun c_68 => ?_)
      have n9 : ¬ o.toInt = 9 := fun z => c_68 ((E 9 (by decide)).mpr z)
      refine And.intro (fun c_74 => mm_go_from (mm_hM n_Mo_add rfl) ?_) (fun c_74 => ?_)
      · have n10 : ¬ o.toInt = 10 := fun z => c_74 ((E 10 (by decide)).mpr z)
        refine And.intro (fun c_89 => mm_go_from (mm_hM n_Mo_add rfl) ?_) (fun c_89 => ?_)
        · have n11 : ¬ o.toInt = 11 := fun z => c_89 ((E 11 (by decide)).mpr z)
          refine And.intro (fun c_104 => none ?_) (fun c_104 => ?_)
          · have c : o.toInt < 13 := c_104
            omega
          · have c : ¬ o.toInt < 13 := c_104
            refine And.intro (fun c_110 => none ?_) (fun c_110 => ?_)
            · have c2 : 15 < o.toInt := c_110
              omega
            · have c2 : ¬ 15 < o.toInt := c_110
              refine tl (Int8.ofInt 19).toInt32 (by decide) ?_
              rw [show ((Int8.ofInt 19).toInt32).toInt = 19 by decide]
              unfold mm_arg
              omega
        · have c : o.toInt = 11 := (E 11 (by decide)).mp (mm_no c_89)
          refine And.intro (k_80 I) (mm_rf V.2.2.1 (tl (nI nM - Int32.ofInt 1) (by rw [p1 nM (by omega)]; omega) ?_))
          rw [p1 nM (by omega)]
          unfold mm_arg
          omega
      · have c : o.toInt = 10 := (E 10 (by decide)).mp (mm_no c_74)
        refine And.intro (k_80 I) (mm_rf V.2.1 (tl (nI nF - Int32.ofInt 1) (by rw [p1 nF (by omega)]; omega) ?_))
        rw [p1 nF (by omega)]
        unfold mm_arg
        omega
    · have c : o.toInt = 12 := (E 12 (by decide)).mp (mm_no c_53)
      refine And.intro (k_80 I) (mm_rf V.1 (tl (nI nC - Int32.ofInt 1) (by rw [p1 nC (by omega)]; omega) ?_))
      rw [p1 nC (by omega)]
      unfold mm_arg
      omega
  · have c : o.toInt = 3 := (E 3 (by decide)).mp (mm_no c_37)
    rw [show (Int32.ofInt 5).toInt = 5 by decide]
    unfold mm_arg
    omega
