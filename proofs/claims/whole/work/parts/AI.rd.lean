/-! calls that only tell; check, load, frame -/
theorem rr_nop {ro : mm_Ro} {h : mm_H} (R : rr ro h) : rr_P ro h h := ⟨R, by omega, by omega⟩
theorem rr_I {ro : mm_Ro} {h : mm_H} (R : rr ro h) : mm_SH h := by
  obtain ⟨nC, nF, nM, qm, P, T, _⟩ := R
  exact T.1
theorem lx_VW_cg {h h' : mm_H} {P : Nat → mm_F × Int32} (e1 : ∀ f a, 11 ≤ a → a < 56 → mm_i h' f a = mm_i h f a) (e2 : ∀ a, 11 ≤ a → a < 57 → ∀ j, mm_a h' a j = mm_a h a j) (v : lx_VW h P) : lx_VW h' P := by
  intro a q
  have b := lx_is_big q
  obtain ⟨⟨a1, a2, a3, a4⟩, a5⟩ := v a q
  exact ⟨⟨(e1 _ a b.1 b.2).trans a1, (e1 _ a b.1 b.2).trans a2, (e1 _ a b.1 b.2).trans a3, (e1 _ a b.1 b.2).trans a4⟩, fun j hj => (e2 (a + 1) (by omega) (by omega) j).trans (a5 j hj)⟩
theorem rr_fz {h h' : mm_H} (e85 : mm_a h' 85 = mm_a h 85) : mm_fz h' ↔ mm_fz h := by
  unfold mm_fz
  rw [e85]
theorem rr_L_ag {h h' : mm_H} {nC nF nM : Nat} (x : lk_sm h h') (e5 : mm_a h' 5 = mm_a h 5) (e85 : mm_a h' 85 = mm_a h 85) (e68 : mm_i h' 68 2 = mm_i h 68 2) (L : rr_L h nC nF nM) : rr_L h' nC nF nM := by
  obtain ⟨l1, l2, l3, l4, l5⟩ := L
  have e81 := (x 81 (by omega) (by omega) (by omega)).symm
  have e87 := (x 87 (by omega) (by omega) (by omega)).symm
  unfold rr_L
  rw [e5, e85, e68, rr_fz e85, e81, e87]
  exact ⟨l1, l2, l3, l4, fun m c hm hc o z => lk_fine_sm x (l5 m c hm hc o z)⟩
theorem rr_D_ag {h h' : mm_H} {nF nM : Nat} {qm : Nat → Nat} (x : mm_ag h h') (et : mm_t h' = mm_t h) (D : rr_D h nF nM qm) : rr_D h' nF nM qm := by
  have s := mm_ag_sm x
  have e87 := (s 87 (by omega) (by omega) (by omega)).symm
  have e88 := (s 88 (by omega) (by omega) (by omega)).symm
  have e89 := (s 89 (by omega) (by omega) (by omega)).symm
  have np : lk_np h' = lk_np h := funext (fun m => by unfold lk_np; rw [e89])
  unfold rr_D
  rw [et, x.2.2.2.1, e87, e88, np]
  exact D
theorem rr_U_sm {h h' : mm_H} {nM : Nat} (s : lk_sm h h') (U : rr_U h nM) : rr_U h' nM := by
  have q : rr_U (lk_c h) nM := U
  rw [lk_c_eq s] at q
  exact q
theorem rr_place {ro : mm_Ro} {h : mm_H} (R : rr ro h) : rr_2 ro 9 n_Ga_place n_Mo_place [] h := by
  have R' := R
  obtain ⟨nC, nF, nM, qm, P, T, _, _, _, V, _⟩ := R'
  exact c_Ga_place (d := 8) T.1 ⟨_, rfl, c_Mo_place (d := 8) T.1 ⟨by rw [V.2.2.2.2.1], rr_nop R⟩⟩
theorem rr_value {ro : mm_Ro} {h : mm_H} (R : rr ro h) : rr_2 ro 9 n_Ga_value n_Mo_value [] h := by
  have R' := R
  obtain ⟨nC, nF, nM, qm, P, T, _, _, _, V, M⟩ := R'
  exact c_Ga_value (d := 8) T.1 ⟨_, rfl, c_Mo_value (d := 8) T.1 ⟨by rw [M.2.2.1], rr_nop R⟩⟩
theorem rr_told {ro : mm_Ro} {h : mm_H} {w : Int32} (R : rr ro h) : rr_2 ro 9 n_Ga_told n_Mo_told [.int w] h := by
  have R' := R
  obtain ⟨nC, nF, nM, qm, P, T, _, _, _, V, ⟨_, ⟨k, _, k1, k2, _⟩, m1, m2, m3, m4, m5⟩⟩ := R'
  have N := rr_nop R
  have f : ∀ v, (w.toInt = 0 → mm_i h 632 80 = v) → (w.toInt = 1 → mm_i h 629 80 = v) → (w.toInt = 2 → mm_i h 631 80 = v) → (w.toInt = 3 → mm_i h 630 80 = v) → (w.toInt = 4 → mm_i h 634 80 = v) → ((w.toInt < 0 ∨ 4 < w.toInt) → -1 = v) → ∃ u, Value.int v = .int u ∧ mm_ev ro 9 n_Mo_told [.ref 80, .int w] h (fun r' h2 => r' = .int u ∧ rr_P ro h h2) := fun v a0 a1 a2 a3 a4 a5 => ⟨v, rfl, c_Mo_told (d := 8) T.1 (fun c => ⟨by rw [a0 c], N⟩) (fun c => ⟨by rw [a1 c], N⟩) (fun c => ⟨by rw [a2 c], N⟩) (fun c => ⟨by rw [a3 c], N⟩) (fun c => ⟨by rw [a4 c], N⟩) (fun c => ⟨by rw [a5 c], N⟩)⟩
  refine c_Ga_told (d := 8) T.1 (fun c => f _ (fun _ => m2.symm) ?_ ?_ ?_ ?_ ?_) (fun c => f _ ?_ (fun _ => m3.symm) ?_ ?_ ?_ ?_) (fun c => f _ ?_ ?_ (fun _ => k2.trans k1.symm) ?_ ?_ ?_) (fun c => f _ ?_ ?_ ?_ (fun _ => m4.symm) ?_ ?_) (fun c => f _ ?_ ?_ ?_ ?_ (fun _ => m5.symm) ?_) (fun c => f _ ?_ ?_ ?_ ?_ ?_ (fun _ => rfl))
  all_goals (intro c2; omega)
theorem rr_isLoaded {ro : mm_Ro} {h : mm_H} {c : Int32} (R : rr ro h) : rr_2 ro 9 n_Ga_isLoaded n_Mo_isLoaded [.int c] h := by
  have R' := R
  obtain ⟨nC, nF, nM, qm, P, T, _, _, L, _⟩ := R'
  have h6 := T.2.1.2.2.2.2.1
  refine c_Ga_isLoaded (d := 6) T.1 T.2.1 ⟨_, rfl, c_Mo_isLoaded (d := 6) T.1 T.2.2.1 ⟨?_, rr_nop R⟩⟩
  rw [mm_b_iff]
  constructor
  · rintro ⟨m, h1, h2, h3⟩
    exact ⟨m, h1, h2, by rw [(L.1 m (by omega)).1]; exact h3⟩
  · rintro ⟨m, h1, h2, h3⟩
    exact ⟨m, h1, h2, by rw [← (L.1 m (by omega)).1]; exact h3⟩
theorem rr_output {ro : mm_Ro} {h : mm_H} {k : Int32} (R : rr ro h) : rr_2 ro 9 n_Ga_output n_Mo_output [.int k] h := by
  have R' := R
  obtain ⟨nC, nF, nM, qm, P, T, _, _, _, V, ⟨_, ⟨n, n4, k1, k2, k3⟩, _⟩⟩ := R'
  refine c_Ga_output (d := 7) T.1 k1 (by omega) (fun j j1 j2 e => ⟨_, rfl, c_Mo_output (d := 7) T.1 k2 (by omega) (fun j' j1' j2' e' => ⟨?_, rr_nop R⟩) (fun z => absurd ⟨?_, ?_, ?_⟩ z)⟩) (fun z => ⟨_, rfl, c_Mo_output (d := 7) T.1 k2 (by omega) (fun j' j1' j2' e' => absurd ⟨?_, ?_, ?_⟩ z) (fun _ => ⟨rfl, rr_nop R⟩)⟩)
  · have : j = j' := (nI_eq (by omega) (by omega)).mp (e.symm.trans e')
    rw [← this, k3 j j1 j2]
  all_goals (first | rw [e, mm_nt (by omega)] | rw [e', mm_nt (by omega)]); omega
theorem rr_input {ro : mm_Ro} {h : mm_H} {v : Int32} (R : rr ro h) : rr_2 ro 9 n_Ga_input n_Mo_input [.int v] h := by
  have R' := R
  obtain ⟨nC, nF, nM, qm, P, T, D, U, L, V, ⟨⟨n, n8, k1, k2, k3⟩, M2⟩⟩ := R'
  refine c_Ga_input (d := 7) T.1 k1 n8 (fun e => ⟨_, rfl, c_Mo_input (d := 8) T.1 k2 n8 (fun _ => ⟨rfl, rr_nop R⟩) (fun z => by omega)⟩) (fun lt => ⟨_, rfl, c_Mo_input (d := 8) (h := mm_si (mm_sa h 57 n v) 322 56 (nI (n + 1))) T.1 k2 n8 (fun e => by omega) (fun _ => ⟨rfl, ?_, Nat.le_add_right _ _, Nat.le_add_right _ _⟩)⟩)
  have ag : mm_ag h (mm_si (mm_sa (mm_si (mm_sa h 57 n v) 322 56 (nI (n + 1))) 115 n v) 628 80 (nI (n + 1))) := by
    refine ⟨rfl, fun _ _ _ => rfl, rfl, rfl, fun f a ha => ?_, fun f hf => ?_, fun a ha => funext (fun j => ?_)⟩
    · exact (if_neg (by omega)).trans (if_neg (by omega))
    · exact (if_neg (by omega)).trans (if_neg (by omega))
    · exact (if_neg (by omega)).trans (if_neg (by omega))
  refine ⟨nC, nF, nM, qm, P, lx_T_ag ag T.1 T, D, U, rr_L_ag (mm_ag_sm ag) rfl rfl rfl L, ?_, ⟨n + 1, by omega, rfl, rfl, fun j hj => ?_⟩, M2⟩
  · obtain ⟨v1, v2, v3, v4, v5, v6⟩ := V
    exact ⟨lx_VW_cg (h := h) (fun f a a1 a2 => (if_neg (by omega)).trans (if_neg (by omega))) (fun a a1 a2 j => show (if a = 115 ∧ j = n then v else (if a = 57 ∧ j = n then v else mm_a h a j)) = mm_a h a j by rw [if_neg (by omega), if_neg (by omega)]) v1, v2, v3, v4, v5, v6⟩
  · show (if 57 = 115 ∧ j = n then v else (if 57 = 57 ∧ j = n then v else mm_a h 57 j)) = (if 115 = 115 ∧ j = n then v else (if 115 = 57 ∧ j = n then v else mm_a h 115 j))
    by_cases q : j = n
    · rw [if_neg (by omega), if_pos ⟨rfl, q⟩, if_pos ⟨rfl, q⟩]
    · rw [if_neg (by omega), if_neg (by omega), if_neg (by omega), if_neg (by omega)]
      exact k3 j (by omega)

theorem lk_ins_4 {h : mm_H} {nF m len i : Nat} {X : Nat → mm_F} {v : Int32} (p : lk_ins h nF m len X v i) : ∀ k, k < 20 → (X k).1.toInt ≤ 4 := by
  intro k hk
  have m1 : (-1 : Int32).toInt = -1 := by decide
  have m2 : (-2 : Int32).toInt = -2 := by decide
  rcases p with ⟨_, a, _⟩ | ⟨_, _, a, _⟩ | ⟨_, _, LF, un, _⟩
  · rw [a k hk]; omega
  · rw [a k hk]; omega
  · by_cases q : k < len
    · obtain ⟨fo, pr⟩ := LF.1 k q
      rcases pr with z | z | z
      · rw [z]; omega
      · rw [z]; omega
      · exact (fo z).1
    · rw [un k (by omega) hk]; omega
theorem lk_lo_4 {h : mm_H} {nC nF nM c m i : Nat} {X0 X : Nat → mm_F} {v : Int32} (a4 : ∀ k, k < 20 → (X0 k).1.toInt ≤ 4) (p : lk_lo h nC nF nM c X0 X v m i) : ∀ k, k < 20 → (X k).1.toInt ≤ 4 := by
  have ld : ∀ m X, lk_LD h nC nF nM c X0 m X → ∀ k, k < 20 → (X k).1.toInt ≤ 4 := by
    intro m X l
    rcases l.2 with ⟨_, e⟩ | ⟨j, _, _, _, len, i, _, n⟩
    · rw [e]; exact a4
    · exact lk_ins_4 n
  rcases p with ⟨_, l⟩ | ⟨_, _, l, _⟩ | ⟨_, _, _, _, _, len, _, n⟩
  · exact ld _ _ l
  · exact ld _ _ l
  · exact lk_ins_4 n
/-- after looking -/
theorem rr_look {ro : mm_Ro} {h g : mm_H} {nC nF nM : Nat} {qm : Nat → Nat} {P' : Nat → mm_F × Int32} {e : Int32 × Int32 × Int32} {c : mm_F} {hd : Nat → Int32 × Int32 × Int32} {sv : Nat → mm_V} (T : lx_T ro h nC nF nM qm) (D : rr_D h nF nM qm) (U : rr_U h nM) (M : rr_M h) (ag : mm_ag h g) (I : mm_SH g) (et : mm_t g = mm_t h) (L : rr_L g nC nF nM) (M' : rr_M g) (ok : lx_ok nC P') (bs : lk_bn sv) (bc : lk_bn c.2.2.2) (ep : mm_i g 3 1 = e.2.1) (fe : ∀ k, k < 20 → mm_feq (lx_X P' k) (lk_xr e.1 hd sv k) ∧ (lx_X P' k).1.toInt ≤ 4) : rr ro (lk_L (lx_L g P') e c hd sv) := by
  have ag2 : mm_ag h (lk_L (lx_L g P') e c hd sv) := mm_ag_trans ag (mm_ag_trans lx_ag_L lx_ag_k)
  have I2 : mm_SH (lk_L (lx_L g P') e c hd sv) := I
  refine ⟨nC, nF, nM, qm, P', lx_T_ag ag2 I2 T, rr_D_ag ag2 et D, rr_U_sm (mm_ag_sm ag2) U, rr_L_ag (mm_ag_sm (mm_ag_trans lx_ag_L lx_ag_k)) rfl rfl rfl L, ?_, M'⟩
  refine ⟨?_, ok, bs, bc, ep, fe⟩
  refine lx_VW_cg (h := lx_L g P') (fun f a a1 a2 => if_neg (by omega)) (fun a a1 a2 j => ?_) lx_L_VW
  show (if a = 102 then _ else if a = 103 then _ else if a = 104 then _ else if a = 105 then _ else if a = 106 then _ else if a = 107 then _ else if a = 108 then _ else if a = 109 then _ else if a = 110 then _ else if a = 111 then _ else if a = 112 then _ else if a = 113 then _ else if a = 114 then _ else mm_a (lx_L g P') a j) = mm_a (lx_L g P') a j
  rw [if_neg (by omega), if_neg (by omega), if_neg (by omega), if_neg (by omega), if_neg (by omega), if_neg (by omega), if_neg (by omega), if_neg (by omega), if_neg (by omega), if_neg (by omega), if_neg (by omega), if_neg (by omega), if_neg (by omega)]
theorem rr_check {ro : mm_Ro} {h : mm_H} {x : Int32} (R : rr ro h) : rr_2 ro 9 n_Ga_check n_Mo_check [.int x] h := by
  have R' := R
  obtain ⟨nC, nF, nM, qm, P, T, D, U, L, V, M⟩ := R'
  obtain ⟨v1, v2, v3, v4, v5, v6⟩ := V
  have eL := lx_VW_L v1
  have w : mm_ev ro 9 n_Ga_check [.ref 1, .int x] (lx_L h P) (fun r h1 => ∃ v, r = .int v ∧ mm_ev ro 9 n_Mo_check [.ref 80, .int x] h1 (fun r' h2 => r' = .int v ∧ rr_P ro h h2)) := by
    refine c_Ga_check (d := 1) T v2 (fun n => ?_) (fun m hm e len ML P' v i y ok ins => ?_)
    · rw [eL]
      refine ⟨_, rfl, ?_⟩
      have w2 : mm_ev ro 9 n_Mo_check [.ref 80, .int x] (lk_L h (rr_e h) (rr_c h) (rr_hd h) (rr_sv h)) (fun r' h2 => r' = .int (-1) ∧ rr_P ro h h2) := by
        refine c_Mo_check (d := 1) T v3 v4 (fun _ => ?_) (fun m hm e => absurd ?_ n)
        · rw [rr_vw]; exact ⟨rfl, rr_nop R⟩
        · rw [e]; exact mm_nb hm (by have := T.2.1.2.2.2.2.2.2; omega)
      rw [rr_vw] at w2
      exact w2
    · refine ⟨_, rfl, ?_⟩
      generalize hg : lx_B h (qm m) y (lk_pz m v i) = g
      have ag : mm_ag h g := by rw [← hg]; exact lx_ag_B
      have I1 : mm_SH g := by rw [← hg]; exact lx_SHB T.1
      have T1 : lx_T ro (lx_L g P') nC nF nM qm := lx_T_ag (mm_ag_trans ag lx_ag_L) I1 T
      have sm := mm_ag_sm (mm_ag_trans ag (lx_ag_L (P := P')))
      have b3 : rr_sv (lx_L g P') = rr_sv h := by rw [← hg]; rfl
      have b4 : rr_c (lx_L g P') = rr_c h := by rw [← hg]; rfl
      have w2 : mm_ev ro 9 n_Mo_check [.ref 80, .int x] (lk_L (lx_L g P') (rr_e (lx_L g P')) (rr_c (lx_L g P')) (rr_hd (lx_L g P')) (rr_sv (lx_L g P'))) (fun r' h2 => r' = .int v ∧ rr_P ro h h2) := by
        refine c_Mo_check (d := 1) T1 (by rw [b3]; exact v3) (by rw [b4]; exact v4) (fun n => absurd ?_ n) (fun m2 hm2 e2 len2 ML2 b c' hd' sv' v2' i2 bc bs ins2 => ?_)
        · rw [e]; exact mm_nb hm (by have := T.2.1.2.2.2.2.2.2; omega)
        · have hM := T.2.1.2.2.2.2.2.2
          have em : m = m2 := (nI_eq (by omega) (by omega)).mp (e.symm.trans e2)
          subst em
          have ML' := lx_ML_sm (lk_sm_symm sm) ML2
          have el := lx_ML_len ML ML'
          subst el
          obtain ⟨u1, u2, u3⟩ := lk_ins_uni (lx_T_WM T hm ML) ins (lk_ins_sm (lk_sm_symm sm) ins2)
          refine ⟨by rw [u1], ?_, ?_, ?_⟩
          · refine rr_look T D U M ag I1 (by rw [← hg]; rfl) (rr_L_ag (mm_ag_sm ag) (by rw [← hg]; rfl) (by rw [← hg]; rfl) (by rw [← hg]; rfl) L) (by rw [← hg]; exact M) ok bs bc ?_ (fun k hk => ⟨?_, lk_ins_4 ins k hk⟩)
            · rw [← hg, ← u1, ← u2]; rfl
            · show mm_feq (lx_X P' k) (lk_xr (nI m) hd' sv' k)
              rw [lk_xr_n (by omega)]
              exact u3 k hk
          · show mm_t g ≤ _
            rw [← hg]
            exact Nat.le_add_right _ _
          · show mm_s g ≤ _
            rw [← hg]
            exact Nat.le_add_right _ _
      rw [rr_vw] at w2
      exact w2
  rw [eL] at w
  exact w
