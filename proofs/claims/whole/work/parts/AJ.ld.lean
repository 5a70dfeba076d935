/-! frame, load -/
theorem rr_frame {ro : mm_Ro} {h : mm_H} {i s w : Int32} (R : rr ro h) : rr_2 ro 9 n_Ga_frame n_Mo_frame [.int i, .int s, .int w] h := by
  have R' := R
  obtain ⟨nC, nF, nM, qm, P, T, D, U, L, V, M⟩ := R'
  obtain ⟨v1, v2, v3, v4, v5, v6⟩ := V
  have eL := lx_VW_L v1
  have x4 : ∀ j, j < 20 → (lk_xr (rr_e h).1 (rr_hd h) (rr_sv h) j).1.toInt ≤ 4 := fun j hj => by
    have z := v6 j hj
    have e : (lx_X P j).1 = (lk_xr (rr_e h).1 (rr_hd h) (rr_sv h) j).1 := z.1.1
    rw [← e]
    exact z.2
  have r : ∀ v : Int32, (∀ j, j < 20 → i = nI j → lk_fa (lk_xr (rr_e h).1 (rr_hd h) (rr_sv h) j) s.toInt w.toInt = v) → (¬ (0 ≤ i.toInt ∧ i.toInt < 20) → -1 = v) → mm_ev ro 9 n_Mo_frame [.ref 80, .int i, .int s, .int w] h (fun r' h2 => r' = .int v ∧ rr_P ro h h2) := by
    intro v a b
    have z : mm_ev ro 9 n_Mo_frame [.ref 80, .int i, .int s, .int w] (lk_L h (rr_e h) (rr_c h) (rr_hd h) (rr_sv h)) (fun r' h2 => r' = .int v ∧ rr_P ro h h2) := by
      refine c_Mo_frame (d := 7) T.1 v3 x4 (fun j hj e => ?_) (fun n => ?_)
      · rw [rr_vw, a j hj e]; exact ⟨rfl, rr_nop R⟩
      · rw [rr_vw, b n]; exact ⟨rfl, rr_nop R⟩
    rw [rr_vw] at z
    exact z
  have z : mm_ev ro 9 n_Ga_frame [.ref 1, .int i, .int s, .int w] (lx_L h P) (fun r h1 => ∃ v, r = .int v ∧ mm_ev ro 9 n_Mo_frame [.ref 80, .int i, .int s, .int w] h1 (fun r' h2 => r' = .int v ∧ rr_P ro h h2)) := by
    refine c_Ga_frame (d := 6) T.1 v2 (fun j hj => (v6 j hj).2) (fun j hj e => ?_) (fun n => ?_)
    · rw [eL]
      refine ⟨_, rfl, r _ (fun j' hj' e' => ?_) (fun n => absurd ?_ n)⟩
      · have ej : j = j' := (nI_eq (by omega) (by omega)).mp (e.symm.trans e')
        rw [← ej]
        exact (lk_fa_eq (v6 j hj).1 _ _).symm
      · rw [e]; exact mm_nb (N := 20) hj (by omega)
    · rw [eL]
      exact ⟨_, rfl, r _ (fun j hj e => absurd (by rw [e]; exact mm_nb (N := 20) hj (by omega)) n) (fun _ => rfl)⟩
  rw [eL] at z
  exact z
/-- one more class is loaded -/
theorem rr_L_up {ro : mm_Ro} {h g : mm_H} {nC nF nM c : Nat} {qm : Nat → Nat} (T : lx_T ro h nC nF nM qm) (sm : lk_sm h g) (e5 : mm_a g 5 = (fun j => if j = c then 1 else mm_a h 5 j)) (e85 : mm_a g 85 = (fun j => if j = c then 1 else mm_a h 85 j)) (e68 : mm_i g 68 2 = 1) (hc : c < nC) (up : 0 < c → ¬ mm_a h 85 (mm_a h 81 c).toNatClampNeg = 0) (fi : ∀ j, j < nM → mm_a h 87 j = nI c → lk_fine h nC nF nM j) (L : rr_L h nC nF nM) : rr_L g nC nF nM := by
  obtain ⟨l1, l2, l3, l4, l5⟩ := L
  have hC := T.2.1.2.2.2.2.1
  have e81 := (sm 81 (by omega) (by omega) (by omega)).symm
  have e87 := (sm 87 (by omega) (by omega) (by omega)).symm
  have o1 : ¬ (1 : Int32) = 0 := by decide
  refine ⟨fun d hd => ?_, ?_, fun d d1 d2 => ?_, fun d d0 d1 z => ?_, fun m d hm hd o z => ?_⟩
  · rw [e5, e85]
    by_cases q : d = c
    · show (if d = c then 1 else mm_a h 5 d) = (if d = c then 1 else mm_a h 85 d) ∧ ((if d = c then 1 else mm_a h 85 d) = 0 ∨ (if d = c then 1 else mm_a h 85 d) = 1)
      rw [if_pos q, if_pos q]
      exact ⟨rfl, Or.inr rfl⟩
    · show (if d = c then 1 else mm_a h 5 d) = (if d = c then 1 else mm_a h 85 d) ∧ ((if d = c then 1 else mm_a h 85 d) = 0 ∨ (if d = c then 1 else mm_a h 85 d) = 1)
      rw [if_neg q, if_neg q]
      exact l1 d hd
  · rw [e68]
    refine ⟨fun z => absurd z o1, fun z => absurd ⟨c, by omega, ?_⟩ z⟩
    rw [e85]
    show ¬ (if c = c then (1 : Int32) else mm_a h 85 c) = 0
    rw [if_pos rfl]
    exact o1
  · rw [e85]
    show (if d = c then (1 : Int32) else mm_a h 85 d) = 0
    rw [if_neg (by omega)]
    exact l3 d d1 d2
  · rw [e85] at z ⊢
    rw [e81]
    show ¬ (if (mm_a h 81 d).toNatClampNeg = c then (1 : Int32) else mm_a h 85 (mm_a h 81 d).toNatClampNeg) = 0
    by_cases y : (mm_a h 81 d).toNatClampNeg = c
    · rw [if_pos y]; exact o1
    · rw [if_neg y]
      by_cases q : d = c
      · rw [q] at d0 ⊢; exact up d0
      · have z' : ¬ (if d = c then (1 : Int32) else mm_a h 85 d) = 0 := z
        rw [if_neg q] at z'
        exact l4 d d0 d1 z'
  · rw [e87] at o
    rw [e85] at z
    refine lk_fine_sm sm ?_
    by_cases q : d = c
    · rw [q] at o; exact fi m hm o
    · have z' : ¬ (if d = c then (1 : Int32) else mm_a h 85 d) = 0 := z
      rw [if_neg q] at z'
      exact l5 m d hm hd o z'
/-- the class's heap after a class is loaded -/
def lx_BL (h : mm_H) (q : Nat) (y : Int32) (c : Nat) : mm_H := mm_si (mm_sa (lx_B h q y (-1)) 5 c 1) 68 2 1
theorem lx_BL_ag {h : mm_H} {q : Nat} {y : Int32} {c : Nat} : mm_ag h (lx_BL h q y c) := mm_ag_trans (lx_ag_B (h := h) (q := q) (x := y) (p := -1)) ⟨rfl, fun _ _ _ => rfl, rfl, rfl, fun f a ha => if_neg (by omega), fun f hf => if_neg (by omega), fun a ha => funext (fun j => if_neg (by omega))⟩
theorem lx_BL_SH {h : mm_H} {q : Nat} {y : Int32} {c : Nat} (I : mm_SH h) : mm_SH (lx_BL h q y c) := lx_SHB (q := q) (x := y) (p := -1) I
theorem lx_BL_sv {h : mm_H} {q : Nat} {y : Int32} {c : Nat} : rr_sv (lx_BL h q y c) = rr_sv h := rfl
theorem lx_BL_c {h : mm_H} {q : Nat} {y : Int32} {c : Nat} : rr_c (lx_BL h q y c) = rr_c h := rfl
theorem lx_BL_hd {h : mm_H} {q : Nat} {y : Int32} {c : Nat} : rr_hd (lx_BL h q y c) = rr_hd h := rfl
theorem lx_BL_85 {h : mm_H} {q : Nat} {y : Int32} {c : Nat} : mm_a (lx_BL h q y c) 85 = mm_a h 85 := rfl
theorem lx_BL_5 {h : mm_H} {q : Nat} {y : Int32} {c : Nat} : mm_a (lx_BL h q y c) 5 = (fun j => if j = c then 1 else mm_a h 5 j) := by
  funext j
  show (if 5 = 5 ∧ j = c then (1 : Int32) else mm_a h 5 j) = _
  by_cases w : j = c
  · rw [if_pos ⟨rfl, w⟩, if_pos w]
  · rw [if_neg (by omega), if_neg w]
theorem rr_load_ok {ro : mm_Ro} {h g : mm_H} {x : Int32} {nC nF nM c : Nat} {qm : Nat → Nat} {P P1 : Nat → mm_F × Int32} (T : lx_T ro h nC nF nM qm) (D : rr_D h nF nM qm) (U : rr_U h nM) (L : rr_L h nC nF nM) (M : rr_M h) (v3 : lk_bn (rr_sv h)) (v4 : lk_bn (rr_c h).2.2.2) (v6 : ∀ k, k < 20 → mm_feq (lx_X P k) (lk_xr (mm_i h 608 80) (rr_hd h) (rr_sv h) k) ∧ (lx_X P k).1.toInt ≤ 4) (hc : c < nC) (e : x = nI c) (n85 : mm_a h 85 c = 0) (up85 : 0 < c → ¬ mm_a h 85 (mm_a h 81 c).toNatClampNeg = 0) (ok : lx_ok nC P1) (lo : lk_lo h nC nF nM c (lx_X P) (lx_X P1) 0 0 0) (ag : mm_ag h g) (I1 : mm_SH g) (b3 : rr_sv g = rr_sv h) (b4 : rr_c g = rr_c h) (b5 : rr_hd g = rr_hd h) (b6 : mm_i g 608 80 = mm_i h 608 80) (a85 : mm_a g 85 = mm_a h 85) (a5 : mm_a g 5 = (fun j => if j = c then 1 else mm_a h 5 j)) (a68 : mm_i g 68 2 = 1) (a3 : mm_i g 3 1 = -1) (M' : rr_M g) (et : mm_t g = mm_t h) (es : mm_s g = mm_s h) : mm_ev ro 9 n_Mo_load [.ref 80, .int x] (lx_L g P1) (fun r' h2 => r' = .int 0 ∧ rr_P ro h h2) := by
  have hC := T.2.1.2.2.2.2.1
  have un : ∀ c', c' < nC → x = nI c' → c = c' := fun c' h2 e' => (nI_eq (by omega) (by omega)).mp (e.symm.trans e')
  have agL : mm_ag h (lx_L g P1) := mm_ag_trans ag lx_ag_L
  have T1 : lx_T ro (lx_L g P1) nC nF nM qm := lx_T_ag agL I1 T
  have sm : lk_sm h (lx_L g P1) := mm_ag_sm agL
  have e81 : mm_a (lx_L g P1) 81 = mm_a h 81 := (sm 81 (by omega) (by omega) (by omega)).symm
  have e85 : mm_a (lx_L g P1) 85 = mm_a h 85 := Eq.trans rfl a85
  have c3 : rr_sv (lx_L g P1) = rr_sv h := Eq.trans rfl b3
  have c4 : rr_c (lx_L g P1) = rr_c h := Eq.trans rfl b4
  have c5 : rr_hd (lx_L g P1) = rr_hd h := Eq.trans rfl b5
  have c6 : (rr_e (lx_L g P1)).1 = mm_i h 608 80 := Eq.trans rfl b6
  have fin : ∀ (e1 : Int32 × Int32 × Int32) (c1 : mm_F) (hd1 : Nat → Int32 × Int32 × Int32) (sv1 : Nat → mm_V) (v' : Int32) (m' i' : Nat), lk_lo (lx_L g P1) nC nF nM c (lk_xr (rr_e (lx_L g P1)).1 (rr_hd (lx_L g P1)) (rr_sv (lx_L g P1))) (lk_xr e1.1 hd1 sv1) v' m' i' → 0 = v' ∧ ∀ k, k < 20 → mm_feq (lx_X P1 k) (lk_xr e1.1 hd1 sv1 k) := by
    intro e1 c1 hd1 sv1 v' m' i' lo'
    rw [c3, c5, c6] at lo'
    have w := lk_lo_uni T (fun k hk => (v6 k hk).1) lo (lk_lo_sm (lk_sm_symm sm) lo')
    exact ⟨w.1, w.2.2⟩
  have x85 : mm_a (lx_L g P1) 85 c = 0 := by rw [e85]; exact n85
  have w2 : mm_ev ro 9 n_Mo_load [.ref 80, .int x] (lk_L (lx_L g P1) (rr_e (lx_L g P1)) (rr_c (lx_L g P1)) (rr_hd (lx_L g P1)) (rr_sv (lx_L g P1))) (fun r' h2 => r' = .int 0 ∧ rr_P ro h h2) := by
    refine c_Mo_load (d := 1) T1 (by rw [c3]; exact v3) (by rw [c4]; exact v4) (fun n => absurd ⟨c, hc, e, x85⟩ n) (fun c' hc' e' z c0' nu' => ?_) (fun c' hc' e' z u e1 c1 hd1 sv1 v' m' i' bc bs lo' v0' ep => ?_) (fun c' hc' e' z u e1 c1 hd1 sv1 bc bs lo' ep => ?_)
    · have := un c' hc' e'
      subst this
      rw [e85, e81] at nu'
      exact absurd nu' (up85 c0')
    · have := un c' hc' e'
      subst this
      exact absurd (fin e1 c1 hd1 sv1 v' m' i' lo').1.symm v0'
    · have := un c' hc' e'
      subst this
      have u3 := (fin e1 c1 hd1 sv1 0 0 0 lo').2
      rw [lx_sa (fun z => by have := lx_is_big z; omega)]
      have ag2 : mm_ag h (mm_sa g 85 c 1) := mm_ag_trans ag ⟨rfl, fun _ _ _ => rfl, rfl, rfl, fun _ _ _ => rfl, fun _ _ => rfl, fun a ha => funext (fun j => if_neg (by omega))⟩
      have ld : lk_LD h nC nF nM c (lx_X P) nM (lx_X P1) := by
        rcases lo with ⟨_, l⟩ | ⟨_, _, _, _, b, _⟩ | ⟨_, _, _, _, b, _⟩
        · exact l
        · exact absurd b (by decide)
        · exact absurd rfl b
      have L2 : rr_L (mm_sa g 85 c 1) nC nF nM := by
        refine rr_L_up T (mm_ag_sm ag2) (funext (fun j => ?_)) (funext (fun j => ?_)) ?_ hc up85 ld.1 L
        · show (if 5 = 85 ∧ j = c then 1 else mm_a g 5 j) = _
          rw [if_neg (by omega), a5]
        · show (if 85 = 85 ∧ j = c then 1 else mm_a g 85 j) = _
          rw [a85]
          by_cases w : j = c
          · rw [if_pos ⟨rfl, w⟩, if_pos w]
          · rw [if_neg (by omega), if_neg w]
        · exact a68
      have M2 : rr_M (mm_sa g 85 c 1) := by
        obtain ⟨⟨n, n1, n2, n3, n4⟩, ⟨k, k1, k2, k3, k4⟩, m⟩ := M'
        exact ⟨⟨n, n1, n2, n3, fun j hj => n4 j hj⟩, ⟨k, k1, k2, k3, fun j hj hk => k4 j hj hk⟩, m⟩
      refine ⟨rfl, ?_, ?_, ?_⟩
      · refine rr_look T D U M ag2 I1 et L2 M2 ok bs bc ?_ (fun k hk => ⟨u3 k hk, lk_lo_4 (fun k hk => (v6 k hk).2) lo k hk⟩)
        rw [ep]
        exact a3
      · show mm_t g ≤ _
        omega
      · show mm_s g ≤ _
        omega
  rw [rr_vw] at w2
  exact w2
theorem rr_load {ro : mm_Ro} {h : mm_H} {x : Int32} (R : rr ro h) : rr_2 ro 9 n_Ga_load n_Mo_load [.int x] h := by
  have R' := R
  obtain ⟨nC, nF, nM, qm, P, T, D, U, L, V, M⟩ := R'
  obtain ⟨v1, v2, v3, v4, v5, v6⟩ := V
  have eL := lx_VW_L v1
  have hC := T.2.1.2.2.2.2.1
  have hM := T.2.1.2.2.2.2.2.2
  have e58 : ∀ c, c < nC → mm_a h 5 c = mm_a h 85 c := fun c hc => (L.1 c (by omega)).1
  have AD := T.2.2.2.2.2.2.2.2
  have eup : ∀ c, 0 < c → c < nC → mm_a h 5 (mm_a h 81 c).toNatClampNeg = mm_a h 85 (mm_a h 81 c).toNatClampNeg := fun c c0 hc => by
    obtain ⟨s, hs, es⟩ := AD c c0 hc
    rw [es, mm_ncl (by omega)]
    exact e58 s (by omega)
  have un : ∀ c c', c < nC → c' < nC → x = nI c → x = nI c' → c = c' := fun c c' h1 h2 e e' => (nI_eq (by omega) (by omega)).mp (e.symm.trans e')
  have z : mm_ev ro 9 n_Ga_load [.ref 1, .int x] (lx_L h P) (fun r h1 => ∃ v, r = .int v ∧ mm_ev ro 9 n_Mo_load [.ref 80, .int x] h1 (fun r' h2 => r' = .int v ∧ rr_P ro h h2)) := by
    refine c_Ga_load (d := 1) T v2 (fun n => ?_) (fun c hc e n5 c0 nu => ?_) (fun c hc e n5 up P1 q y v m i ok lo v0 => ?_) (fun c hc e n5 up P1 q y ok lo => ?_)
    · rw [eL]
      refine ⟨_, rfl, ?_⟩
      have w2 : mm_ev ro 9 n_Mo_load [.ref 80, .int x] (lk_L h (rr_e h) (rr_c h) (rr_hd h) (rr_sv h)) (fun r' h2 => r' = .int (-1) ∧ rr_P ro h h2) := by
        have no : ∀ c, c < nC → x = nI c → mm_a h 85 c = 0 → False := fun c hc e z => n ⟨c, hc, e, (e58 c hc).trans z⟩
        refine c_Mo_load (d := 1) T v3 v4 (fun _ => ?_) (fun c hc e z => (no c hc e z).elim) (fun c hc e z => (no c hc e z).elim) (fun c hc e z => (no c hc e z).elim)
        rw [rr_vw]; exact ⟨rfl, rr_nop R⟩
      rw [rr_vw] at w2
      exact w2
    · rw [eL]
      refine ⟨_, rfl, ?_⟩
      have w2 : mm_ev ro 9 n_Mo_load [.ref 80, .int x] (lk_L h (rr_e h) (rr_c h) (rr_hd h) (rr_sv h)) (fun r' h2 => r' = .int (-4) ∧ rr_P ro h h2) := by
        have cl : ∀ c', c' < nC → x = nI c' → (0 < c' → ¬ mm_a h 85 (mm_a h 81 c').toNatClampNeg = 0) → False := fun c' hc' e' u => by
          have := un c c' hc hc' e e'
          subst this
          exact u c0 ((eup c c0 hc).symm.trans nu)
        refine c_Mo_load (d := 1) T v3 v4 (fun n => absurd ⟨c, hc, e, (e58 c hc).symm.trans n5⟩ n) (fun c' hc' e' z c0' nu' => ?_) (fun c' hc' e' z u => (cl c' hc' e' u).elim) (fun c' hc' e' z u => (cl c' hc' e' u).elim)
        rw [rr_vw]; exact ⟨rfl, rr_nop R⟩
      rw [rr_vw] at w2
      exact w2
    · refine ⟨_, rfl, ?_⟩
      generalize hg : lx_B h q y (lk_pz m v i) = g
      have ag : mm_ag h g := by rw [← hg]; exact lx_ag_B
      have I1 : mm_SH g := by rw [← hg]; exact lx_SHB T.1
      have T1 : lx_T ro (lx_L g P1) nC nF nM qm := lx_T_ag (mm_ag_trans ag lx_ag_L) I1 T
      have sm := mm_ag_sm (mm_ag_trans ag (lx_ag_L (P := P1)))
      have b3 : rr_sv (lx_L g P1) = rr_sv h := by rw [← hg]; rfl
      have b4 : rr_c (lx_L g P1) = rr_c h := by rw [← hg]; rfl
      have b5 : rr_hd (lx_L g P1) = rr_hd h := by rw [← hg]; rfl
      have b6 : (rr_e (lx_L g P1)).1 = mm_i h 608 80 := by rw [← hg]; rfl
      have a85 : mm_a (lx_L g P1) 85 = mm_a h 85 := by rw [← hg]; rfl
      have a81 : mm_a (lx_L g P1) 81 = mm_a h 81 := by rw [← hg]; rfl
      have fin : ∀ c', c' < nC → x = nI c' → ∀ (e1 : Int32 × Int32 × Int32) (c1 : mm_F) (hd1 : Nat → Int32 × Int32 × Int32) (sv1 : Nat → mm_V) (v' : Int32) (m' i' : Nat), lk_lo (lx_L g P1) nC nF nM c' (lk_xr (rr_e (lx_L g P1)).1 (rr_hd (lx_L g P1)) (rr_sv (lx_L g P1))) (lk_xr e1.1 hd1 sv1) v' m' i' → v = v' ∧ lk_pz m v i = lk_pz m' v' i' ∧ ∀ k, k < 20 → mm_feq (lx_X P1 k) (lk_xr e1.1 hd1 sv1 k) := by
        intro c' hc' e' e1 c1 hd1 sv1 v' m' i' lo'
        have := un c c' hc hc' e e'
        subst this
        rw [b3, b5, b6] at lo'
        exact lk_lo_uni T (fun k hk => (v6 k hk).1) lo (lk_lo_sm (lk_sm_symm sm) lo')
      have up85 : 0 < c → ¬ mm_a (lx_L g P1) 85 (mm_a (lx_L g P1) 81 c).toNatClampNeg = 0 := fun c0 z => by
        rw [a85, a81] at z
        exact up c0 ((eup c c0 hc).trans z)
      have x85 : mm_a (lx_L g P1) 85 c = 0 := by rw [a85]; exact (e58 c hc).symm.trans n5
      have w2 : mm_ev ro 9 n_Mo_load [.ref 80, .int x] (lk_L (lx_L g P1) (rr_e (lx_L g P1)) (rr_c (lx_L g P1)) (rr_hd (lx_L g P1)) (rr_sv (lx_L g P1))) (fun r' h2 => r' = .int v ∧ rr_P ro h h2) := by
        refine c_Mo_load (d := 1) T1 (by rw [b3]; exact v3) (by rw [b4]; exact v4) (fun n => absurd ⟨c, hc, e, x85⟩ n) (fun c' hc' e' z c0' nu' => ?_) (fun c' hc' e' z u e1 c1 hd1 sv1 v' m' i' bc bs lo' v0' ep => ?_) (fun c' hc' e' z u e1 c1 hd1 sv1 bc bs lo' ep => ?_)
        · have := un c c' hc hc' e e'
          subst this
          exact absurd nu' (up85 c0')
        · obtain ⟨u1, u2, u3⟩ := fin c' hc' e' e1 c1 hd1 sv1 v' m' i' lo'
          refine ⟨by rw [u1], ?_, ?_, ?_⟩
          · refine rr_look T D U M ag I1 (by rw [← hg]; rfl) (rr_L_ag (mm_ag_sm ag) (by rw [← hg]; rfl) (by rw [← hg]; rfl) (by rw [← hg]; rfl) L) (by rw [← hg]; exact M) ok bs bc ?_ (fun k hk => ⟨u3 k hk, lk_lo_4 (fun k hk => (v6 k hk).2) lo k hk⟩)
            rw [← hg]
            show lk_pz m v i = e1.2.1
            rw [u2, ep]
            exact if_neg v0'
          · show mm_t g ≤ _
            rw [← hg]
            exact Nat.le_add_right _ _
          · show mm_s g ≤ _
            rw [← hg]
            exact Nat.le_add_right _ _
        · obtain ⟨u1, _⟩ := fin c' hc' e' e1 c1 hd1 sv1 0 0 0 lo'
          exact absurd u1 v0
      rw [rr_vw] at w2
      exact w2
    · refine ⟨_, rfl, ?_⟩
      show mm_ev ro 9 n_Mo_load [.ref 80, .int x] (lx_L (lx_BL h q y c) P1) _
      refine rr_load_ok T D U L M v3 v4 v6 hc e ((e58 c hc).symm.trans n5) (fun c0 z => up c0 ((eup c c0 hc).trans z)) ok lo (lx_BL_ag) (lx_BL_SH T.1) (lx_BL_sv) (lx_BL_c) (lx_BL_hd) rfl (lx_BL_85) (lx_BL_5) rfl rfl M rfl rfl
  rw [eL] at z
  exact z
