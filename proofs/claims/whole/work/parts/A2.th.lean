/-! THE CLASS: isFitBuiltIn, wayError, through -/
theorem lx_nI0 {n : Nat} (h : n < 1000) : (nI n).toInt ≤ (0 : Int32).toInt ↔ n = 0 := by
  rw [mm_nt (by omega), show (0 : Int32).toInt = 0 by decide]
  omega
theorem c_Ru_isFitBuiltIn {ro : mm_Ro} {d q m nC nF nM : Nat} {qm : Nat → Nat} {h : mm_H} {Q : Value → mm_H → Prop} (I : mm_SH h) (W : lx_W ro h nC nF nM qm) (hm : m < nM) (M : lx_MO h q m) (hQ : Q (.int (mm_b (¬ lk_os h m))) h) : mm_ev ro (d + 3) n_Ru_isFitBuiltIn [.ref 15, .ref q] h Q := by
  obtain ⟨K, ⟨hC, h6⟩, MS, FD, SC, SV, AS, U, Z, MVs⟩ := W
  have G := mm_hM n_Ru_isFitBuiltIn rfl
  have MV := MVs m hm
  have n3 := MV.2.2.2.1
  have kq : mm_k h q = 9 := M.2.1.1.1
  have ck : mm_i h 518 q = mm_a h 90 m := M.2.2.1.2.2.2.2.1
  have cp : mm_i h 516 q = nI (lk_np h m) := M.2.2.1.2.2.2.1.trans MV.2.2.1
  have rr : mm_r h 517 q = q + 2 := M.2.1.2.1.1
  have PR := M.2.2.2.2.1
  have yes : ¬ lk_os h m → Q (.int 1) h := fun y => mm_qe hQ (mm_b_t y)
  have no : lk_os h m → Q (.int 0) h := fun y => mm_qe hQ (mm_b_f (fun z => z y))
  have t0 : (0 : Int32).toInt = 0 := by decide
  have t1 : (1 : Int32).toInt = 1 := by decide
  have PP : ¬ lk_np h m = 0 → lx_PL h (mm_q h (q + 1) 0) (mm_a h 93 (4 * m)) (mm_a h 96 (4 * m)) (mm_a h 94 (4 * m)) := fun n0 => M.2.2.2.1 0 (by omega) (by rw [MV.2.2.1, mm_nt (by omega)]; omega)
  refine mm_ev_in (Z := mm_m_Ru_isFitBuiltIn) rfl rfl (Nat.le_of_ble_eq_true rfl) rfl ?_
  refine And.intro kq (mm_rf ck (And.intro (fun c => mm_go_from G ?_) (fun c => And.intro (fun c2 => mm_go_from G ?_) (fun c2 => mm_go_from G ?_))))
  · have k0 : mm_a h 90 m = 0 := Int32.toInt_inj.mp (show (mm_a h 90 m).toInt = _ by rw [t0]; exact c)
    have e := lk_os0 k0
    refine And.intro kq (mm_rf rr (And.intro PR.2.1 (mm_rf PR.2.2.1 (And.intro (fun c_40 => mm_go_from G ⟨Or.inl rfl, no (by rw [e]; exact c_40)⟩) (fun c_40 => mm_go_from G ⟨Or.inr rfl, yes (by rw [e]; exact fun y => y (mm_no c_40))⟩)))))
  · have k1 : mm_a h 90 m = 1 := Int32.toInt_inj.mp (show (mm_a h 90 m).toInt = _ by rw [t1]; exact c2)
    have k0 : ¬ mm_a h 90 m = 0 := by rw [k1]; decide
    refine And.intro kq (mm_rf cp (And.intro (fun c_53 => mm_go_from G ?_) (fun c_53 => ?_)))
    · have n0 := (lx_nI0 (by omega)).mp c_53
      exact ⟨Or.inl rfl, no (by rw [lk_os1 k0 n0]; trivial)⟩
    · have n0 : ¬ lk_np h m = 0 := fun y => c_53 ((lx_nI0 (by omega)).mpr y)
      have e := lk_os2 k1 n0
      have PL := PP n0
      refine And.intro kq (mm_rf M.2.1.1.2.1 (And.intro ⟨⟨by rw [M.2.1.1.2.2.1]; decide, by rw [M.2.1.1.2.2.1]; decide⟩, mm_inb 3 M.2.1.1.2.2.2 (by decide)⟩ (mm_rf (b := mm_q h (q + 1) 0) rfl (And.intro PL.2.1 (mm_rf PL.2.2.1 (And.intro (fun c_66 => mm_go_from G ⟨Or.inl rfl, no (by rw [e]; exact Or.inl c_66)⟩) (fun c_66 => And.intro ⟨rfl, kq⟩ (c_Me_gives M (And.intro (fun c_73 => mm_go_from G ⟨Or.inl rfl, no (by rw [e]; exact Or.inr (mm_nn c_73))⟩) (fun c_73 => mm_go_from G ⟨Or.inr rfl, yes ?_⟩))))))))))
      rw [e]
      rintro (y | y)
      · exact y (mm_no c_66)
      · exact mm_nb0 c_73 y
  · have k0 : ¬ mm_a h 90 m = 0 := fun y => c (by show (mm_a h 90 m).toInt = 0; rw [y]; decide)
    have k1 : ¬ mm_a h 90 m = 1 := fun y => c2 (by show (mm_a h 90 m).toInt = 1; rw [y]; decide)
    refine And.intro kq (mm_rf cp (And.intro (fun c_86 => mm_go_from G ?_) (fun c_86 => ?_)))
    · have n0 := (lx_nI0 (by omega)).mp c_86
      exact ⟨Or.inl rfl, no (by rw [lk_os1 k0 n0]; trivial)⟩
    · have n0 : ¬ lk_np h m = 0 := fun y => c_86 ((lx_nI0 (by omega)).mpr y)
      have PL := PP n0
      have s1 := (SV.2 (4 * m) (by have := MV.1; omega)).1
      have np2 : ¬ (mm_a h 93 (4 * m)).toInt = -2 := lk_nn (n := -2) (MV.2.2.2.2.2 0 (by omega)) (by decide)
      have sc := (SC.2 m hm).2.2 0 (by omega)
      have sr := (SC.2 m hm).1
      have m1 : (-1 : Int32).toInt = -1 := by decide
      have m2 : (-2 : Int32).toInt = -2 := by decide
      refine And.intro ⟨rfl, kq⟩ (c_Me_gives M (And.intro (fun c_93 => mm_go_from G ?_) (fun c_93 => ?_)))
      · have z : mm_a h 93 (4 * m + 3) = -2 := Classical.not_not.mp (mm_b0.mp c_93)
        refine ⟨Or.inl rfl, no ?_⟩
        rw [lk_os3 k0 k1 n0 (Or.inr (by rw [z]; decide))]
        intro y
        rw [y, z, m2] at np2
        exact np2 rfl
      · refine And.intro kq (mm_rf M.2.1.1.2.1 (And.intro ⟨⟨by rw [M.2.1.1.2.2.1]; decide, by rw [M.2.1.1.2.2.1]; decide⟩, mm_inb 3 M.2.1.1.2.2.2 (by decide)⟩ (mm_rf (b := mm_q h (q + 1) 0) rfl (And.intro kq (mm_rf rr (And.intro ⟨rfl, k_15 I⟩ (c_Ru_fits I AS PL PR sc sr ?_)))))))
        have key : lk_fi (mm_up h) (mm_a h 93 (4 * m)) (mm_a h 96 (4 * m)) (mm_a h 93 (4 * m + 3)) (mm_a h 96 (4 * m + 3)) ↔ ¬ lk_os h m := by
          by_cases q1 : mm_a h 93 (4 * m) = -1 ∨ (mm_a h 93 (4 * m + 3)).toInt < 0
          · have q2 : (mm_a h 93 (4 * m)).toInt < 0 ∨ (mm_a h 93 (4 * m + 3)).toInt < 0 := by
              rcases q1 with y | y
              · exact Or.inl (by rw [y]; decide)
              · exact Or.inr y
            rw [lk_os3 k0 k1 n0 q1]
            exact ⟨fun y x => x (y.2 q2), fun y => ⟨fun x => absurd q2 x, fun _ => Classical.not_not.mp y⟩⟩
          · have q2 : ¬ ((mm_a h 93 (4 * m)).toInt < 0 ∨ (mm_a h 93 (4 * m + 3)).toInt < 0) := by
              rintro (y | y)
              · exact q1 (Or.inl (Int32.toInt_inj.mp (by rw [m1]; omega)))
              · exact q1 (Or.inr y)
            rw [lk_os4 k0 k1 n0 q1]
            refine ⟨fun y x => ?_, fun y => ⟨fun _ => ⟨Classical.not_not.mp (fun x => y (Or.inl x)), ?_⟩, fun x => absurd x q2⟩⟩
            · obtain ⟨y1, y2⟩ := y.1 q2
              rcases x with x | x
              · exact x y1
              · rcases y2 with z | z
                · exact z x.2
                · exact x.1 z
            · by_cases z : mm_a h 96 (4 * m) = 0
              · exact Or.inr z
              · exact Or.inl (fun x => y (Or.inr ⟨z, x⟩))
        refine And.intro (fun c_110 => mm_go_from G ⟨Or.inl rfl, no (Classical.not_not.mp (fun y => mm_b0.mp c_110 (key.mpr y)))⟩) (fun c_110 => mm_go_from G ⟨Or.inr rfl, yes (key.mp (mm_nn c_110))⟩)
/-- what is wrong at instruction i, for the class -/
theorem lk_er_r {h : mm_H} {nF m len i : Nat} {φ : mm_F} : lk_er h nF m len i φ = 1 ∨ lk_er h nF m len i φ = 2 ∨ lk_er h nF m len i φ = 3 ∨ lx_e (lk_er h nF m len i φ) := by
  unfold lk_er
  by_cases a : lk_aw h m len i
  · exact Or.inl (if_pos a)
  · by_cases b : φ.1 = -2
    · exact Or.inr (Or.inl ((if_neg a).trans (if_pos b)))
    · by_cases c : lk_bad h m i φ.1.toInt
      · exact Or.inr (Or.inr (Or.inl ((if_neg a).trans ((if_neg b).trans (if_pos c)))))
      · refine Or.inr (Or.inr (Or.inr ?_))
        have e : (@ite _ (lk_aw h m len i) (Classical.propDecidable _) 1 (@ite _ (φ.1 = -2) (Classical.propDecidable _) 2 (@ite _ (lk_bad h m i φ.1.toInt) (Classical.propDecidable _) 3 (lk_vo h nF m (lk_a h m i) φ.1.toInt.toNat φ.2.2.1 φ.2.2.2 (lk_o h m i)))) : Int32) = lk_vo h nF m (lk_a h m i) φ.1.toInt.toNat φ.2.2.1 φ.2.2.2 (lk_o h m i) := (if_neg a).trans ((if_neg b).trans (if_neg c))
        rw [e]
        have n9 : lx_e 9 := Or.inr (Or.inr (Or.inr (Or.inr rfl)))
        unfold lk_vo
        split
        case _ => exact lx_mn_e lx_wf_e lx_wf_e
        case _ =>
          split
          · exact Or.inl rfl
          · split
            · exact Or.inr (Or.inl rfl)
            · exact n9
        case _ => exact lx_wb_e
        case _ => exact lx_mn_e lx_wf_e lx_wb_e
        case _ =>
          unfold lk_wc
          split
          · exact lx_wp_e _
          · exact lx_mn_e (lx_wp_e _) lx_wb_e
        case _ => exact lx_wb_e
        case _ => exact lx_wf_e
        case _ => exact lx_wb_e
        case _ =>
          split
          · exact n9
          · exact lx_wf_e
        case _ => exact lx_wb_e
        case _ => exact n9
theorem lx_cv0 {h : mm_H} {nF m len i : Nat} {φ : mm_F} : (lx_cv (lk_er h nF m len i φ) = 0 ↔ lk_er h nF m len i φ = 9) ∧ (¬ lk_er h nF m len i φ = 9 → lx_cv (lk_er h nF m len i φ) = lk_er h nF m len i φ) := by
  refine ⟨⟨fun z => ?_, fun z => by rw [z]; decide⟩, fun z => if_neg z⟩
  rcases lk_er_r (h := h) (nF := nF) (m := m) (len := len) (i := i) (φ := φ) with y | y | y | y | y | y | y | y
  case _ => rw [y] at z; exact absurd z (by decide)
  case _ => rw [y] at z; exact absurd z (by decide)
  case _ => rw [y] at z; exact absurd z (by decide)
  case _ => rw [y] at z; exact absurd z (by decide)
  case _ => rw [y] at z; exact absurd z (by decide)
  case _ => rw [y] at z; exact absurd z (by decide)
  case _ => rw [y] at z; exact absurd z (by decide)
  case _ => exact y
theorem c_Ru_wayError {ro : mm_Ro} {d q m i len nC nF nM : Nat} {qm : Nat → Nat} {h0 : mm_H} {P : Nat → mm_F × Int32} {Q : Value → mm_H → Prop} (I : mm_SH h0) (V : lx_V ro h0 nC nF nM qm q m len) (hi : i < len) (hr : -10 ≤ (lx_X P i).1.toInt ∧ (lx_X P i).1.toInt ≤ 10) (hQ0 : (lx_X P i).1 = -1 → Q (.int 0) (lx_L h0 P)) (hQ1 : ¬ (lx_X P i).1 = -1 → lk_aw h0 m len i → Q (.int 1) (lx_L h0 P)) (hQ2 : ¬ lk_aw h0 m len i → (lx_X P i).1 = -2 → Q (.int 2) (lx_L h0 P)) (hQ3 : ¬ (lx_X P i).1 = -1 → ¬ lk_aw h0 m len i → ¬ (lx_X P i).1 = -2 → lk_bad h0 m i (lx_X P i).1.toInt → Q (.int 3) (lx_L h0 P)) (hQ4 : ¬ (lx_X P i).1 = -1 → ¬ lk_aw h0 m len i → ¬ (lx_X P i).1 = -2 → ¬ lk_bad h0 m i (lx_X P i).1.toInt → Q (.int 0) (lx_L h0 P)) : mm_ev ro (d + 5) n_Ru_wayError [.ref 15, .ref q, .int (nI i), .ref (16 + 2 * i)] (lx_L h0 P) Q := by
  have G := mm_hM n_Ru_wayError rfl
  have V' := V
  obtain ⟨W, hq, M, WM, IVs⟩ := V'
  have h20 := WM.2.1
  have J : mm_SH (lx_L h0 P) := I
  have isi := lx_ii (i := i) (by omega)
  have ka := (lx_fs J isi).1
  have MS : lx_MS (lx_L h0 P) nM qm := ⟨W.2.2.1.1, fun k hk => ⟨(W.2.2.1.2 k hk).1, lx_MO_L (W.2.2.1.2 k hk).2⟩⟩
  refine mm_ev_in (Z := mm_m_Ru_wayError) rfl rfl (Nat.le_of_ble_eq_true rfl) rfl ?_
  refine And.intro ka (mm_rf (b := (lx_X P i).1) (lx_i isi).1 (And.intro (fun c_5 => mm_go_from G ?_) (fun c_5 => hQ0 (mm_no c_5))))
  refine And.intro ⟨rfl, k_15 J⟩ (c_Ru_leadsAway I V hi (And.intro (fun c_16 => mm_go_from G ?_) (fun c_16 => hQ1 c_5 (mm_nn c_16))))
  have na := mm_b0.mp c_16
  refine And.intro ka (mm_rf (b := (lx_X P i).1) (lx_i isi).1 (And.intro (fun c_27 => mm_go_from G ?_) (fun c_27 => hQ2 na (mm_no c_27))))
  exact And.intro (k_15 J) (mm_rf (r_256 J) (And.intro ka (mm_rf (b := (lx_X P i).1) (lx_i isi).1 (And.intro ⟨rfl, k_2 J⟩ (c_St_breaksStack (nC := nC) (nF := nF) (nM := nM) W.1 J (lx_MO_L M) MS (by omega) (IVs i hi) hr (And.intro (fun c_45 => mm_go_from G (hQ4 c_5 na c_27 (mm_b0.mp c_45))) (fun c_45 => mm_go_from G (hQ3 c_5 na c_27 (mm_nn c_45)))))))))
