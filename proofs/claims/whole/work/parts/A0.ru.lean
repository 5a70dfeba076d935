/-! THE CLASS: valueError, wayError -/
theorem lx_ref1 {up : Nat → Int} {x : mm_V} (vx : mm_vr x) : lk_wb up x 0 0 0 0 = lk_e5 (¬ lk_ir up x ((0 : Nat) : Int)) (x.1 = 4) (¬ x.2.2.1 = 0 ∧ (1 : Int32) = 0) (¬ x.2.2.2.1 &&& ((15 : Int32) ^^^ (-1)) = 0) := by
  obtain ⟨w, hw, ew⟩ := mm_of (N := 16) (x := x.2.2.2.1) (by have := vx.2.2.2.2.1; omega)
  refine lk_e5_iff Iff.rfl ⟨fun y => y.2, fun y => ⟨rfl, y⟩⟩ ⟨fun y => absurd rfl y.1, fun y => absurd y.2 (by decide)⟩ ⟨fun y => absurd rfl y.1, fun y => absurd ?_ y⟩
  rw [ew]
  exact lx_15 w hw
theorem lx_ref2 {up : Nat → Int} {x : mm_V} : lk_wb up x 0 0 1 1 = lk_e5 (¬ lk_ir up x ((0 : Nat) : Int)) (x.1 = 4) (¬ x.2.2.1 = 0 ∧ (0 : Int32) = 0) (¬ x.2.2.2.1 &&& ((0 : Int32) ^^^ (-1)) = 0) := by
  have ez : x.2.2.2.1 &&& ((0 : Int32) ^^^ (-1)) = x.2.2.2.1 := by
    rw [show (0 : Int32) ^^^ (-1) = -1 by decide]
    exact Int32.and_neg_one
  refine lk_e5_iff Iff.rfl ⟨fun y => y.2, fun y => ⟨rfl, y⟩⟩ ⟨fun y => ⟨y.2, rfl⟩, fun y => ⟨by decide, y.1⟩⟩ ?_
  rw [ez]
  exact ⟨fun y => y.2, fun y => ⟨by decide, y⟩⟩
theorem l_Ru_value {ro : mm_Ro} {d q m i a o b H nC nF nM : Nat} {qm : Nat → Nat} {h0 : mm_H} {P : Nat → mm_F × Int32} {x : Int32} {Q : Value → mm_H → Prop} (I : mm_SH h0) (W : lx_W ro h0 nC nF nM qm) (hm : m < 10) (M : lx_MO h0 q m) (eF : mm_i h0 69 2 = nI nF) (ow : ∀ j, j < nF → ∃ D, D < 6 ∧ mm_a h0 82 j = nI D) (ho : o < 18) (ea : (o = 9 ∨ o = 10 ∨ o = 11) → x = nI a) (ha9 : (o = 9 ∨ o = 10) → a < nF) (ha11 : o = 11 → a < nM) (hb : lx_is b) (eH : (P b).1.1 = nI H) (hH : H ≤ 4) (hpo : lk_po h0 m o a ≤ H) (gv : lx_gv nC (P b).1.2.2.2) (hQ : Q (.int (lx_cv (lk_vo h0 nF m a H (P b).1.2.2.1 (P b).1.2.2.2 o))) (lx_L h0 P)) : mm_wp ro (d + 5) mm_m_Ru_valueError Q 99999 ((14, 62, 0, .tableswitch (235) (6) (17) #[62, 235, 91, 105, 125, 167, 183, 235, 82, 183, 197, 222]) :: mm_from mm_m_Ru_valueError 76) [.ref 15, .ref q, .int (nI i), .ref b, .int x] [.int (nI o)] (lx_L h0 P) := by
  have W' := W
  obtain ⟨K, ⟨hC, h6⟩, MS, FD, SC, SV, AS, U, Z, MVs⟩ := W'
  have J : mm_SH (lx_L h0 P) := I
  have G := mm_hM n_Ru_valueError rfl
  have f12 := FD.1
  have AS' : lx_AS (lx_L h0 P) nC := AS
  have FD' : lx_FD (lx_L h0 P) nF := ⟨FD.1, fun f hf => ⟨lx_PL_L (FD.2 f hf).1, (FD.2 f hf).2⟩⟩
  have ML := lx_MO_L (P := P) M
  have kb := (lx_fs J hb).1
  have u0 : 1 ≤ H → 6 + (P b).1.1 - 1 - Int32.ofInt 0 = nI (5 + H) := fun h1 => by rw [eH]; exact lx_u0 h1
  have u1 : 2 ≤ H → 6 + (P b).1.1 - 1 - Int32.ofInt 1 = nI (4 + H) := fun h1 => by
    have e6 : (6 : Int32) + nI H = nI (6 + H) := lk_6
    rw [eH, e6, lx_1 (by omega)]
    refine (lx_1 (by omega)).trans ?_
    congr 1
    omega
  have rf1 : ∀ v, v < 10 → lk_wb (mm_up h0) ((P b).1.2.2.2 v) 0 0 0 0 = lk_e5 (¬ lk_ir (mm_up h0) ((P b).1.2.2.2 v) ((0 : Nat) : Int)) (((P b).1.2.2.2 v).1 = 4) (¬ ((P b).1.2.2.2 v).2.2.1 = 0 ∧ (1 : Int32) = 0) (¬ ((P b).1.2.2.2 v).2.2.2.1 &&& ((15 : Int32) ^^^ (-1)) = 0) := fun v hv => lx_ref1 (gv v hv).1
  have rf2 : ∀ v, lk_wb (mm_up h0) ((P b).1.2.2.2 v) 0 0 1 1 = lk_e5 (¬ lk_ir (mm_up h0) ((P b).1.2.2.2 v) ((0 : Nat) : Int)) (((P b).1.2.2.2 v).1 = 4) (¬ ((P b).1.2.2.2 v).2.2.1 = 0 ∧ (0 : Int32) = 0) (¬ ((P b).1.2.2.2 v).2.2.2.1 &&& ((0 : Int32) ^^^ (-1)) = 0) := fun v => lx_ref2
  rcases lk_o_cases ho with rfl | rfl | rfl | rfl | rfl | rfl | rfl | rfl | rfl | rfl | rfl | rfl | rfl | rfl | rfl | rfl | rfl | rfl
  case _ =>
    refine And.intro (fun _ => mm_go_from G hQ) (And.intro (Nat.le_of_ble_eq_true rfl) ⟨fun c => absurd c (by decide), fun c => absurd c (by decide), fun c => absurd c (by decide), fun c => absurd c (by decide), fun c => absurd c (by decide), fun c => absurd c (by decide), fun c => absurd c (by decide), fun c => absurd c (by decide), fun c => absurd c (by decide), fun c => absurd c (by decide), fun c => absurd c (by decide), fun c => absurd c (by decide), trivial⟩)
  case _ =>
    refine And.intro (fun _ => mm_go_from G hQ) (And.intro (Nat.le_of_ble_eq_true rfl) ⟨fun c => absurd c (by decide), fun c => absurd c (by decide), fun c => absurd c (by decide), fun c => absurd c (by decide), fun c => absurd c (by decide), fun c => absurd c (by decide), fun c => absurd c (by decide), fun c => absurd c (by decide), fun c => absurd c (by decide), fun c => absurd c (by decide), fun c => absurd c (by decide), fun c => absurd c (by decide), trivial⟩)
  case _ =>
    refine And.intro (fun _ => mm_go_from G hQ) (And.intro (Nat.le_of_ble_eq_true rfl) ⟨fun c => absurd c (by decide), fun c => absurd c (by decide), fun c => absurd c (by decide), fun c => absurd c (by decide), fun c => absurd c (by decide), fun c => absurd c (by decide), fun c => absurd c (by decide), fun c => absurd c (by decide), fun c => absurd c (by decide), fun c => absurd c (by decide), fun c => absurd c (by decide), fun c => absurd c (by decide), trivial⟩)
  case _ =>
    refine And.intro (fun _ => mm_go_from G hQ) (And.intro (Nat.le_of_ble_eq_true rfl) ⟨fun c => absurd c (by decide), fun c => absurd c (by decide), fun c => absurd c (by decide), fun c => absurd c (by decide), fun c => absurd c (by decide), fun c => absurd c (by decide), fun c => absurd c (by decide), fun c => absurd c (by decide), fun c => absurd c (by decide), fun c => absurd c (by decide), fun c => absurd c (by decide), fun c => absurd c (by decide), trivial⟩)
  case _ =>
    refine And.intro (fun _ => mm_go_from G hQ) (And.intro (Nat.le_of_ble_eq_true rfl) ⟨fun c => absurd c (by decide), fun c => absurd c (by decide), fun c => absurd c (by decide), fun c => absurd c (by decide), fun c => absurd c (by decide), fun c => absurd c (by decide), fun c => absurd c (by decide), fun c => absurd c (by decide), fun c => absurd c (by decide), fun c => absurd c (by decide), fun c => absurd c (by decide), fun c => absurd c (by decide), trivial⟩)
  case _ =>
    refine And.intro (fun _ => mm_go_from G hQ) (And.intro (Nat.le_of_ble_eq_true rfl) ⟨fun c => absurd c (by decide), fun c => absurd c (by decide), fun c => absurd c (by decide), fun c => absurd c (by decide), fun c => absurd c (by decide), fun c => absurd c (by decide), fun c => absurd c (by decide), fun c => absurd c (by decide), fun c => absurd c (by decide), fun c => absurd c (by decide), fun c => absurd c (by decide), fun c => absurd c (by decide), trivial⟩)
  case _ =>
    have p0 : lk_po h0 m 6 a = 2 := rfl
    rw [p0] at hpo
    refine And.intro (fun c => absurd c (by decide)) (And.intro (Nat.le_of_ble_eq_true rfl) ⟨fun _ => mm_go_from G ?_, fun c => absurd c (by decide), fun c => absurd c (by decide), fun c => absurd c (by decide), fun c => absurd c (by decide), fun c => absurd c (by decide), fun c => absurd c (by decide), fun c => absurd c (by decide), fun c => absurd c (by decide), fun c => absurd c (by decide), fun c => absurd c (by decide), fun c => absurd c (by decide), trivial⟩)
    exact And.intro ⟨rfl, kb⟩ (c_Fr_under I hb (u0 (by omega)) (by omega) (And.intro ⟨rfl, trivial⟩ (c_Ru_intError (gv _ (by omega)).1 (And.intro ⟨rfl, kb⟩ (c_Fr_under I hb (u1 (by omega)) (by omega) (And.intro ⟨rfl, trivial⟩ (c_Ru_intError (gv _ (by omega)).1 (And.intro ⟨rfl, trivial⟩ (c_Ru_first lx_wf_e lx_wf_e hQ)))))))))
  case _ =>
    refine And.intro (fun c => absurd c (by decide)) (And.intro (Nat.le_of_ble_eq_true rfl) ⟨fun c => absurd c (by decide), fun _ => mm_go_from G ?_, fun c => absurd c (by decide), fun c => absurd c (by decide), fun c => absurd c (by decide), fun c => absurd c (by decide), fun c => absurd c (by decide), fun c => absurd c (by decide), fun c => absurd c (by decide), fun c => absurd c (by decide), fun c => absurd c (by decide), fun c => absurd c (by decide), trivial⟩)
    exact hQ
  case _ =>
    have p0 : lk_po h0 m 8 a = 1 := rfl
    rw [p0] at hpo
    refine And.intro (fun c => absurd c (by decide)) (And.intro (Nat.le_of_ble_eq_true rfl) ⟨fun c => absurd c (by decide), fun c => absurd c (by decide), fun _ => mm_go_from G ?_, fun c => absurd c (by decide), fun c => absurd c (by decide), fun c => absurd c (by decide), fun c => absurd c (by decide), fun c => absurd c (by decide), fun c => absurd c (by decide), fun c => absurd c (by decide), fun c => absurd c (by decide), fun c => absurd c (by decide), trivial⟩)
    exact And.intro ⟨rfl, kb⟩ (c_Fr_under I hb (u0 (by omega)) (by omega) (And.intro kb (mm_rf (b := (P b).1.2.2.1) (lx_i hb).2.2.1 (And.intro ⟨rfl, k_15 J⟩ (c_Ru_builtError J AS' FD' SV eF ow (gv _ (by omega)) hQ)))))
  case _ =>
    have p0 : lk_po h0 m 9 a = 1 := rfl
    rw [p0] at hpo
    have aF := ha9 (Or.inl rfl)
    have hBa : 0 ≤ (nI a).toInt ∧ (nI a).toInt < ((12 : Nat) : Int) := mm_nb (by omega) (by omega)
    have hca : (nI a).toNatClampNeg = a := mm_ncl (by omega)
    obtain ⟨Dn, hDn, eDn⟩ := ow a aF
    obtain ⟨PL, eo⟩ := FD.2 a aF
    obtain ⟨s1, s2, s3⟩ := SV.1 a (by omega)
    rw [ea (Or.inl rfl)]
    refine And.intro (fun c => absurd c (by decide)) (And.intro (Nat.le_of_ble_eq_true rfl) ⟨fun c => absurd c (by decide), fun c => absurd c (by decide), fun c => absurd c (by decide), fun _ => mm_go_from G ?_, fun c => absurd c (by decide), fun c => absurd c (by decide), fun c => absurd c (by decide), fun c => absurd c (by decide), fun c => absurd c (by decide), fun c => absurd c (by decide), fun c => absurd c (by decide), fun c => absurd c (by decide), trivial⟩)
    refine And.intro ⟨rfl, kb⟩ (c_Fr_under I hb (u0 (by omega)) (by omega) (And.intro (k_15 J) (mm_rf (r_256 J) (And.intro (k_2 J) (mm_rf (r_70 J) (And.intro ⟨k_6 J, mm_inb 12 (n_6 J) hBa⟩ (mm_rf (b := nI Dn) (by rw [hca]; exact eo.trans eDn) (And.intro ⟨rfl, k_15 J⟩ (c_Ru_holderError J AS' (gv _ (by omega)) hDn ?_)))))))))
    rw [← eDn]
    exact hQ
  case _ =>
    have p0 : lk_po h0 m 10 a = 2 := rfl
    rw [p0] at hpo
    have aF := ha9 (Or.inr rfl)
    have hBa : 0 ≤ (nI a).toInt ∧ (nI a).toInt < ((12 : Nat) : Int) := mm_nb (by omega) (by omega)
    have hca : (nI a).toNatClampNeg = a := mm_ncl (by omega)
    obtain ⟨Dn, hDn, eDn⟩ := ow a aF
    obtain ⟨PL, eo⟩ := FD.2 a aF
    obtain ⟨s1, s2, s3⟩ := SV.1 a (by omega)
    rw [ea (Or.inr (Or.inl rfl))]
    refine And.intro (fun c => absurd c (by decide)) (And.intro (Nat.le_of_ble_eq_true rfl) ⟨fun c => absurd c (by decide), fun c => absurd c (by decide), fun c => absurd c (by decide), fun c => absurd c (by decide), fun _ => mm_go_from G ?_, fun c => absurd c (by decide), fun c => absurd c (by decide), fun c => absurd c (by decide), fun c => absurd c (by decide), fun c => absurd c (by decide), fun c => absurd c (by decide), fun c => absurd c (by decide), trivial⟩)
    refine And.intro ⟨rfl, kb⟩ (c_Fr_under I hb (u0 (by omega)) (by omega) (And.intro (k_15 J) (mm_rf (r_256 J) (And.intro (k_2 J) (mm_rf (r_71 J) (And.intro ⟨⟨by rw [k_7 J]; decide, by rw [k_7 J]; decide⟩, mm_inb 12 (n_7 J) hBa⟩ (mm_rf (b := mm_q h0 7 a) (by rw [hca]; rfl) (And.intro ⟨rfl, k_15 J⟩ (c_Ru_comingError J AS' (gv _ (by omega)) (lx_PL_L PL) s1 (And.intro ⟨rfl, kb⟩ (c_Fr_under I hb (u1 (by omega)) (by omega) (And.intro (k_15 J) (mm_rf (r_256 J) (And.intro (k_2 J) (mm_rf (r_70 J) (And.intro ⟨k_6 J, mm_inb 12 (n_6 J) hBa⟩ (mm_rf (b := nI Dn) (by rw [hca]; exact eo.trans eDn) (And.intro ⟨rfl, k_15 J⟩ (c_Ru_holderError J AS' (gv _ (by omega)) hDn (And.intro ⟨rfl, trivial⟩ ?_))))))))))))))))))))
    rw [← eDn]
    exact c_Ru_first lx_wf_e lx_wb_e hQ
  case _ =>
    have aM := ha11 rfl
    have n10 := MS.1
    have hBa : 0 ≤ (nI a).toInt ∧ (nI a).toInt < ((10 : Nat) : Int) := mm_nb (by omega) (by omega)
    have hca : (nI a).toNatClampNeg = a := mm_ncl (by omega)
    obtain ⟨q1, M1⟩ := MS.2 a aM
    have p0 : lk_po h0 m 11 a = lk_np h0 a + lk_of h0 a := if_pos rfl
    rw [p0] at hpo
    rw [ea (Or.inr (Or.inr rfl))]
    refine And.intro (fun c => absurd c (by decide)) (And.intro (Nat.le_of_ble_eq_true rfl) ⟨fun c => absurd c (by decide), fun c => absurd c (by decide), fun c => absurd c (by decide), fun c => absurd c (by decide), fun c => absurd c (by decide), fun _ => mm_go_from G ?_, fun c => absurd c (by decide), fun c => absurd c (by decide), fun c => absurd c (by decide), fun c => absurd c (by decide), fun c => absurd c (by decide), fun c => absurd c (by decide), trivial⟩)
    exact And.intro (k_15 J) (mm_rf (r_256 J) (And.intro (k_2 J) (mm_rf (r_73 J) (And.intro ⟨⟨by rw [k_8 J]; decide, by rw [k_8 J]; decide⟩, mm_inb 10 (n_8 J) hBa⟩ (mm_rf (b := qm a) (by rw [hca]; exact q1) (And.intro ⟨rfl, k_15 J⟩ (c_Ru_callError I W aM M1 hb eH hH hpo gv hQ)))))))
  case _ =>
    have p0 : lk_po h0 m 12 a = 1 := rfl
    rw [p0] at hpo
    have e5 := rf1 (5 + H)
    rw [show lk_vo h0 nF m a H (P b).1.2.2.1 (P b).1.2.2.2 12 = lk_wb (mm_up h0) ((P b).1.2.2.2 (5 + H)) 0 0 0 0 from rfl, e5 (by omega)] at hQ
    refine And.intro (fun c => absurd c (by decide)) (And.intro (Nat.le_of_ble_eq_true rfl) ⟨fun c => absurd c (by decide), fun c => absurd c (by decide), fun c => absurd c (by decide), fun c => absurd c (by decide), fun c => absurd c (by decide), fun c => absurd c (by decide), fun _ => mm_go_from G ?_, fun c => absurd c (by decide), fun c => absurd c (by decide), fun c => absurd c (by decide), fun c => absurd c (by decide), fun c => absurd c (by decide), trivial⟩)
    exact And.intro ⟨rfl, kb⟩ (c_Fr_under I hb (u0 (by omega)) (by omega) (And.intro ⟨rfl, k_15 J⟩ (c_Ru_referenceError (D := 0) J rfl AS' (gv _ (by omega)) (by omega) hQ)))
  case _ =>
    refine And.intro (fun c => absurd c (by decide)) (And.intro (Nat.le_of_ble_eq_true rfl) ⟨fun c => absurd c (by decide), fun c => absurd c (by decide), fun c => absurd c (by decide), fun c => absurd c (by decide), fun c => absurd c (by decide), fun c => absurd c (by decide), fun c => absurd c (by decide), fun _ => mm_go_from G ?_, fun c => absurd c (by decide), fun c => absurd c (by decide), fun c => absurd c (by decide), fun c => absurd c (by decide), trivial⟩)
    exact hQ
  case _ =>
    have p0 : lk_po h0 m 14 a = 1 := rfl
    rw [p0] at hpo
    refine And.intro (fun c => absurd c (by decide)) (And.intro (Nat.le_of_ble_eq_true rfl) ⟨fun c => absurd c (by decide), fun c => absurd c (by decide), fun c => absurd c (by decide), fun c => absurd c (by decide), fun c => absurd c (by decide), fun c => absurd c (by decide), fun c => absurd c (by decide), fun c => absurd c (by decide), fun _ => mm_go_from G ?_, fun c => absurd c (by decide), fun c => absurd c (by decide), fun c => absurd c (by decide), trivial⟩)
    exact And.intro ⟨rfl, kb⟩ (c_Fr_under I hb (u0 (by omega)) (by omega) (And.intro ⟨rfl, trivial⟩ (c_Ru_intError (gv _ (by omega)).1 hQ)))
  case _ =>
    have p0 : lk_po h0 m 15 a = 1 := rfl
    rw [p0] at hpo
    have e5 := rf1 (5 + H)
    rw [show lk_vo h0 nF m a H (P b).1.2.2.1 (P b).1.2.2.2 15 = lk_wb (mm_up h0) ((P b).1.2.2.2 (5 + H)) 0 0 0 0 from rfl, e5 (by omega)] at hQ
    refine And.intro (fun c => absurd c (by decide)) (And.intro (Nat.le_of_ble_eq_true rfl) ⟨fun c => absurd c (by decide), fun c => absurd c (by decide), fun c => absurd c (by decide), fun c => absurd c (by decide), fun c => absurd c (by decide), fun c => absurd c (by decide), fun c => absurd c (by decide), fun c => absurd c (by decide), fun c => absurd c (by decide), fun _ => mm_go_from G ?_, fun c => absurd c (by decide), fun c => absurd c (by decide), trivial⟩)
    exact And.intro ⟨rfl, kb⟩ (c_Fr_under I hb (u0 (by omega)) (by omega) (And.intro ⟨rfl, k_15 J⟩ (c_Ru_referenceError (D := 0) J rfl AS' (gv _ (by omega)) (by omega) hQ)))
  case _ =>
    have p0 : lk_po h0 m 16 a = if mm_a h0 93 (4 * m + 3) = -2 then 0 else 1 := (if_neg (by decide)).trans (if_pos rfl)
    have hQ' : Q (.int (lx_cv (if mm_a h0 93 (4 * m + 3) = -2 then 9 else lk_wf (mm_up h0) ((P b).1.2.2.2 (5 + H)) (mm_a h0 93 (4 * m + 3)) (mm_a h0 96 (4 * m + 3)) (mm_a h0 94 (4 * m + 3))))) (lx_L h0 P) := hQ
    obtain ⟨s1, _, _⟩ := SV.2 (4 * m + 3) (by omega)
    have kq : mm_k (lx_L h0 P) q = 9 := M.2.1.1.1
    have rq : mm_r (lx_L h0 P) 517 q = q + 2 := M.2.1.2.1.1
    refine And.intro (fun c => absurd c (by decide)) (And.intro (Nat.le_of_ble_eq_true rfl) ⟨fun c => absurd c (by decide), fun c => absurd c (by decide), fun c => absurd c (by decide), fun c => absurd c (by decide), fun c => absurd c (by decide), fun c => absurd c (by decide), fun c => absurd c (by decide), fun c => absurd c (by decide), fun c => absurd c (by decide), fun c => absurd c (by decide), fun _ => mm_go_from G ?_, fun c => absurd c (by decide), trivial⟩)
    refine And.intro ⟨rfl, kq⟩ (c_Me_gives ML (And.intro (fun c_215 => mm_go_from G ?_) (fun c_215 => ?_)))
    · have z : mm_a h0 93 (4 * m + 3) = -2 := Classical.not_not.mp (mm_b0.mp c_215)
      rw [if_pos z] at hQ'
      exact hQ'
    · have z : ¬ mm_a h0 93 (4 * m + 3) = -2 := mm_nn c_215
      have z2 : ¬ (mm_a h0 93 (4 * m + 3)).toInt = -2 := lk_nn (n := -2) z (by decide)
      rw [p0, if_neg z] at hpo
      rw [if_neg z] at hQ'
      exact And.intro ⟨rfl, kb⟩ (c_Fr_under I hb (u0 (by omega)) (by omega) (And.intro kq (mm_rf rq (And.intro ⟨rfl, k_15 J⟩ (c_Ru_comingError J AS' (gv _ (by omega)) ML.2.2.2.2.1 (show -1 ≤ (mm_a h0 93 (4 * m + 3)).toInt ∧ (mm_a h0 93 (4 * m + 3)).toInt ≤ 5 by omega) (mm_go_from G hQ'))))))
  case _ =>
    have p0 : lk_po h0 m 17 a = 1 := rfl
    rw [p0] at hpo
    have e5 := rf2 (5 + H)
    rw [show lk_vo h0 nF m a H (P b).1.2.2.1 (P b).1.2.2.2 17 = lk_wb (mm_up h0) ((P b).1.2.2.2 (5 + H)) 0 0 1 1 from rfl, e5] at hQ
    refine And.intro (fun c => absurd c (by decide)) (And.intro (Nat.le_of_ble_eq_true rfl) ⟨fun c => absurd c (by decide), fun c => absurd c (by decide), fun c => absurd c (by decide), fun c => absurd c (by decide), fun c => absurd c (by decide), fun c => absurd c (by decide), fun c => absurd c (by decide), fun c => absurd c (by decide), fun c => absurd c (by decide), fun c => absurd c (by decide), fun c => absurd c (by decide), fun _ => mm_go_from G ?_, trivial⟩)
    exact And.intro ⟨rfl, kb⟩ (c_Fr_under I hb (u0 (by omega)) (by omega) (And.intro ⟨rfl, k_15 J⟩ (c_Ru_referenceError (D := 0) J rfl AS' (gv _ (by omega)) (by omega) hQ)))
theorem c_Ru_valueError {ro : mm_Ro} {d q m i len H nC nF nM : Nat} {qm : Nat → Nat} {h0 : mm_H} {P : Nat → mm_F × Int32} {Q : Value → mm_H → Prop} (I : mm_SH h0) (V : lx_V ro h0 nC nF nM qm q m len) (eF : mm_i h0 69 2 = nI nF) (ow : ∀ j, j < nF → ∃ D, D < 6 ∧ mm_a h0 82 j = nI D) (hi : i < len) (eH : (lx_X P i).1 = nI H) (hH : H ≤ 4) (hpo : lk_po h0 m (lk_o h0 m i) (lk_a h0 m i) ≤ H) (gv : lx_gv nC (lx_X P i).2.2.2) (hQ : Q (.int (lx_cv (lk_vo h0 nF m (lk_a h0 m i) H (lx_X P i).2.2.1 (lx_X P i).2.2.2 (lk_o h0 m i)))) (lx_L h0 P)) : mm_ev ro (d + 6) n_Ru_valueError [.ref 15, .ref q, .int (nI i), .ref (16 + 2 * i)] (lx_L h0 P) Q := by
  obtain ⟨W, hq, M, WM, IVs⟩ := V
  obtain ⟨w1, w2, w3, w4, w5, w6, w7, w8, w9, w10⟩ := WM
  obtain ⟨IV, iv1, iv2, iv3⟩ := IVs i hi
  obtain ⟨_, ⟨⟨kq, _⟩, _, ⟨o1, o2, o3⟩, ⟨p1, p2, p3⟩, _⟩, _, _, _, hop, _⟩ := lx_MO_L (P := P) M
  have hB : 0 ≤ (nI i).toInt ∧ (nI i).toInt < ((20 : Nat) : Int) := mm_nb (by omega) (by omega)
  have hc : (nI i).toNatClampNeg = i := mm_ncl (by omega)
  refine mm_ev_in (Z := mm_m_Ru_valueError) rfl rfl (Nat.le_of_ble_eq_true rfl) rfl ?_
  refine And.intro kq (mm_rf p1 (And.intro ⟨p2, mm_inb 20 p3 hB⟩ (mm_rf (b := mm_a h0 98 (20 * m + i)) (by rw [hc, (hop i (by omega)).2]; rfl) (And.intro kq (mm_rf o1 (And.intro ⟨o2, mm_inb 20 o3 hB⟩ (mm_rf (b := nI (lk_o h0 m i)) (by rw [hc, (hop i (by omega)).1]; exact IV.2.1) ?_)))))))
  refine l_Ru_value (a := lk_a h0 m i) I W w1 M eF ow IV.1.1 (fun y => ?_) iv2 iv3 (lx_ii (by omega)) eH hH hpo gv hQ
  rcases y with y | y | y
  · exact IV.2.2.2.1 (Or.inr (Or.inr (Or.inl y)))
  · exact IV.2.2.2.1 (Or.inr (Or.inr (Or.inr y)))
  · exact (IV.2.2.1 y).1
