/-! RUNNING: small moves of both -/
def RI (h0 hh ss : mm_H) (qm : Nat → Nat) (nM d n : Nat) (h s : mm_H) (H : Nat) : Prop := AR h0 h ∧ CX qm nM h s (fun u => if u = d then H else (mm_a ss 120 u).toNatClampNeg) (d + 1) n (mm_i ss 631 80).toNatClampNeg ∧ (∀ f, mm_i h f 56 = mm_i hh f 56) ∧ mm_i s = mm_i ss ∧ (∀ w, w < d → mm_i h 385 (62 + 3 * w) = mm_i hh 385 (62 + 3 * w)) ∧ (∀ w, w < d → mm_a s 121 w = mm_a ss 121 w) ∧ ∀ w, w < d → mm_a s 120 w = mm_a ss 120 w
theorem AR_kc {h0 h : mm_H} (r : AR h0 h) : kc h = kc h0 := by
  have e : (fun k j => if (81 ≤ k ∧ k ≤ 101) ∨ k = 115 then mm_a h k j else (0 : Int32)) = (fun k j => if (81 ≤ k ∧ k ≤ 101) ∨ k = 115 then mm_a h0 k j else 0) := funext (fun k => funext (fun j => by
    by_cases q : (81 ≤ k ∧ k ≤ 101) ∨ k = 115
    · rw [if_pos q, if_pos q, r.2.2.2 k (by omega)]
    · rw [if_neg q, if_neg q]))
  unfold kc
  rw [e, r.2.2.1 628 80 (Or.inl (by omega))]
section
variable {ro : mm_Ro} {h0 hh ss h s : mm_H} {qm : Nat → Nat} {nC nF nM d n H m i : Nat} {x y : Int32}
theorem ri_st (S : STs ro h0 nC nF nM qm hh ss d n H m i) : RI h0 hh ss qm nM d n hh ss H := ⟨S.2.1, st_c S, fun _ => rfl, rfl, fun _ _ => rfl, fun _ _ => rfl, fun _ _ => rfl⟩
theorem ri_a1 (r : RI h0 hh ss qm nM d n h s H) : RI h0 hh ss qm nM d n h (mm_sa s 121 d y) H := by
  obtain ⟨r1, r2, r3, r4, r5, r6, r7⟩ := r
  exact ⟨r1, cx_a1 r2, r3, r4, r5, fun w hw => (mm_a2 (by omega)).trans (r6 w hw), fun w hw => (mm_a2 (by omega)).trans (r7 w hw)⟩
theorem ri_at (hd : d < 6) (r : RI h0 hh ss qm nM d n h s H) : RI h0 hh ss qm nM d n (mm_si h 385 (62 + 3 * d) y) s H := by
  obtain ⟨r1, r2, r3, r4, r5, r6, r7⟩ := r
  exact ⟨AR_si (by omega) r1, cx_at r2, fun f => (mm_i2 (by omega)).trans (r3 f), r4, fun w hw => (mm_i2 (by omega)).trans (r5 w hw), r6, r7⟩
theorem ri_hgt {H' : Nat} (hd : d < 6) (hH : H' ≤ H) (r : RI h0 hh ss qm nM d n h s H) : RI h0 hh ss qm nM d n (mm_si h 388 (62 + 3 * d) y) (mm_sa s 120 d y) H' := by
  obtain ⟨r1, r2, r3, r4, r5, r6, r7⟩ := r
  refine ⟨AR_si (by omega) r1, ?_, fun f => (mm_i2 (by omega)).trans (r3 f), r4, fun w hw => (mm_i2 (by omega)).trans (r5 w hw), fun w hw => (mm_a2 (by omega)).trans (r6 w hw), fun w hw => (mm_a2 (by omega)).trans (r7 w hw)⟩
  refine cx_dn (cx_hgt (w := d) (y := y) (by omega) r2) (Nat.le_refl _) (Nat.le_refl _) (Nat.le_refl _) (fun u hu => ?_)
  show (if u = d then H' else (mm_a ss 120 u).toNatClampNeg) ≤ (if u = d then H else (mm_a ss 120 u).toNatClampNeg)
  by_cases q : u = d
  · rw [if_pos q, if_pos q]; exact hH
  · rw [if_neg q, if_neg q]; exact Nat.le_refl _
theorem ri_lay (hd : d < 6) (h4 : H < 4) (r : RI h0 hh ss qm nM d n h s H) : RI h0 hh ss qm nM d n (ac_ps h (62 + 3 * d) H x) (rs_lay s d H x) (H + 1) := by
  obtain ⟨r1, r2, r3, r4, r5, r6, r7⟩ := r
  refine ⟨AR_si (by omega) (AR_sa (by omega) r1), ?_, fun f => (mm_i2 (by omega)).trans (r3 f), r4, fun w hw => (mm_i2 (by omega)).trans (r5 w hw), fun w hw => (mm_a2 (by omega)).trans ((mm_a2 (by omega)).trans (r6 w hw)), fun w hw => (mm_a2 (by omega)).trans ((mm_a2 (by omega)).trans (r7 w hw))⟩
  refine cx_lay (T := fun u => if u = d then H else (mm_a ss 120 u).toNatClampNeg) (w := d) (by omega) (by omega) h4 (if_pos rfl) r2 (fun u hu => ?_)
  show (if u = d then H + 1 else (mm_a ss 120 u).toNatClampNeg) ≤ (if u = d then H + 1 else (if u = d then H else (mm_a ss 120 u).toNatClampNeg))
  by_cases q : u = d
  · rw [if_pos q, if_pos q]; exact Nat.le_refl _
  · rw [if_neg q, if_neg q, if_neg q]; exact Nat.le_refl _
theorem ri_loc {v : Nat} (hd : d < 6) (hv : v < 6) (r : RI h0 hh ss qm nM d n h s H) : RI h0 hh ss qm nM d n (mm_sa h (63 + 3 * d) v x) (mm_sa s 118 (6 * d + v) x) H := by
  obtain ⟨r1, r2, r3, r4, r5, r6, r7⟩ := r
  exact ⟨AR_sa (by omega) r1, cx_loc (by omega) (by omega) hv r2, r3, r4, r5, fun w hw => (mm_a2 (by omega)).trans (r6 w hw), fun w hw => (mm_a2 (by omega)).trans (r7 w hw)⟩
theorem ri_held {q : Nat} (r : RI h0 hh ss qm nM d n h s H) : RI h0 hh ss qm nM d n (mm_sa h 60 q x) (mm_sa s 117 q x) H := by
  obtain ⟨r1, r2, r3, r4, r5, r6, r7⟩ := r
  exact ⟨AR_sa (by omega) r1, cx_held r2, r3, r4, r5, fun w hw => (mm_a2 (by omega)).trans (r6 w hw), fun w hw => (mm_a2 (by omega)).trans (r7 w hw)⟩
theorem pc_ri {G : Nat} (S : STs ro h0 nC nF nM qm hh ss d n G m i) (r : RI h0 hh ss qm nM d n h s H) (hH : H ≤ 4) (t0 : mm_a s 120 d = nI H) (at' : mm_i h 385 (62 + 3 * d) = mm_a s 121 d) : PC h0 qm nM s h := by
  obtain ⟨r1, r2, r3, r4, r5, r6, r7⟩ := r
  exact pc_in S r1 r2 r3 r4 r5 r6 r7 t0 hH at'
/-- the run ends -/
theorem pc_e {G : Nat} {v : Int32} (S : STs ro h0 nC nF nM qm hh ss d n G m i) (r : RI h0 hh ss qm nM d n h s H) (hv : ¬ v = -1) : PC h0 qm nM (mm_si s 635 80 v) (mm_si h 334 56 v) := by
  obtain ⟨r1, r2, r3, r4, r5, r6, r7⟩ := r
  have sl := S.2.2.1.2.2.2.2.2
  refine pc_end (AR_si (by omega) r1) (mm_i1.trans mm_i1.symm) (by rw [mm_i1]; exact hv) (SL_cg (fun f hf => (mm_i2 (by omega)).trans (r3 f)) (fun f f1 f2 f3 f4 => (mm_i2 (by omega)).trans (by rw [r4])) sl) (fun j hj hp => ?_)
  refine r2.2.2.2.2.2.2 j ?_ hj
  rw [mm_i2 (by omega), r4] at hp
  exact hp
/-- up to the switch -/
theorem c_pf {len : Nat} {Q : Value → mm_H → Prop} {D : Nat} (S : STs ro h0 nC nF nM qm h s d n H m i) (ML : lx_ML h nC nF nM m len) (hi : i < len) (hQ : mm_go ro (D + 1) mm_m_Ma_perform 49 [.ref 56, .ref (62 + 3 * d), .int (mm_a h 98 (20 * m + i)), .null] [.int (nI (lk_o h m i))] h Q) : mm_ev ro (D + 2) n_Ma_perform [.ref 56, .ref (62 + 3 * d)] h Q := by
  have G := mm_hM n_Ma_perform rfl
  obtain ⟨f4, f8, f5, _⟩ := st_f S
  have T := AR_T S.2.1 S.1
  have I := T.1
  have hd := S.2.2.2.1.1.1
  have E := ac_w I hd
  have MO := (T.2.2.2.1.2.2.1.2 m S.2.2.2.2).2
  have l20 := ML.1
  have o7 := (ML.2.2.1 i hi).1.2.1
  obtain ⟨_, ME, ⟨_, _, _, _, _, i6, _⟩, _, _, c6, _⟩ := MO
  have c := c6 i (by omega)
  refine mm_ev_at 49 (Z := mm_m_Ma_perform) rfl rfl (Nat.le_of_ble_eq_true rfl) rfl ?_
  refine And.intro E.1 (mm_rf f5 (And.intro E.1 (mm_rf f4 (And.intro ME.1.1 (mm_rf (i6.trans ML.2.1) (And.intro ⟨rfl, trivial⟩ (c_Ga_within I (And.intro (fun c_14 => mm_go_at 49 G ?_) (fun c_14 => ?_)))))))))
  · refine And.intro E.1 (mm_rf f4 (And.intro ME.1.1 (mm_rf ME.2.2.2.1.1 (And.intro E.1 (mm_rf f5 (And.intro ⟨ME.2.2.2.1.2.1, mm_inb 20 ME.2.2.2.1.2.2 (mm_nb (by omega) (by omega))⟩ (mm_rf (show mm_a h (qm m + 4) (nI i).toNatClampNeg = mm_a h 98 (20 * m + i) by rw [mm_ncl (by omega)]; exact c.2) (And.intro E.1 (mm_rf f4 (And.intro ME.1.1 (mm_rf ME.2.2.1.1 (And.intro E.1 (mm_rf f5 (And.intro ⟨ME.2.2.1.2.1, mm_inb 20 ME.2.2.1.2.2 (mm_nb (by omega) (by omega))⟩ (mm_rf (show mm_a h (qm m + 3) (nI i).toNatClampNeg = nI (lk_o h m i) by rw [mm_ncl (by omega)]; exact c.1.trans o7) hQ)))))))))))))))
  · have z := mm_b0.mp (mm_no c_14)
    rw [mm_nt (by omega), mm_nt (by omega)] at z
    exact absurd ⟨by omega, by omega⟩ z
end
