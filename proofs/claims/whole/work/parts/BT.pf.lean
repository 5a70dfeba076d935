/-! RUNNING: perform beside step: a method begins -/
section
variable {ro : mm_Ro} {h0 h s : mm_H} {qm : Nat → Nat} {nC nF nM d n H m i : Nat}
theorem en_h {w q A t B y : Nat} {x : Int32} {F : Nat → Int32} : (∀ b j, ¬ (b = 63 + 3 * w ∧ j < 6) → t ≤ 6 → mm_a (mm_si (rs_fill (ma_en h w q x) (63 + 3 * w) 0 t F) 388 A (nI B)) b j = mm_a h b j) ∧ (∀ v, v < t → mm_a (mm_si (rs_fill (ma_en h w q x) (63 + 3 * w) 0 t F) 388 A (nI B)) (63 + 3 * w) v = F v) ∧ (∀ v, t ≤ v → v < 6 → mm_a (mm_si (rs_fill (ma_en h w q x) (63 + 3 * w) 0 t F) 388 A (nI B)) (63 + 3 * w) v = 0) := by
  have e : 62 + 3 * w + 1 = 63 + 3 * w := by omega
  refine ⟨fun b j hb ht => ?_, fun v hv => ?_, fun v hv h6 => ?_⟩
  · rw [ra_si, rs_fill_a (by omega)]
    unfold ma_en ac_bg
    rw [ra_si, ra_si, e, rs_fill_a (by omega), ra_si, ra_si]
    rfl
  · rw [ra_si, rs_fill_b (by omega)]
    rfl
  · rw [ra_si, rs_fill_a (by omega)]
    unfold ma_en ac_bg
    rw [ra_si, ra_si, e, rs_fill_b (by omega)]
theorem en_hi {w q A t B f a : Nat} {x : Int32} {F : Nat → Int32} (o : ¬ (f = 388 ∧ a = A) ∧ ¬ (f = 329 ∧ a = 56) ∧ ¬ (f = 333 ∧ a = 56) ∧ ¬ ((f = 385 ∨ f = 388) ∧ a = 62 + 3 * w)) : mm_i (mm_si (rs_fill (ma_en h w q x) (63 + 3 * w) 0 t F) 388 A (nI B)) f a = mm_i h f a := by
  rw [mm_i2 (by omega), rs_fill_i]
  unfold ma_en ac_bg
  rw [mm_i2 (by omega), mm_i2 (by omega), rs_fill_i, mm_i2 (by omega), mm_i2 (by omega)]
  rfl
theorem en_hn {w q A t B : Nat} {x : Int32} {F : Nat → Int32} (hA : ¬ A = 56 ∧ ¬ A = 62 + 3 * w) : mm_i (mm_si (rs_fill (ma_en h w q x) (63 + 3 * w) 0 t F) 388 A (nI B)) 388 A = nI B ∧ mm_i (mm_si (rs_fill (ma_en h w q x) (63 + 3 * w) 0 t F) 388 A (nI B)) 329 56 = x ∧ mm_i (mm_si (rs_fill (ma_en h w q x) (63 + 3 * w) 0 t F) 388 A (nI B)) 333 56 = nI (w + 1) ∧ mm_i (mm_si (rs_fill (ma_en h w q x) (63 + 3 * w) 0 t F) 388 A (nI B)) 385 (62 + 3 * w) = 0 ∧ mm_i (mm_si (rs_fill (ma_en h w q x) (63 + 3 * w) 0 t F) 388 A (nI B)) 388 (62 + 3 * w) = 0 := by
  refine ⟨mm_i1, ?_, ?_, ?_, ?_⟩
  · rw [mm_i2 (by omega), rs_fill_i]
    exact mm_i1
  · rw [mm_i2 (by omega), rs_fill_i]
    exact (mm_i2 (by omega)).trans mm_i1
  · rw [mm_i2 (by omega), rs_fill_i]
    unfold ma_en ac_bg
    rw [mm_i2 (by omega), mm_i2 (by omega), rs_fill_i, mm_i2 (by omega), mm_i1]
  · rw [mm_i2 (by omega), rs_fill_i]
    unfold ma_en ac_bg
    rw [mm_i2 (by omega), mm_i2 (by omega), rs_fill_i, mm_i1]
theorem en_hr {w q A t B : Nat} {x : Int32} {F : Nat → Int32} : mm_r (mm_si (rs_fill (ma_en h w q x) (63 + 3 * w) 0 t F) 388 A (nI B)) 384 (62 + 3 * w) = q ∧ ∀ f a, ¬ (f = 384 ∧ a = 62 + 3 * w) → mm_r (mm_si (rs_fill (ma_en h w q x) (63 + 3 * w) 0 t F) 388 A (nI B)) f a = mm_r h f a := ⟨(show mm_r (mm_sr h 384 (62 + 3 * w) q) 384 (62 + 3 * w) = q from mm_r1), fun f a z => (show mm_r (mm_sr h 384 (62 + 3 * w) q) f a = mm_r h f a from mm_r2 (by omega))⟩
theorem pc_en {B t e j : Nat} (S : STs ro h0 nC nF nM qm h s d n H m i) (d5 : ¬ d = 5) (hj : j < nM) (eB : B + t = H) (ee : mm_i s 634 80 = nI e) (he : e ≤ 6) (hde : d + 1 ≤ e) : PC h0 qm nM (rs_fill (rs_enter (mm_sa (mm_sa s 121 d (nI (i + 1))) 120 d (nI B)) (d + 1) (nI j)) 118 (6 * (d + 1)) t (fun p => mm_a s 119 (4 * d + B + p))) (mm_si (rs_fill (ma_en h (d + 1) (qm j) (if (e : Int) < ((d + 1 : Nat) : Int) + 1 then nI (d + 1 + 1) else nI e)) (63 + 3 * (d + 1)) 0 t (fun p => mm_a h (64 + 3 * d) (B + p))) 388 (62 + 3 * d) (nI B)) := by
  obtain ⟨I, E, hd, h4, n24⟩ := st_E S
  have stk := (st_f S).2.2.2.1
  obtain ⟨f4, f8, f5, _, fl, fn⟩ := st_f S
  obtain ⟨TT, ar, ⟨c, e3, e4, al, at', sl⟩, ⟨_, g3, g5, g0, g2, g1, en, _⟩, hmM⟩ := S
  have s4 : mm_i (rs_enter (mm_sa (mm_sa s 121 d (nI (i + 1))) 120 d (nI B)) (d + 1) (nI j)) 634 80 = (if (e : Int) < ((d + 1 : Nat) : Int) + 1 then nI (d + 1 + 1) else nI e) := by
    unfold rs_enter
    have z : mm_i (mm_sa (mm_sa s 121 d (nI (i + 1))) 120 d (nI B)) 634 80 = nI e := ee
    rw [z, mm_nt (by omega)]
    by_cases q : (e : Int) < ((d + 1 : Nat) : Int) + 1
    · rw [if_pos q, if_pos q]; exact mm_i1
    · rw [if_neg q, if_neg q]
      exact (mm_i2 (by omega)).trans ee
  generalize (if (e : Int) < ((d + 1 : Nat) : Int) + 1 then nI (d + 1 + 1) else nI e) = x at *
  obtain ⟨ha, hb, hcc⟩ := en_h (h := h) (w := d + 1) (q := qm j) (A := 62 + 3 * d) (t := t) (B := B) (y := 0) (x := x) (F := fun p => mm_a h (64 + 3 * d) (B + p))
  have hi' : ∀ f a, ¬ (f = 388 ∧ a = 62 + 3 * d) ∧ ¬ (f = 329 ∧ a = 56) ∧ ¬ (f = 333 ∧ a = 56) ∧ ¬ ((f = 385 ∨ f = 388) ∧ a = 62 + 3 * (d + 1)) → mm_i (mm_si (rs_fill (ma_en h (d + 1) (qm j) x) (63 + 3 * (d + 1)) 0 t (fun p => mm_a h (64 + 3 * d) (B + p))) 388 (62 + 3 * d) (nI B)) f a = mm_i h f a := fun f a o => en_hi o
  obtain ⟨hn1, hn2, hn3, hn4, hn5⟩ := en_hn (h := h) (w := d + 1) (q := qm j) (A := 62 + 3 * d) (t := t) (B := B) (x := x) (F := fun p => mm_a h (64 + 3 * d) (B + p)) (by omega)
  obtain ⟨hr1, hr2⟩ := en_hr (h := h) (w := d + 1) (q := qm j) (A := 62 + 3 * d) (t := t) (B := B) (x := x) (F := fun p => mm_a h (64 + 3 * d) (B + p))
  have AR' : AR h0 (mm_si (rs_fill (ma_en h (d + 1) (qm j) x) (63 + 3 * (d + 1)) 0 t (fun p => mm_a h (64 + 3 * d) (B + p))) 388 (62 + 3 * d) (nI B)) := by
    refine AR_si (by omega) (AR_fill (by omega) ?_)
    unfold ma_en ac_bg
    exact AR_si (by omega) (AR_si (by omega) (AR_fill (by omega) (AR_si (by omega) (AR_si (by omega) (AR_sr (by omega) ar)))))
  generalize mm_si (rs_fill (ma_en h (d + 1) (qm j) x) (63 + 3 * (d + 1)) 0 t (fun p => mm_a h (64 + 3 * d) (B + p))) 388 (62 + 3 * d) (nI B) = gh at *
  have ca : ∀ b q, ¬ ((b = 118 ∧ 6 * (d + 1) ≤ q ∧ q < 6 * (d + 1) + 6) ∨ ((b = 120 ∨ b = 121 ∨ b = 122) ∧ q = d + 1) ∨ ((b = 120 ∨ b = 121) ∧ q = d)) → mm_a (rs_fill (rs_enter (mm_sa (mm_sa s 121 d (nI (i + 1))) 120 d (nI B)) (d + 1) (nI j)) 118 (6 * (d + 1)) t (fun p => mm_a s 119 (4 * d + B + p))) b q = mm_a s b q := fun b q hb => by
    rw [rs_fill_a (by omega), en_a (by omega)]
    exact (mm_a2 (by omega)).trans (mm_a2 (by omega))
  have cb : mm_a (rs_fill (rs_enter (mm_sa (mm_sa s 121 d (nI (i + 1))) 120 d (nI B)) (d + 1) (nI j)) 118 (6 * (d + 1)) t (fun p => mm_a s 119 (4 * d + B + p))) 120 d = nI B := by
    rw [rs_fill_a (by omega), en_a (by omega)]
    exact mm_a1
  have cat : mm_a (rs_fill (rs_enter (mm_sa (mm_sa s 121 d (nI (i + 1))) 120 d (nI B)) (d + 1) (nI j)) 118 (6 * (d + 1)) t (fun p => mm_a s 119 (4 * d + B + p))) 121 d = nI (i + 1) := by
    rw [rs_fill_a (by omega), en_a (by omega)]
    exact (mm_a2 (by omega)).trans mm_a1
  have c0 : mm_a (rs_fill (rs_enter (mm_sa (mm_sa s 121 d (nI (i + 1))) 120 d (nI B)) (d + 1) (nI j)) 118 (6 * (d + 1)) t (fun p => mm_a s 119 (4 * d + B + p))) 120 (d + 1) = nI 0 := by
    rw [rs_fill_a (by omega)]
    exact en_n.2.1
  have c01 : mm_a (rs_fill (rs_enter (mm_sa (mm_sa s 121 d (nI (i + 1))) 120 d (nI B)) (d + 1) (nI j)) 118 (6 * (d + 1)) t (fun p => mm_a s 119 (4 * d + B + p))) 121 (d + 1) = 0 := by
    rw [rs_fill_a (by omega)]
    exact en_n.2.2.1
  have c2 : mm_a (rs_fill (rs_enter (mm_sa (mm_sa s 121 d (nI (i + 1))) 120 d (nI B)) (d + 1) (nI j)) 118 (6 * (d + 1)) t (fun p => mm_a s 119 (4 * d + B + p))) 122 (d + 1) = nI j := by
    rw [rs_fill_a (by omega)]
    exact en_n.2.2.2
  have cl : ∀ v, v < t → mm_a (rs_fill (rs_enter (mm_sa (mm_sa s 121 d (nI (i + 1))) 120 d (nI B)) (d + 1) (nI j)) 118 (6 * (d + 1)) t (fun p => mm_a s 119 (4 * d + B + p))) 118 (6 * (d + 1) + v) = mm_a s 119 (4 * d + B + v) := fun v hv => by
    rw [rs_fill_b (by omega), Nat.add_sub_cancel_left]
  have cz : ∀ v, t ≤ v → v < 6 → mm_a (rs_fill (rs_enter (mm_sa (mm_sa s 121 d (nI (i + 1))) 120 d (nI B)) (d + 1) (nI j)) 118 (6 * (d + 1)) t (fun p => mm_a s 119 (4 * d + B + p))) 118 (6 * (d + 1) + v) = 0 := fun v hv h6 => by
    rw [rs_fill_a (by omega)]
    exact en_n.1 _ (by omega)
  have ci : ∀ f, ¬ f = 633 ∧ ¬ f = 634 → mm_i (rs_fill (rs_enter (mm_sa (mm_sa s 121 d (nI (i + 1))) 120 d (nI B)) (d + 1) (nI j)) 118 (6 * (d + 1)) t (fun p => mm_a s 119 (4 * d + B + p))) f 80 = mm_i s f 80 := fun f hf => by
    rw [rs_fill_i, en_i hf]
    rfl
  have c3 : mm_i (rs_fill (rs_enter (mm_sa (mm_sa s 121 d (nI (i + 1))) 120 d (nI B)) (d + 1) (nI j)) 118 (6 * (d + 1)) t (fun p => mm_a s 119 (4 * d + B + p))) 633 80 = nI (d + 1 + 1) := by rw [rs_fill_i]; exact en_3
  have c4 : mm_i (rs_fill (rs_enter (mm_sa (mm_sa s 121 d (nI (i + 1))) 120 d (nI B)) (d + 1) (nI j)) 118 (6 * (d + 1)) t (fun p => mm_a s 119 (4 * d + B + p))) 634 80 = x := by rw [rs_fill_i]; exact s4
  generalize rs_fill (rs_enter (mm_sa (mm_sa s 121 d (nI (i + 1))) 120 d (nI B)) (d + 1) (nI j)) 118 (6 * (d + 1)) t (fun p => mm_a s 119 (4 * d + B + p)) = gs at *
  obtain ⟨k1, k2, k3, k4, k5, k6, k7⟩ := c
  refine pc_mk (d := d + 1) (n := n) (P := (mm_i s 631 80).toNatClampNeg) (T := fun u => if u = d + 1 then 0 else if u = d then B else (mm_a s 120 u).toNatClampNeg) AR' ⟨fun w hw => ?_, fun w v hw hv => ?_, fun w p hw hp h4' => ?_, fun w hw => ?_, fun o ho => ?_, fun p hp => ?_, fun p hp h6 => ?_⟩ (fun w hw => ?_) (by rw [ci _ (by omega)]; exact Nat.le_refl _) (by omega) n24 hn3 c3 ((hi' _ _ (by omega)).trans e4) ((ci _ (by omega)).trans g5) ((ci _ (by omega)).trans en) (fun w hw => ?_) (hn4.trans c01.symm) ?_
  · by_cases q : w = d + 1
    · rw [q]; exact ⟨j, hj, c2, hr1⟩
    · obtain ⟨m', m1, m2, m3⟩ := k1 w (by omega)
      exact ⟨m', m1, (ca _ _ (by omega)).trans m2, (hr2 _ _ (by omega)).trans m3⟩
  · by_cases q : w = d + 1
    · rw [q]
      by_cases z : v < t
      · rw [hb v z, cl v z, stk (B + v) (by omega), Nat.add_assoc]
      · rw [hcc v (by omega) hv, cz v (by omega) hv]
    · rw [ha _ _ (by omega) (by omega), ca _ _ (by omega)]
      exact k2 w v (by omega) hv
  · have hp' : p < (if w = d + 1 then 0 else if w = d then B else (mm_a s 120 w).toNatClampNeg) := hp
    by_cases q : w = d + 1
    · rw [if_pos q] at hp'; omega
    · rw [if_neg q] at hp'
      rw [ha _ _ (by omega) (by omega), ca _ _ (by omega)]
      refine k3 w p (by omega) ?_ h4'
      show p < (mm_a s 120 w).toNatClampNeg
      by_cases z : w = d
      · rw [if_pos z] at hp'
        rw [z, g0, mm_ncl (by omega)]
        omega
      · rw [if_neg z] at hp'
        exact hp'
  · by_cases q : w = d + 1
    · rw [q, hn5, c0]; rfl
    · by_cases z : w = d
      · rw [z, hn1, cb]
      · rw [hi' _ _ (by omega), ca _ _ (by omega)]
        exact k4 w (by omega)
  · rw [ha _ _ (by omega) (by omega), ca _ _ (by omega)]; exact k5 o ho
  · rw [ha _ _ (by omega) (by omega), ca _ _ (by omega)]; exact k6 p hp
  · rw [ha _ _ (by omega) (by omega), ca _ _ (by omega)]; exact k7 p hp h6
  · show (mm_a gs 120 w).toNatClampNeg ≤ (if w = d + 1 then 0 else if w = d then B else (mm_a s 120 w).toNatClampNeg)
    by_cases q : w = d + 1
    · rw [if_pos q, q, c0, mm_ncl (by omega)]; omega
    · rw [if_neg q]
      by_cases z : w = d
      · rw [if_pos z, z, cb, mm_ncl (by omega)]; omega
      · rw [if_neg z, ca _ _ (by omega)]; exact Nat.le_refl _
  · by_cases z : w = d
    · rw [z, hi' _ _ (by omega), cat, f5, nI_succ]
    · rw [hi' _ _ (by omega), ca _ _ (by omega)]
      exact al w (by omega)
  · obtain ⟨l1, l2, l3, l4, l5, l6⟩ := sl
    exact ⟨(hi' _ _ (by omega)).trans (l1.trans (ci _ (by omega)).symm), (hi' _ _ (by omega)).trans (l2.trans (ci _ (by omega)).symm), (hi' _ _ (by omega)).trans (l3.trans (ci _ (by omega)).symm), (hi' _ _ (by omega)).trans (l4.trans (ci _ (by omega)).symm), (hi' _ _ (by omega)).trans (l5.trans (ci _ (by omega)).symm), hn2.trans c4.symm⟩
end
