theorem mm_has3_of {l : List (Nat × Nat × Nat × Nat)} {a b d : Nat} (h : mm_has3 l a b d = true) : ∃ w, (a, b, d, w) ∈ l := by
  unfold mm_has3 at h
  obtain ⟨t, h1, h2⟩ := List.any_eq_true.mp h
  simp only [Bool.and_eq_true, beq_iff_eq] at h2
  obtain ⟨⟨e1, e2⟩, e3⟩ := h2
  obtain ⟨t1, t2, t3, t4⟩ := t
  subst e1; subst e2; subst e3
  exact ⟨t4, h1⟩
theorem mm_hasn_of {l : List (Nat × Nat × Nat)} {a b d : Nat} (h : mm_hasn l a b d = true) : (a, b, d) ∈ l := by
  unfold mm_hasn at h
  obtain ⟨t, h1, h2⟩ := List.any_eq_true.mp h
  simp only [Bool.and_eq_true, beq_iff_eq] at h2
  obtain ⟨⟨e1, e2⟩, e3⟩ := h2
  obtain ⟨t1, t2, t3⟩ := t
  subst e1; subst e2; subst e3
  exact h1
theorem mm_fl_w {o idx f : Nat} (h : mm_has3 mm_fl o idx f = true) : Jvm.Cond.fieldLink (mm_N.getD o "") idx (mm_fdC f).1 (mm_fdC f).2.1 (mm_fdC f).2.2 ∈ mm_G := by
  obtain ⟨w, hw⟩ := mm_has3_of h
  have := List.all_eq_true.mp mm_fl_ok _ hw
  exact mm_G_of (of_decide_eq_true this) rfl
theorem mm_ml_w {o idx z : Nat} (h : mm_has3 mm_ml o idx z = true) : ∃ y, mm_nme z = some y ∧ Jvm.Cond.methodLink (mm_N.getD o "") idx y ∈ mm_G := by
  obtain ⟨w, hw⟩ := mm_has3_of h
  have h1 := List.all_eq_true.mp mm_ml_ok _ hw
  simp only [Bool.and_eq_true, decide_eq_true_eq] at h1
  obtain ⟨y, hy⟩ := Option.isSome_iff_exists.mp h1.2
  have h2 := h1.1
  rw [hy] at h2
  exact ⟨y, hy, mm_G_of h2 rfl⟩
theorem mm_fv_get {B : Nat} {h : mm_H} {c a k : Nat} (hk : k < (mm_fks.getD c []).length) : (mm_fv B h c a)[k]? = some (if mm_fk (64 * c + k) = 2 then va_rf (mm_ob B (mm_r h (64 * c + k) a)) else .int (mm_i h (64 * c + k) a)) := by
  unfold mm_fv
  rw [List.getElem?_map, List.getElem?_range hk]
  rfl
theorem mm_fv_len (B : Nat) (h : mm_H) (c a : Nat) : (mm_fv B h c a).length = (mm_fks.getD c []).length := by simp [mm_fv]
theorem mm_fv_set {B : Nat} {h h' : mm_H} {c a k : Nat} {v : Value} (hk : k < (mm_fks.getD c []).length) (hv : (mm_fv B h' c a)[k]? = some v) (ho : ∀ j, j ≠ k → mm_i h' (64 * c + j) a = mm_i h (64 * c + j) a ∧ mm_r h' (64 * c + j) a = mm_r h (64 * c + j) a) : mm_fv B h' c a = (mm_fv B h c a).set k v := by
  apply List.ext_getElem?
  intro j
  by_cases hj : j < (mm_fks.getD c []).length
  · by_cases hjk : j = k
    · subst hjk
      rw [List.getElem?_set_self (by rw [mm_fv_len]; exact hj), hv]
    · rw [List.getElem?_set_ne (Ne.symm hjk), mm_fv_get hj, mm_fv_get hj, (ho j hjk).1, (ho j hjk).2]
  · rw [List.getElem?_eq_none (by rw [mm_fv_len]; omega), List.getElem?_eq_none (by rw [List.length_set, mm_fv_len]; omega)]
theorem mm_ce_obj {B : Nat} {cA : Nat → ClassId} {h : mm_H} {a c : Nat} (hk : mm_k h a = c + 1) (hc : c < 10) : mm_ce B cA h a = .inr (c, mm_fv B h c a) := by
  unfold mm_ce
  rw [if_pos (by omega), hk]
  rfl
theorem mm_u_ne {α : Type} {g : Nat → Nat → α} {x y a b : Nat} {v : α} (h : a ≠ x ∨ b ≠ y) : mm_u g x y v a b = g a b := by
  unfold mm_u
  rw [if_neg (fun q => h.elim (fun z => z q.1) (fun z => z q.2))]
theorem mm_u_eq {α : Type} {g : Nat → Nat → α} {x y : Nat} {v : α} : mm_u g x y v x y = v := by
  unfold mm_u
  rw [if_pos ⟨rfl, rfl⟩]
theorem mm_ww_si {B : Nat} {cA : Nat → ClassId} {h : mm_H} {a c k f : Nat} {x : Int32} (hw : mm_wf h) (hf : f = 64 * c + k) (hk : mm_k h a = c + 1) (hc : c < 10) (hn : k < (mm_fks.getD c []).length) (h2 : mm_fk f ≠ 2) : mm_ww B cA (mm_si h f a x) = (mm_ww B cA h).set (a - 1) (B + a, .inr (c, (mm_fv B h c a).set k (.int x))) := by
  have hr := hw a (by omega)
  rw [mm_ww_set (h := h) (h' := mm_si h f a x) hr.1 hr.2 rfl (fun b hb => mm_ce_eq rfl rfl rfl rfl (fun g => mm_u_ne (Or.inr hb)) (fun g => rfl)), mm_ce_obj (h := mm_si h f a x) hk hc]
  subst hf
  have e : mm_i (mm_si h (64 * c + k) a x) (64 * c + k) a = x := mm_u_eq
  have e2 : mm_fv B (mm_si h (64 * c + k) a x) c a = (mm_fv B h c a).set k (.int x) := mm_fv_set (h := h) hn (by rw [mm_fv_get hn, if_neg h2, e]) (fun j hj => ⟨mm_u_ne (Or.inl (by omega)), rfl⟩)
  rw [e2]
theorem mm_ww_sr {B : Nat} {cA : Nat → ClassId} {h : mm_H} {a c k f : Nat} {x : Nat} (hw : mm_wf h) (hf : f = 64 * c + k) (hk : mm_k h a = c + 1) (hc : c < 10) (hn : k < (mm_fks.getD c []).length) (h2 : mm_fk f = 2) : mm_ww B cA (mm_sr h f a x) = (mm_ww B cA h).set (a - 1) (B + a, .inr (c, (mm_fv B h c a).set k (va_rf (mm_ob B x)))) := by
  have hr := hw a (by omega)
  rw [mm_ww_set (h := h) (h' := mm_sr h f a x) hr.1 hr.2 rfl (fun b hb => mm_ce_eq rfl rfl rfl rfl (fun g => rfl) (fun g => mm_u_ne (Or.inr hb))), mm_ce_obj (h := mm_sr h f a x) hk hc]
  subst hf
  have e : mm_r (mm_sr h (64 * c + k) a x) (64 * c + k) a = x := mm_u_eq
  have e2 : mm_fv B (mm_sr h (64 * c + k) a x) c a = (mm_fv B h c a).set k (va_rf (mm_ob B x)) := mm_fv_set (h := h) hn (by rw [mm_fv_get hn, if_pos h2, e]) (fun j hj => ⟨rfl, mm_u_ne (Or.inl (by omega))⟩)
  rw [e2]
theorem mm_pos {h : mm_H} {a : Nat} (hw : mm_wf h) (hk : mm_k h a ≠ 0) : a ≠ 0 := by
  have := (hw a hk).1
  omega
theorem mm_in_of {x : Int32} {n : Nat} (h : mm_in x n) : vp_in x n := vp_in_iff.mpr h
section SIM
variable {p : Program} {l : Launch} {e : Env} {R : Room} {s : State} {m : MethodId} {args : Array Value} {below : List Frame} {meth : Method} {c : Code} {H : Heap} {locs : List Loc} {cells slots : Nat} {Q : State → Prop} {M : mm_M} {B : Nat} {ra : Nat → Nat} {ro : mm_Ro} {D : va_G} {cA : Nat → ClassId} {t0 : Nat} {pc pc' len idx : Nat} {i : Instr} {L L' S S' : List Value} {h h' : mm_H} {ls : Array Slot}
theorem mm_simg {f : Nat} (X : mm_X p s m args meth c M B ra ro D cA t0) (he : mm_ok1 M (pc, len, idx, .getfield f) = true) (hst : mm_st ro (.getfield f) pc L S h = some (pc', L', S', h')) (J : mm_J B cA D h s H locs)
    (kk : L' = L → h' = h → W p l e R s m args below meth c H locs cells slots Q (F0 m pc' ls (S'.map (mm_rv B ra)))) : W p l e R s m args below meth c H locs cells slots Q (F0 m pc ls (S.map (mm_rv B ra))) := by
  obtain ⟨hx, hb, hml, hown, hts, hK, hE, hsz, hnm⟩ := X
  obtain ⟨hP, hS, hw⟩ := J
  have hlk := mm_lkd he
  have hd : decode M.2.1 pc = .ok (.getfield idx, 3) := mm_dec he rfl
  simp only [mm_lk, Bool.and_eq_true, decide_eq_true_eq] at hlk
  obtain ⟨⟨hl, hc⟩, hn⟩ := hlk
  unfold mm_st at hst
  dsimp only at hst
  split at hst
  · rename_i a S0
    split at hst
    · rename_i hk
      cases hst
      have k2 := kk rfl rfl
      have ha : a ≠ 0 := mm_pos hw (by omega)
      obtain ⟨C, T, N, ty, c1, c2, c3, c4, c5, c6, c7⟩ := mm_Ck_all (f / 64) hc
      have hf : 64 * (f / 64) + f % 64 = f := Nat.div_add_mod f 64
      obtain ⟨d1, d2, d3, d4⟩ := c7 (f % 64) (by rw [c3]; exact hn)
      rw [hf] at d3 d4
      have hw1 := mm_fl_w hl
      rw [d3] at hw1
      rw [List.map_cons, mm_rv_s ha]
      have hv : (mm_fv B h (f / 64) a)[f % 64]? = some (mm_rv B ra (mm_gv h f a)) := by
        rw [mm_fv_get hn, hf]
        unfold mm_gv
        by_cases h2 : mm_fk f = 2
        · rw [if_pos h2, if_pos h2, mm_rv_ref]
        · rw [if_neg h2, if_neg h2]; rfl
      exact va_get (D := D) (ci := f / 64) (C := C) (T := T) (N := N) (ref := C) hx hb hts c4 hown hK hP (a - 1) (mm_ww_obj hw hk hc) c1 (f % 64) (by rw [c3]; exact hn) (hts _ hw1) (fun x h9 => by rw [d1] at h9; exact h9) hv hd k2
    · cases hst
  · cases hst
theorem mm_simp {f : Nat} (X : mm_X p s m args meth c M B ra ro D cA t0) (he : mm_ok1 M (pc, len, idx, .putfield f) = true) (hst : mm_st ro (.putfield f) pc L S h = some (pc', L', S', h')) (J : mm_J B cA D h s H locs)
    (kk : ∀ H' locs', L' = L → mm_J B cA D h' s H' locs' → W p l e R s m args below meth c H' locs' cells slots Q (F0 m pc' ls (S'.map (mm_rv B ra)))) : W p l e R s m args below meth c H locs cells slots Q (F0 m pc ls (S.map (mm_rv B ra))) := by
  obtain ⟨hx, hb, hml, hown, hts, hK, hE, hsz, hnm⟩ := X
  obtain ⟨hP, hS, hw⟩ := J
  have hlk := mm_lkd he
  have hd : decode M.2.1 pc = .ok (.putfield idx, 3) := mm_dec he rfl
  simp only [mm_lk, Bool.and_eq_true, decide_eq_true_eq, Bool.or_eq_true, Bool.not_eq_true', beq_iff_eq] at hlk
  obtain ⟨⟨⟨hl, hc⟩, hn⟩, hfin⟩ := hlk
  obtain ⟨C, T, N, ty, c1, c2, c3, c4, c5, c6, c7⟩ := mm_Ck_all (f / 64) hc
  have hf : 64 * (f / 64) + f % 64 = f := Nat.div_add_mod f 64
  have hN : f % 64 < N := by rw [c3]; exact hn
  obtain ⟨d1, d2, d3, d4⟩ := c7 (f % 64) hN
  rw [hf] at d3 d4
  have hw1 := mm_fl_w hl
  rw [d3] at hw1
  have key : ∀ (a : Nat) (v : Value) (h1 : mm_H) (S0 : List Value), mm_k h a = f / 64 + 1 → narrow (ty (f % 64)) v = v → fits (ty (f % 64)) v = true → mm_ww B cA h1 = (mm_ww B cA h).set (a - 1) (B + a, .inr (f / 64, (mm_fv B h (f / 64) a).set (f % 64) v)) → mm_wf h1 → (∀ H' locs', mm_J B cA D h1 s H' locs' → W p l e R s m args below meth c H' locs' cells slots Q (F0 m (pc + 3) ls S0)) → W p l e R s m args below meth c H locs cells slots Q (F0 m pc ls (v :: .ref (B + a) :: S0)) := by
    intro a v h1 S0 hk n1 n2 hww hw1' k2
    rcases hfin with hfin | hfin
    · refine va_put (D := D) (ci := f / 64) (C := C) (T := T) (N := N) (ref := C) (ty := ty (f % 64)) hx hb hts c4 ty c5 c6 hown hK hP (mm_D B cA h) hS (a - 1) (mm_ww_obj hw hk hc) c1 (f % 64) hN (hts _ hw1) (fun x h9 => by rw [d1] at h9; exact h9) (by rw [d2]; exact hfin) (c5 _ hN) n1 n2 (by rw [mm_fv_len]; exact hn) hd (fun H1 locs1 g1 g2 g3 => k2 H1 locs1 ⟨?_, g3, hw1'⟩)
      rw [hww]; exact g1
    · by_cases hft : (T (f % 64)).2.2.2 = true
      · have hC : (T (f % 64)).1 = mm_N.getD M.2.2.2.2.1.1 "" := by rw [d1, c2, hfin.2]
        refine va_putF (D := D) (ci := f / 64) (C := C) (T := T) (N := N) (ref := C) (ty := ty (f % 64)) hx hb hts c4 ty c5 c6 hown hK hP (mm_D B cA h) hS (a - 1) (mm_ww_obj hw hk hc) c1 (f % 64) hN (hts _ hw1) (fun x h9 => by rw [d1] at h9; exact h9) hft (hnm hfin.1) hC (c5 _ hN) n1 n2 (by rw [mm_fv_len]; exact hn) hd (fun H1 locs1 g1 g2 g3 => k2 H1 locs1 ⟨?_, g3, hw1'⟩)
        rw [hww]; exact g1
      · refine va_put (D := D) (ci := f / 64) (C := C) (T := T) (N := N) (ref := C) (ty := ty (f % 64)) hx hb hts c4 ty c5 c6 hown hK hP (mm_D B cA h) hS (a - 1) (mm_ww_obj hw hk hc) c1 (f % 64) hN (hts _ hw1) (fun x h9 => by rw [d1] at h9; exact h9) (Bool.eq_false_iff.mpr hft) (c5 _ hN) n1 n2 (by rw [mm_fv_len]; exact hn) hd (fun H1 locs1 g1 g2 g3 => k2 H1 locs1 ⟨?_, g3, hw1'⟩)
        rw [hww]; exact g1
  unfold mm_st at hst
  dsimp only at hst
  split at hst
  · rename_i x a S0
    split at hst
    · rename_i hk
      cases hst
      have ha : a ≠ 0 := mm_pos hw (by omega)
      have h2 : mm_fk f ≠ 2 := by omega
      rw [List.map_cons, List.map_cons, mm_rv_s ha]
      have hnf : narrow (ty (f % 64)) (.int x) = .int x ∧ fits (ty (f % 64)) (.int x) = true := by
        rcases hk.2 with q | q
        · have := mm_ty0 (d4.trans q) x; exact ⟨this.1, this.2.1⟩
        · have := mm_ty1 (d4.trans q.1) q.2; exact ⟨this.1, this.2.1⟩
      exact key a (.int x) _ _ hk.1 hnf.1 hnf.2 (mm_ww_si hw hf.symm hk.1 hc hn h2) hw (fun H' locs' j => kk H' locs' rfl j)
    · cases hst
  · rename_i x a S0
    split at hst
    · rename_i hk
      cases hst
      have ha : a ≠ 0 := mm_pos hw (by omega)
      rw [List.map_cons, List.map_cons, mm_rv_s ha, mm_rv_ref]
      have hnf := mm_ty2 (d4.trans hk.2) (mm_ob B x)
      exact key a _ _ _ hk.1 hnf.1 hnf.2.1 (mm_ww_sr hw hf.symm hk.1 hc hn hk.2) hw (fun H' locs' j => kk H' locs' rfl j)
    · cases hst
  · cases hst
end SIM
