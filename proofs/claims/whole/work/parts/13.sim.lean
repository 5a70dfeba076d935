theorem mm_ce_int {B : Nat} {cA : Nat → ClassId} {h : mm_H} {a t : Nat} (hk : mm_k h a = 20 + t) (hc : t < 2) : mm_ce B cA h a = .inl (cA t, mm_n h a, .inl (mm_a h a)) := by
  unfold mm_ce
  rw [if_neg (by omega), if_pos (by omega), hk, Nat.add_sub_cancel_left]
theorem mm_ce_ref {B : Nat} {cA : Nat → ClassId} {h : mm_H} {a t : Nat} (hk : mm_k h a = 20 + t) (hc : 2 ≤ t) : mm_ce B cA h a = .inl (cA t, mm_n h a, .inr (.inr (.inr (.inr (fun j => mm_ob B (mm_q h a j)))))) := by
  unfold mm_ce
  rw [if_neg (by omega), if_neg (by omega), hk, Nat.add_sub_cancel_left]
theorem mm_ww_sa {B : Nat} {cA : Nat → ClassId} {h : mm_H} {a j t : Nat} {x : Int32} (hw : mm_wf h) (hk : mm_k h a = 20 + t) (hc : t < 2) : mm_ww B cA (mm_sa h a j x) = (mm_ww B cA h).set (a - 1) (B + a, .inl (cA t, mm_n h a, .inl (upd (mm_a h a) j x))) := by
  have hr := hw a (by omega)
  rw [mm_ww_set (h := h) (h' := mm_sa h a j x) hr.1 hr.2 rfl (fun b hb => mm_ce_eq rfl rfl (by funext q; exact mm_u_ne (Or.inl hb)) rfl (fun g => rfl) (fun g => rfl)), mm_ce_int (h := mm_sa h a j x) hk hc]
  have e : mm_a (mm_sa h a j x) a = upd (mm_a h a) j x := by
    funext q
    show mm_u (mm_a h) a j x a q = upd (mm_a h a) j x q
    unfold mm_u upd
    by_cases hq : q = j
    · rw [if_pos ⟨rfl, hq⟩, if_pos hq]
    · rw [if_neg (fun z => hq z.2), if_neg hq]
  rw [e]
  rfl
theorem mm_ww_sc {B : Nat} {cA : Nat → ClassId} {h : mm_H} {a b sp dp n t : Nat} (hw : mm_wf h) (hk : mm_k h b = 20 + t) (hc : t < 2) : mm_ww B cA (mm_sc h a b sp dp n) = (mm_ww B cA h).set (b - 1) (B + b, .inl (cA t, mm_n h b, .inl (va_cpy (mm_a h a) (mm_a h b) sp dp n))) := by
  have hr := hw b (by omega)
  rw [mm_ww_set (h := h) (h' := mm_sc h a b sp dp n) hr.1 hr.2 rfl (fun d hd => mm_ce_eq rfl rfl (if_neg hd) rfl (fun g => rfl) (fun g => rfl)), mm_ce_int (h := mm_sc h a b sp dp n) hk hc]
  have e : mm_a (mm_sc h a b sp dp n) b = va_cpy (mm_a h a) (mm_a h b) sp dp n := if_pos rfl
  rw [e]
  rfl
theorem mm_ww_sq {B : Nat} {cA : Nat → ClassId} {h : mm_H} {a j t : Nat} {x : Nat} (hw : mm_wf h) (hk : mm_k h a = 20 + t) (hc : 2 ≤ t) (hx : x ≠ 0) : mm_ww B cA (mm_sq h a j x) = (mm_ww B cA h).set (a - 1) (B + a, .inl (cA t, mm_n h a, .inr (.inr (.inr (.inr (va_up (fun j => mm_ob B (mm_q h a j)) j (some (B + x)))))))) := by
  have hr := hw a (by omega)
  rw [mm_ww_set (h := h) (h' := mm_sq h a j x) hr.1 hr.2 rfl (fun b hb => mm_ce_eq rfl rfl rfl (by funext q; exact mm_u_ne (Or.inl hb)) (fun g => rfl) (fun g => rfl)), mm_ce_ref (h := mm_sq h a j x) hk hc]
  have e : (fun q => mm_ob B (mm_q (mm_sq h a j x) a q)) = va_up (fun j => mm_ob B (mm_q h a j)) j (some (B + x)) := by
    funext q
    show mm_ob B (mm_u (mm_q h) a j x a q) = va_up (fun j => mm_ob B (mm_q h a j)) j (some (B + x)) q
    unfold mm_u va_up
    by_cases hq : q = j
    · rw [if_pos ⟨rfl, hq⟩, if_pos hq]
      unfold mm_ob
      rw [if_neg hx]
    · rw [if_neg (fun z => hq z.2), if_neg hq]
  rw [e]
  rfl
theorem mm_cat8 (B : Nat) (ra : Nat → Nat) (S : List Value) : ((S.map (mm_rv B ra)).map fun v => v.category).sum ≤ 2 * S.length := by
  induction S with
  | nil => exact Nat.le_refl 0
  | cons v S ih =>
    rw [List.map_cons, List.map_cons, List.sum_cons, List.length_cons]
    have : (mm_rv B ra v).category ≤ 2 := by rcases lv_cat (mm_rv B ra v) with q | q <;> omega
    omega
/-- which instructions this part is about -/
def mm_isa (i : Instr) : Bool := match i with
  | .getstatic _ | .iaload | .baload | .aaload | .iastore | .bastore | .aastore | .arraylength | .invokespecial _ | .invokestatic _ => true
  | _ => false
section SIM
variable {p : Program} {l : Launch} {e : Env} {R : Room} {s : State} {m : MethodId} {args : Array Value} {below : List Frame} {meth : Method} {c : Code} {H : Heap} {locs : List Loc} {cells slots : Nat} {Q : State → Prop} {M : mm_M} {B : Nat} {ra : Nat → Nat} {ro : mm_Ro} {D : va_G} {cA : Nat → ClassId} {t0 : Nat} {pc pc' len idx : Nat} {i : Instr} {L L' S S' : List Value} {h h' : mm_H} {ls : Array Slot}
theorem mm_sima (X : mm_X p s m args meth c M B ra ro D cA t0) (he : mm_ok1 M (pc, len, idx, i) = true) (hst : mm_st ro i pc L S h = some (pc', L', S', h')) (hi : mm_isa i = true) (J : mm_J B cA D h s H locs) (hls : ls.size = M.2.2.1) (hfr : 1 ≤ R.frames) (hlo : 39 ≤ R.locals) (hcl : cells ≤ R.cells) (hsl : slots ≤ R.slots)
    (kk : ∀ H' locs', L' = L → mm_J B cA D h' s H' locs' → W p l e R s m args below meth c H' locs' cells slots Q (F0 m pc' ls (S'.map (mm_rv B ra)))) : W p l e R s m args below meth c H locs cells slots Q (F0 m pc ls (S.map (mm_rv B ra))) := by
  have J0 := J
  obtain ⟨hx, hb, hml, hown, hts, hK, hE, hsz, hnm⟩ := X
  obtain ⟨hP, hS, hw⟩ := J
  have hlk := mm_lkd he
  have hD := mm_D B cA h
  cases i <;> first | (cases hi; done) | skip
  case getstatic k =>
    have hd : decode M.2.1 pc = .ok (.getstatic idx, 3) := mm_dec he rfl
    have hk := mm_hasn_of (show mm_hasn mm_sl M.2.2.2.2.1.1 idx k = true from hlk)
    have h1 := List.all_eq_true.mp mm_sl_ok _ hk
    simp only [Bool.and_eq_true, decide_eq_true_eq] at h1
    obtain ⟨h1, h2⟩ := h1
    cases hst
    have k2 := kk H locs rfl J0
    rcases h2 with rfl | rfl
    · have hw1 : va_Nw _ s := hE.2.2.2 _ (List.mem_filter.mpr ⟨h1, rfl⟩)
      exact va_getsN hx hb hE.2.1 hS hown (va_Nw.use rfl hw1) (fun _ z => z) hd k2
    · have hw1 : va_Nw _ s := hE.2.2.2 _ (List.mem_filter.mpr ⟨h1, rfl⟩)
      exact va_getsN hx hb hE.2.2.1 hS hown (va_Nw.use rfl hw1) (fun _ z => z) hd k2
  case iaload =>
    have hd : decode M.2.1 pc = .ok (.iaload, 1) := mm_dec he rfl
    unfold mm_st at hst
    dsimp only at hst
    split at hst
    · rename_i x a S0
      split at hst
      · rename_i hk
        cases hst
        rw [List.map_cons, List.map_cons, mm_rv_s (mm_pos hw (by omega))]
        exact va_iald hx hb hK hP (a - 1) 0 (mm_ww_int (t := 0) hw hk.1 (by omega)) rfl (mm_in_of hk.2) hd (kk H locs rfl J0)
      · cases hst
    · rename_i x k S0
      split at hst
      · rename_i hk
        cases hst
        exact va_ti hx hb (hE.1 k) hS (mm_in_of hk) rfl hd (kk H locs rfl J0)
      · cases hst
    · cases hst
  case baload =>
    have hd : decode M.2.1 pc = .ok (.baload, 1) := mm_dec he rfl
    unfold mm_st at hst
    dsimp only at hst
    split at hst
    · rename_i x a S0
      split at hst
      · rename_i hk
        cases hst
        rw [List.map_cons, List.map_cons, mm_rv_s (mm_pos hw (by omega))]
        exact va_zald hx hb hK hP (a - 1) 1 (mm_ww_int (t := 1) hw hk.1 (by omega)) rfl (mm_in_of hk.2) hd (kk H locs rfl J0)
      · cases hst
    · cases hst
  case aaload =>
    have hd : decode M.2.1 pc = .ok (.aaload, 1) := mm_dec he rfl
    unfold mm_st at hst
    dsimp only at hst
    split at hst
    · rename_i x a S0
      split at hst
      · rename_i hk
        cases hst
        have k2 := kk H locs rfl J0
        rw [List.map_cons, mm_rv_ref] at k2
        rw [List.map_cons, List.map_cons, mm_rv_s (mm_pos hw (by omega))]
        obtain ⟨t, ht⟩ : ∃ t, mm_k h a = 20 + t := ⟨mm_k h a - 20, by omega⟩
        have hr := mm_ww_ref (B := B) (cA := cA) hw ht (by omega)
        rcases (show t = 2 ∨ t = 3 ∨ t = 4 ∨ t = 5 by omega) with rfl | rfl | rfl | rfl
        · exact va_aldq hx hb hK hP (a - 1) 2 hr rfl (mm_in_of hk.2) hd k2
        · exact va_aldq hx hb hK hP (a - 1) 3 hr rfl (mm_in_of hk.2) hd k2
        · exact va_aldq hx hb hK hP (a - 1) 4 hr rfl (mm_in_of hk.2) hd k2
        · exact va_aldq hx hb hK hP (a - 1) 5 hr rfl (mm_in_of hk.2) hd k2
      · cases hst
    · cases hst
  case iastore =>
    have hd : decode M.2.1 pc = .ok (.iastore, 1) := mm_dec he rfl
    unfold mm_st at hst
    dsimp only at hst
    split at hst
    · rename_i v x a S0
      split at hst
      · rename_i hk
        cases hst
        rw [List.map_cons, List.map_cons, List.map_cons, mm_rv_s (mm_pos hw (by omega))]
        refine va_iast hx hb hK hP hD hS (a - 1) 0 (mm_ww_int (t := 0) hw hk.1 (by omega)) rfl (mm_in_of hk.2) hd (fun H1 locs1 g1 g2 g3 => kk H1 locs1 rfl ⟨?_, g3, hw⟩)
        rw [mm_ww_sa (t := 0) hw hk.1 (by omega)]; exact g1
      · cases hst
    · cases hst
  case bastore =>
    have hd : decode M.2.1 pc = .ok (.bastore, 1) := mm_dec he rfl
    unfold mm_st at hst
    dsimp only at hst
    split at hst
    · rename_i v x a S0
      split at hst
      · rename_i hk
        cases hst
        rw [List.map_cons, List.map_cons, List.map_cons, mm_rv_s (mm_pos hw (by omega))]
        refine va_zast hx hb hK hP hD hS (a - 1) 1 (mm_ww_int (t := 1) hw hk.1 (by omega)) rfl (mm_in_of hk.2.1) hd (fun H1 locs1 g1 g2 g3 => kk H1 locs1 rfl ⟨?_, g3, hw⟩)
        have hv : vp_nar .boolean v = v := by rcases hk.2.2 with rfl | rfl <;> decide
        rw [hv] at g1
        rw [mm_ww_sa (t := 1) hw hk.1 (by omega)]; exact g1
      · cases hst
    · cases hst
  case aastore =>
    have hd : decode M.2.1 pc = .ok (.aastore, 1) := mm_dec he rfl
    unfold mm_st at hst
    dsimp only at hst
    split at hst
    · rename_i v x a S0
      split at hst
      · rename_i hk
        cases hst
        obtain ⟨hk1, hk2, hk3⟩ := hk
        have hv0 : v ≠ 0 := mm_pos hw (by omega)
        rw [List.map_cons, List.map_cons, List.map_cons, mm_rv_s hv0, mm_rv_s (mm_pos hw (a := a) (by omega))]
        obtain ⟨t, ht⟩ : ∃ t, mm_k h a = 20 + t := ⟨mm_k h a - 20, by omega⟩
        have hr := mm_ww_ref (B := B) (cA := cA) hw ht (by omega)
        rw [ht, Nat.add_sub_cancel_left] at hk3
        have go : ∀ (ci : Nat) (r : vw_C), mm_k h v = ci + 1 → ci < 10 → mm_cl[ci]? = some r → (mm_tys cA)[t]? = some (cA t, .object r.1) → W p l e R s m args below meth c H locs cells slots Q (F0 m pc ls (.ref (B + v) :: .int x :: .ref (B + a) :: S'.map (mm_rv B ra))) := by
          intro ci r g1 g2 g3 g4
          refine va_astq hx hb hK hP hD hS (a - 1) t (v - 1) ci hr g4 (mm_ww_obj hw g1 g2) g3 (mm_in_of hk2) hd (fun H1 locs1 q1 q2 q3 => kk H1 locs1 rfl ⟨?_, q3, hw⟩)
          rw [mm_ww_sq hw ht (by omega) hv0]; exact q1
        rcases (show t = 2 ∨ t = 3 ∨ t = 4 ∨ t = 5 by omega) with rfl | rfl | rfl | rfl
        · exact go 7 _ hk3 (by omega) rfl rfl
        · exact go 8 _ hk3 (by omega) rfl rfl
        · exact go 3 _ hk3 (by omega) rfl rfl
        · exact go 6 _ hk3 (by omega) rfl rfl
      · cases hst
    · cases hst
  case arraylength =>
    have hd : decode M.2.1 pc = .ok (.arraylength, 1) := mm_dec he rfl
    unfold mm_st at hst
    dsimp only at hst
    split at hst
    · rename_i a S0
      split at hst
      · rename_i hk
        cases hst
        rw [List.map_cons, mm_rv_s (mm_pos hw (by omega))]
        obtain ⟨t, ht⟩ : ∃ t, mm_k h a = 20 + t := ⟨mm_k h a - 20, by omega⟩
        rcases (show t = 0 ∨ t = 1 ∨ t = 2 ∨ t = 3 ∨ t = 4 ∨ t = 5 by omega) with rfl | rfl | rfl | rfl | rfl | rfl
        · exact va_alen hx hb hK hP (a - 1) 0 (mm_ww_int hw ht (by omega)) rfl rfl hd (kk H locs rfl J0)
        · exact va_alen hx hb hK hP (a - 1) 1 (mm_ww_int hw ht (by omega)) rfl rfl hd (kk H locs rfl J0)
        · exact va_alen hx hb hK hP (a - 1) 2 (mm_ww_ref hw ht (by omega)) rfl rfl hd (kk H locs rfl J0)
        · exact va_alen hx hb hK hP (a - 1) 3 (mm_ww_ref hw ht (by omega)) rfl rfl hd (kk H locs rfl J0)
        · exact va_alen hx hb hK hP (a - 1) 4 (mm_ww_ref hw ht (by omega)) rfl rfl hd (kk H locs rfl J0)
        · exact va_alen hx hb hK hP (a - 1) 5 (mm_ww_ref hw ht (by omega)) rfl rfl hd (kk H locs rfl J0)
      · cases hst
    · cases hst
      exact va_tlen hx hb (hE.1 _) hS rfl hd (kk H locs rfl J0)
    · cases hst
  case invokespecial z =>
    have hd : decode M.2.1 pc = .ok (.invokespecial idx, 3) := mm_dec he rfl
    unfold mm_st at hst
    dsimp only at hst
    split at hst
    · rename_i a S0
      split at hst
      · rename_i hk
        cases hst
        obtain ⟨rfl, hk1, hk2, hk3⟩ := hk
        simp only [mm_lk, Bool.and_eq_true, if_pos] at hlk
        obtain ⟨y, hy, hw1⟩ := mm_ml_w hlk.2
        cases hy
        rw [List.map_cons, mm_rv_s (mm_pos hw hk1)]
        refine W.objInit hx hb hown (hts _ hw1) (hts _ mm_G_3.2.2.1) (hts _ mm_G_3.2.2.2) rfl (by rw [hml]; exact hls) rfl hd hfr ?_ (kk H locs rfl J0)
        have := mm_cat8 B ra S'
        show 2 * 0 + _ + 12 ≤ _
        omega
      · cases hst
    · cases hst
  case invokestatic z =>
    have hd : decode M.2.1 pc = .ok (.invokestatic idx, 3) := mm_dec he rfl
    unfold mm_st at hst
    dsimp only at hst
    split at hst
    · rename_i n dp b sp a S0
      split at hst
      · rename_i hk
        cases hst
        obtain ⟨rfl, k1, k2, k3, k4, k5, k6, k7, k8⟩ := hk
        simp only [mm_lk, Bool.and_eq_true] at hlk
        have hl2 : mm_has3 mm_ml M.2.2.2.2.1.1 idx 1001 = true := hlk.2
        obtain ⟨y, hy, hw1⟩ := mm_ml_w hl2
        cases hy
        rw [List.map_cons, List.map_cons, List.map_cons, List.map_cons, List.map_cons, mm_rv_s (mm_pos hw (by omega)), mm_rv_s (mm_pos hw (by omega))]
        refine va_copyi hx hb (by rw [hml]; exact hls.symm) hown (hts _ hw1) (hts _ mm_G_1.1.1) (hts _ mm_G_1.1.2) (hts _ mm_G_1.2.1) hK hP hD hS (a - 1) (b - 1) 0 0 (ty := .int) (mm_ww_int (t := 0) hw k1 (by omega)) (mm_ww_int (t := 0) hw k2 (by omega)) rfl rfl rfl k3 k4 k5 k6 k7 (fun _ _ => rfl) hfr ?_ hd (fun H1 locs1 g1 g2 g3 => kk H1 locs1 rfl ⟨?_, g3, hw⟩)
        · have := mm_cat8 B ra S'
          have e : nativeFrameWords "java/lang/System" "arraycopy" 5 = 7 := by decide +kernel
          rw [e]
          omega
        · rw [mm_ww_sc (t := 0) hw k2 (by omega)]; exact g1
      · cases hst
    · rename_i y x S0 _
      split at hst
      · rename_i hk
        cases hst
        obtain ⟨rfl, k8⟩ := hk
        simp only [mm_lk, Bool.and_eq_true] at hlk
        have hl2 : mm_has3 mm_ml M.2.2.2.2.1.1 idx 1002 = true := hlk.2
        obtain ⟨y, hy, hw1⟩ := mm_ml_w hl2
        cases hy
        refine va_mmax hx hb (by rw [hml]; exact hls.symm) hown (hts _ hw1) (hts _ mm_G_2.1) (hts _ mm_G_1.2.2) (hts _ mm_G_2.2.2.1) hfr ?_ hcl hsl hd (kk H locs rfl J0)
        have := mm_cat8 B ra S0
        omega
      · split at hst
        · rename_i hk
          cases hst
          obtain ⟨rfl, k8⟩ := hk
          simp only [mm_lk, Bool.and_eq_true] at hlk
          have hl2 : mm_has3 mm_ml M.2.2.2.2.1.1 idx 1003 = true := hlk.2
          obtain ⟨y, hy, hw1⟩ := mm_ml_w hl2
          cases hy
          refine va_mmin hx hb (by rw [hml]; exact hls.symm) hown (hts _ hw1) (hts _ mm_G_2.2.1) (hts _ mm_G_1.2.2) (hts _ mm_G_2.2.2.2) hfr ?_ hcl hsl hd (kk H locs rfl J0)
          have := mm_cat8 B ra S0
          omega
        · cases hst
    · cases hst
end SIM
