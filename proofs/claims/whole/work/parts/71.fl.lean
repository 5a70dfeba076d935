/-! THE REFERENCE: flow, its comings one after another -/
def lk_cw (h : mm_H) (m len i : Nat) (X : Nat → mm_F) (w : Nat) : Prop := 0 ≤ lk_w h m i w → lk_w h m i w < (len : Int) → mm_fle (mm_up h) (lk_out h m i w (X i)) (X (lk_w h m i w).toNat)
def lk_S3 (Φ : mm_F) (h : mm_H) (m len i : Nat) (b0 : Int32) (hd0 : Nat → Int32 × Int32 × Int32) (sv0 : Nat → mm_V) (b : Int32) (hd : Nat → Int32 × Int32 × Int32) (sv : Nat → mm_V) (P : Nat → Prop) : Prop := lk_Rv Φ h m len hd sv ∧ ((b = 1 ∧ lk_rs len (lk_fr hd0 sv0) < lk_rs len (lk_fr hd sv)) ∨ (b = b0 ∧ hd = hd0 ∧ sv = sv0 ∧ ∀ w, P w → lk_cw h m len i (lk_fr hd0 sv0) w))
theorem lk_S3_no {Φ : mm_F} {h : mm_H} {m len i w : Nat} {b0 b : Int32} {hd0 hd : Nat → Int32 × Int32 × Int32} {sv0 sv : Nat → mm_V} {P : Nat → Prop} (n : lk_w h m i w < 0) (s : lk_S3 Φ h m len i b0 hd0 sv0 b hd sv P) : lk_S3 Φ h m len i b0 hd0 sv0 b hd sv (fun v => P v ∨ v = w) := by
  refine ⟨s.1, ?_⟩
  rcases s.2 with z | ⟨z1, z2, z3, z4⟩
  · exact Or.inl z
  · refine Or.inr ⟨z1, z2, z3, fun v hv => ?_⟩
    rcases hv with hv | hv
    · exact z4 v hv
    · intro y
      rw [hv] at y
      omega
theorem lk_S3_st {Φ : mm_F} {h : mm_H} {m len i w T : Nat} {b0 b b' : Int32} {hd0 hd hd' : Nat → Int32 × Int32 × Int32} {sv0 sv sv' : Nat → mm_V} {P : Nat → Prop} {ψ : mm_F} (hT : lk_w h m i w = (T : Int)) (hψ : hd = hd0 → sv = sv0 → ψ = lk_out h m i w (lk_fr hd0 sv0 i)) (s : lk_S3 Φ h m len i b0 hd0 sv0 b hd sv P) (R : lk_Rv Φ h m len hd' sv') (p : (b' = 1 ∧ lk_rs len (lk_fr hd sv) < lk_rs len (lk_fr hd' sv')) ∨ (b' = b ∧ hd' = hd ∧ sv' = sv ∧ (T < len → mm_fle (mm_up h) ψ (lk_fr hd sv T)))) : lk_S3 Φ h m len i b0 hd0 sv0 b' hd' sv' (fun v => P v ∨ v = w) := by
  refine ⟨R, ?_⟩
  rcases s.2 with ⟨z1, z2⟩ | ⟨z1, z2, z3, z4⟩
  · rcases p with ⟨p1, p2⟩ | ⟨p1, p2, p3, _⟩
    · exact Or.inl ⟨p1, by omega⟩
    · exact Or.inl ⟨p1.trans z1, by rw [p2, p3]; exact z2⟩
  · rcases p with ⟨p1, p2⟩ | ⟨p1, p2, p3, p4⟩
    · exact Or.inl ⟨p1, by rw [← z2, ← z3]; exact p2⟩
    · refine Or.inr ⟨p1.trans z1, p2.trans z2, p3.trans z3, fun v hv => ?_⟩
      rcases hv with hv | hv
      · exact z4 v hv
      · rw [hv]
        intro y1 y2
        rw [hT] at y2 ⊢
        have := p4 (by omega)
        rw [hψ z2 z3, z2, z3] at this
        exact this
/-- the last coming -/
theorem l_fl_243 {Φ : mm_F} {ro : mm_Ro} {d m len i T : Nat} {h0 : mm_H} {e : Int32 × Int32 × Int32} {b : Int32} {c ψ : mm_F} {hd0 hd : Nat → Int32 × Int32 × Int32} {sv0 sv : Nat → mm_V} {P : Nat → Prop} {cl : Int32} {v5 v6 v7 v8 : Value} {Q : Value → mm_H → Prop} (I : mm_SH h0) (W : lk_WM h0 m len) (he : e.1 = nI m) (hT : T ≤ 20) (s : lk_S3 Φ h0 m len i e.2.2 hd0 sv0 b hd sv P) (hw : lk_w h0 m i 0 = (T : Int)) (hc : (¬ cl = 0 ∧ ψ = lk_cl) ∨ (cl = 0 ∧ mm_feq ψ c ∧ 0 ≤ ψ.1.toInt ∧ mm_fok (lk_na h0 m) ψ ∧ lk_bn c.2.2.2)) (l : T < len → ∀ Y, lk_VF h0 m len Y → lk_PF h0 m len Y → mm_fle (mm_up h0) ψ (Y T)) (hψ : hd = hd0 → sv = sv0 → ψ = lk_out h0 m i 0 (lk_fr hd0 sv0 i)) (hQ : ∀ (b : Int32) (hd' : Nat → Int32 × Int32 × Int32) (sv' : Nat → mm_V), lk_S3 Φ h0 m len i e.2.2 hd0 sv0 b hd' sv' (fun v => P v ∨ v = 0) → Q .null (lk_L h0 (e.1, e.2.1, b) c hd' sv')) : mm_go ro (d + 4) mm_m_Mo_flow 243 [.ref 80, .int (nI m), .int (nI i), .int cl, .int (nI T), v5, v6, v7, v8] [] (lk_L h0 (e.1, e.2.1, b) c hd sv) Q := by
  have J : mm_SH (lk_L h0 (e.1, e.2.1, b) c hd sv) := I
  refine mm_go_from (mm_hM n_Mo_flow rfl) (And.intro ⟨rfl, k_80 J⟩ (c_Mo_cm (e := (e.1, e.2.1, b)) (ψ := ψ) I W he hT s.1 hc l (fun b' hd' sv' R p _ => ?_)))
  exact hQ b' hd' sv' (lk_S3_st hw hψ s R p)
theorem lk_w_nI {h : mm_H} {m i w : Nat} {r : Int32} (hr : r.toInt = lk_w h m i w) (p : 0 ≤ r.toInt) (q : r.toInt < 1000000) : r = nI (lk_w h m i w).toNat ∧ lk_w h m i w = ((lk_w h m i w).toNat : Int) := by
  rw [hr] at p q
  refine ⟨Int32.toInt_inj.mp ?_, by omega⟩
  rw [mm_nt (by omega), hr]
  omega
theorem lk_w20 {h : mm_H} {m len i w : Nat} (W : lk_WM h m len) (hi : i < len) : lk_w h m i w ≤ 20 ∧ -1 ≤ lk_w h m i w := by
  obtain ⟨w1, w2, w3, w4, w5, w6, w7, w8, w9, w10⟩ := W
  obtain ⟨_, _, _, _, V4⟩ := w7 i hi
  rcases w with _ | _ | w
  · show (if lk_o h m i = 13 ∨ 16 ≤ lk_o h m i then (-1 : Int) else (i : Int) + 1) ≤ 20 ∧ -1 ≤ (if lk_o h m i = 13 ∨ 16 ≤ lk_o h m i then (-1 : Int) else (i : Int) + 1)
    split <;> omega
  · show (if 13 ≤ lk_o h m i ∧ lk_o h m i ≤ 15 then (mm_a h 98 (20 * m + i)).toInt else (-1 : Int)) ≤ 20 ∧ -1 ≤ (if 13 ≤ lk_o h m i ∧ lk_o h m i ≤ 15 then (mm_a h 98 (20 * m + i)).toInt else (-1 : Int))
    split
    · rename_i q
      obtain ⟨a, b⟩ := V4 q
      rw [a, mm_nt (by omega)]
      omega
    · omega
  · show (if lk_o h m i = 11 ∨ lk_o h m i = 12 ∨ lk_o h m i = 17 then lk_gd h m i else (-1 : Int)) ≤ 20 ∧ -1 ≤ (if lk_o h m i = 11 ∨ lk_o h m i = 12 ∨ lk_o h m i = 17 then lk_gd h m i else (-1 : Int))
    have := w8 i
    split <;> omega
/-- from 191 on, where nothing is left to do but to go on -/
theorem l_fl_191 {Φ : mm_F} {ro : mm_Ro} {d m len i : Nat} {h0 : mm_H} {e : Int32 × Int32 × Int32} {b : Int32} {c ψ : mm_F} {hd0 hd : Nat → Int32 × Int32 × Int32} {sv0 sv : Nat → mm_V} {P : Nat → Prop} {cl r0 og : Int32} {v5 v6 v8 : Value} {Q : Value → mm_H → Prop} (I : mm_SH h0) (W : lk_WM h0 m len) (he : e.1 = nI m) (hi : i < len) (s : lk_S3 Φ h0 m len i e.2.2 hd0 sv0 b hd sv P) (h0r : r0.toInt = lk_w h0 m i 0) (ho : ¬ cl = 0 ∨ og.toInt < 0) (hc : (¬ cl = 0 ∧ ψ = lk_cl) ∨ (cl = 0 ∧ mm_feq ψ c ∧ 0 ≤ ψ.1.toInt ∧ mm_fok (lk_na h0 m) ψ ∧ lk_bn c.2.2.2)) (l : 0 ≤ lk_w h0 m i 0 → lk_w h0 m i 0 < (len : Int) → ∀ Y, lk_VF h0 m len Y → lk_PF h0 m len Y → mm_fle (mm_up h0) ψ (Y (lk_w h0 m i 0).toNat)) (hψ : hd = hd0 → sv = sv0 → ψ = lk_out h0 m i 0 (lk_fr hd0 sv0 i)) (hQ : ∀ (b : Int32) (hd' : Nat → Int32 × Int32 × Int32) (sv' : Nat → mm_V), lk_S3 Φ h0 m len i e.2.2 hd0 sv0 b hd' sv' (fun v => P v ∨ v = 0) → Q .null (lk_L h0 (e.1, e.2.1, b) c hd' sv')) : mm_go ro (d + 4) mm_m_Mo_flow 191 [.ref 80, .int (nI m), .int (nI i), .int cl, .int r0, v5, v6, .int og, v8] [] (lk_L h0 (e.1, e.2.1, b) c hd sv) Q := by
  have w20 := lk_w20 (w := 0) W hi
  refine mm_go_from (mm_hM n_Mo_flow rfl) (And.intro (fun c_193 => mm_go_at 243 (mm_hM n_Mo_flow rfl) ?_) (fun c_193 => ?_))
  · have p : 0 ≤ r0.toInt := c_193
    obtain ⟨e1, e2⟩ := lk_w_nI h0r p (by rw [h0r]; omega)
    have g : mm_go ro (d + 4) mm_m_Mo_flow 243 [.ref 80, .int (nI m), .int (nI i), .int cl, .int r0, v5, v6, .int og, v8] [] (lk_L h0 (e.1, e.2.1, b) c hd sv) Q := by
      rw [e1]
      exact l_fl_243 I W he (by omega) s e2 hc (fun q => l (by omega) (by omega)) hψ hQ
    refine And.intro (fun _ => g) (fun c_198 => And.intro (fun _ => g) (fun c_203 => ?_))
    have o1 : og.toInt < 0 := ho.resolve_left c_198
    exact absurd o1 c_203
  · have p : ¬ 0 ≤ r0.toInt := c_193
    exact hQ b hd sv (lk_S3_no (by omega) s)
/-- from 143 on, the same for both ways -/
theorem l_fl_143 {Φ : mm_F} {ro : mm_Ro} {d m len i : Nat} {h0 : mm_H} {e : Int32 × Int32 × Int32} {b : Int32} {c : mm_F} {ψ : Nat → mm_F} {hd0 hd : Nat → Int32 × Int32 × Int32} {sv0 sv : Nat → mm_V} {P : Nat → Prop} {cl r0 r1 og : Int32} {v6 v8 : Value} {Q : Value → mm_H → Prop} (I : mm_SH h0) (W : lk_WM h0 m len) (he : e.1 = nI m) (hi : i < len) (s : lk_S3 Φ h0 m len i e.2.2 hd0 sv0 b hd sv P) (h0r : r0.toInt = lk_w h0 m i 0) (h1r : r1.toInt = lk_w h0 m i 1) (ho : ¬ cl = 0 ∨ og.toInt < 0) (hc : ∀ w, w < 2 → (¬ cl = 0 ∧ ψ w = lk_cl) ∨ (cl = 0 ∧ mm_feq (ψ w) c ∧ 0 ≤ (ψ w).1.toInt ∧ mm_fok (lk_na h0 m) (ψ w) ∧ lk_bn c.2.2.2)) (l : ∀ w, w < 2 → 0 ≤ lk_w h0 m i w → lk_w h0 m i w < (len : Int) → ∀ Y, lk_VF h0 m len Y → lk_PF h0 m len Y → mm_fle (mm_up h0) (ψ w) (Y (lk_w h0 m i w).toNat)) (hψ : ∀ w, w < 2 → hd = hd0 → sv = sv0 → ψ w = lk_out h0 m i w (lk_fr hd0 sv0 i)) (hQ : ∀ (b : Int32) (hd' : Nat → Int32 × Int32 × Int32) (sv' : Nat → mm_V), lk_S3 Φ h0 m len i e.2.2 hd0 sv0 b hd' sv' (fun v => (P v ∨ v = 1) ∨ v = 0) → Q .null (lk_L h0 (e.1, e.2.1, b) c hd' sv')) (hs : lk_rs len (lk_fr hd0 sv0) ≤ lk_rs len (lk_fr hd sv)) : mm_go ro (d + 4) mm_m_Mo_flow 143 [.ref 80, .int (nI m), .int (nI i), .int cl, .int r0, .int r1, v6, .int og, v8] [] (lk_L h0 (e.1, e.2.1, b) c hd sv) Q := by
  have J : mm_SH (lk_L h0 (e.1, e.2.1, b) c hd sv) := I
  have w20 := lk_w20 (w := 1) W hi
  refine mm_go_at 191 (mm_hM n_Mo_flow rfl) (And.intro (fun c_145 => ?_) (fun c_145 => ?_))
  · have p : r1.toInt < 0 := c_145
    exact l_fl_191 I W he hi (lk_S3_no (w := 1) (by omega) s) h0r ho (hc 0 (by omega)) (l 0 (by omega)) (hψ 0 (by omega)) hQ
  · have p : ¬ r1.toInt < 0 := c_145
    obtain ⟨e1, e2⟩ := lk_w_nI h1r (by omega) (by rw [h1r]; omega)
    have g : mm_go ro (d + 4) mm_m_Mo_flow 184 [.ref 80, .int (nI m), .int (nI i), .int cl, .int r0, .int r1, v6, .int og, v8] [] (lk_L h0 (e.1, e.2.1, b) c hd sv) Q := by
      refine mm_go_at 191 (mm_hM n_Mo_flow rfl) (And.intro ⟨rfl, k_80 J⟩ ?_)
      rw [e1]
      refine c_Mo_cm (e := (e.1, e.2.1, b)) (ψ := ψ 1) I W he (by omega) s.1 (hc 1 (by omega)) (fun q => l 1 (by omega) (by omega) (by omega)) (fun b' hd' sv' R p' _ => ?_)
      have s' := lk_S3_st e2 (hψ 1 (by omega)) s R p'
      refine l_fl_191 (e := e) I W he hi s' h0r ho (hc 0 (by omega)) (l 0 (by omega)) (fun z1 z2 => ?_) hQ
      refine hψ 0 (by omega) ?_ ?_
      · rcases p' with ⟨_, p2⟩ | ⟨_, p2, _, _⟩
        · rw [z1, z2] at p2
          omega
        · rw [← p2, z1]
      · rcases p' with ⟨_, p2⟩ | ⟨_, _, p2, _⟩
        · rw [z1, z2] at p2
          omega
        · rw [← p2, z2]
    refine And.intro (fun _ => g) (fun c_149 => And.intro (fun _ => g) (fun c_154 => ?_))
    have o1 : og.toInt < 0 := ho.resolve_left c_149
    exact absurd o1 c_154
