/-! THE REFERENCE: come -/
def lk_fr (hd : Nat → Int32 × Int32 × Int32) (sv : Nat → mm_V) (j : Nat) : mm_F := ((hd j).1, (hd j).2.1, (hd j).2.2, fun v => sv (10 * j + v % 10))
def lk_kc (c : mm_F) : mm_F := (c.1, c.2.1, c.2.2.1, fun v => lk_kp v (c.2.2.2 v))
theorem lk_hu_t {hd : Nat → Int32 × Int32 × Int32} {i : Nat} {x : Int32 × Int32 × Int32} : lk_hu hd i x i = x := if_pos rfl
theorem lk_hu_f {hd : Nat → Int32 × Int32 × Int32} {i j : Nat} {x : Int32 × Int32 × Int32} (h : ¬ j = i) : lk_hu hd i x j = hd j := if_neg h
theorem lk_hu_u {hd : Nat → Int32 × Int32 × Int32} {i : Nat} {x y : Int32 × Int32 × Int32} : lk_hu (lk_hu hd i x) i y = lk_hu hd i y := by
  funext j
  by_cases q : j = i
  · rw [q, lk_hu_t, lk_hu_t]
  · rw [lk_hu_f q, lk_hu_f q, lk_hu_f q]
theorem l_cm_239 {ro : mm_Ro} {d T : Nat} {h0 : mm_H} {e : Int32 × Int32 × Int32} {c : mm_F} {hd : Nat → Int32 × Int32 × Int32} {sv : Nat → mm_V} {vc : Value} {s z : Int32} {Q : Value → mm_H → Prop} (I : mm_SH h0) (hT : T < 20) (hQ : Q .null (lk_L h0 e c (lk_hu hd T ((hd T).1, (if s = 0 then -1 else (hd T).2.1), z)) sv)) : mm_go ro d mm_m_Mo_come 239 [.ref 80, .int (nI T), vc, .int s, .int z] [] (lk_L h0 e c hd sv) Q := by
  have J : mm_SH (lk_L h0 e c hd sv) := I
  have hB : 0 ≤ (nI T).toInt ∧ (nI T).toInt < ((20 : Nat) : Int) := mm_nb hT (by omega)
  have hc : (nI T).toNatClampNeg = T := mm_ncl (by omega)
  refine mm_go_from (mm_hM n_Mo_come rfl) (And.intro (k_80 J) (mm_rf (r_602 J) (And.intro ⟨k_104 J, mm_inb 20 (n_104 J) hB⟩ (And.intro (fun c_248 => mm_go_from (mm_hM n_Mo_come rfl) ?_) (fun c_248 => ?_)))))
  · have q : ¬ s = 0 := c_248
    rw [if_neg q] at hQ
    refine mm_qq hQ rfl ?_
    rw [hc]
    exact lw_se
  · have q : s = 0 := mm_no c_248
    rw [if_pos q] at hQ
    refine And.intro (k_80 J) (mm_rf (r_601 J) (And.intro ⟨k_103 J, mm_inb 20 (n_103 J) hB⟩ ?_))
    refine mm_qq hQ rfl ?_
    show mm_sa (mm_sa (lk_L h0 e c hd sv) 104 (nI T).toNatClampNeg z) 103 (nI T).toNatClampNeg (-1) = _
    rw [hc, lw_se, lw_si, lk_hu_t, lk_hu_u]
theorem l_cm_208 {ro : mm_Ro} {d T : Nat} {h0 : mm_H} {e : Int32 × Int32 × Int32} {c : mm_F} {hd : Nat → Int32 × Int32 × Int32} {sv : Nat → mm_V} {vc v4 : Value} {s z : Int32} {Q : Value → mm_H → Prop} (I : mm_SH h0) (hT : T < 20) (hQ : ∀ b : Int32, (b = 1 ∧ ¬ (z = (hd T).2.2 ∧ (¬ s = 0 ∨ (hd T).2.1.toInt < 0))) ∨ (b = e.2.2 ∧ z = (hd T).2.2 ∧ (¬ s = 0 ∨ (hd T).2.1.toInt < 0)) → Q .null (lk_L h0 (e.1, e.2.1, b) c (lk_hu hd T ((hd T).1, (if s = 0 then -1 else (hd T).2.1), z)) sv)) : mm_go ro d mm_m_Mo_come 208 [.ref 80, .int (nI T), vc, .int s, v4] [.int z] (lk_L h0 e c hd sv) Q := by
  have J : mm_SH (lk_L h0 e c hd sv) := I
  have hB : 0 ≤ (nI T).toInt ∧ (nI T).toInt < ((20 : Nat) : Int) := mm_nb hT (by omega)
  have hc : (nI T).toNatClampNeg = T := mm_ncl (by omega)
  have g1 : ¬ (z = (hd T).2.2 ∧ (¬ s = 0 ∨ (hd T).2.1.toInt < 0)) → mm_go ro d mm_m_Mo_come 234 [.ref 80, .int (nI T), vc, .int s, .int z] [] (lk_L h0 e c hd sv) Q := by
    intro ne
    refine mm_go_at 239 (mm_hM n_Mo_come rfl) (And.intro (k_80 J) (And.intro (Or.inr rfl) ?_))
    rw [lw_610]
    exact l_cm_239 I hT (hQ 1 (Or.inl ⟨rfl, ne⟩))
  refine mm_go_at 234 (mm_hM n_Mo_come rfl) (And.intro (k_80 J) (mm_rf (r_602 J) (And.intro ⟨k_104 J, mm_inb 20 (n_104 J) hB⟩ (mm_rf (b := (hd T).2.2) (by rw [hc]; rfl) (And.intro (fun c_218 => g1 (fun y => c_218 y.1)) (fun c_218 => And.intro (fun c_222 => ?_) (fun c_222 => ?_)))))))
  · exact l_cm_239 I hT (hQ e.2.2 (Or.inr ⟨rfl, mm_no c_218, Or.inl c_222⟩))
  · refine And.intro (k_80 J) (mm_rf (r_601 J) (And.intro ⟨k_103 J, mm_inb 20 (n_103 J) hB⟩ (mm_rf (b := (hd T).2.1) (by rw [hc]; rfl) (And.intro (fun c_231 => ?_) (fun c_231 => g1 (fun y => by
      rcases y.2 with y | y
      · exact c_222 y
      · exact c_231 y))))))
    exact l_cm_239 I hT (hQ e.2.2 (Or.inr ⟨rfl, mm_no c_218, Or.inr c_231⟩))
theorem l_cm_189 {ro : mm_Ro} {d T : Nat} {h0 : mm_H} {e : Int32 × Int32 × Int32} {c : mm_F} {hd : Nat → Int32 × Int32 × Int32} {sv : Nat → mm_V} {vc v4 : Value} {s : Int32} {Q : Value → mm_H → Prop} (I : mm_SH h0) (hT : T < 20) (hs : (¬ s = 0 ∧ (hd T).2.1 = c.2.1) ∨ (s = 0 ∧ ¬ (hd T).2.1 = c.2.1)) (hr : -1 ≤ (hd T).2.1.toInt) (hQ : ∀ b y z : Int32, ((hd T).2.1 = c.2.1 → y = (hd T).2.1 ∧ z = (hd T).2.2 &&& c.2.2.1) → (¬ (hd T).2.1 = c.2.1 → y = -1 ∧ z = 0) → ((b = 1 ∧ ¬ (y = (hd T).2.1 ∧ z = (hd T).2.2)) ∨ (b = e.2.2 ∧ y = (hd T).2.1 ∧ z = (hd T).2.2)) → Q .null (lk_L h0 (e.1, e.2.1, b) c (lk_hu hd T ((hd T).1, y, z)) sv)) : mm_go ro d mm_m_Mo_come 189 [.ref 80, .int (nI T), vc, .int s, v4] [] (lk_L h0 e c hd sv) Q := by
  have J : mm_SH (lk_L h0 e c hd sv) := I
  have hB : 0 ≤ (nI T).toInt ∧ (nI T).toInt < ((20 : Nat) : Int) := mm_nb hT (by omega)
  have hc : (nI T).toNatClampNeg = T := mm_ncl (by omega)
  refine mm_go_at 208 (mm_hM n_Mo_come rfl) (And.intro (fun c_190 => mm_go_at 208 (mm_hM n_Mo_come rfl) ?_) (fun c_190 => ?_))
  · have q : s = 0 := c_190
    have q2 : ¬ (hd T).2.1 = c.2.1 := by
      rcases hs with ⟨a, _⟩ | ⟨_, a⟩
      · exact absurd q a
      · exact a
    refine l_cm_208 I hT (fun b hb => ?_)
    rw [if_pos q]
    refine hQ b (-1) _ (fun a => absurd a q2) (fun _ => ⟨rfl, rfl⟩) ?_
    rcases hb with ⟨hb, hn⟩ | ⟨h1, h2, h3⟩
    · exact Or.inl ⟨hb, fun y => hn ⟨y.2, Or.inr (by rw [← y.1]; decide)⟩⟩
    · refine Or.inr ⟨h1, ?_, h2⟩
      rcases h3 with h3 | h3
      · exact absurd q h3
      · exact Int32.toInt_inj.mp (by rw [show (-1 : Int32).toInt = -1 by decide]; omega)
  · have q : ¬ s = 0 := c_190
    have q2 : (hd T).2.1 = c.2.1 := by
      rcases hs with ⟨_, a⟩ | ⟨a, _⟩
      · exact a
      · exact absurd a q
    refine And.intro (k_80 J) (mm_rf (r_602 J) (And.intro ⟨k_104 J, mm_inb 20 (n_104 J) hB⟩ (mm_rf (b := (hd T).2.2) (by rw [hc]; rfl) (And.intro (k_80 J) (mm_rf (show mm_i (lk_L h0 e c hd sv) 613 80 = c.2.2.1 from rfl) ?_)))))
    refine l_cm_208 I hT (fun b hb => ?_)
    rw [if_neg q]
    refine hQ b _ _ (fun _ => ⟨rfl, rfl⟩) (fun a => absurd q2 a) ?_
    rcases hb with ⟨hb, hn⟩ | ⟨h1, h2, h3⟩
    · exact Or.inl ⟨hb, fun y => hn ⟨y.2, Or.inl q⟩⟩
    · exact Or.inr ⟨h1, rfl, h2⟩
/-- the slots below v of frame T are joined -/
def lk_jv (up : Nat → Int) (P : Prop) (T v : Nat) (g : Nat → mm_V) (sv sv' : Nat → mm_V) : Prop := (∀ x, ¬ (10 * T ≤ x ∧ x < 10 * T + v) → sv' x = sv x) ∧ ∀ u, u < v → mm_vj up (mm_ds P (sv (10 * T + u))) (mm_ds P (lk_kp u (g u))) (sv' (10 * T + u))
theorem l_cm_157 {ro : mm_Ro} {d T H : Nat} {h0 : mm_H} {e : Int32 × Int32 × Int32} {c : mm_F} {hd : Nat → Int32 × Int32 × Int32} {sv : Nat → mm_V} {vc : Value} {s : Int32} {Q : Value → mm_H → Prop} (I : mm_SH h0) (U : mm_upo (mm_up h0)) (Z : mm_upz (mm_up h0)) (hT : T < 20) (hH : c.1 = nI H) (hH4 : H ≤ 4) (hs : (¬ s = 0 ∧ (hd T).2.1 = c.2.1) ∨ (s = 0 ∧ ¬ (hd T).2.1 = c.2.1)) (hr : -1 ≤ (hd T).2.1.toInt) (rx : ∀ u, u < 6 + H → mm_vr (sv (10 * T + u)) ∧ (u < 6 → (sv (10 * T + u)).2.2.2.2 = -1)) (ry : ∀ u, u < 6 + H → mm_vr (c.2.2.2 u)) (hQ : ∀ (b y z : Int32) (sv' : Nat → mm_V), ((hd T).2.1 = c.2.1 → y = (hd T).2.1 ∧ z = (hd T).2.2 &&& c.2.2.1) → (¬ (hd T).2.1 = c.2.1 → y = -1 ∧ z = 0) → lk_jv (mm_up h0) (¬ s = 0) T (6 + H) c.2.2.2 sv sv' → ((b = 1 ∧ ¬ (y = (hd T).2.1 ∧ z = (hd T).2.2 ∧ ∀ u, u < 6 + H → sv' (10 * T + u) = sv (10 * T + u))) ∨ (b = e.2.2 ∧ y = (hd T).2.1 ∧ z = (hd T).2.2 ∧ ∀ u, u < 6 + H → sv' (10 * T + u) = sv (10 * T + u))) → Q .null (lk_L h0 (e.1, e.2.1, b) c (lk_hu hd T ((hd T).1, y, z)) sv')) : ∀ (n v : Nat) (b : Int32) (sv' : Nat → mm_V), v + n = 6 + H → lk_jv (mm_up h0) (¬ s = 0) T v c.2.2.2 sv sv' → ((b = 1 ∧ ¬ ∀ u, u < v → sv' (10 * T + u) = sv (10 * T + u)) ∨ (b = e.2.2 ∧ ∀ u, u < v → sv' (10 * T + u) = sv (10 * T + u))) → mm_go ro (d + 2) mm_m_Mo_come 157 [.ref 80, .int (nI T), vc, .int s, .int (nI v)] [] (lk_L h0 (e.1, e.2.1, b) c hd sv') Q := by
  intro n
  induction n with
  | zero =>
    intro v b sv' hv hj hb
    have J : mm_SH (lk_L h0 (e.1, e.2.1, b) c hd sv') := I
    refine mm_go_at 189 (mm_hM n_Mo_come rfl) (And.intro (k_80 J) (mm_rf (show mm_i (lk_L h0 (e.1, e.2.1, b) c hd sv') 611 80 = nI H from hH) (And.intro (fun c_166 => ?_) (fun c_166 => ?_))))
    · have ev : v = 6 + H := by omega
      rw [ev] at hj hb
      refine l_cm_189 I hT hs hr (fun b' y z h1 h2 h3 => hQ b' y z sv' h1 h2 hj ?_)
      rcases h3 with ⟨h3, hn⟩ | ⟨h3, h4, h5⟩
      · exact Or.inl ⟨h3, fun y => hn ⟨y.1, y.2.1⟩⟩
      · rcases hb with ⟨hb, hn⟩ | ⟨hb1, hb2⟩
        · exact Or.inl ⟨h3.trans hb, fun y => hn y.2.2⟩
        · exact Or.inr ⟨h3.trans hb1, h4, h5, hb2⟩
    · have q : ¬ ((Int8.ofInt 6).toInt32 + nI H).toInt ≤ (nI v).toInt := c_166
      rw [lk_6, mm_nt (by omega), mm_nt (by omega)] at q
      omega
  | succ n ih =>
    intro v b sv' hv hj hb
    have J : mm_SH (lk_L h0 (e.1, e.2.1, b) c hd sv') := I
    refine mm_go_at 189 (mm_hM n_Mo_come rfl) (And.intro (k_80 J) (mm_rf (show mm_i (lk_L h0 (e.1, e.2.1, b) c hd sv') 611 80 = nI H from hH) (And.intro (fun c_166 => ?_) (fun c_166 => ?_))))
    · have q : ((Int8.ofInt 6).toInt32 + nI H).toInt ≤ (nI v).toInt := c_166
      rw [lk_6, mm_nt (by omega), mm_nt (by omega)] at q
      omega
    · have ex : sv' (10 * T + v) = sv (10 * T + v) := hj.1 _ (fun z => by omega)
      obtain ⟨x1, x2⟩ := rx v (by omega)
      refine And.intro ⟨rfl, k_80 J⟩ ?_
      rw [lk_10]
      refine c_Mo_join I U Z (by omega) (by omega) (by rw [ex]; exact x1) (ry v (by omega)) (by rw [ex]; exact x2) (fun b' z hz hb' => ?_)
      have nx := ih (v + 1) b' (lk_up sv' (10 * T + v) z) (by omega) ⟨fun x hx => ?_, fun u hu => ?_⟩ ?_
      · rw [nI_succ] at nx
        exact nx
      · rw [lk_up_f (fun y => hx (by omega))]
        exact hj.1 x (fun y => hx (by omega))
      · by_cases qu : u = v
        · rw [qu, lk_up_t, ← ex]; exact hz
        · rw [lk_up_f (by omega)]
          exact hj.2 u (by omega)
      · rcases hb' with ⟨hb', hn'⟩ | ⟨hb1, hb2⟩
        · refine Or.inl ⟨hb', fun y => hn' ?_⟩
          have := y v (by omega)
          rw [lk_up_t] at this
          rw [this, ex]
        · rcases hb with ⟨hb, hn⟩ | ⟨hb3, hb4⟩
          · refine Or.inl ⟨hb1.trans hb, fun y => hn (fun u hu => ?_)⟩
            have := y u (by omega)
            rw [lk_up_f (by omega)] at this
            exact this
          · refine Or.inr ⟨hb1.trans hb3, fun u hu => ?_⟩
            by_cases qu : u = v
            · rw [qu, lk_up_t, hb2, ex]
            · rw [lk_up_f (by omega)]
              exact hb4 u (by omega)
def lk_blk (T : Nat) (A sv : Nat → mm_V) (v : Nat) : Nat → mm_V := fun x => if 10 * T ≤ x ∧ x < 10 * T + v then A (x - 10 * T) else sv x
theorem lk_blk_0 {T : Nat} {A sv : Nat → mm_V} : lk_blk T A sv 0 = sv := funext (fun _ => if_neg (fun z => by omega))
theorem lk_blk_up {T v : Nat} {A sv : Nat → mm_V} : lk_up (lk_blk T A sv v) (10 * T + v) (A v) = lk_blk T A sv (v + 1) := by
  funext x
  by_cases q : x = 10 * T + v
  · rw [q, lk_up_t]
    unfold lk_blk
    rw [if_pos ⟨by omega, by omega⟩, show 10 * T + v - 10 * T = v by omega]
  · rw [lk_up_f q]
    unfold lk_blk
    by_cases z : 10 * T ≤ x ∧ x < 10 * T + v
    · rw [if_pos z, if_pos ⟨z.1, by omega⟩]
    · rw [if_neg z, if_neg (fun y => z ⟨y.1, by omega⟩)]
theorem lk_blk_in {T u v : Nat} {A sv : Nat → mm_V} (h : u < v) : lk_blk T A sv v (10 * T + u) = A u := by
  unfold lk_blk
  rw [if_pos ⟨by omega, by omega⟩, show 10 * T + u - 10 * T = u by omega]
theorem lk_blk_out {T v x : Nat} {A sv : Nat → mm_V} (h : ¬ (10 * T ≤ x ∧ x < 10 * T + v)) : lk_blk T A sv v x = sv x := if_neg h
theorem lk_kp_bn {g : Nat → mm_V} (h : lk_bn g) : lk_bn (fun v => lk_kp v (g v)) := by
  intro v
  show (lk_kp v (g v)).2.2.1 = 0 ∨ (lk_kp v (g v)).2.2.1 = 1
  rw [lk_kp1.2.2.1]
  exact h v
theorem lk_blk_bn {T v : Nat} {A sv : Nat → mm_V} (h : lk_bn A) (h' : lk_bn sv) : lk_bn (lk_blk T A sv v) := by
  intro x
  unfold lk_blk
  split
  · exact h _
  · exact h' _
theorem l_cm_106 {ro : mm_Ro} {d T N : Nat} {h0 : mm_H} {e : Int32 × Int32 × Int32} {c : mm_F} {hd : Nat → Int32 × Int32 × Int32} {sv : Nat → mm_V} {vc v4 : Value} {Q : Value → mm_H → Prop} (I : mm_SH h0) (hT : T < 20) (hN : 6 + c.1 = nI N) (hN10 : N ≤ 10) (hb : lk_bn c.2.2.2) (hQ : Q .null (lk_L h0 (e.1, e.2.1, 1) c hd (lk_blk T (fun v => lk_kp v (c.2.2.2 v)) sv N))) : ∀ (n v : Nat), v + n = N → mm_go ro (d + 2) mm_m_Mo_come 106 [.ref 80, .int (nI T), vc, .int (nI v), v4] [] (lk_L h0 e c hd (lk_blk T (fun v => lk_kp v (c.2.2.2 v)) sv v)) Q := by
  intro n
  induction n with
  | zero =>
    intro v hv
    have J : mm_SH (lk_L h0 e c hd (lk_blk T (fun v => lk_kp v (c.2.2.2 v)) sv v)) := I
    refine mm_go_from (mm_hM n_Mo_come rfl) (And.intro (k_80 J) (mm_rf (show mm_i (lk_L h0 e c hd (lk_blk T (fun v => lk_kp v (c.2.2.2 v)) sv v)) 611 80 = c.1 from rfl) (And.intro (fun c_114 => mm_go_from (mm_hM n_Mo_come rfl) (And.intro (k_80 J) (And.intro (Or.inr rfl) ?_))) (fun c_114 => ?_))))
    · rw [show v = N by omega]
      exact mm_qq hQ rfl lw_610
    · have q : ¬ ((6 : Int32) + c.1).toInt ≤ (nI v).toInt := c_114
      rw [hN, mm_nt (by omega), mm_nt (by omega)] at q
      omega
  | succ n ih =>
    intro v hv
    have J : mm_SH (lk_L h0 e c hd (lk_blk T (fun v => lk_kp v (c.2.2.2 v)) sv v)) := I
    have nx := ih (v + 1) (by omega)
    rw [nI_succ, ← lk_blk_up] at nx
    refine mm_go_from (mm_hM n_Mo_come rfl) (And.intro (k_80 J) (mm_rf (show mm_i (lk_L h0 e c hd (lk_blk T (fun v => lk_kp v (c.2.2.2 v)) sv v)) 611 80 = c.1 from rfl) (And.intro (fun c_114 => ?_) (fun c_114 => ?_))))
    · have q : ((6 : Int32) + c.1).toInt ≤ (nI v).toInt := c_114
      rw [hN, mm_nt (by omega), mm_nt (by omega)] at q
      omega
    · exact And.intro ⟨rfl, k_80 J⟩ (c_Mo_keep I hT (by omega) hb nx)
/-- what come does -/
def lk_cm (up : Nat → Int) (len T : Nat) (cl : Prop) (c : mm_F) (e : Int32 × Int32 × Int32) (hd : Nat → Int32 × Int32 × Int32) (sv : Nat → mm_V) (b : Int32) (hd' : Nat → Int32 × Int32 × Int32) (sv' : Nat → mm_V) : Prop :=
  lk_bn sv' ∧ (∀ j, ¬ j = T → hd' j = hd j) ∧ (∀ x, ¬ (10 * T ≤ x ∧ x < 10 * T + 10) → sv' x = sv x) ∧
  (((len ≤ T ∨ (hd T).1 = -2) ∧ b = e.2.2 ∧ hd' = hd ∧ sv' = sv) ∨
   (T < len ∧ ¬ (hd T).1 = -2 ∧ (cl ∨ (0 ≤ (hd T).1.toInt ∧ ¬ (hd T).1 = c.1)) ∧ b = 1 ∧ (hd' T).1 = -2 ∧ sv' = sv) ∨
   (T < len ∧ ¬ (hd T).1 = -2 ∧ ¬ cl ∧ (hd T).1.toInt < 0 ∧ b = 1 ∧ hd' T = (c.1, c.2.1, c.2.2.1) ∧ ∀ v : Nat, (v : Int) < 6 + c.1.toInt → sv' (10 * T + v) = lk_kp v (c.2.2.2 v)) ∨
   (T < len ∧ ¬ cl ∧ 0 ≤ (hd T).1.toInt ∧ (hd T).1 = c.1 ∧ mm_fj up (lk_fr hd sv T) (lk_kc c) (lk_fr hd' sv' T) ∧ ((b = 1 ∧ ¬ mm_feq (lk_fr hd sv T) (lk_fr hd' sv' T)) ∨ (b = e.2.2 ∧ hd' = hd ∧ sv' = sv))))
theorem c_Mo_come {ro : mm_Ro} {d T m len N : Nat} {h0 : mm_H} {e : Int32 × Int32 × Int32} {c : mm_F} {hd : Nat → Int32 × Int32 × Int32} {sv : Nat → mm_V} {cl : Int32} {Q : Value → mm_H → Prop} (I : mm_SH h0) (U : mm_upo (mm_up h0)) (Z : mm_upz (mm_up h0)) (hm : m < 10) (he : e.1 = nI m) (hl : mm_a h0 91 m = nI len) (h20 : len ≤ 20) (hT : T ≤ 20) (bs : lk_bn sv) (bc : ¬ cl = 0 ∨ lk_bn c.2.2.2) (hN : ¬ cl = 0 ∨ (6 + c.1 = nI N ∧ N ≤ 10 ∧ (N : Int) = 6 + c.1.toInt)) (hf : cl = 0 → T < len → 0 ≤ (hd T).1.toInt → (hd T).1 = c.1 → (-1 ≤ (hd T).2.1.toInt ∧ ∀ u : Nat, (u : Int) < 6 + c.1.toInt → mm_vr (sv (10 * T + u)) ∧ (u < 6 → (sv (10 * T + u)).2.2.2.2 = -1) ∧ mm_vr (c.2.2.2 u))) (hQ : ∀ (b : Int32) (hd' : Nat → Int32 × Int32 × Int32) (sv' : Nat → mm_V), lk_cm (mm_up h0) len T (¬ cl = 0) c e hd sv b hd' sv' → Q .null (lk_L h0 (e.1, e.2.1, b) c hd' sv')) : mm_ev ro (d + 3) n_Mo_come [.ref 80, .int (nI T), .int cl] (lk_L h0 e c hd sv) Q := by
  have J : mm_SH (lk_L h0 e c hd sv) := I
  have hBm : 0 ≤ (nI m).toInt ∧ (nI m).toInt < ((10 : Nat) : Int) := mm_nb hm (by omega)
  have hcm : (nI m).toNatClampNeg = m := mm_ncl (by omega)
  have z0 : (0 : Int32).toInt = 0 := by decide
  refine mm_ev_in (Z := mm_m_Mo_come) rfl rfl (Nat.le_of_ble_eq_true rfl) rfl ?_
  refine And.intro (k_80 J) (mm_rf (r_589 J) (And.intro (k_80 J) (mm_rf (show mm_i (lk_L h0 e c hd sv) 608 80 = nI m from he) (And.intro ⟨k_91 J, mm_inb 10 (n_91 J) hBm⟩ (mm_rf (b := nI len) (by rw [hcm]; exact hl) (And.intro (fun c_10 => mm_go_from (mm_hM n_Mo_come rfl) ?_) (fun c_10 => ?_)))))))
  · have q : (nI len).toInt ≤ (nI T).toInt := c_10
    rw [mm_nt (by omega), mm_nt (by omega)] at q
    exact hQ e.2.2 hd sv ⟨bs, fun _ _ => rfl, fun _ _ => rfl, Or.inl ⟨Or.inl (by omega), rfl, rfl, rfl⟩⟩
  · have q : ¬ (nI len).toInt ≤ (nI T).toInt := c_10
    rw [mm_nt (by omega), mm_nt (by omega)] at q
    have hTl : T < len := by omega
    have hB : 0 ≤ (nI T).toInt ∧ (nI T).toInt < ((20 : Nat) : Int) := mm_nb (by omega) (by omega)
    have hc : (nI T).toNatClampNeg = T := mm_ncl (by omega)
    have clash : ¬ (hd T).1 = -2 → (¬ cl = 0 ∨ (0 ≤ (hd T).1.toInt ∧ ¬ (hd T).1 = c.1)) → mm_go ro (d + 2) mm_m_Mo_come 51 [.ref 80, .int (nI T), .int cl, .null, .null] [] (lk_L h0 e c hd sv) Q := by
      intro n2 w
      refine mm_go_from (mm_hM n_Mo_come rfl) (And.intro (k_80 J) (mm_rf (r_600 J) (And.intro ⟨k_102 J, mm_inb 20 (n_102 J) hB⟩ (And.intro (k_80 J) (And.intro (Or.inr rfl) ?_)))))
      have w2 := hQ 1 (lk_hu hd T (-2, (hd T).2)) sv ⟨bs, fun j hj => lk_hu_f hj, fun _ _ => rfl, Or.inr (Or.inl ⟨hTl, n2, w, rfl, by rw [lk_hu_t], rfl⟩)⟩
      refine mm_qq w2 rfl ?_
      show mm_si (mm_sa (lk_L h0 e c hd sv) 102 (nI T).toNatClampNeg (-2)) 610 80 1 = _
      rw [hc, lw_hi, lw_610]
    have g65 : ¬ (hd T).1 = -2 → cl = 0 → ((hd T).1.toInt < 0 ∨ (hd T).1 = c.1) → mm_go ro (d + 2) mm_m_Mo_come 65 [.ref 80, .int (nI T), .int cl, .null, .null] [] (lk_L h0 e c hd sv) Q := by
      intro n2 c0 w
      have bc' : lk_bn c.2.2.2 := bc.resolve_left (fun z => z c0)
      obtain ⟨n1, n10, nN⟩ := hN.resolve_left (fun z => z c0)
      refine mm_go_at 106 (mm_hM n_Mo_come rfl) (And.intro (k_80 J) (mm_rf (r_600 J) (And.intro ⟨k_102 J, mm_inb 20 (n_102 J) hB⟩ (mm_rf (b := (hd T).1) (by rw [hc]; rfl) (And.intro (fun c_71 => ?_) (fun c_71 => ?_))))))
      · have p : 0 ≤ (hd T).1.toInt := c_71
        have w' : (hd T).1 = c.1 := by
          rcases w with w | w
          · omega
          · exact w
        obtain ⟨f1, f2⟩ := hf c0 hTl p w'
        have cH : c.1 = nI (N - 6) := Int32.toInt_inj.mp (by
          rw [← w'] at nN
          rw [← w', mm_nt (by omega)]
          omega)
        have p2 : 0 ≤ c.1.toInt := by rw [← w']; exact p
        have L := fun (s : Int32) (hs : (¬ s = 0 ∧ (hd T).2.1 = c.2.1) ∨ (s = 0 ∧ ¬ (hd T).2.1 = c.2.1)) => l_cm_157 (ro := ro) (d := d) (T := T) (H := N - 6) (e := e) (sv := sv) (vc := .int cl) (Q := Q) I U Z (by omega) cH (by omega) hs f1 (fun u hu => ⟨(f2 u (by omega)).1, (f2 u (by omega)).2.1⟩) (fun u hu => (f2 u (by omega)).2.2) (fun b y z sv' h1 h2 hj hb => hQ b _ sv' ⟨fun x => by
            by_cases qx : 10 * T ≤ x ∧ x < 10 * T + (6 + (N - 6))
            · have := hj.2 (x - 10 * T) (by omega)
              rw [show 10 * T + (x - 10 * T) = x by omega] at this
              rw [this.2.1, lk_ds22, lk_ds22, lk_kp1.2.2.1]
              exact mm_n01 (bs x) (bc' _)
            · rw [hj.1 x qx]; exact bs x, fun j hj' => lk_hu_f hj', fun x hx => hj.1 x (fun y => hx ⟨y.1, by omega⟩), Or.inr (Or.inr (Or.inr ⟨hTl, fun z => z c0, p, w', ⟨by
            show (lk_hu hd T ((hd T).1, y, z) T).1 = _
            rw [lk_hu_t]; rfl, fun a => by
            show (lk_hu hd T ((hd T).1, y, z) T).2.1 = _ ∧ (lk_hu hd T ((hd T).1, y, z) T).2.2 = _
            rw [lk_hu_t]; exact h1 a, fun a => by
            show (lk_hu hd T ((hd T).1, y, z) T).2.1 = _ ∧ (lk_hu hd T ((hd T).1, y, z) T).2.2 = _
            rw [lk_hu_t]; exact h2 a, fun v hv => by
            have hv' : (v : Int) < 6 + (hd T).1.toInt := hv
            rw [w'] at hv'
            have := hj.2 v (by omega)
            have es : (¬ s = 0) = ((hd T).2.1 = c.2.1) := propext ⟨fun a => by
              rcases hs with ⟨_, b⟩ | ⟨b, _⟩
              · exact b
              · exact absurd b a, fun a => by
              rcases hs with ⟨b, _⟩ | ⟨_, b⟩
              · exact b
              · exact absurd a b⟩
            rw [es] at this
            show mm_vj _ (mm_ds ((hd T).2.1 = c.2.1) (sv (10 * T + v % 10))) (mm_ds ((hd T).2.1 = c.2.1) (lk_kp v (c.2.2.2 v))) (sv' (10 * T + v % 10))
            rw [Nat.mod_eq_of_lt (by omega)]
            exact this⟩, by
            rcases hb with ⟨hb, hn⟩ | ⟨hb1, hb2, hb3, hb4⟩
            · refine Or.inl ⟨hb, fun fe => hn ?_⟩
              obtain ⟨y1, y2, y3⟩ := fe.2 p
              have y1' : (hd T).2.1 = (lk_hu hd T ((hd T).1, y, z) T).2.1 := y1
              have y2' : (hd T).2.2 = (lk_hu hd T ((hd T).1, y, z) T).2.2 := y2
              rw [lk_hu_t] at y1' y2'
              refine ⟨y1'.symm, y2'.symm, fun u hu => ?_⟩
              have y4 : sv (10 * T + u % 10) = sv' (10 * T + u % 10) := y3 u (by show (u : Int) < 6 + (hd T).1.toInt; rw [w']; omega)
              rw [Nat.mod_eq_of_lt (by omega)] at y4
              exact y4.symm
            · refine Or.inr ⟨hb1, ?_, ?_⟩
              · rw [hb2, hb3]
                funext j
                by_cases qj : j = T
                · rw [qj, lk_hu_t]
                · rw [lk_hu_f qj]
              · funext x
                by_cases qx : 10 * T ≤ x ∧ x < 10 * T + (6 + (N - 6))
                · have := hb4 (x - 10 * T) (by omega)
                  rw [show 10 * T + (x - 10 * T) = x by omega] at this
                  exact this
                · exact hj.1 x qx⟩))⟩) N 0 e.2.2 sv (by omega) ⟨fun _ _ => rfl, fun u hu => by omega⟩ (Or.inr ⟨rfl, fun u hu => by omega⟩)
        refine mm_go_at 157 (mm_hM n_Mo_come rfl) (And.intro (k_80 J) (mm_rf (r_601 J) (And.intro ⟨k_103 J, mm_inb 20 (n_103 J) hB⟩ (mm_rf (b := (hd T).2.1) (by rw [hc]; rfl) (And.intro (k_80 J) (mm_rf (show mm_i (lk_L h0 e c hd sv) 612 80 = c.2.1 from rfl) (And.intro (fun c_145 => mm_go_at 157 (mm_hM n_Mo_come rfl) ?_) (fun c_145 => mm_go_at 157 (mm_hM n_Mo_come rfl) ?_))))))))
        · exact L 0 (Or.inr ⟨rfl, c_145⟩)
        · exact L 1 (Or.inl ⟨by decide, mm_no c_145⟩)
      · have p : ¬ 0 ≤ (hd T).1.toInt := c_71
        refine And.intro (k_80 J) (mm_rf (r_600 J) (And.intro (k_80 J) (mm_rf (show mm_i (lk_L h0 e c hd sv) 611 80 = c.1 from rfl) (And.intro ⟨k_102 J, mm_inb 20 (n_102 J) hB⟩ (And.intro (k_80 J) (mm_rf (r_601 J) (And.intro (k_80 J) (mm_rf (show mm_i (mm_sa (lk_L h0 e c hd sv) 102 (nI T).toNatClampNeg c.1) 612 80 = c.2.1 from rfl) (And.intro ⟨k_103 J, mm_inb 20 (n_103 J) hB⟩ (And.intro (k_80 J) (mm_rf (r_602 J) (And.intro (k_80 J) (mm_rf (show mm_i (mm_sa (mm_sa (lk_L h0 e c hd sv) 102 (nI T).toNatClampNeg c.1) 103 (nI T).toNatClampNeg c.2.1) 613 80 = c.2.2.1 from rfl) (And.intro ⟨k_104 J, mm_inb 20 (n_104 J) hB⟩ ?_))))))))))))))
        have L := l_cm_106 (ro := ro) (d := d) (T := T) (N := N) (e := e) (hd := lk_hu hd T (c.1, c.2.1, c.2.2.1)) (sv := sv) (vc := .int cl) (v4 := .null) (Q := Q) I (by omega) n1 n10 bc' (hQ 1 _ _ ⟨lk_blk_bn (lk_kp_bn bc') bs, fun j hj => lk_hu_f hj, fun x hx => lk_blk_out (fun y => hx ⟨y.1, by omega⟩), Or.inr (Or.inr (Or.inl ⟨hTl, n2, fun z => z c0, by omega, rfl, lk_hu_t, fun v hv => lk_blk_in (by omega)⟩))⟩) N 0 (by omega)
        rw [lk_blk_0] at L
        rw [hc, lw_hss]
        exact L
    refine And.intro (k_80 J) (mm_rf (r_600 J) (And.intro ⟨k_102 J, mm_inb 20 (n_102 J) hB⟩ (mm_rf (b := (hd T).1) (by rw [hc]; rfl) (And.intro (fun c_21 => mm_go_at 51 (mm_hM n_Mo_come rfl) ?_) (fun c_21 => ?_)))))
    · have n2 : ¬ (hd T).1 = -2 := c_21
      refine And.intro (fun c_26 => clash n2 (Or.inl c_26)) (fun c_26 => ?_)
      have c0 : cl = 0 := mm_no c_26
      refine And.intro (k_80 J) (mm_rf (r_600 J) (And.intro ⟨k_102 J, mm_inb 20 (n_102 J) hB⟩ (mm_rf (b := (hd T).1) (by rw [hc]; rfl) (And.intro (fun c_35 => g65 n2 c0 (Or.inl c_35)) (fun c_35 => ?_)))))
      refine And.intro (k_80 J) (mm_rf (r_600 J) (And.intro ⟨k_102 J, mm_inb 20 (n_102 J) hB⟩ (mm_rf (b := (hd T).1) (by rw [hc]; rfl) (And.intro (k_80 J) (mm_rf (show mm_i (lk_L h0 e c hd sv) 611 80 = c.1 from rfl) (And.intro (fun c_48 => g65 n2 c0 (Or.inr c_48)) (fun c_48 => ?_)))))))
      have p : ¬ (hd T).1.toInt < 0 := c_35
      exact clash n2 (Or.inr ⟨by omega, c_48⟩)
    · have n2 : (hd T).1 = -2 := mm_no c_21
      exact hQ e.2.2 hd sv ⟨bs, fun _ _ => rfl, fun _ _ => rfl, Or.inl ⟨Or.inr n2, rfl, rfl, rfl⟩⟩
