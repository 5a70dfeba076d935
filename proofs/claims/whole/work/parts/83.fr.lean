/-! THE CLASS: store, leaveSite -/
theorem lx_1 {H : Nat} (h : 1 ≤ H) : nI H - 1 = nI (H - 1) := lk_nsub (b := 1) h
def lx_gv (nC : Nat) (g : Nat → mm_V) : Prop := ∀ v, v < 10 → lx_vr nC (g v)
theorem lx_gv_up {nC j : Nat} {g : Nat → mm_V} {x : mm_V} (h : lx_gv nC g) (hx : lx_vr nC x) : lx_gv nC (lk_up g j x) := by
  intro v hv
  by_cases q : v = j
  · rw [q, lk_up_t]; exact hx
  · rw [lk_up_f q]; exact h v hv
theorem lx_wo_vr {nC : Nat} {x : mm_V} {o : Int32} (h : lx_vr nC x) (ho : -1 ≤ o.toInt ∧ o.toInt ≤ 5) : lx_vr nC (lk_wo x o) := ⟨lk_wo_vr h.1 ho, h.2⟩
theorem l_st_17 {ro : mm_Ro} {d a l H nC : Nat} {h0 : mm_H} {P : Nat → mm_F × Int32} {s f fr : Int32} {g0 : Nat → mm_V} {Q : Value → mm_H → Prop} (I : mm_SH h0) (ha : lx_is a) (hl : l < 6) (hH : H ≤ 4) (hQ : ∀ g, (∀ v, v < 6 + H → g v = (if 6 ≤ v ∧ (g0 v).2.2.2.2 = nI l then lk_wo (g0 v) (-1) else g0 v)) → lx_gv nC g → Q .null (lx_L h0 (lx_pu P a ((nI H, s, f, g), fr)))) : ∀ (n v : Nat) (g : Nat → mm_V), v + n = 6 + H → 6 ≤ v → (∀ u, u < v → g u = (if 6 ≤ u ∧ (g0 u).2.2.2.2 = nI l then lk_wo (g0 u) (-1) else g0 u)) → (∀ u, v ≤ u → g u = g0 u) → lx_gv nC g → mm_go ro (d + 1) mm_m_Fr_store 17 [.ref a, .int (nI l), .int (nI v)] [] (lx_L h0 (lx_pu P a ((nI H, s, f, g), fr))) Q := by
  intro n
  induction n with
  | zero =>
    intro v g hv h6 h1 h2 hg
    have J : mm_SH (lx_L h0 (lx_pu P a ((nI H, s, f, g), fr))) := I
    obtain ⟨a1, a2, a3, a4⟩ := lx_fs J ha
    refine mm_go_from (mm_hM n_Fr_store rfl) (And.intro a1 (mm_rf (b := nI H) ((lx_i ha).1.trans (by rw [lx_pu_t])) (And.intro (fun c_25 => mm_go_from (mm_hM n_Fr_store rfl) ?_) (fun c_25 => ?_))))
    · exact hQ g (fun u hu => h1 u (by omega)) hg
    · have q : ¬ ((Int8.ofInt 6).toInt32 + nI H).toInt ≤ (nI v).toInt := c_25
      rw [lk_6, mm_nt (by omega), mm_nt (by omega)] at q
      omega
  | succ n ih =>
    intro v g hv h6 h1 h2 hg
    have J : mm_SH (lx_L h0 (lx_pu P a ((nI H, s, f, g), fr))) := I
    obtain ⟨a1, a2, a3, a4⟩ := lx_fs J ha
    have hB : 0 ≤ (nI v).toInt ∧ (nI v).toInt < ((10 : Nat) : Int) := mm_nb (by omega) (by omega)
    have hc : (nI v).toNatClampNeg = v := mm_ncl (by omega)
    have eg : g v = g0 v := h2 v (Nat.le_refl _)
    have er : mm_a (lx_L h0 (lx_pu P a ((nI H, s, f, g), fr))) (a + 1) (nI v).toNatClampNeg = lx_pk (g v) := by rw [hc, lx_a ha (by omega), lx_pu_t]
    refine mm_go_from (mm_hM n_Fr_store rfl) (And.intro a1 (mm_rf (b := nI H) ((lx_i ha).1.trans (by rw [lx_pu_t])) (And.intro (fun c_25 => ?_) (fun c_25 => ?_))))
    · have q : ((Int8.ofInt 6).toInt32 + nI H).toInt ≤ (nI v).toInt := c_25
      rw [lk_6, mm_nt (by omega), mm_nt (by omega)] at q
      omega
    · refine And.intro a1 (mm_rf a4 (And.intro ⟨a2, mm_inb 10 a3 hB⟩ (mm_rf er (And.intro ⟨rfl, trivial⟩ (c_Va_origin (hg v (by omega)).1 (And.intro (fun c_38 => mm_go_from (mm_hM n_Fr_store rfl) ?_) (fun c_38 => ?_)))))))
      · have q : ¬ (g v).2.2.2.2 = nI l := c_38
        rw [eg] at q
        have nx := ih (v + 1) g (by omega) (by omega) (fun u hu => by
          by_cases z : u = v
          · rw [z, eg, if_neg (fun y => q y.2)]
          · exact h1 u (by omega)) (fun u hu => h2 u (by omega)) hg
        rw [nI_succ] at nx
        exact nx
      · have q : (g v).2.2.2.2 = nI l := mm_no c_38
        have nx := ih (v + 1) (lk_up g v (lk_wo (g v) (-1))) (by omega) (by omega) (fun u hu => by
          by_cases z : u = v
          · rw [z, lk_up_t, eg, if_pos ⟨h6, by rw [← eg]; exact q⟩]
          · rw [lk_up_f z]; exact h1 u (by omega)) (fun u hu => by rw [lk_up_f (by omega)]; exact h2 u (by omega)) (lx_gv_up hg (lx_wo_vr (hg v (by omega)) (by decide)))
        rw [nI_succ] at nx
        refine And.intro a1 (mm_rf a4 (And.intro a1 (mm_rf a4 (And.intro ⟨a2, mm_inb 10 a3 hB⟩ (mm_rf er (And.intro ⟨rfl, trivial⟩ (c_Va_withOrigin (hg v (by omega)).1 (by decide) (And.intro ⟨a2, mm_inb 10 a3 hB⟩ ?_))))))))
        rw [hc, lxw_s ha (by omega), lx_pu_u, lx_pu_t]
        exact nx
theorem c_Fr_store {ro : mm_Ro} {d a l H nC : Nat} {h0 : mm_H} {P : Nat → mm_F × Int32} {Q : Value → mm_H → Prop} (I : mm_SH h0) (ha : lx_is a) (hl : l < 6) (eH : (P a).1.1 = nI H) (hH1 : 1 ≤ H) (hH : H ≤ 4) (hg : lx_gv nC (P a).1.2.2.2) (hQ : ∀ g, (∀ v, v < 5 + H → g v = lk_st (P a).1.2.2.2 l ((P a).1.2.2.2 (5 + H)) v) → lx_gv nC g → Q .null (lx_L h0 (lx_pu P a ((nI (H - 1), (P a).1.2.1, (P a).1.2.2.1, g), (P a).2)))) : mm_ev ro (d + 2) n_Fr_store [.ref a, .int (nI l)] (lx_L h0 P) Q := by
  have J : mm_SH (lx_L h0 P) := I
  obtain ⟨a1, a2, a3, a4⟩ := lx_fs J ha
  have hB : 0 ≤ (nI l).toInt ∧ (nI l).toInt < ((10 : Nat) : Int) := mm_nb (by omega) (by omega)
  have hc : (nI l).toNatClampNeg = l := mm_ncl (by omega)
  have e5 : 6 + ((P a).1.1 - 1) = nI (5 + H) := by
    rw [eH, lx_1 hH1, show 5 + H = 6 + (H - 1) by omega]
    exact lk_6
  have v5 := hg (5 + H) (by omega)
  refine mm_ev_at 17 (Z := mm_m_Fr_store) rfl rfl (Nat.le_of_ble_eq_true rfl) rfl ?_
  refine And.intro a1 (mm_rf a4 (And.intro ⟨rfl, a1⟩ (c_Fr_pop I ha e5 (by omega) (And.intro ⟨rfl, trivial⟩ (c_Va_withOrigin v5.1 (by decide) (And.intro ⟨a2, mm_inb 10 a3 hB⟩ ?_))))))
  rw [hc, lxw_s ha (by omega), lx_pu_u, lx_pu_t, eH, lx_1 hH1]
  have w : ∀ v, lk_st (P a).1.2.2.2 l ((P a).1.2.2.2 (5 + H)) v = (if 6 ≤ v ∧ (lk_up (P a).1.2.2.2 l (lk_wo ((P a).1.2.2.2 (5 + H)) (-1)) v).2.2.2.2 = nI l then lk_wo (lk_up (P a).1.2.2.2 l (lk_wo ((P a).1.2.2.2 (5 + H)) (-1)) v) (-1) else lk_up (P a).1.2.2.2 l (lk_wo ((P a).1.2.2.2 (5 + H)) (-1)) v) := by
    intro v
    unfold lk_st
    by_cases z : v = l
    · rw [if_pos z, if_neg (fun y => by omega), z, lk_up_t]
    · rw [if_neg z, lk_up_f z]
  exact l_st_17 (g0 := lk_up (P a).1.2.2.2 l (lk_wo ((P a).1.2.2.2 (5 + H)) (-1))) I ha hl (by omega) (fun g h1 h2 => hQ g (fun v hv => by rw [h1 v (by omega), w v]) h2) (H - 1) 6 _ (by omega) (by omega) (fun u hu => (if_neg (fun y => by omega)).symm) (fun u _ => rfl) (lx_gv_up hg (lx_wo_vr v5 (by decide)))
theorem lx_sk_vr {nC : Nat} {x : mm_V} {k : Int32} (h : lx_vr nC x) (hk : k = 0 ∨ k = 3) (hC : 0 < nC) : lx_vr nC (lk_sk k x) := by
  rcases hk with rfl | rfl
  · rw [lk_sk0]
    refine ⟨mm_dr_vr h.1, ?_⟩
    unfold mm_dr
    split
    · show (-1 : Int32).toInt < _
      rw [show (-1 : Int32).toInt = -1 by decide]; omega
    · exact h.2
  · rw [lk_sk3]
    refine ⟨(lk_rf_vr h.1).1, ?_⟩
    unfold lk_rf
    split
    · exact h.2
    · exact h.2
theorem lx_pre_gv {nC j : Nat} {A g : Nat → mm_V} (h : lx_gv nC g) (hA : ∀ v, v < 10 → lx_vr nC (A v)) : lx_gv nC (lk_pre A g j) := by
  intro v hv
  by_cases q : v < j
  · rw [lk_pre_t q]; exact hA v hv
  · rw [lk_pre_f q]; exact h v hv
theorem l_ls_2 {ro : mm_Ro} {d a H nC : Nat} {h0 : mm_H} {P : Nat → mm_F × Int32} {s f fr b k ns : Int32} {g : Nat → mm_V} {Q : Value → mm_H → Prop} (I : mm_SH h0) (ha : lx_is a) (hH : H ≤ 4) (hC : 0 < nC) (hk : (b = 0 ∧ k = 0) ∨ (¬ b = 0 ∧ k = 3)) (hg : lx_gv nC g) (hQ : Q .null (lx_L h0 (lx_pu P a ((nI H, ns, 0, lk_pre (fun v => lk_sk k (g v)) g (6 + H)), fr)))) : ∀ (n v : Nat) (w : Value), v + n = 6 + H → mm_go ro (d + 1) mm_m_Fr_leaveSite 2 [.ref a, .int b, .int ns, .int (nI v), w] [] (lx_L h0 (lx_pu P a ((nI H, s, f, lk_pre (fun v => lk_sk k (g v)) g v), fr))) Q := by
  intro n
  have k03 : k = 0 ∨ k = 3 := by
    rcases hk with ⟨_, z⟩ | ⟨_, z⟩
    · exact Or.inl z
    · exact Or.inr z
  induction n with
  | zero =>
    intro v w hv
    have J : mm_SH (lx_L h0 (lx_pu P a ((nI H, s, f, lk_pre (fun v => lk_sk k (g v)) g v), fr))) := I
    obtain ⟨a1, a2, a3, a4⟩ := lx_fs J ha
    refine mm_go_from (mm_hM n_Fr_leaveSite rfl) (And.intro a1 (mm_rf (b := nI H) ((lx_i ha).1.trans (by rw [lx_pu_t])) (And.intro (fun c_10 => mm_go_from (mm_hM n_Fr_leaveSite rfl) ?_) (fun c_10 => ?_))))
    · refine And.intro a1 ?_
      rw [(lxw_i ha _).2.1, lx_pu_u, lx_pu_t]
      refine And.intro a1 ?_
      rw [(lxw_i ha _).2.2.1, lx_pu_u, lx_pu_t, show v = 6 + H by omega]
      exact hQ
    · have q : ¬ ((Int8.ofInt 6).toInt32 + nI H).toInt ≤ (nI v).toInt := c_10
      rw [lk_6, mm_nt (by omega), mm_nt (by omega)] at q
      omega
  | succ n ih =>
    intro v w hv
    have J : mm_SH (lx_L h0 (lx_pu P a ((nI H, s, f, lk_pre (fun v => lk_sk k (g v)) g v), fr))) := I
    obtain ⟨a1, a2, a3, a4⟩ := lx_fs J ha
    have hB : 0 ≤ (nI v).toInt ∧ (nI v).toInt < ((10 : Nat) : Int) := mm_nb (by omega) (by omega)
    have hc : (nI v).toNatClampNeg = v := mm_ncl (by omega)
    have vg := hg v (by omega)
    have vk := lx_sk_vr (k := k) vg k03 hC
    have er : mm_a (lx_L h0 (lx_pu P a ((nI H, s, f, lk_pre (fun v => lk_sk k (g v)) g v), fr))) (a + 1) (nI v).toNatClampNeg = lx_pk (g v) := by
      rw [hc, lx_a ha (by omega), lx_pu_t]
      show lx_pk (lk_pre (fun v => lk_sk k (g v)) g v v) = _
      rw [lk_pre_f (by omega)]
    refine mm_go_from (mm_hM n_Fr_leaveSite rfl) (And.intro a1 (mm_rf (b := nI H) ((lx_i ha).1.trans (by rw [lx_pu_t])) (And.intro (fun c_10 => ?_) (fun c_10 => ?_))))
    · have q : ((Int8.ofInt 6).toInt32 + nI H).toInt ≤ (nI v).toInt := c_10
      rw [lk_6, mm_nt (by omega), mm_nt (by omega)] at q
      omega
    · refine And.intro a1 (mm_rf a4 (And.intro ⟨a2, mm_inb 10 a3 hB⟩ (mm_rf er (And.intro ⟨rfl, trivial⟩ (c_Va_kind vg.1 (And.intro (fun c_23 => mm_go_from (mm_hM n_Fr_leaveSite rfl) ?_) (fun c_23 => ?_)))))))
      · have q : ¬ (g v).1 = 4 := c_23
        have nx := ih (v + 1) w (by omega)
        rw [lk_pre_same (if_neg q), nI_succ] at nx
        exact nx
      · have q : (g v).1 = 4 := mm_no c_23
        have nx := ih (v + 1) (.int (g v).2.1) (by omega)
        rw [← lk_pre_up, nI_succ] at nx
        have g72 : ∀ x, x = lk_sk k (g v) → mm_go ro (d + 1) mm_m_Fr_leaveSite 72 [.ref a, .int b, .int ns, .int (nI v), .int (g v).2.1] [.int (lx_pk x), .int (nI v), .ref (a + 1)] (lx_L h0 (lx_pu P a ((nI H, s, f, lk_pre (fun v => lk_sk k (g v)) g v), fr))) Q := by
          intro x hx
          refine mm_go_from (mm_hM n_Fr_leaveSite rfl) (And.intro ⟨a2, mm_inb 10 a3 hB⟩ ?_)
          rw [hc, lxw_s ha (by omega), lx_pu_u, lx_pu_t, hx]
          exact nx
        refine And.intro a1 (mm_rf a4 (And.intro ⟨a2, mm_inb 10 a3 hB⟩ (mm_rf er (And.intro ⟨rfl, trivial⟩ (c_Va_classOf vg.1 (And.intro a1 (mm_rf a4 (And.intro (fun c_43 => mm_go_at 72 (mm_hM n_Fr_leaveSite rfl) ?_) (fun c_43 => ?_)))))))))
        · have b0 : b = 0 := c_43
          have kz : k = 0 := by
            rcases hk with ⟨_, z⟩ | ⟨z, _⟩
            · exact z
            · exact absurd b0 z
          have es : lk_sk k (g v) = (0, -1, (g v).2.2) := (if_pos q).trans (if_pos kz)
          have V' := vk.1
          rw [es] at V'
          exact And.intro a1 (mm_rf a4 (And.intro ⟨a2, mm_inb 10 a3 hB⟩ (mm_rf er (And.intro ⟨rfl, trivial⟩ (c_Va_withKind vg.1 V' (g72 _ es.symm))))))
        · have b0 : ¬ b = 0 := c_43
          have kz : k = 3 := by
            rcases hk with ⟨z, _⟩ | ⟨_, z⟩
            · exact absurd z b0
            · exact z
          have es : lk_sk k (g v) = (3, (g v).2.1, (g v).2.2) := (if_pos q).trans ((if_neg (by rw [kz]; decide)).trans (by rw [kz]))
          have V' := vk.1
          rw [es] at V'
          exact And.intro a1 (mm_rf a4 (And.intro ⟨a2, mm_inb 10 a3 hB⟩ (mm_rf er (And.intro ⟨rfl, trivial⟩ (c_Va_withKind vg.1 V' (g72 _ es.symm))))))
theorem c_Fr_leaveSite {ro : mm_Ro} {d a H nC : Nat} {h0 : mm_H} {P : Nat → mm_F × Int32} {b k ns : Int32} {Q : Value → mm_H → Prop} (I : mm_SH h0) (ha : lx_is a) (eH : (P a).1.1 = nI H) (hH : H ≤ 4) (hC : 0 < nC) (hk : (b = 0 ∧ k = 0) ∨ (¬ b = 0 ∧ k = 3)) (hg : lx_gv nC (P a).1.2.2.2) (hQ : lx_gv nC (lk_pre (fun v => lk_sk k ((P a).1.2.2.2 v)) (P a).1.2.2.2 (6 + H)) → Q .null (lx_L h0 (lx_pu P a ((nI H, ns, 0, lk_pre (fun v => lk_sk k ((P a).1.2.2.2 v)) (P a).1.2.2.2 (6 + H)), (P a).2)))) : mm_ev ro (d + 2) n_Fr_leaveSite [.ref a, .int b, .int ns] (lx_L h0 P) Q := by
  have k03 : k = 0 ∨ k = 3 := by
    rcases hk with ⟨_, z⟩ | ⟨_, z⟩
    · exact Or.inl z
    · exact Or.inr z
  refine mm_ev_at 2 (Z := mm_m_Fr_leaveSite) rfl rfl (Nat.le_of_ble_eq_true rfl) rfl ?_
  have L := l_ls_2 (ro := ro) (d := d) (P := P) (s := (P a).1.2.1) (f := (P a).1.2.2.1) I ha hH hC hk hg (hQ (lx_pre_gv hg (fun v hv => lx_sk_vr (hg v hv) k03 hC))) (6 + H) 0 .null (by omega)
  rw [lk_pre_0, ← eH] at L
  have e : lx_pu P a (((P a).1.1, (P a).1.2.1, (P a).1.2.2.1, (P a).1.2.2.2), (P a).2) = P := lx_pu_s
  rw [e] at L
  exact L
