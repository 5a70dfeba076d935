/-! THE CLASS: join of frames -/
theorem lx_vj_dr {up : Nat → Int} {x y r : mm_V} (hx : mm_vr x) (h : mm_vj up (mm_dr x) y r) : mm_vj up (mm_dr x) (mm_dr y) r := by
  by_cases q : y.1 = 4
  · have n4 : ¬ (mm_dr x).1 = 4 := mm_dr_n4
    obtain ⟨kj, j2, j3, j4⟩ := h
    unfold mm_vj
    rw [lk_dr22 (x := y)]
    refine ⟨?_, j2, j3, j4⟩
    have r0 : r.1 = 0 ∧ r.2.1 = -1 := by
      rcases kj with ⟨_, z, _⟩ | ⟨z, _⟩ | ⟨_, z, _⟩ | ⟨_, z, _⟩ | ⟨_, _, _, z1, z2⟩
      · exact absurd (q.symm.trans z) (by decide)
      · exact absurd (z.trans q) n4
      · exact absurd (q.symm.trans z) (by decide)
      · exact absurd (q.symm.trans z) (by decide)
      · exact ⟨z1, z2⟩
    rw [lk_dr_t q, r0.1, r0.2]
    by_cases k0 : (mm_dr x).1 = 0
    · exact Or.inr (Or.inl ⟨k0, by rw [k0]; decide, k0.symm, ((mm_dr_vr hx).2.1 (by rw [k0]; decide)).symm⟩)
    · exact Or.inr (Or.inr (Or.inr (Or.inr ⟨k0, fun z => absurd z.2 (show ¬ (0 : Int32) = 3 by decide), fun z => absurd z.2 (show ¬ (0 : Int32) = 2 by decide), rfl, rfl⟩)))
  · rw [lk_dr_f q]; exact h
theorem lx_fr1 {P : Nat → mm_F × Int32} {a : Nat} {φ : mm_F} {x : Int32} (h : P a = (φ, x)) : lx_pu P a (φ, x) = P := by rw [← h]; exact lx_pu_s
theorem l_fj_132 {ro : mm_Ro} {d a b H nC : Nat} {h0 : mm_H} {P : Nat → mm_F × Int32} {s f fr : Int32} {g0 : Nat → mm_V} {C0 : Prop} {v3 v4 : Value} {Q : Value → mm_H → Prop} (I : mm_SH h0) (U : mm_upo (mm_up h0)) (Z : mm_upz (mm_up h0)) (A : lx_AS h0 nC) (ha : lx_is a) (hb : lx_is b) (ne : ¬ a = b) (hH : H ≤ 4) (gb : lx_gv nC (P b).1.2.2.2) (g0v : lx_gv nC g0) (hQ : ∀ (g : Nat → mm_V) (fr' : Int32), lx_gv nC g → (∀ u, u < 6 + H → mm_vj (mm_up h0) (g0 u) ((P b).1.2.2.2 u) (g u)) → ((fr' = 1 ∧ (C0 ∨ ∃ u, u < 6 + H ∧ ¬ g u = g0 u)) ∨ (fr' = fr ∧ ¬ C0 ∧ ∀ u, u < 6 + H → g u = g0 u)) → Q .null (lx_L h0 (lx_pu P a ((nI H, s, f, g), fr')))) : ∀ (n v : Nat) (g : Nat → mm_V) (fr' : Int32) (v6 : Value), v + n = 6 + H → (fr' = 0 ∨ fr' = 1) → lx_gv nC g → (∀ u, u < v → mm_vj (mm_up h0) (g0 u) ((P b).1.2.2.2 u) (g u)) → (∀ u, v ≤ u → g u = g0 u) → ((fr' = 1 ∧ (C0 ∨ ∃ u, u < v ∧ ¬ g u = g0 u)) ∨ (fr' = fr ∧ ¬ C0 ∧ ∀ u, u < v → g u = g0 u)) → mm_go ro (d + 2) mm_m_Fr_join 132 [.ref a, .ref b, .ref 2, v3, v4, .int (nI v), v6] [] (lx_L h0 (lx_pu P a ((nI H, s, f, g), fr'))) Q := by
  intro n
  have ne' : ¬ b = a := fun z => ne z.symm
  induction n with
  | zero =>
    intro v g fr' v6 hv f01 hg h1 h2 hf
    have J : mm_SH (lx_L h0 (lx_pu P a ((nI H, s, f, g), fr'))) := I
    obtain ⟨a1, a2, a3, a4⟩ := lx_fs J ha
    refine mm_go_from (mm_hM n_Fr_join rfl) (And.intro a1 (mm_rf (b := nI H) ((lx_i ha).1.trans (by rw [lx_pu_t])) (And.intro (fun c_141 => mm_go_from (mm_hM n_Fr_join rfl) ?_) (fun c_141 => ?_))))
    · rw [show v = 6 + H by omega] at h1 hf
      exact hQ g fr' hg h1 hf
    · have q : ¬ ((Int8.ofInt 6).toInt32 + nI H).toInt ≤ (nI v).toInt := c_141
      rw [lk_6, mm_nt (by omega), mm_nt (by omega)] at q
      omega
  | succ n ih =>
    intro v g fr' v6 hv f01 hg h1 h2 hf
    have J : mm_SH (lx_L h0 (lx_pu P a ((nI H, s, f, g), fr'))) := I
    obtain ⟨a1, a2, a3, a4⟩ := lx_fs J ha
    obtain ⟨b1, b2, b3, b4⟩ := lx_fs J hb
    have hB : 0 ≤ (nI v).toInt ∧ (nI v).toInt < ((10 : Nat) : Int) := mm_nb (by omega) (by omega)
    have hc : (nI v).toNatClampNeg = v := mm_ncl (by omega)
    have eg : g v = g0 v := h2 v (Nat.le_refl _)
    have er : ∀ x : Int32, mm_a (lx_L h0 (lx_pu P a ((nI H, s, f, g), x))) (a + 1) (nI v).toNatClampNeg = lx_pk (g v) := fun x => by rw [hc, lx_a ha (by omega), lx_pu_t]
    have eb : mm_a (lx_L h0 (lx_pu P a ((nI H, s, f, g), fr'))) (b + 1) (nI v).toNatClampNeg = lx_pk ((P b).1.2.2.2 v) := by rw [hc, lx_a hb (by omega), lx_pu_f ne']
    refine mm_go_at 189 (mm_hM n_Fr_join rfl) (And.intro a1 (mm_rf (b := nI H) ((lx_i ha).1.trans (by rw [lx_pu_t])) (And.intro (fun c_141 => ?_) (fun c_141 => ?_))))
    · have q : ((Int8.ofInt 6).toInt32 + nI H).toInt ≤ (nI v).toInt := c_141
      rw [lk_6, mm_nt (by omega), mm_nt (by omega)] at q
      omega
    · refine And.intro a1 (mm_rf a4 (And.intro ⟨a2, mm_inb 10 a3 hB⟩ (mm_rf (er fr') (And.intro b1 (mm_rf b4 (And.intro ⟨b2, mm_inb 10 b3 hB⟩ (mm_rf eb (And.intro ⟨rfl, trivial⟩ (c_Va_join J U Z A (hg v (by omega)) (gb v (by omega)) (fun r hr rv => ?_))))))))))
      rw [eg] at hr
      have g192 : ∀ fr'' : Int32, (fr'' = 0 ∨ fr'' = 1) → ((fr'' = 1 ∧ (C0 ∨ ∃ u, u < v + 1 ∧ ¬ lk_up g v r u = g0 u)) ∨ (fr'' = fr ∧ ¬ C0 ∧ ∀ u, u < v + 1 → lk_up g v r u = g0 u)) → mm_go ro (d + 2) mm_m_Fr_join 189 [.ref a, .ref b, .ref 2, v3, v4, .int (nI v), .int (lx_pk r)] [.int fr'', .ref a] (lx_L h0 (lx_pu P a ((nI H, s, f, g), fr'))) Q := by
        intro fr'' f01' hf'
        refine mm_go_from (mm_hM n_Fr_join rfl) (And.intro a1 (And.intro f01' ?_))
        rw [(lxw_i ha _).2.2.2, lx_pu_u, lx_pu_t]
        refine And.intro a1 (mm_rf a4 (And.intro ⟨a2, mm_inb 10 a3 hB⟩ ?_))
        rw [hc, lxw_s ha (by omega), lx_pu_u, lx_pu_t]
        have nx := ih (v + 1) (lk_up g v r) fr'' (.int (lx_pk r)) (by omega) f01' (lx_gv_up hg rv) (fun u hu => by
          by_cases z : u = v
          · rw [z, lk_up_t]; exact hr
          · rw [lk_up_f z]; exact h1 u (by omega)) (fun u hu => by rw [lk_up_f (by omega)]; exact h2 u (by omega)) hf'
        rw [nI_succ] at nx
        exact nx
      have keep : (∀ u, u < v → g u = g0 u) → r = g0 v → ∀ u, u < v + 1 → lk_up g v r u = g0 u := fun y1 y2 u hu => by
        by_cases z : u = v
        · rw [z, lk_up_t]; exact y2
        · rw [lk_up_f z]; exact y1 u (by omega)
      have chg : ∀ u, u < v → ¬ g u = g0 u → ∃ u, u < v + 1 ∧ ¬ lk_up g v r u = g0 u := fun u hu hn => ⟨u, by omega, by rw [lk_up_f (by omega)]; exact hn⟩
      have chr : ¬ r = g0 v → ∃ u, u < v + 1 ∧ ¬ lk_up g v r u = g0 u := fun hn => ⟨v, by omega, by rw [lk_up_t]; exact hn⟩
      refine And.intro a1 (mm_rf (b := fr') ((lx_i ha).2.2.2.trans (by rw [lx_pu_t])) (And.intro (fun c_169 => ?_) (fun c_169 => ?_)))
      · have f1 : fr' = 1 := f01.resolve_left c_169
        refine mm_go_at 189 (mm_hM n_Fr_join rfl) (g192 1 (Or.inr rfl) ?_)
        rcases hf with ⟨_, hc0 | ⟨u, hu1, hu2⟩⟩ | ⟨hf1, hf2, hf3⟩
        · exact Or.inl ⟨rfl, Or.inl hc0⟩
        · exact Or.inl ⟨rfl, Or.inr (chg u hu1 hu2)⟩
        · by_cases z : r = g0 v
          · exact Or.inr ⟨f1.symm.trans hf1, hf2, keep hf3 z⟩
          · exact Or.inl ⟨rfl, Or.inr (chr z)⟩
      · have f0 : fr' = 0 := mm_no c_169
        have hf' : fr' = fr ∧ ¬ C0 ∧ ∀ u, u < v → g u = g0 u := by
          rcases hf with ⟨z, _⟩ | z
          · exact absurd (f0.symm.trans z) (by decide)
          · exact z
        refine And.intro a1 (mm_rf a4 (And.intro ⟨a2, mm_inb 10 a3 hB⟩ (mm_rf (er fr') (And.intro (fun c_181 => mm_go_at 189 (mm_hM n_Fr_join rfl) ?_) (fun c_181 => ?_)))))
        · have z : r = g v := lx_inj rv.1 (hg v (by omega)).1 c_181
          exact g192 0 (Or.inl rfl) (Or.inr ⟨f0.symm.trans hf'.1, hf'.2.1, keep hf'.2.2 (z.trans eg)⟩)
        · have z : ¬ r = g0 v := fun y => c_181 (by rw [y, ← eg]; rfl)
          exact g192 1 (Or.inr rfl) (Or.inl ⟨rfl, Or.inr (chr z)⟩)
theorem c_Fr_join {ro : mm_Ro} {d a b nC : Nat} {na : Int32 → Int32} {h0 : mm_H} {P : Nat → mm_F × Int32} {Q : Value → mm_H → Prop} (I : mm_SH h0) (U : mm_upo (mm_up h0)) (Z : mm_upz (mm_up h0)) (A : lx_AS h0 nC) (hC : 0 < nC) (ha : lx_is a) (hb : lx_is b) (ne : ¬ a = b) (oφ : mm_fok na (P a).1) (pφ : lk_pr (P a).1) (pψ : (P b).1.1 = -2 ∨ 0 ≤ (P b).1.1.toInt) (ga : lx_gv nC (P a).1.2.2.2) (gb : lx_gv nC (P b).1.2.2.2) (f01 : (P a).2 = 0 ∨ (P a).2 = 1) (hQ : ∀ (ρ : mm_F) (fr' : Int32), lk_jn (mm_up h0) (P a).1 (P b).1 ρ → lx_gv nC ρ.2.2.2 → (fr' = 0 ∨ fr' = 1) → ((fr' = 1 ∧ ¬ mm_feq (P a).1 ρ) ∨ (fr' = (P a).2 ∧ mm_feq (P a).1 ρ)) → Q .null (lx_L h0 (lx_pu P a (ρ, fr')))) : mm_ev ro (d + 3) n_Fr_join [.ref a, .ref b, .ref 2] (lx_L h0 P) Q := by
  have J : mm_SH (lx_L h0 P) := I
  obtain ⟨a1, a2, a3, a4⟩ := lx_fs J ha
  obtain ⟨b1, b2, b3, b4⟩ := lx_fs J hb
  have ne' : ¬ b = a := fun z => ne z.symm
  refine mm_ev_in (Z := mm_m_Fr_join) rfl rfl (Nat.le_of_ble_eq_true rfl) rfl ?_
  refine And.intro a1 (mm_rf (lx_i ha).1 (And.intro (fun c_5 => mm_go_from (mm_hM n_Fr_join rfl) ?_) (fun c_5 => ?_)))
  · have n1 : ¬ (P a).1.1 = -1 := c_5
    refine And.intro a1 (mm_rf (lx_i ha).1 (And.intro (fun c_25 => mm_go_from (mm_hM n_Fr_join rfl) ?_) (fun c_25 => ?_)))
    · have n2 : ¬ (P a).1.1 = -2 := c_25
      have p0 : 0 ≤ (P a).1.1.toInt := by
        rcases pφ with z | z | z
        · exact absurd z n1
        · exact absurd z n2
        · exact z
      refine And.intro b1 (mm_rf (lx_i hb).1 (And.intro a1 (mm_rf (lx_i ha).1 (And.intro (fun c_37 => mm_go_at 96 (mm_hM n_Fr_join rfl) ?_) (fun c_37 => ?_)))))
      · have eh : (P b).1.1 = (P a).1.1 := c_37
        obtain ⟨o1, o2, o3, o4, o5⟩ := oφ p0
        have eH := lk_nI_of p0 o1
        have hH : (P a).1.1.toInt.toNat ≤ 4 := by omega
        generalize hHn : (P a).1.1.toInt.toNat = H at eH hH
        have tH : (nI H).toInt = (H : Int) := mm_nt (by omega)
        have slo : ∀ u, u < 6 + H → lk_sl (P a).1 u := fun u hu => by show (u : Int) < 6 + (P a).1.1.toInt; rw [eH, tH]; omega
        have slo' : ∀ u, lk_sl (P a).1 u → u < 6 + H := fun u hu => by
          have hu' : (u : Int) < 6 + (P a).1.1.toInt := hu
          rw [eH, tH] at hu'
          omega
        -- fresh, and the slots
        have g96 : ∀ (s' f' : Int32) (g' : Nat → mm_V), lx_gv nC g' → ((P a).1.2.1 = (P b).1.2.1 → s' = (P a).1.2.1 ∧ f' = (P a).1.2.2.1 &&& (P b).1.2.2.1 ∧ ∀ u, u < 6 + H → g' u = (P a).1.2.2.2 u) → (¬ (P a).1.2.1 = (P b).1.2.1 → s' = -1 ∧ f' = 0 ∧ ∀ u, u < 6 + H → g' u = mm_dr ((P a).1.2.2.2 u)) → mm_go ro (d + 2) mm_m_Fr_join 96 [.ref a, .ref b, .ref 2, .int (P a).1.2.1, .int (P a).1.2.2.1, .null, .null] [] (lx_L h0 (lx_pu P a ((nI H, s', f', g'), (P a).2))) Q := by
          intro s' f' g' gv' hs hn
          have J' : mm_SH (lx_L h0 (lx_pu P a ((nI H, s', f', g'), (P a).2))) := I
          have dg : ∀ u, u < 6 + H → s' = (P a).1.2.1 → g' u = (P a).1.2.2.2 u := by
            intro u hu es
            by_cases q : (P a).1.2.1 = (P b).1.2.1
            · exact (hs q).2.2 u hu
            · obtain ⟨y1, _, y3⟩ := hn q
              rw [y3 u hu]
              exact lk_dr_f (fun z => ((o5 u (slo u hu)).2.1 z).1 (es.symm.trans y1))
          have fin : ∀ (g : Nat → mm_V) (fr' : Int32), lx_gv nC g → (∀ u, u < 6 + H → mm_vj (mm_up h0) (g' u) ((P b).1.2.2.2 u) (g u)) → ((fr' = 1 ∧ (¬ (s' = (P a).1.2.1 ∧ f' = (P a).1.2.2.1) ∨ ∃ u, u < 6 + H ∧ ¬ g u = g' u)) ∨ (fr' = (P a).2 ∧ ¬ ¬ (s' = (P a).1.2.1 ∧ f' = (P a).1.2.2.1) ∧ ∀ u, u < 6 + H → g u = g' u)) → Q .null (lx_L h0 (lx_pu P a ((nI H, s', f', g), fr'))) := by
            intro g fr' gv hj hf
            refine hQ (nI H, s', f', g) fr' ?_ gv ?_ ?_
            · refine Or.inr (Or.inr (Or.inr ⟨p0, eh.symm, eH.symm, fun q => ⟨(hs q).1, (hs q).2.1⟩, fun q => ⟨(hn q).1, (hn q).2.1⟩, fun u hu => ?_⟩))
              have hu6 := slo' u hu
              have j := hj u hu6
              by_cases q : (P a).1.2.1 = (P b).1.2.1
              · rw [mm_ds_t q, mm_ds_t q]
                rw [(hs q).2.2 u hu6] at j
                exact j
              · rw [mm_ds_f q, mm_ds_f q]
                rw [(hn q).2.2 u hu6] at j
                exact lx_vj_dr (o5 u hu).1 j
            · rcases hf with ⟨z, _⟩ | ⟨z, _⟩
              · exact Or.inr z
              · rw [z]; exact f01
            · rcases hf with ⟨z, c⟩ | ⟨z, c1, c2⟩
              · refine Or.inl ⟨z, fun fe => ?_⟩
                obtain ⟨e1, e2, e3⟩ := fe.2 p0
                have e1' : (P a).1.2.1 = s' := e1
                have e2' : (P a).1.2.2.1 = f' := e2
                rcases c with c | ⟨u, hu, c⟩
                · exact c ⟨e1'.symm, e2'.symm⟩
                · have e3' : (P a).1.2.2.2 u = g u := e3 u (slo u hu)
                  exact c (e3'.symm.trans (dg u hu e1'.symm).symm)
              · have c1' := Classical.not_not.mp c1
                refine Or.inr ⟨z, eH, fun _ => ⟨c1'.1.symm, c1'.2.symm, fun u hu => ?_⟩⟩
                show (P a).1.2.2.2 u = g u
                rw [c2 u (slo' u hu), dg u (slo' u hu) c1'.1]
          have g126 : ∀ fr' : Int32, (fr' = 0 ∨ fr' = 1) → ((fr' = 1 ∧ ¬ (s' = (P a).1.2.1 ∧ f' = (P a).1.2.2.1)) ∨ (fr' = (P a).2 ∧ ¬ ¬ (s' = (P a).1.2.1 ∧ f' = (P a).1.2.2.1))) → mm_go ro (d + 2) mm_m_Fr_join 126 [.ref a, .ref b, .ref 2, .int (P a).1.2.1, .int (P a).1.2.2.1, .null, .null] [.int fr', .ref a] (lx_L h0 (lx_pu P a ((nI H, s', f', g'), (P a).2))) Q := by
            intro fr' f01' hf
            refine mm_go_at 132 (mm_hM n_Fr_join rfl) (And.intro a1 (And.intro f01' ?_))
            rw [(lxw_i ha _).2.2.2, lx_pu_u, lx_pu_t]
            refine l_fj_132 (fr := (P a).2) (C0 := ¬ (s' = (P a).1.2.1 ∧ f' = (P a).1.2.2.1)) I U Z A ha hb ne hH gb gv' fin (6 + H) 0 g' fr' .null (by omega) f01' gv' (fun u hu => by omega) (fun u _ => rfl) ?_
            rcases hf with ⟨z1, z2⟩ | ⟨z1, z2⟩
            · exact Or.inl ⟨z1, Or.inl z2⟩
            · exact Or.inr ⟨z1, z2, fun u hu => by omega⟩
          have one : (fun C : Prop => (P a).2 = 1 → ((1 : Int32) = 1 ∧ ¬ C) ∨ ((1 : Int32) = (P a).2 ∧ ¬ ¬ C)) (s' = (P a).1.2.1 ∧ f' = (P a).1.2.2.1) := by
            intro z
            by_cases q : s' = (P a).1.2.1 ∧ f' = (P a).1.2.2.1
            · exact Or.inr ⟨z.symm, fun y => y q⟩
            · exact Or.inl ⟨rfl, q⟩
          refine mm_go_at 126 (mm_hM n_Fr_join rfl) (And.intro a1 (mm_rf (b := (P a).2) ((lx_i ha).2.2.2.trans (by rw [lx_pu_t])) (And.intro (fun c_101 => mm_go_at 126 (mm_hM n_Fr_join rfl) (g126 1 (Or.inr rfl) (one (f01.resolve_left c_101)))) (fun c_101 => ?_))))
          have f0 : (P a).2 = 0 := mm_no c_101
          refine And.intro a1 (mm_rf (b := s') ((lx_i ha).2.1.trans (by rw [lx_pu_t])) (And.intro (fun c_109 => mm_go_at 126 (mm_hM n_Fr_join rfl) (g126 1 (Or.inr rfl) (Or.inl ⟨rfl, fun z => c_109 z.1⟩))) (fun c_109 => ?_)))
          refine And.intro a1 (mm_rf (b := f') ((lx_i ha).2.2.1.trans (by rw [lx_pu_t])) (And.intro (fun c_118 => mm_go_at 126 (mm_hM n_Fr_join rfl) (g126 0 (Or.inl rfl) (Or.inr ⟨f0.symm, fun y => y ⟨mm_no c_109, c_118⟩⟩))) (fun c_118 => ?_)))
          exact g126 1 (Or.inr rfl) (Or.inl ⟨rfl, fun z => c_118 z.2⟩)
        refine And.intro a1 (mm_rf (lx_i ha).2.1 (And.intro a1 (mm_rf (lx_i ha).2.2.1 (And.intro a1 (mm_rf (lx_i ha).2.1 (And.intro b1 (mm_rf (lx_i hb).2.1 (And.intro (fun c_71 => mm_go_at 96 (mm_hM n_Fr_join rfl) ?_) (fun c_71 => ?_)))))))))
        · have q : ¬ (P a).1.2.1 = (P b).1.2.1 := c_71
          refine And.intro ⟨rfl, a1⟩ (c_Fr_leaveSite (k := 0) I ha eH hH hC (Or.inl ⟨rfl, rfl⟩) ga (fun gv' => ?_))
          exact g96 (-1) 0 _ gv' (fun z => absurd z q) (fun _ => ⟨rfl, rfl, fun u hu => by rw [lk_pre_t hu, lk_sk0]⟩)
        · have q : (P a).1.2.1 = (P b).1.2.1 := mm_no c_71
          refine And.intro a1 (mm_rf (lx_i ha).2.2.1 (And.intro b1 (mm_rf (lx_i hb).2.2.1 (And.intro a1 ?_))))
          rw [(lxw_i ha _).2.2.1, eH]
          exact g96 (P a).1.2.1 _ (P a).1.2.2.2 ga (fun _ => ⟨rfl, rfl, fun u _ => rfl⟩) (fun z => absurd q z)
      · have nh : ¬ (P b).1.1 = (P a).1.1 := c_37
        refine And.intro a1 ?_
        rw [(lxw_i ha _).1]
        refine And.intro a1 (And.intro (Or.inr rfl) ?_)
        rw [(lxw_i ha _).2.2.2, lx_pu_u, lx_pu_t]
        refine hQ _ 1 (Or.inr (Or.inl ⟨n2, rfl, Or.inr ⟨p0, fun z => nh z.symm⟩⟩)) ga (Or.inr rfl) (Or.inl ⟨rfl, fun z => n2 z.1⟩)
    · have n2 : (P a).1.1 = -2 := mm_no c_25
      have w := hQ (P a).1 (P a).2 (Or.inl ⟨n2, mm_feq_refl⟩) ga f01 (Or.inr ⟨rfl, mm_feq_refl⟩)
      have e : lx_pu P a ((P a).1, (P a).2) = P := lx_pu_s
      rw [e] at w
      exact w
  · have n1 : (P a).1.1 = -1 := mm_no c_5
    refine And.intro ⟨rfl, a1⟩ (c_Fr_become I ha hb ne (And.intro a1 (And.intro (Or.inr rfl) ?_)))
    rw [(lxw_i ha _).2.2.2, lx_pu_u, lx_pu_t]
    refine hQ (P b).1 1 (Or.inr (Or.inr (Or.inl ⟨by rw [n1]; decide, by rw [n1]; decide, mm_feq_refl⟩))) gb (Or.inr rfl) (Or.inl ⟨rfl, fun z => ?_⟩)
    have e : (P b).1.1 = -1 := z.1.symm.trans n1
    rcases pψ with y | y
    · exact absurd (e.symm.trans y) (by decide)
    · exact absurd e (mm_not_m1 y)
