/-! LAW: its loop -/
theorem lz_add {j k : Nat} {x : Int32} (e : x = nI k) : nI j + x = nI (j + k) := by rw [e, nI_add]
theorem lz_lv {ro : mm_Ro} {j L : Nat} (e : (ro 0).1 = L) (hj : j + 5 ≤ L) (hL : L ≤ 2560) : ∃ y1 y2 y3 y4, lv ro j y1 y2 y3 y4 := by
  have q : ∀ k x, x = nI k → k < 5 → mm_in (nI j + x) (ro 0).1 := fun k x ex hk => mm_inb L e (by rw [lz_add ex]; exact mm_nb (by omega) (by omega))
  exact ⟨_, _, _, _, ⟨q 1 _ (by decide) (by omega), rfl⟩, ⟨q 2 _ (by decide) (by omega), rfl⟩, ⟨q 3 _ (by decide) (by omega), rfl⟩, ⟨q 4 _ (by decide) (by omega), rfl⟩⟩
theorem lz_sub {L : Nat} (h : L ≤ 2560) : (Int32.ofNat L - Int32.ofInt 5).toInt = (L : Int) - 5 := by
  rw [Int32.toInt_sub, show (Int32.ofNat L).toInt = (L : Int) from mm_nt (by omega), show (Int32.ofInt 5).toInt = 5 by decide]
  exact Int.bmod_eq_of_le (by omega) (by omega)
def lz_Q (r : Value) (h : mm_H) : Prop := r = .int 1 ∧ mm_t h ≤ 600000 ∧ mm_s h ≤ 7302250
set_option maxRecDepth 100000 in
theorem lz_loop {ro : mm_Ro} {L : Nat} (e : (ro 0).1 = L) (hL : L ≤ 2560) : ∀ (n i : Nat) (h : mm_H), i + n = 512 → rr ro h → mm_t h ≤ 123 + 8 * i → mm_s h ≤ 4000 + 66 * i → mm_go ro 9 mm_m_La_law 18 [.retAddr 0, .ref 1, .ref 80, .int (nI (5 * i))] [] h lz_Q := by
  intro n
  induction n with
  | zero =>
    intro i h hi R t s
    refine mm_go_from mm_hL (And.intro (fun c => mm_go_from mm_hL ?_) (fun c => ?_))
    · exact ⟨Or.inr rfl, rfl, by omega, by omega⟩
    · exfalso
      have c' : ¬ (Int32.ofNat (ro 0).1 - Int32.ofInt 5).toInt < (nI (5 * i)).toInt := c
      rw [e, lz_sub hL, mm_nt (by omega)] at c'
      omega
  | succ n ih =>
    intro i h hi R t s
    refine mm_go_from mm_hL (And.intro (fun c => mm_go_from mm_hL ?_) (fun c => ?_))
    · exact ⟨Or.inr rfl, rfl, by omega, by omega⟩
    · have c' : ¬ (Int32.ofNat (ro 0).1 - Int32.ofInt 5).toInt < (nI (5 * i)).toInt := c
      rw [e, lz_sub hL, mm_nt (by omega)] at c'
      have lt : 5 * i + 5 ≤ L := by omega
      obtain ⟨y1, y2, y3, y4, V⟩ := lz_lv e lt hL
      have K : ∀ h', rr_P ro h h' → mm_go ro 9 mm_m_La_law 815 [.retAddr 0, .ref 1, .ref 80, .int (nI (5 * i))] [] h' lz_Q := by
        intro h' p
        obtain ⟨p1, p2, p3⟩ := p
        have w := ih (i + 1) h' (by omega) p1 (by omega) (by omega)
        have e5 : nI (5 * (i + 1)) = nI (5 * i) + Int32.ofInt 5 := (lz_add (k := 5) (by decide)).symm
        rw [e5] at w
        exact mm_go_from mm_hL w
      refine And.intro (mm_inb L e (mm_nb (by omega) (by omega))) (fun y _ => ?_)
      refine And.intro (fun _ => K h (rr_nop R)) (And.intro (by decide) ?_)
      exact ⟨fun _ => lc_cls V R K, fun _ => lc_field V R K, fun _ => lc_method V R K, fun _ => lc_param V R K, fun _ => lc_result V R K, fun _ => lc_builtIn V R K, fun _ => lc_add V R K, fun _ => lc_guard V R K, fun _ => lc_wipe V R K, fun _ => lc_check V R K, fun _ => lc_load V R K, fun _ => lc_isLoaded V R K, fun _ => lc_place V R K, fun _ => lc_frame V R K, fun _ => lc_input V R K, fun _ => lc_run V R K, fun _ => lc_value V R K, fun _ => lc_output V R K, fun _ => lc_told V R K, trivial⟩
theorem run_up {ms : List mm_M} {ro : mm_Ro} {n : Nat} : ∀ d, mm_le (mm_run ms ro d n) (mm_run ms ro (d + 1) n) := by
  intro d
  induction d with
  | zero => intro z As h x hr; cases hr
  | succ d ih =>
    intro z As h x hr
    unfold mm_run at hr
    unfold mm_run
    split at hr
    · cases hr
    · split at hr
      · rename_i hc
        rw [if_pos hc]
        exact mm_ex_le ih _ _ _ _ _ _ _ (Nat.le_refl _) hr
      · cases hr
theorem run_up3 {ms : List mm_M} {ro : mm_Ro} {n d : Nat} : mm_le (mm_run ms ro d n) (mm_run ms ro (d + 3) n) := fun z As h x hr => run_up (d + 2) z As h x (run_up (d + 1) z As h x (run_up d z As h x hr))
theorem ev_up3 {ro : mm_Ro} {d z : Nat} {As : List Value} {h : mm_H} {Q : Value → mm_H → Prop} (v : mm_ev ro d z As h Q) : mm_ev ro (d + 3) z As h Q := by
  obtain ⟨n, r, h', e1, e2⟩ := v
  exact ⟨n, r, h', run_up3 _ _ _ _ e1, e2⟩
theorem iX_ok : mm_t mm_iX = 79 ∧ mm_k mm_iX 1 = 1 ∧ mm_t mm_iM = 123 ∧ mm_s mm_iM ≤ 4000 := by decide +kernel
theorem ev_iX {ro : mm_Ro} {Q : Value → mm_H → Prop} (q : ∀ r, Q r mm_iX) : mm_ev ro 9 n_Ga_init [.ref 1] mm_h1 Q := by
  refine ev_up3 (d := 6) (mm_ev0 3000 mm_init_ok.1 (fun r h' e => ?_))
  have : mm_iX = h' := by
    unfold mm_iX
    rw [e]
    rfl
  rw [← this]
  exact q r
theorem ev_iM {ro : mm_Ro} {Q : Value → mm_H → Prop} (q : ∀ r, Q r mm_iM) : mm_ev ro 9 n_Mo_init [.ref 80] (mm_new mm_iX 10 61) Q := by
  refine ev_up3 (d := 6) (mm_ev0 3000 mm_init_ok.2.2.1 (fun r h' e => ?_))
  have : mm_iM = h' := by
    unfold mm_iM
    rw [e]
    rfl
  rw [← this]
  exact q r
theorem lz_new {h : mm_H} {k n : Nat} : mm_k (mm_new h k n) (mm_t h + 1) = k := by
  show mm_u1 (mm_k h) (mm_t h + 1) k (mm_t h + 1) = k
  unfold mm_u1
  exact if_pos rfl
set_option maxRecDepth 100000 in
theorem lz_pre {ro : mm_Ro} {h0 hx hm : mm_H} {Q : Value → mm_H → Prop} (t0 : mm_t h0 = 0) (a : ∀ Q : Value → mm_H → Prop, (∀ r, Q r hx) → mm_ev ro 9 n_Ga_init [.ref 1] (mm_new h0 1 4) Q) (t1 : mm_t hx = 79) (b : ∀ Q : Value → mm_H → Prop, (∀ r, Q r hm) → mm_ev ro 9 n_Mo_init [.ref 80] (mm_new hx 10 61) Q) (K : mm_go ro 9 mm_m_La_law 18 [.retAddr 0, .ref 1, .ref 80, .int (nI 0)] [] hm Q) : mm_go ro 9 mm_m_La_law 0 [.retAddr 0, .null, .null, .null] [] h0 Q := by
  have k1 := lz_new (h := h0) (k := 1) (n := 4)
  have k2 := lz_new (h := hx) (k := 10) (n := 61)
  rw [t0] at k1
  rw [t1] at k2
  refine mm_go_at 8 mm_hL ?_
  have w8 : mm_go ro 9 mm_m_La_law 8 [.retAddr 0, .ref 1, .null, .null] [] hx Q := by
    refine mm_go_at 18 mm_hL ?_
    show (9 : Nat) < 10 ∧ mm_wp ro 9 mm_m_La_law Q 18 (mm_from mm_m_La_law 11) [.retAddr 0, .ref 1, .null, .null] [.ref (mm_t hx + 1)] (mm_new hx 10 61)
    rw [t1]
    exact And.intro (by decide) (And.intro ⟨rfl, k2⟩ (b _ (fun r => K)))
  show (0 : Nat) < 10 ∧ mm_wp ro 9 mm_m_La_law Q 8 (mm_from mm_m_La_law 3) [.retAddr 0, .null, .null, .null] [.ref (mm_t h0 + 1)] (mm_new h0 1 4)
  rw [t0]
  exact And.intro (by decide) (And.intro ⟨rfl, k1⟩ (a _ (fun r => w8)))
/-- LAW: every script is answered alike -/
theorem lz_all {ro : mm_Ro} {L : Nat} (RO : lx_RO ro) (e : (ro 0).1 = L) (hL : L ≤ 2560) : mm_go ro 9 mm_m_La_law 0 [.retAddr 0, .null, .null, .null] [] mm_h0 lz_Q := by
  obtain ⟨t1, k1, t2, s2⟩ := iX_ok
  exact lz_pre rfl (fun Q q => ev_iX q) t1 (fun Q q => ev_iM q) (lz_loop e hL 512 0 mm_iM rfl (i0_rr RO) (by omega) (by omega))
