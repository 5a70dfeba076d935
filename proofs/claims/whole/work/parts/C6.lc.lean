/-! LAW: the cases of its switch (by wip/whole/gen_law.py) -/
def lv (ro : mm_Ro) (j : Nat) (y1 y2 y3 y4 : Int32) : Prop := (mm_in (nI j + Int32.ofInt 1) (ro 0).1 ∧ (ro 0).2 (nI j + Int32.ofInt 1).toNatClampNeg = y1) ∧ (mm_in (nI j + Int32.ofInt 2) (ro 0).1 ∧ (ro 0).2 (nI j + Int32.ofInt 2).toNatClampNeg = y2) ∧ (mm_in (nI j + Int32.ofInt 3) (ro 0).1 ∧ (ro 0).2 (nI j + Int32.ofInt 3).toNatClampNeg = y3) ∧ (mm_in (nI j + Int32.ofInt 4) (ro 0).1 ∧ (ro 0).2 (nI j + Int32.ofInt 4).toNatClampNeg = y4)
set_option maxRecDepth 100000 in
theorem lc_cls {ro : mm_Ro} {h : mm_H} {j : Nat} {y1 y2 y3 y4 : Int32} {Q : Value → mm_H → Prop} (i : lv ro j y1 y2 y3 y4) (R : rr ro h) (K : ∀ h', rr_P ro h h' → mm_go ro 9 mm_m_La_law 815 [.retAddr 0, .ref 1, .ref 80, .int (nI j)] [] h' Q) : mm_go ro 9 mm_m_La_law 124 [.retAddr 0, .ref 1, .ref 80, .int (nI j)] [] h Q := by
  obtain ⟨⟨i1, e1⟩, ⟨i2, e2⟩, ⟨i3, e3⟩, ⟨i4, e4⟩⟩ := i
  have k := rr_k R
  refine mm_go_from mm_hL ((And.intro i1 (mm_rf e1 ?_)))
  refine And.intro ⟨rfl, k.1⟩ (rr_two R (rr_cls R) (fun v h1 k8 ev => ?_))
  refine (And.intro i1 (mm_rf e1 ?_))
  refine And.intro ⟨rfl, k8⟩ (ev _ (fun h2 p => ?_))
  exact And.intro (fun _ => K h2 p) (fun c => absurd rfl c)
set_option maxRecDepth 100000 in
theorem lc_field {ro : mm_Ro} {h : mm_H} {j : Nat} {y1 y2 y3 y4 : Int32} {Q : Value → mm_H → Prop} (i : lv ro j y1 y2 y3 y4) (R : rr ro h) (K : ∀ h', rr_P ro h h' → mm_go ro 9 mm_m_La_law 815 [.retAddr 0, .ref 1, .ref 80, .int (nI j)] [] h' Q) : mm_go ro 9 mm_m_La_law 147 [.retAddr 0, .ref 1, .ref 80, .int (nI j)] [] h Q := by
  obtain ⟨⟨i1, e1⟩, ⟨i2, e2⟩, ⟨i3, e3⟩, ⟨i4, e4⟩⟩ := i
  have k := rr_k R
  refine mm_go_from mm_hL ((And.intro i1 (mm_rf e1 (And.intro i2 (mm_rf e2 (And.intro i3 (mm_rf e3 (And.intro (fun c => mm_go_from mm_hL ?_) (fun c => mm_go_from mm_hL ?_)))))))))
  · refine (And.intro i4 (mm_rf e4 ?_))
    refine And.intro ⟨rfl, k.1⟩ (rr_two R (rr_field (Or.inl rfl) R) (fun v h1 k8 ev => ?_))
    refine (And.intro i1 (mm_rf e1 (And.intro i2 (mm_rf e2 (And.intro i3 (mm_rf e3 (And.intro (fun c' => mm_go_from mm_hL ?_) (fun c' => absurd c c'))))))))
    refine (And.intro i4 (mm_rf e4 ?_))
    refine And.intro ⟨rfl, k8⟩ (ev _ (fun h2 p => ?_))
    exact And.intro (fun _ => K h2 p) (fun c => absurd rfl c)
  · refine (And.intro i4 (mm_rf e4 ?_))
    refine And.intro ⟨rfl, k.1⟩ (rr_two R (rr_field (Or.inr rfl) R) (fun v h1 k8 ev => ?_))
    refine (And.intro i1 (mm_rf e1 (And.intro i2 (mm_rf e2 (And.intro i3 (mm_rf e3 (And.intro (fun c' => absurd c' c) (fun c' => mm_go_from mm_hL ?_))))))))
    refine (And.intro i4 (mm_rf e4 ?_))
    refine And.intro ⟨rfl, k8⟩ (ev _ (fun h2 p => ?_))
    exact And.intro (fun _ => K h2 p) (fun c => absurd rfl c)
set_option maxRecDepth 100000 in
theorem lc_method {ro : mm_Ro} {h : mm_H} {j : Nat} {y1 y2 y3 y4 : Int32} {Q : Value → mm_H → Prop} (i : lv ro j y1 y2 y3 y4) (R : rr ro h) (K : ∀ h', rr_P ro h h' → mm_go ro 9 mm_m_La_law 815 [.retAddr 0, .ref 1, .ref 80, .int (nI j)] [] h' Q) : mm_go ro 9 mm_m_La_law 216 [.retAddr 0, .ref 1, .ref 80, .int (nI j)] [] h Q := by
  obtain ⟨⟨i1, e1⟩, ⟨i2, e2⟩, ⟨i3, e3⟩, ⟨i4, e4⟩⟩ := i
  have k := rr_k R
  refine mm_go_from mm_hL ((And.intro i1 (mm_rf e1 (And.intro i2 (mm_rf e2 (And.intro i3 (mm_rf e3 (And.intro (fun c => mm_go_from mm_hL ?_) (fun c => mm_go_from mm_hL ?_)))))))))
  · refine And.intro ⟨rfl, k.1⟩ (rr_two R (rr_method (Or.inl rfl) R) (fun v h1 k8 ev => ?_))
    refine (And.intro i1 (mm_rf e1 (And.intro i2 (mm_rf e2 (And.intro i3 (mm_rf e3 (And.intro (fun c' => mm_go_from mm_hL ?_) (fun c' => absurd c c'))))))))
    refine And.intro ⟨rfl, k8⟩ (ev _ (fun h2 p => ?_))
    exact And.intro (fun _ => K h2 p) (fun c => absurd rfl c)
  · refine And.intro ⟨rfl, k.1⟩ (rr_two R (rr_method (Or.inr rfl) R) (fun v h1 k8 ev => ?_))
    refine (And.intro i1 (mm_rf e1 (And.intro i2 (mm_rf e2 (And.intro i3 (mm_rf e3 (And.intro (fun c' => absurd c' c) (fun c' => mm_go_from mm_hL ?_))))))))
    refine And.intro ⟨rfl, k8⟩ (ev _ (fun h2 p => ?_))
    exact And.intro (fun _ => K h2 p) (fun c => absurd rfl c)
set_option maxRecDepth 100000 in
theorem lc_param {ro : mm_Ro} {h : mm_H} {j : Nat} {y1 y2 y3 y4 : Int32} {Q : Value → mm_H → Prop} (i : lv ro j y1 y2 y3 y4) (R : rr ro h) (K : ∀ h', rr_P ro h h' → mm_go ro 9 mm_m_La_law 815 [.retAddr 0, .ref 1, .ref 80, .int (nI j)] [] h' Q) : mm_go ro 9 mm_m_La_law 275 [.retAddr 0, .ref 1, .ref 80, .int (nI j)] [] h Q := by
  obtain ⟨⟨i1, e1⟩, ⟨i2, e2⟩, ⟨i3, e3⟩, ⟨i4, e4⟩⟩ := i
  have k := rr_k R
  refine mm_go_from mm_hL ((And.intro i1 (mm_rf e1 (And.intro i2 (mm_rf e2 (And.intro i3 (mm_rf e3 (And.intro (fun c => mm_go_from mm_hL ?_) (fun c => mm_go_from mm_hL ?_)))))))))
  · refine (And.intro i4 (mm_rf e4 ?_))
    refine And.intro ⟨rfl, k.1⟩ (rr_two R (rr_param (Or.inl rfl) R) (fun v h1 k8 ev => ?_))
    refine (And.intro i1 (mm_rf e1 (And.intro i2 (mm_rf e2 (And.intro i3 (mm_rf e3 (And.intro (fun c' => mm_go_from mm_hL ?_) (fun c' => absurd c c'))))))))
    refine (And.intro i4 (mm_rf e4 ?_))
    refine And.intro ⟨rfl, k8⟩ (ev _ (fun h2 p => ?_))
    exact And.intro (fun _ => K h2 p) (fun c => absurd rfl c)
  · refine (And.intro i4 (mm_rf e4 ?_))
    refine And.intro ⟨rfl, k.1⟩ (rr_two R (rr_param (Or.inr rfl) R) (fun v h1 k8 ev => ?_))
    refine (And.intro i1 (mm_rf e1 (And.intro i2 (mm_rf e2 (And.intro i3 (mm_rf e3 (And.intro (fun c' => absurd c' c) (fun c' => mm_go_from mm_hL ?_))))))))
    refine (And.intro i4 (mm_rf e4 ?_))
    refine And.intro ⟨rfl, k8⟩ (ev _ (fun h2 p => ?_))
    exact And.intro (fun _ => K h2 p) (fun c => absurd rfl c)
set_option maxRecDepth 100000 in
theorem lc_result {ro : mm_Ro} {h : mm_H} {j : Nat} {y1 y2 y3 y4 : Int32} {Q : Value → mm_H → Prop} (i : lv ro j y1 y2 y3 y4) (R : rr ro h) (K : ∀ h', rr_P ro h h' → mm_go ro 9 mm_m_La_law 815 [.retAddr 0, .ref 1, .ref 80, .int (nI j)] [] h' Q) : mm_go ro 9 mm_m_La_law 344 [.retAddr 0, .ref 1, .ref 80, .int (nI j)] [] h Q := by
  obtain ⟨⟨i1, e1⟩, ⟨i2, e2⟩, ⟨i3, e3⟩, ⟨i4, e4⟩⟩ := i
  have k := rr_k R
  refine mm_go_from mm_hL ((And.intro i1 (mm_rf e1 (And.intro i2 (mm_rf e2 (And.intro i3 (mm_rf e3 (And.intro (fun c => mm_go_from mm_hL ?_) (fun c => mm_go_from mm_hL ?_)))))))))
  · refine (And.intro i4 (mm_rf e4 ?_))
    refine And.intro ⟨rfl, k.1⟩ (rr_two R (rr_result (Or.inl rfl) R) (fun v h1 k8 ev => ?_))
    refine (And.intro i1 (mm_rf e1 (And.intro i2 (mm_rf e2 (And.intro i3 (mm_rf e3 (And.intro (fun c' => mm_go_from mm_hL ?_) (fun c' => absurd c c'))))))))
    refine (And.intro i4 (mm_rf e4 ?_))
    refine And.intro ⟨rfl, k8⟩ (ev _ (fun h2 p => ?_))
    exact And.intro (fun _ => K h2 p) (fun c => absurd rfl c)
  · refine (And.intro i4 (mm_rf e4 ?_))
    refine And.intro ⟨rfl, k.1⟩ (rr_two R (rr_result (Or.inr rfl) R) (fun v h1 k8 ev => ?_))
    refine (And.intro i1 (mm_rf e1 (And.intro i2 (mm_rf e2 (And.intro i3 (mm_rf e3 (And.intro (fun c' => absurd c' c) (fun c' => mm_go_from mm_hL ?_))))))))
    refine (And.intro i4 (mm_rf e4 ?_))
    refine And.intro ⟨rfl, k8⟩ (ev _ (fun h2 p => ?_))
    exact And.intro (fun _ => K h2 p) (fun c => absurd rfl c)
set_option maxRecDepth 100000 in
theorem lc_builtIn {ro : mm_Ro} {h : mm_H} {j : Nat} {y1 y2 y3 y4 : Int32} {Q : Value → mm_H → Prop} (i : lv ro j y1 y2 y3 y4) (R : rr ro h) (K : ∀ h', rr_P ro h h' → mm_go ro 9 mm_m_La_law 815 [.retAddr 0, .ref 1, .ref 80, .int (nI j)] [] h' Q) : mm_go ro 9 mm_m_La_law 413 [.retAddr 0, .ref 1, .ref 80, .int (nI j)] [] h Q := by
  obtain ⟨⟨i1, e1⟩, ⟨i2, e2⟩, ⟨i3, e3⟩, ⟨i4, e4⟩⟩ := i
  have k := rr_k R
  refine mm_go_from mm_hL ((And.intro i1 (mm_rf e1 (And.intro i2 (mm_rf e2 ?_)))))
  refine And.intro ⟨rfl, k.1⟩ (rr_two R (rr_builtIn R) (fun v h1 k8 ev => ?_))
  refine (And.intro i1 (mm_rf e1 (And.intro i2 (mm_rf e2 ?_))))
  refine And.intro ⟨rfl, k8⟩ (ev _ (fun h2 p => ?_))
  exact And.intro (fun _ => K h2 p) (fun c => absurd rfl c)
set_option maxRecDepth 100000 in
theorem lc_add {ro : mm_Ro} {h : mm_H} {j : Nat} {y1 y2 y3 y4 : Int32} {Q : Value → mm_H → Prop} (i : lv ro j y1 y2 y3 y4) (R : rr ro h) (K : ∀ h', rr_P ro h h' → mm_go ro 9 mm_m_La_law 815 [.retAddr 0, .ref 1, .ref 80, .int (nI j)] [] h' Q) : mm_go ro 9 mm_m_La_law 446 [.retAddr 0, .ref 1, .ref 80, .int (nI j)] [] h Q := by
  obtain ⟨⟨i1, e1⟩, ⟨i2, e2⟩, ⟨i3, e3⟩, ⟨i4, e4⟩⟩ := i
  have k := rr_k R
  refine mm_go_from mm_hL ((And.intro i1 (mm_rf e1 (And.intro i2 (mm_rf e2 (And.intro i3 (mm_rf e3 ?_)))))))
  refine And.intro ⟨rfl, k.1⟩ (rr_two R (rr_add R) (fun v h1 k8 ev => ?_))
  refine (And.intro i1 (mm_rf e1 (And.intro i2 (mm_rf e2 (And.intro i3 (mm_rf e3 ?_))))))
  refine And.intro ⟨rfl, k8⟩ (ev _ (fun h2 p => ?_))
  exact And.intro (fun _ => K h2 p) (fun c => absurd rfl c)
set_option maxRecDepth 100000 in
theorem lc_guard {ro : mm_Ro} {h : mm_H} {j : Nat} {y1 y2 y3 y4 : Int32} {Q : Value → mm_H → Prop} (i : lv ro j y1 y2 y3 y4) (R : rr ro h) (K : ∀ h', rr_P ro h h' → mm_go ro 9 mm_m_La_law 815 [.retAddr 0, .ref 1, .ref 80, .int (nI j)] [] h' Q) : mm_go ro 9 mm_m_La_law 489 [.retAddr 0, .ref 1, .ref 80, .int (nI j)] [] h Q := by
  obtain ⟨⟨i1, e1⟩, ⟨i2, e2⟩, ⟨i3, e3⟩, ⟨i4, e4⟩⟩ := i
  have k := rr_k R
  refine mm_go_from mm_hL ((And.intro i1 (mm_rf e1 (And.intro i2 (mm_rf e2 (And.intro i3 (mm_rf e3 (And.intro i4 (mm_rf e4 ?_)))))))))
  refine And.intro ⟨rfl, k.1⟩ (rr_two R (rr_guard R) (fun v h1 k8 ev => ?_))
  refine (And.intro i1 (mm_rf e1 (And.intro i2 (mm_rf e2 (And.intro i3 (mm_rf e3 (And.intro i4 (mm_rf e4 ?_))))))))
  refine And.intro ⟨rfl, k8⟩ (ev _ (fun h2 p => ?_))
  exact And.intro (fun _ => K h2 p) (fun c => absurd rfl c)
set_option maxRecDepth 100000 in
theorem lc_wipe {ro : mm_Ro} {h : mm_H} {j : Nat} {y1 y2 y3 y4 : Int32} {Q : Value → mm_H → Prop} (i : lv ro j y1 y2 y3 y4) (R : rr ro h) (K : ∀ h', rr_P ro h h' → mm_go ro 9 mm_m_La_law 815 [.retAddr 0, .ref 1, .ref 80, .int (nI j)] [] h' Q) : mm_go ro 9 mm_m_La_law 542 [.retAddr 0, .ref 1, .ref 80, .int (nI j)] [] h Q := by
  obtain ⟨⟨i1, e1⟩, ⟨i2, e2⟩, ⟨i3, e3⟩, ⟨i4, e4⟩⟩ := i
  have k := rr_k R
  refine mm_go_from mm_hL ((And.intro i1 (mm_rf e1 ?_)))
  refine And.intro ⟨rfl, k.1⟩ (rr_two R (rr_wipe R) (fun v h1 k8 ev => ?_))
  refine (And.intro i1 (mm_rf e1 ?_))
  refine And.intro ⟨rfl, k8⟩ (ev _ (fun h2 p => ?_))
  exact And.intro (fun _ => K h2 p) (fun c => absurd rfl c)
set_option maxRecDepth 100000 in
theorem lc_check {ro : mm_Ro} {h : mm_H} {j : Nat} {y1 y2 y3 y4 : Int32} {Q : Value → mm_H → Prop} (i : lv ro j y1 y2 y3 y4) (R : rr ro h) (K : ∀ h', rr_P ro h h' → mm_go ro 9 mm_m_La_law 815 [.retAddr 0, .ref 1, .ref 80, .int (nI j)] [] h' Q) : mm_go ro 9 mm_m_La_law 565 [.retAddr 0, .ref 1, .ref 80, .int (nI j)] [] h Q := by
  obtain ⟨⟨i1, e1⟩, ⟨i2, e2⟩, ⟨i3, e3⟩, ⟨i4, e4⟩⟩ := i
  have k := rr_k R
  refine mm_go_from mm_hL ((And.intro i1 (mm_rf e1 ?_)))
  refine And.intro ⟨rfl, k.1⟩ (rr_two R (rr_check R) (fun v h1 k8 ev => ?_))
  refine (And.intro i1 (mm_rf e1 ?_))
  refine And.intro ⟨rfl, k8⟩ (ev _ (fun h2 p => ?_))
  exact And.intro (fun _ => K h2 p) (fun c => absurd rfl c)
set_option maxRecDepth 100000 in
theorem lc_load {ro : mm_Ro} {h : mm_H} {j : Nat} {y1 y2 y3 y4 : Int32} {Q : Value → mm_H → Prop} (i : lv ro j y1 y2 y3 y4) (R : rr ro h) (K : ∀ h', rr_P ro h h' → mm_go ro 9 mm_m_La_law 815 [.retAddr 0, .ref 1, .ref 80, .int (nI j)] [] h' Q) : mm_go ro 9 mm_m_La_law 588 [.retAddr 0, .ref 1, .ref 80, .int (nI j)] [] h Q := by
  obtain ⟨⟨i1, e1⟩, ⟨i2, e2⟩, ⟨i3, e3⟩, ⟨i4, e4⟩⟩ := i
  have k := rr_k R
  refine mm_go_from mm_hL ((And.intro i1 (mm_rf e1 ?_)))
  refine And.intro ⟨rfl, k.1⟩ (rr_two R (rr_load R) (fun v h1 k8 ev => ?_))
  refine (And.intro i1 (mm_rf e1 ?_))
  refine And.intro ⟨rfl, k8⟩ (ev _ (fun h2 p => ?_))
  exact And.intro (fun _ => K h2 p) (fun c => absurd rfl c)
set_option maxRecDepth 100000 in
theorem lc_isLoaded {ro : mm_Ro} {h : mm_H} {j : Nat} {y1 y2 y3 y4 : Int32} {Q : Value → mm_H → Prop} (i : lv ro j y1 y2 y3 y4) (R : rr ro h) (K : ∀ h', rr_P ro h h' → mm_go ro 9 mm_m_La_law 815 [.retAddr 0, .ref 1, .ref 80, .int (nI j)] [] h' Q) : mm_go ro 9 mm_m_La_law 611 [.retAddr 0, .ref 1, .ref 80, .int (nI j)] [] h Q := by
  obtain ⟨⟨i1, e1⟩, ⟨i2, e2⟩, ⟨i3, e3⟩, ⟨i4, e4⟩⟩ := i
  have k := rr_k R
  refine mm_go_from mm_hL ((And.intro i1 (mm_rf e1 ?_)))
  refine And.intro ⟨rfl, k.1⟩ (rr_two R (rr_isLoaded R) (fun v h1 k8 ev => ?_))
  refine (And.intro i1 (mm_rf e1 ?_))
  refine And.intro ⟨rfl, k8⟩ (ev _ (fun h2 p => ?_))
  exact And.intro (fun _ => K h2 p) (fun c => absurd rfl c)
set_option maxRecDepth 100000 in
theorem lc_place {ro : mm_Ro} {h : mm_H} {j : Nat} {y1 y2 y3 y4 : Int32} {Q : Value → mm_H → Prop} (i : lv ro j y1 y2 y3 y4) (R : rr ro h) (K : ∀ h', rr_P ro h h' → mm_go ro 9 mm_m_La_law 815 [.retAddr 0, .ref 1, .ref 80, .int (nI j)] [] h' Q) : mm_go ro 9 mm_m_La_law 634 [.retAddr 0, .ref 1, .ref 80, .int (nI j)] [] h Q := by
  obtain ⟨⟨i1, e1⟩, ⟨i2, e2⟩, ⟨i3, e3⟩, ⟨i4, e4⟩⟩ := i
  have k := rr_k R
  refine mm_go_from mm_hL (?_)
  refine And.intro ⟨rfl, k.1⟩ (rr_two R (rr_place R) (fun v h1 k8 ev => ?_))
  refine And.intro ⟨rfl, k8⟩ (ev _ (fun h2 p => ?_))
  exact And.intro (fun _ => K h2 p) (fun c => absurd rfl c)
set_option maxRecDepth 100000 in
theorem lc_frame {ro : mm_Ro} {h : mm_H} {j : Nat} {y1 y2 y3 y4 : Int32} {Q : Value → mm_H → Prop} (i : lv ro j y1 y2 y3 y4) (R : rr ro h) (K : ∀ h', rr_P ro h h' → mm_go ro 9 mm_m_La_law 815 [.retAddr 0, .ref 1, .ref 80, .int (nI j)] [] h' Q) : mm_go ro 9 mm_m_La_law 647 [.retAddr 0, .ref 1, .ref 80, .int (nI j)] [] h Q := by
  obtain ⟨⟨i1, e1⟩, ⟨i2, e2⟩, ⟨i3, e3⟩, ⟨i4, e4⟩⟩ := i
  have k := rr_k R
  refine mm_go_from mm_hL ((And.intro i1 (mm_rf e1 (And.intro i2 (mm_rf e2 (And.intro i3 (mm_rf e3 ?_)))))))
  refine And.intro ⟨rfl, k.1⟩ (rr_two R (rr_frame R) (fun v h1 k8 ev => ?_))
  refine (And.intro i1 (mm_rf e1 (And.intro i2 (mm_rf e2 (And.intro i3 (mm_rf e3 ?_))))))
  refine And.intro ⟨rfl, k8⟩ (ev _ (fun h2 p => ?_))
  exact And.intro (fun _ => K h2 p) (fun c => absurd rfl c)
set_option maxRecDepth 100000 in
theorem lc_input {ro : mm_Ro} {h : mm_H} {j : Nat} {y1 y2 y3 y4 : Int32} {Q : Value → mm_H → Prop} (i : lv ro j y1 y2 y3 y4) (R : rr ro h) (K : ∀ h', rr_P ro h h' → mm_go ro 9 mm_m_La_law 815 [.retAddr 0, .ref 1, .ref 80, .int (nI j)] [] h' Q) : mm_go ro 9 mm_m_La_law 690 [.retAddr 0, .ref 1, .ref 80, .int (nI j)] [] h Q := by
  obtain ⟨⟨i1, e1⟩, ⟨i2, e2⟩, ⟨i3, e3⟩, ⟨i4, e4⟩⟩ := i
  have k := rr_k R
  refine mm_go_from mm_hL ((And.intro i1 (mm_rf e1 ?_)))
  refine And.intro ⟨rfl, k.1⟩ (rr_two R (rr_input R) (fun v h1 k8 ev => ?_))
  refine (And.intro i1 (mm_rf e1 ?_))
  refine And.intro ⟨rfl, k8⟩ (ev _ (fun h2 p => ?_))
  exact And.intro (fun _ => K h2 p) (fun c => absurd rfl c)
set_option maxRecDepth 100000 in
theorem lc_run {ro : mm_Ro} {h : mm_H} {j : Nat} {y1 y2 y3 y4 : Int32} {Q : Value → mm_H → Prop} (i : lv ro j y1 y2 y3 y4) (R : rr ro h) (K : ∀ h', rr_P ro h h' → mm_go ro 9 mm_m_La_law 815 [.retAddr 0, .ref 1, .ref 80, .int (nI j)] [] h' Q) : mm_go ro 9 mm_m_La_law 713 [.retAddr 0, .ref 1, .ref 80, .int (nI j)] [] h Q := by
  obtain ⟨⟨i1, e1⟩, ⟨i2, e2⟩, ⟨i3, e3⟩, ⟨i4, e4⟩⟩ := i
  have k := rr_k R
  refine mm_go_from mm_hL ((And.intro i1 (mm_rf e1 (And.intro i2 (mm_rf e2 (And.intro i3 (mm_rf e3 ?_)))))))
  refine And.intro ⟨rfl, k.1⟩ (rr_two R (rr_run R) (fun v h1 k8 ev => ?_))
  refine (And.intro i1 (mm_rf e1 (And.intro i2 (mm_rf e2 (And.intro i3 (mm_rf e3 ?_))))))
  refine And.intro ⟨rfl, k8⟩ (ev _ (fun h2 p => ?_))
  exact And.intro (fun _ => K h2 p) (fun c => absurd rfl c)
set_option maxRecDepth 100000 in
theorem lc_value {ro : mm_Ro} {h : mm_H} {j : Nat} {y1 y2 y3 y4 : Int32} {Q : Value → mm_H → Prop} (i : lv ro j y1 y2 y3 y4) (R : rr ro h) (K : ∀ h', rr_P ro h h' → mm_go ro 9 mm_m_La_law 815 [.retAddr 0, .ref 1, .ref 80, .int (nI j)] [] h' Q) : mm_go ro 9 mm_m_La_law 756 [.retAddr 0, .ref 1, .ref 80, .int (nI j)] [] h Q := by
  obtain ⟨⟨i1, e1⟩, ⟨i2, e2⟩, ⟨i3, e3⟩, ⟨i4, e4⟩⟩ := i
  have k := rr_k R
  refine mm_go_from mm_hL (?_)
  refine And.intro ⟨rfl, k.1⟩ (rr_two R (rr_value R) (fun v h1 k8 ev => ?_))
  refine And.intro ⟨rfl, k8⟩ (ev _ (fun h2 p => ?_))
  exact And.intro (fun _ => K h2 p) (fun c => absurd rfl c)
set_option maxRecDepth 100000 in
theorem lc_output {ro : mm_Ro} {h : mm_H} {j : Nat} {y1 y2 y3 y4 : Int32} {Q : Value → mm_H → Prop} (i : lv ro j y1 y2 y3 y4) (R : rr ro h) (K : ∀ h', rr_P ro h h' → mm_go ro 9 mm_m_La_law 815 [.retAddr 0, .ref 1, .ref 80, .int (nI j)] [] h' Q) : mm_go ro 9 mm_m_La_law 769 [.retAddr 0, .ref 1, .ref 80, .int (nI j)] [] h Q := by
  obtain ⟨⟨i1, e1⟩, ⟨i2, e2⟩, ⟨i3, e3⟩, ⟨i4, e4⟩⟩ := i
  have k := rr_k R
  refine mm_go_from mm_hL ((And.intro i1 (mm_rf e1 ?_)))
  refine And.intro ⟨rfl, k.1⟩ (rr_two R (rr_output R) (fun v h1 k8 ev => ?_))
  refine (And.intro i1 (mm_rf e1 ?_))
  refine And.intro ⟨rfl, k8⟩ (ev _ (fun h2 p => ?_))
  exact And.intro (fun _ => K h2 p) (fun c => absurd rfl c)
set_option maxRecDepth 100000 in
theorem lc_told {ro : mm_Ro} {h : mm_H} {j : Nat} {y1 y2 y3 y4 : Int32} {Q : Value → mm_H → Prop} (i : lv ro j y1 y2 y3 y4) (R : rr ro h) (K : ∀ h', rr_P ro h h' → mm_go ro 9 mm_m_La_law 815 [.retAddr 0, .ref 1, .ref 80, .int (nI j)] [] h' Q) : mm_go ro 9 mm_m_La_law 792 [.retAddr 0, .ref 1, .ref 80, .int (nI j)] [] h Q := by
  obtain ⟨⟨i1, e1⟩, ⟨i2, e2⟩, ⟨i3, e3⟩, ⟨i4, e4⟩⟩ := i
  have k := rr_k R
  refine mm_go_from mm_hL ((And.intro i1 (mm_rf e1 ?_)))
  refine And.intro ⟨rfl, k.1⟩ (rr_two R (rr_told R) (fun v h1 k8 ev => ?_))
  refine (And.intro i1 (mm_rf e1 ?_))
  refine And.intro ⟨rfl, k8⟩ (ev _ (fun h2 p => ?_))
  exact And.intro (fun _ => K h2 p) (fun c => absurd rfl c)
