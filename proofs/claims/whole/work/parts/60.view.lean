/-! THE REFERENCE WHILE IT LOOKS: a base, seen/place/changes, the frame at hand, heads and values of the frames that are kept (wip/whole/gen_view.py) -/
def lk_L (h0 : mm_H) (e : Int32 × Int32 × Int32) (c : mm_F) (hd : Nat → Int32 × Int32 × Int32) (sv : Nat → mm_V) : mm_H := (mm_k h0, (fun f a => if a = 80 then (if f = 608 then e.1 else if f = 609 then e.2.1 else if f = 610 then e.2.2 else if f = 611 then c.1 else if f = 612 then c.2.1 else if f = 613 then c.2.2.1 else mm_i h0 f a) else mm_i h0 f a), mm_r h0, mm_n h0, (fun a j => if a = 102 then (hd j).1 else if a = 103 then (hd j).2.1 else if a = 104 then (hd j).2.2 else if a = 105 then (sv j).1 else if a = 106 then (sv j).2.1 else if a = 107 then (sv j).2.2.2.1 else if a = 108 then (sv j).2.2.2.2 else if a = 109 then (sv j).2.2.1 else if a = 110 then (c.2.2.2 j).1 else if a = 111 then (c.2.2.2 j).2.1 else if a = 112 then (c.2.2.2 j).2.2.2.1 else if a = 113 then (c.2.2.2 j).2.2.2.2 else if a = 114 then (c.2.2.2 j).2.2.1 else mm_a h0 a j), mm_q h0, mm_t h0, mm_s h0)
def lk_hu (hd : Nat → Int32 × Int32 × Int32) (i : Nat) (x : Int32 × Int32 × Int32) : Nat → Int32 × Int32 × Int32 := fun j => if j = i then x else hd j
def lk_vw (h : mm_H) : mm_H := lk_L h (mm_i h 608 80, mm_i h 609 80, mm_i h 610 80) (mm_i h 611 80, mm_i h 612 80, mm_i h 613 80, fun v => (mm_a h 110 v, mm_a h 111 v, mm_a h 114 v, mm_a h 112 v, mm_a h 113 v)) (fun i => (mm_a h 102 i, mm_a h 103 i, mm_a h 104 i)) (fun x => (mm_a h 105 x, mm_a h 106 x, mm_a h 109 x, mm_a h 107 x, mm_a h 108 x))
theorem lk_H {k : Nat → Nat} {i i2 : Nat → Nat → Int32} {r : Nat → Nat → Nat} {n : Nat → Nat} {a a2 : Nat → Nat → Int32} {q : Nat → Nat → Nat} {t s : Nat} (hi : ∀ x y, i x y = i2 x y) (ha : ∀ x y, a x y = a2 x y) : (k, i, r, n, a, q, t, s) = ((k, i2, r, n, a2, q, t, s) : mm_H) := by
  rw [show i = i2 from funext (fun x => funext (hi x)), show a = a2 from funext (fun x => funext (ha x))]
theorem lw_set {h0 : mm_H} {e : Int32 × Int32 × Int32} {c : mm_F} {hd : Nat → Int32 × Int32 × Int32} {sv : Nat → mm_V} {j : Nat} {k r n w o : Int32} : mm_sa (mm_sa (mm_sa (mm_sa (mm_sa (lk_L h0 e c hd sv) 110 j k) 111 j r) 114 j n) 112 j w) 113 j o = lk_L h0 e (c.1, c.2.1, c.2.2.1, lk_up c.2.2.2 j (k, r, n, w, o)) hd sv := by
  refine lk_H (fun _ _ => rfl) (fun a b => ?_)
  by_cases hb : b = j
  · subst hb
    by_cases h110 : a = 110
    · subst h110; simp [mm_u, mm_a, mm_sa, lk_L, lk_up, lk_hu, lk_wo]
    by_cases h111 : a = 111
    · subst h111; simp [mm_u, mm_a, mm_sa, lk_L, lk_up, lk_hu, lk_wo]
    by_cases h114 : a = 114
    · subst h114; simp [mm_u, mm_a, mm_sa, lk_L, lk_up, lk_hu, lk_wo]
    by_cases h112 : a = 112
    · subst h112; simp [mm_u, mm_a, mm_sa, lk_L, lk_up, lk_hu, lk_wo]
    by_cases h113 : a = 113
    · subst h113; simp [mm_u, mm_a, mm_sa, lk_L, lk_up, lk_hu, lk_wo]
    simp [mm_u, mm_a, mm_sa, lk_L, lk_up, lk_hu, lk_wo, h110, h111, h114, h112, h113]
  · simp [mm_u, mm_a, mm_sa, lk_L, lk_up, lk_hu, lk_wo, hb]
theorem lw_keep {h0 : mm_H} {e : Int32 × Int32 × Int32} {c : mm_F} {hd : Nat → Int32 × Int32 × Int32} {sv : Nat → mm_V} {j : Nat} {k r n w o : Int32} : mm_sa (mm_sa (mm_sa (mm_sa (mm_sa (lk_L h0 e c hd sv) 105 j k) 106 j r) 109 j n) 107 j w) 108 j o = lk_L h0 e c hd (lk_up sv j (k, r, n, w, o)) := by
  refine lk_H (fun _ _ => rfl) (fun a b => ?_)
  by_cases hb : b = j
  · subst hb
    by_cases h105 : a = 105
    · subst h105; simp [mm_u, mm_a, mm_sa, lk_L, lk_up, lk_hu, lk_wo]
    by_cases h106 : a = 106
    · subst h106; simp [mm_u, mm_a, mm_sa, lk_L, lk_up, lk_hu, lk_wo]
    by_cases h109 : a = 109
    · subst h109; simp [mm_u, mm_a, mm_sa, lk_L, lk_up, lk_hu, lk_wo]
    by_cases h107 : a = 107
    · subst h107; simp [mm_u, mm_a, mm_sa, lk_L, lk_up, lk_hu, lk_wo]
    by_cases h108 : a = 108
    · subst h108; simp [mm_u, mm_a, mm_sa, lk_L, lk_up, lk_hu, lk_wo]
    simp [mm_u, mm_a, mm_sa, lk_L, lk_up, lk_hu, lk_wo, h105, h106, h109, h107, h108]
  · simp [mm_u, mm_a, mm_sa, lk_L, lk_up, lk_hu, lk_wo, hb]
theorem lw_o {h0 : mm_H} {e : Int32 × Int32 × Int32} {c : mm_F} {hd : Nat → Int32 × Int32 × Int32} {sv : Nat → mm_V} {j : Nat} {o : Int32} : mm_sa (lk_L h0 e c hd sv) 113 j o = lk_L h0 e (c.1, c.2.1, c.2.2.1, lk_up c.2.2.2 j (lk_wo (c.2.2.2 j) o)) hd sv := by
  refine lk_H (fun _ _ => rfl) (fun a b => ?_)
  by_cases hb : b = j
  · subst hb
    by_cases h113 : a = 113
    · subst h113; simp [mm_u, mm_a, mm_sa, lk_L, lk_up, lk_hu, lk_wo]
    simp [mm_u, mm_a, mm_sa, lk_L, lk_up, lk_hu, lk_wo, h113]
  · simp [mm_u, mm_a, mm_sa, lk_L, lk_up, lk_hu, lk_wo, hb]
theorem lw_k {h0 : mm_H} {e : Int32 × Int32 × Int32} {c : mm_F} {hd : Nat → Int32 × Int32 × Int32} {sv : Nat → mm_V} {j : Nat} {k : Int32} : mm_sa (lk_L h0 e c hd sv) 110 j k = lk_L h0 e (c.1, c.2.1, c.2.2.1, lk_up c.2.2.2 j (k, (c.2.2.2 j).2)) hd sv := by
  refine lk_H (fun _ _ => rfl) (fun a b => ?_)
  by_cases hb : b = j
  · subst hb
    by_cases h110 : a = 110
    · subst h110; simp [mm_u, mm_a, mm_sa, lk_L, lk_up, lk_hu, lk_wo]
    simp [mm_u, mm_a, mm_sa, lk_L, lk_up, lk_hu, lk_wo, h110]
  · simp [mm_u, mm_a, mm_sa, lk_L, lk_up, lk_hu, lk_wo, hb]
theorem lw_kc {h0 : mm_H} {e : Int32 × Int32 × Int32} {c : mm_F} {hd : Nat → Int32 × Int32 × Int32} {sv : Nat → mm_V} {j : Nat} {k r : Int32} : mm_sa (mm_sa (lk_L h0 e c hd sv) 110 j k) 111 j r = lk_L h0 e (c.1, c.2.1, c.2.2.1, lk_up c.2.2.2 j (k, r, (c.2.2.2 j).2.2)) hd sv := by
  refine lk_H (fun _ _ => rfl) (fun a b => ?_)
  by_cases hb : b = j
  · subst hb
    by_cases h110 : a = 110
    · subst h110; simp [mm_u, mm_a, mm_sa, lk_L, lk_up, lk_hu, lk_wo]
    by_cases h111 : a = 111
    · subst h111; simp [mm_u, mm_a, mm_sa, lk_L, lk_up, lk_hu, lk_wo]
    simp [mm_u, mm_a, mm_sa, lk_L, lk_up, lk_hu, lk_wo, h110, h111]
  · simp [mm_u, mm_a, mm_sa, lk_L, lk_up, lk_hu, lk_wo, hb]
theorem lw_hi {h0 : mm_H} {e : Int32 × Int32 × Int32} {c : mm_F} {hd : Nat → Int32 × Int32 × Int32} {sv : Nat → mm_V} {j : Nat} {x : Int32} : mm_sa (lk_L h0 e c hd sv) 102 j x = lk_L h0 e c (lk_hu hd j (x, (hd j).2)) sv := by
  refine lk_H (fun _ _ => rfl) (fun a b => ?_)
  by_cases hb : b = j
  · subst hb
    by_cases h102 : a = 102
    · subst h102; simp [mm_u, mm_a, mm_sa, lk_L, lk_up, lk_hu, lk_wo]
    simp [mm_u, mm_a, mm_sa, lk_L, lk_up, lk_hu, lk_wo, h102]
  · simp [mm_u, mm_a, mm_sa, lk_L, lk_up, lk_hu, lk_wo, hb]
theorem lw_hss {h0 : mm_H} {e : Int32 × Int32 × Int32} {c : mm_F} {hd : Nat → Int32 × Int32 × Int32} {sv : Nat → mm_V} {j : Nat} {x y z : Int32} : mm_sa (mm_sa (mm_sa (lk_L h0 e c hd sv) 102 j x) 103 j y) 104 j z = lk_L h0 e c (lk_hu hd j (x, y, z)) sv := by
  refine lk_H (fun _ _ => rfl) (fun a b => ?_)
  by_cases hb : b = j
  · subst hb
    by_cases h102 : a = 102
    · subst h102; simp [mm_u, mm_a, mm_sa, lk_L, lk_up, lk_hu, lk_wo]
    by_cases h103 : a = 103
    · subst h103; simp [mm_u, mm_a, mm_sa, lk_L, lk_up, lk_hu, lk_wo]
    by_cases h104 : a = 104
    · subst h104; simp [mm_u, mm_a, mm_sa, lk_L, lk_up, lk_hu, lk_wo]
    simp [mm_u, mm_a, mm_sa, lk_L, lk_up, lk_hu, lk_wo, h102, h103, h104]
  · simp [mm_u, mm_a, mm_sa, lk_L, lk_up, lk_hu, lk_wo, hb]
theorem lw_se {h0 : mm_H} {e : Int32 × Int32 × Int32} {c : mm_F} {hd : Nat → Int32 × Int32 × Int32} {sv : Nat → mm_V} {j : Nat} {z : Int32} : mm_sa (lk_L h0 e c hd sv) 104 j z = lk_L h0 e c (lk_hu hd j ((hd j).1, (hd j).2.1, z)) sv := by
  refine lk_H (fun _ _ => rfl) (fun a b => ?_)
  by_cases hb : b = j
  · subst hb
    by_cases h104 : a = 104
    · subst h104; simp [mm_u, mm_a, mm_sa, lk_L, lk_up, lk_hu, lk_wo]
    simp [mm_u, mm_a, mm_sa, lk_L, lk_up, lk_hu, lk_wo, h104]
  · simp [mm_u, mm_a, mm_sa, lk_L, lk_up, lk_hu, lk_wo, hb]
theorem lw_si {h0 : mm_H} {e : Int32 × Int32 × Int32} {c : mm_F} {hd : Nat → Int32 × Int32 × Int32} {sv : Nat → mm_V} {j : Nat} {y : Int32} : mm_sa (lk_L h0 e c hd sv) 103 j y = lk_L h0 e c (lk_hu hd j ((hd j).1, y, (hd j).2.2)) sv := by
  refine lk_H (fun _ _ => rfl) (fun a b => ?_)
  by_cases hb : b = j
  · subst hb
    by_cases h103 : a = 103
    · subst h103; simp [mm_u, mm_a, mm_sa, lk_L, lk_up, lk_hu, lk_wo]
    simp [mm_u, mm_a, mm_sa, lk_L, lk_up, lk_hu, lk_wo, h103]
  · simp [mm_u, mm_a, mm_sa, lk_L, lk_up, lk_hu, lk_wo, hb]
theorem lw_608 {h0 : mm_H} {e : Int32 × Int32 × Int32} {c : mm_F} {hd : Nat → Int32 × Int32 × Int32} {sv : Nat → mm_V} {x : Int32} : mm_si (lk_L h0 e c hd sv) 608 80 x = lk_L h0 (x, e.2) c hd sv := by
  refine lk_H (fun f a => ?_) (fun _ _ => rfl)
  by_cases ha : a = 80
  · subst ha
    by_cases hf : f = 608
    · subst hf; simp [mm_u, mm_i, lk_L]
    · simp [mm_u, mm_i, lk_L, hf]
  · simp [mm_u, mm_i, lk_L, ha]
theorem lw_609 {h0 : mm_H} {e : Int32 × Int32 × Int32} {c : mm_F} {hd : Nat → Int32 × Int32 × Int32} {sv : Nat → mm_V} {x : Int32} : mm_si (lk_L h0 e c hd sv) 609 80 x = lk_L h0 (e.1, x, e.2.2) c hd sv := by
  refine lk_H (fun f a => ?_) (fun _ _ => rfl)
  by_cases ha : a = 80
  · subst ha
    by_cases hf : f = 609
    · subst hf; simp [mm_u, mm_i, lk_L]
    · simp [mm_u, mm_i, lk_L, hf]
  · simp [mm_u, mm_i, lk_L, ha]
theorem lw_610 {h0 : mm_H} {e : Int32 × Int32 × Int32} {c : mm_F} {hd : Nat → Int32 × Int32 × Int32} {sv : Nat → mm_V} {x : Int32} : mm_si (lk_L h0 e c hd sv) 610 80 x = lk_L h0 (e.1, e.2.1, x) c hd sv := by
  refine lk_H (fun f a => ?_) (fun _ _ => rfl)
  by_cases ha : a = 80
  · subst ha
    by_cases hf : f = 610
    · subst hf; simp [mm_u, mm_i, lk_L]
    · simp [mm_u, mm_i, lk_L, hf]
  · simp [mm_u, mm_i, lk_L, ha]
theorem lw_611 {h0 : mm_H} {e : Int32 × Int32 × Int32} {c : mm_F} {hd : Nat → Int32 × Int32 × Int32} {sv : Nat → mm_V} {x : Int32} : mm_si (lk_L h0 e c hd sv) 611 80 x = lk_L h0 e (x, c.2) hd sv := by
  refine lk_H (fun f a => ?_) (fun _ _ => rfl)
  by_cases ha : a = 80
  · subst ha
    by_cases hf : f = 611
    · subst hf; simp [mm_u, mm_i, lk_L]
    · simp [mm_u, mm_i, lk_L, hf]
  · simp [mm_u, mm_i, lk_L, ha]
theorem lw_612 {h0 : mm_H} {e : Int32 × Int32 × Int32} {c : mm_F} {hd : Nat → Int32 × Int32 × Int32} {sv : Nat → mm_V} {x : Int32} : mm_si (lk_L h0 e c hd sv) 612 80 x = lk_L h0 e (c.1, x, c.2.2) hd sv := by
  refine lk_H (fun f a => ?_) (fun _ _ => rfl)
  by_cases ha : a = 80
  · subst ha
    by_cases hf : f = 612
    · subst hf; simp [mm_u, mm_i, lk_L]
    · simp [mm_u, mm_i, lk_L, hf]
  · simp [mm_u, mm_i, lk_L, ha]
theorem lw_613 {h0 : mm_H} {e : Int32 × Int32 × Int32} {c : mm_F} {hd : Nat → Int32 × Int32 × Int32} {sv : Nat → mm_V} {x : Int32} : mm_si (lk_L h0 e c hd sv) 613 80 x = lk_L h0 e (c.1, c.2.1, x, c.2.2.2) hd sv := by
  refine lk_H (fun f a => ?_) (fun _ _ => rfl)
  by_cases ha : a = 80
  · subst ha
    by_cases hf : f = 613
    · subst hf; simp [mm_u, mm_i, lk_L]
    · simp [mm_u, mm_i, lk_L, hf]
  · simp [mm_u, mm_i, lk_L, ha]
theorem lw_self {h : mm_H} : lk_vw h = h := by
  refine (lk_H (fun f a => ?_) (fun a b => ?_)).trans (rfl : (mm_k h, mm_i h, mm_r h, mm_n h, mm_a h, mm_q h, mm_t h, mm_s h) = h)
  · show (if a = 80 then _ else _) = _
    by_cases ha : a = 80
    · subst ha
      rw [if_pos rfl]
      by_cases h608 : f = 608
      · subst h608; rfl
      by_cases h609 : f = 609
      · subst h609; rfl
      by_cases h610 : f = 610
      · subst h610; rfl
      by_cases h611 : f = 611
      · subst h611; rfl
      by_cases h612 : f = 612
      · subst h612; rfl
      by_cases h613 : f = 613
      · subst h613; rfl
      rw [if_neg h608, if_neg h609, if_neg h610, if_neg h611, if_neg h612, if_neg h613]
    · rw [if_neg ha]
  by_cases h102 : a = 102
  · subst h102; rfl
  by_cases h103 : a = 103
  · subst h103; rfl
  by_cases h104 : a = 104
  · subst h104; rfl
  by_cases h105 : a = 105
  · subst h105; rfl
  by_cases h106 : a = 106
  · subst h106; rfl
  by_cases h107 : a = 107
  · subst h107; rfl
  by_cases h108 : a = 108
  · subst h108; rfl
  by_cases h109 : a = 109
  · subst h109; rfl
  by_cases h110 : a = 110
  · subst h110; rfl
  by_cases h111 : a = 111
  · subst h111; rfl
  by_cases h112 : a = 112
  · subst h112; rfl
  by_cases h113 : a = 113
  · subst h113; rfl
  by_cases h114 : a = 114
  · subst h114; rfl
  show (if a = 102 then _ else _) = _
  rw [if_neg h102, if_neg h103, if_neg h104, if_neg h105, if_neg h106, if_neg h107, if_neg h108, if_neg h109, if_neg h110, if_neg h111, if_neg h112, if_neg h113, if_neg h114]
theorem lw_SH {h0 : mm_H} {e : Int32 × Int32 × Int32} {c : mm_F} {hd : Nat → Int32 × Int32 × Int32} {sv : Nat → mm_V} (I : mm_SH h0) : mm_SH (lk_L h0 e c hd sv) := I
