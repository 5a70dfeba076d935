/-- the heap with the class's object 1 laid, not yet built -/
def mm_h1 : mm_H := mm_new mm_h0 1 4
theorem t_1 : (mm_run0 5 1000 n_St_init [.ref 2] (mm_new mm_h1 2 10)).isSome = true := by decide +kernel
