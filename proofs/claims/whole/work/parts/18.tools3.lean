theorem sw_if {x k : Int32} {α : Type} {a b r : Option α} {p : Prop} (h : (if x = k then a else b) = r) (h1 : x = k → a = r → p) (h2 : ¬ x = k → b = r → p) : p := by
  by_cases hc : x = k
  · exact h1 hc (by rw [if_pos hc] at h; exact h)
  · exact h2 hc (by rw [if_neg hc] at h; exact h)
