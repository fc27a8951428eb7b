theorem sgZ_0 {f a e : Int} {b : Nat → Int} (h : f = 0) : signZ f a e b = sgP e b a := by
  unfold signZ sgP
  by_cases h1 : a < e
  · rw [if_pos h1, if_neg (by omega)]
  · rw [if_neg h1, if_pos (by omega)]
