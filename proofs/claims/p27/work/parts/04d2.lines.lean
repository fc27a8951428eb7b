theorem oneC_y {P : Int → Int} {f m p : Int} (h : f ≤ P p ∧ P p < f + m) : oneC P f m p = 0 := if_pos h
theorem oneC_n {P : Int → Int} {f m p : Int} (h : ¬ (f ≤ P p ∧ P p < f + m)) : oneC P f m p = -1000 - p := if_neg h
theorem myC_y {m p : Int} (h : 40 ≤ m) : myC m p = -4000 - p := if_pos h
theorem myC_n {m p : Int} (h : m < 40) : myC m p = 0 := if_neg (by omega)
theorem smC_y {P : Int → Int} {p : Int} (h : P p = P (p + 1 + 1)) : smC P p = -6000 - (p + 1 + 1) := if_pos h
theorem smC_n {P : Int → Int} {p : Int} (h : P p ≠ P (p + 1 + 1)) : smC P p = 0 := if_neg h
theorem kdC_y {P : Int → Int} {p : Int} (h : P p = 61 ∨ P p = 60 ∨ P p = 62) : kdC P p = 0 := if_pos h
theorem kdC_n {P : Int → Int} {p : Int} (h : ¬ (P p = 61 ∨ P p = 60 ∨ P p = 62)) : kdC P p = -1000 - p := if_neg h
theorem lnV_y {P : Int → Int} {p : Int} (h : P (p + 1 + 1 + 1 + 1) = 45) : lnV P p = -aV P 4 (mnQ P (p + 1 + 1 + 1 + 1)) := if_pos h
theorem lnV_n {P : Int → Int} {p : Int} (h : P (p + 1 + 1 + 1 + 1) ≠ 45) : lnV P p = aV P 4 (mnQ P (p + 1 + 1 + 1 + 1)) := if_neg h
theorem sqz {a b : Int} (h : a = 0) : sq a b = b := by rw [h]; exact sq_0 b
theorem sqn {a b f : Int} (h : a = f) (hf : f < 0) : sq a b = f := by rw [h]; exact sq_n b (by omega)
theorem l2_0 {P : Int → Int} {m p : Int} (h : oneC P 97 12 p = 0) (h2 : myC m p = 0) : l2 P m p = 0 := (sqz h).trans h2
theorem l3_0 {P : Int → Int} {m p : Int} (h : l2 P m p = 0) (h2 : psC P 45 (p + 1) = 0) : l3 P m p = 0 := (sqz h).trans h2
theorem l4_0 {P : Int → Int} {m p : Int} (h : l3 P m p = 0) (h2 : oneC P 97 12 (p + 1 + 1) = 0) : l4 P m p = 0 := (sqz h).trans h2
theorem l5_0 {P : Int → Int} {m p : Int} (h : l4 P m p = 0) (h2 : smC P p = 0) : l5 P m p = 0 := (sqz h).trans h2
theorem l6_0 {P : Int → Int} {m p : Int} (h : l5 P m p = 0) (h2 : kdC P (p + 1 + 1 + 1) = 0) : l6 P m p = 0 := (sqz h).trans h2
theorem l7_z {P : Int → Int} {m p : Int} (h : l6 P m p = 0) (h2 : aC P 4 (mnQ P (p + 1 + 1 + 1 + 1)) = 0) : l7 P m p = 0 := (sqz h).trans h2
theorem l7_7 {P : Int → Int} {m p f : Int} (h : l6 P m p = 0) (h2 : aC P 4 (mnQ P (p + 1 + 1 + 1 + 1)) = f) : l7 P m p = f := (sqz h).trans h2
theorem l7_6 {P : Int → Int} {m p f : Int} (h : l5 P m p = 0) (h2 : kdC P (p + 1 + 1 + 1) = f) (hf : f < 0) : l7 P m p = f := sqn ((sqz h).trans h2) hf
theorem l7_5 {P : Int → Int} {m p f : Int} (h : l4 P m p = 0) (h2 : smC P p = f) (hf : f < 0) : l7 P m p = f := sqn (sqn ((sqz h).trans h2) hf) hf
theorem l7_4 {P : Int → Int} {m p f : Int} (h : l3 P m p = 0) (h2 : oneC P 97 12 (p + 1 + 1) = f) (hf : f < 0) : l7 P m p = f := sqn (sqn (sqn ((sqz h).trans h2) hf) hf) hf
theorem l7_3 {P : Int → Int} {m p f : Int} (h : l2 P m p = 0) (h2 : psC P 45 (p + 1) = f) (hf : f < 0) : l7 P m p = f := sqn (sqn (sqn (sqn ((sqz h).trans h2) hf) hf) hf) hf
theorem l7_2 {P : Int → Int} {m p f : Int} (h : oneC P 97 12 p = 0) (h2 : myC m p = f) (hf : f < 0) : l7 P m p = f := sqn (sqn (sqn (sqn (sqn ((sqz h).trans h2) hf) hf) hf) hf) hf
theorem l7_1 {P : Int → Int} {m p f : Int} (h : oneC P 97 12 p = f) (hf : f < 0) : l7 P m p = f := sqn (sqn (sqn (sqn (sqn (sqn h hf) hf) hf) hf) hf) hf
theorem kd_of {P : Int → Int} {p c r : Int} (h : (c = 61 ∧ r = 0) ∨ (c = 60 ∧ r = 1) ∨ (c = 62 ∧ r = 2) ∨ (c ≠ 60 ∧ c ≠ 61 ∧ c ≠ 62 ∧ r = -1)) (hr : r ≠ -1) (hc : c = P p) : r = kdV P p ∧ kdC P p = 0 := by
  subst hc
  have h1 := kdV_e P p
  exact ⟨by omega, kdC_y (by omega)⟩
theorem kd_no {P : Int → Int} {p c r : Int} (h : (c = 61 ∧ r = 0) ∨ (c = 60 ∧ r = 1) ∨ (c = 62 ∧ r = 2) ∨ (c ≠ 60 ∧ c ≠ 61 ∧ c ≠ 62 ∧ r = -1)) (hr : r = -1) (hc : c = P p) : kdC P p = -1000 - p := by
  subst hc
  exact kdC_n (by omega)
