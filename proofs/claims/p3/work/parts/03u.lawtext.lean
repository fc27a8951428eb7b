-- a law's text, sign by sign: what is due (0 a rule, 1 a factor, 2 behind one, 3 a test, 4 behind one, 5 a condition, 6 behind a rule), how many rules, what is open (0 [, 1 (, 2 !; 3, 4 the sums of a test, 5 a rule's sum), the place
def lwD : List Nat → Nat
  | [] => 0
  | a :: S => lwD S + (if a ≤ 2 then 1 else 0)
abbrev lwOp (c : Int) : Prop := c = 43 ∨ c = 45 ∨ c = 42 ∨ c = 47 ∨ c = 37
abbrev lwLt (c : Int) : Prop := c = 107 ∨ c = 117 ∨ c = 108 ∨ c = 103 ∨ c = 109 ∨ c = 110 ∨ c = 111 ∨ c = 116 ∨ c = 119
abbrev lwSt := Nat × Nat × List Nat × Int
def lwE (P : Int → Int) (m : Nat) (p : Int) : List Nat → Sum lwSt Int
  | [] => .inr 0
  | a :: S => if a = 0 then (if P p = 93 then .inl (2, m, S, p + 1) else .inr (-1000 - p)) else if a = 3 then (if P p = 60 ∨ P p = 62 ∨ P p = 61 then .inl (1, m, 4 :: S, p + 1) else .inr (-1000 - p)) else if a = 4 then .inl (4, m, S, p) else .inl (5, m, S, p)
def lwA (P : Int → Int) (m : Nat) (p : Int) : List Nat → Sum lwSt Int
  | [] => .inr 0
  | a :: S => if a = 2 then .inl (4, m, S, p) else if P p = 41 then (if S = [] then .inl (6, m, [], p + 1) else .inl (4, m, S, p + 1)) else if P p = 38 ∨ P p = 124 then .inl (3, m, a :: S, p + 1) else .inr (-1000 - p)
def lwFa (P : Int → Int) (m : Nat) (p : Int) (S : List Nat) : Sum lwSt Int :=
  if P p = 91 then (if 6 ≤ lwD S then .inr (-5000 - p) else .inl (1, m, 0 :: S, p + 1)) else if 48 ≤ P p ∧ P p ≤ 57 then (if aC P 5 p = 0 then .inl (2, m, S, aQ P 5 p) else .inr (aC P 5 p)) else if lwLt (P p) then .inl (2, m, S, p + 1) else .inr (-1000 - p)
def lwO (P : Int → Int) (m : Nat) (p : Int) (S : List Nat) : Sum lwSt Int :=
  if P p = 33 then (if 6 ≤ lwD S then .inr (-5000 - p) else .inl (3, m, 2 :: S, p + 1)) else if P p = 40 then (if 6 ≤ lwD S then .inr (-5000 - p) else .inl (3, m, 1 :: S, p + 1)) else .inl (1, m, 3 :: S, p)
def lwT (P : Int → Int) (n : Int) (s : lwSt) : Sum lwSt Int :=
  if s.1 = 0 then (if P s.2.2.2 ≠ 118 ∧ P s.2.2.2 ≠ 121 ∧ P s.2.2.2 ≠ 114 ∧ P s.2.2.2 ≠ 120 then .inr (-1000 - s.2.2.2) else if 16 ≤ s.2.1 then .inr (-4000 - s.2.2.2) else if P s.2.2.2 = 120 then .inl (5, s.2.1, [], s.2.2.2 + 1) else .inl (1, s.2.1, [5], s.2.2.2 + 1))
  else if s.1 = 1 then lwFa P s.2.1 s.2.2.2 s.2.2.1
  else if s.1 = 2 then (if lwOp (P s.2.2.2) then .inl (1, s.2.1, s.2.2.1, s.2.2.2 + 1) else lwE P s.2.1 s.2.2.2 s.2.2.1)
  else if s.1 = 3 then lwO P s.2.1 s.2.2.2 s.2.2.1
  else if s.1 = 4 then lwA P s.2.1 s.2.2.2 s.2.2.1
  else if s.1 = 5 then (if P s.2.2.2 = 40 then .inl (3, s.2.1, [1], s.2.2.2 + 1) else .inr (-1000 - s.2.2.2))
  else (if n ≤ s.2.2.2 then .inr ((s.2.1 : Int) + 1) else if P s.2.2.2 = 59 then .inl (0, s.2.1 + 1, [], s.2.2.2 + 1) else .inr (-1000 - s.2.2.2))
def lwR (P : Int → Int) (n : Int) : Nat → lwSt → Option Int
  | 0, _ => none
  | k + 1, s => match lwT P n s with
    | .inl s1 => lwR P n k s1
    | .inr r => some r
/-- what it comes to from there on -/
def lwZ (P : Int → Int) (n : Int) (s : lwSt) (r : Int) : Prop := ∃ k : Nat, lwR P n k s = some r
theorem lwZ.go {P : Int → Int} {n : Int} {s s1 : lwSt} {r : Int} (h : lwT P n s = .inl s1) (hr : lwZ P n s1 r) : lwZ P n s r := by
  obtain ⟨k, hk⟩ := hr
  refine ⟨k + 1, ?_⟩
  show (match lwT P n s with | .inl s1 => lwR P n k s1 | .inr r => some r) = some r
  rw [h]; exact hk
theorem lwZ.fin {P : Int → Int} {n : Int} {s : lwSt} {r : Int} (h : lwT P n s = .inr r) : lwZ P n s r := by
  refine ⟨1, ?_⟩
  show (match lwT P n s with | .inl s1 => lwR P n 0 s1 | .inr r => some r) = some r
  rw [h]
theorem lwZ.u {P : Int → Int} {n : Int} {s : lwSt} {r q : Int} (h1 : lwZ P n s r) (h2 : lwZ P n s q) : r = q := by
  have key : ∀ (k j : Nat) (s : lwSt), lwR P n k s = some r → lwR P n j s = some q → r = q := by
    intro k
    induction k with
    | zero => intro j s h; exact absurd h (by show ¬ (none : Option Int) = some r; exact fun e => nomatch e)
    | succ k ih =>
      intro j s h g
      rcases j with _ | j
      · exact absurd g (by show ¬ (none : Option Int) = some q; exact fun e => nomatch e)
      · have h' : (match lwT P n s with | .inl s1 => lwR P n k s1 | .inr r => some r) = some r := h
        have g' : (match lwT P n s with | .inl s1 => lwR P n j s1 | .inr r => some r) = some q := g
        cases e : lwT P n s with
        | inl s1 => rw [e] at h' g'; exact ih j s1 h' g'
        | inr x => rw [e] at h' g'; exact (Option.some.inj h').symm.trans (Option.some.inj g')
  obtain ⟨k, hk⟩ := h1
  obtain ⟨j, hj⟩ := h2
  exact key k j s hk hj
noncomputable def lwX (P : Int → Int) (n : Int) : Int := Classical.epsilon (lwZ P n (0, 0, [], 0))
theorem lwZ.x {P : Int → Int} {n r : Int} (h : lwZ P n (0, 0, [], 0) r) : r = lwX P n := h.u (Classical.epsilon_spec (p := lwZ P n (0, 0, [], 0)) ⟨r, h⟩)
-- the steps
theorem lwT_0 {P : Int → Int} {n : Int} {m : Nat} {S : List Nat} {p : Int} : lwT P n (0, m, S, p) = if P p ≠ 118 ∧ P p ≠ 121 ∧ P p ≠ 114 ∧ P p ≠ 120 then .inr (-1000 - p) else if 16 ≤ m then .inr (-4000 - p) else if P p = 120 then .inl (5, m, [], p + 1) else .inl (1, m, [5], p + 1) := rfl
theorem lwT_1 {P : Int → Int} {n : Int} {m : Nat} {S : List Nat} {p : Int} : lwT P n (1, m, S, p) = lwFa P m p S := rfl
theorem lwT_2 {P : Int → Int} {n : Int} {m : Nat} {S : List Nat} {p : Int} : lwT P n (2, m, S, p) = if lwOp (P p) then .inl (1, m, S, p + 1) else lwE P m p S := rfl
theorem lwT_3 {P : Int → Int} {n : Int} {m : Nat} {S : List Nat} {p : Int} : lwT P n (3, m, S, p) = lwO P m p S := rfl
theorem lwT_4 {P : Int → Int} {n : Int} {m : Nat} {S : List Nat} {p : Int} : lwT P n (4, m, S, p) = lwA P m p S := rfl
theorem lwT_5 {P : Int → Int} {n : Int} {m : Nat} {S : List Nat} {p : Int} : lwT P n (5, m, S, p) = if P p = 40 then .inl (3, m, [1], p + 1) else .inr (-1000 - p) := rfl
theorem lwT_6 {P : Int → Int} {n : Int} {m : Nat} {S : List Nat} {p : Int} : lwT P n (6, m, S, p) = if n ≤ p then .inr ((m : Int) + 1) else if P p = 59 then .inl (0, m + 1, [], p + 1) else .inr (-1000 - p) := rfl
-- a reader that remembers what was wrong first, against it: for whatever is open so, with X laid on it ahead, Y behind
def lwH (P : Int → Int) (n : Int) (A : Nat → List Nat → Prop) (c1 : Nat) (X : List Nat → List Nat) (c2 : Nat) (Y : List Nat → List Nat) (f fa p f1 fa1 q : Int) : Prop := (f ≠ 0 → f1 = f ∧ fa1 = fa) ∧ (f = 0 → ∀ (m : Nat) (S : List Nat), A m S → (f1 = 0 → ∀ r : Int, lwZ P n (c2, m, Y S, q) r → lwZ P n (c1, m, X S, p) r) ∧ (f1 ≠ 0 → lwZ P n (c1, m, X S, p) (-1000 * f1 - fa1)))
theorem lwH.id {P : Int → Int} {n : Int} {A : Nat → List Nat → Prop} {c : Nat} {X : List Nat → List Nat} {f fa p : Int} : lwH P n A c X c X f fa p f fa p := ⟨fun _ => ⟨rfl, rfl⟩, fun h m S _ => ⟨fun _ r hr => hr, fun h1 => absurd h h1⟩⟩
theorem lwH.trans {P : Int → Int} {n : Int} {A : Nat → List Nat → Prop} {c1 c2 c3 : Nat} {X Y Z : List Nat → List Nat} {f fa p f1 fa1 q f2 fa2 q2 : Int} (h1 : lwH P n A c1 X c2 Y f fa p f1 fa1 q) (h2 : lwH P n A c2 Y c3 Z f1 fa1 q f2 fa2 q2) : lwH P n A c1 X c3 Z f fa p f2 fa2 q2 := by
  refine ⟨fun h => ?_, fun h m S hA => ?_⟩
  · obtain ⟨a, b⟩ := h1.1 h
    obtain ⟨c, d⟩ := h2.1 (by omega)
    exact ⟨by omega, by omega⟩
  · have g1 := h1.2 h m S hA
    by_cases hf : f1 = 0
    · have g2 := h2.2 hf m S hA
      exact ⟨fun e r hr => g1.1 hf r (g2.1 e r hr), fun e => g1.1 hf _ (g2.2 e)⟩
    · obtain ⟨c, d⟩ := h2.1 hf
      refine ⟨fun e => absurd (c.symm.trans e) hf, fun _ => ?_⟩
      rw [c, d]
      exact g1.2 hf
/-- a step that goes on (or, behind a fault, nothing) -/
theorem lwH.go {P : Int → Int} {n : Int} {A : Nat → List Nat → Prop} {c1 c2 : Nat} {X Y : List Nat → List Nat} {f fa p q : Int} (h : f = 0 → ∀ (m : Nat) (S : List Nat), A m S → lwT P n (c1, m, X S, p) = .inl (c2, m, Y S, q)) : lwH P n A c1 X c2 Y f fa p f fa q := ⟨fun _ => ⟨rfl, rfl⟩, fun h0 m S hA => ⟨fun _ r hr => lwZ.go (h h0 m S hA) hr, fun h1 => absurd h0 h1⟩⟩
/-- what is tried: it goes on, or it fails -/
theorem lwH.tg {P : Int → Int} {n : Int} {A : Nat → List Nat → Prop} {c1 c2 : Nat} {X Y : List Nat → List Nat} {f fa p f1 fa1 q k q0 : Int} (hT : TG f fa p f1 fa1 q k q0) (h0 : f = 0 → k = 0 → ∀ (m : Nat) (S : List Nat), A m S → lwT P n (c1, m, X S, p) = .inl (c2, m, Y S, q0)) (h1 : f = 0 → k ≠ 0 → ∀ (m : Nat) (S : List Nat), A m S → lwT P n (c1, m, X S, p) = .inr k) : lwH P n A c1 X c2 Y f fa p f1 fa1 q := by
  refine ⟨hT.1, fun hf m S hA => ?_⟩
  rcases hT.2 hf with ⟨g1, g2, g3⟩ | ⟨g1, g2, g3⟩
  · exact ⟨fun _ r hr => lwZ.go (h0 hf g2 m S hA) (by rw [← g3]; exact hr), fun e => absurd g1 e⟩
  · refine ⟨fun e => absurd e (by omega), fun _ => ?_⟩
    rw [← g3]
    exact lwZ.fin (h1 hf (by omega) m S hA)
/-- a step that fails -/
theorem lwH.bad {P : Int → Int} {n : Int} {A : Nat → List Nat → Prop} {c1 c2 : Nat} {X Y : List Nat → List Nat} {f fa p f1 fa1 q k q0 p0 : Int} (hT : TG f fa p0 f1 fa1 q0 k p0) (hk : k ≠ 0) (h : f = 0 → ∀ (m : Nat) (S : List Nat), A m S → lwT P n (c1, m, X S, p) = .inr k) : lwH P n A c1 X c2 Y f fa p f1 fa1 q := by
  refine ⟨hT.1, fun hf m S hA => ?_⟩
  rcases hT.2 hf with ⟨g1, g2, g3⟩ | ⟨g1, g2, g3⟩
  · exact absurd g2 hk
  · refine ⟨fun e => absurd e (by omega), fun _ => ?_⟩
    rw [← g3]
    exact lwZ.fin (h hf m S hA)
/-- the same, both faults told -/
theorem lwH.go0 {P : Int → Int} {n : Int} {A : Nat → List Nat → Prop} {c1 c2 : Nat} {X Y : List Nat → List Nat} {f fa p f1 fa1 q : Int} (hf : f = 0) (h1 : f1 = 0) (h : ∀ (m : Nat) (S : List Nat), A m S → lwT P n (c1, m, X S, p) = .inl (c2, m, Y S, q)) : lwH P n A c1 X c2 Y f fa p f1 fa1 q := ⟨fun e => absurd hf e, fun _ m S hA => ⟨fun _ r hr => lwZ.go (h m S hA) hr, fun e => absurd h1 e⟩⟩
theorem lwH.bad0 {P : Int → Int} {n : Int} {A : Nat → List Nat → Prop} {c1 c2 : Nat} {X Y : List Nat → List Nat} {f fa p f1 fa1 q k : Int} (hf : f = 0) (h1 : f1 ≠ 0) (hk : k = -1000 * f1 - fa1) (h : ∀ (m : Nat) (S : List Nat), A m S → lwT P n (c1, m, X S, p) = .inr k) : lwH P n A c1 X c2 Y f fa p f1 fa1 q := ⟨fun e => absurd hf e, fun _ m S hA => ⟨fun e => absurd e h1, fun _ => by rw [← hk]; exact lwZ.fin (h m S hA)⟩⟩
/-- behind a fault nothing more -/
theorem lwH.off {P : Int → Int} {n : Int} {A : Nat → List Nat → Prop} {c1 c2 : Nat} {X Y : List Nat → List Nat} {f fa p f1 fa1 q : Int} (hf : f ≠ 0) (h1 : f1 = f) (h2 : fa1 = fa) : lwH P n A c1 X c2 Y f fa p f1 fa1 q := ⟨fun _ => ⟨h1, h2⟩, fun h => absurd h hf⟩
/-- with something laid on what is open -/
theorem lwH.on {P : Int → Int} {n : Int} {A B : Nat → List Nat → Prop} {c1 c2 : Nat} {f fa p f1 fa1 q : Int} (X : List Nat → List Nat) (h : lwH P n B c1 (fun S => S) c2 (fun S => S) f fa p f1 fa1 q) (hX : ∀ (m : Nat) (S : List Nat), A m S → B m (X S)) : lwH P n A c1 X c2 X f fa p f1 fa1 q := ⟨h.1, fun h0 m S hA => h.2 h0 m (X S) (hX m S hA)⟩
theorem lwH.sub {P : Int → Int} {n : Int} {A B : Nat → List Nat → Prop} {c1 c2 : Nat} {X Y : List Nat → List Nat} {f fa p f1 fa1 q : Int} (h : lwH P n B c1 X c2 Y f fa p f1 fa1 q) (hX : ∀ (m : Nat) (S : List Nat), A m S → B m S) : lwH P n A c1 X c2 Y f fa p f1 fa1 q := ⟨h.1, fun h0 m S hA => h.2 h0 m S (hX m S hA)⟩
/-- so many ! on it -/
def lwB : Nat → List Nat → List Nat
  | 0, S => S
  | k + 1, S => 2 :: lwB k S
theorem lwB_D (S : List Nat) : ∀ k : Nat, lwD (lwB k S) = lwD S + k := by
  intro k
  induction k with
  | zero => rfl
  | succ k ih => show lwD (lwB k S) + (if 2 ≤ 2 then 1 else 0) = lwD S + (k + 1); rw [ih, if_pos (Nat.le_refl 2)]; omega
theorem lwB_n {S : List Nat} (h : S ≠ []) : ∀ k : Nat, lwB k S ≠ [] := by
  intro k
  cases k with
  | zero => exact h
  | succ k => exact fun e => nomatch e
theorem lwA_2 {P : Int → Int} {m : Nat} {p : Int} {S : List Nat} : lwA P m p (2 :: S) = .inl (4, m, S, p) := rfl
theorem lwB_z {P : Int → Int} {n : Int} {m : Nat} {S : List Nat} {p r : Int} (h : lwZ P n (4, m, S, p) r) : ∀ k : Nat, lwZ P n (4, m, lwB k S, p) r := by
  intro k
  induction k with
  | zero => exact h
  | succ k ih => exact lwZ.go (s1 := (4, m, lwB k S, p)) (lwA_2 (P := P) (S := lwB k S)) ih
theorem lwH.pops {P : Int → Int} {n : Int} {A : Nat → List Nat → Prop} (k : Nat) {f fa p : Int} : lwH P n A 4 (lwB k) 4 (fun S => S) f fa p f fa p := ⟨fun _ => ⟨rfl, rfl⟩, fun h0 m S _ => ⟨fun _ r hr => lwB_z hr k, fun h1 => absurd h0 h1⟩⟩
-- the steps of each kind
theorem lwFa_br {P : Int → Int} {m : Nat} {p : Int} {S : List Nat} (h : P p = 91) (hd : ¬ 6 ≤ lwD S) : lwFa P m p S = .inl (1, m, 0 :: S, p + 1) := by unfold lwFa; rw [if_pos h, if_neg hd]
theorem lwFa_deep {P : Int → Int} {m : Nat} {p : Int} {S : List Nat} (h : P p = 91) (hd : 6 ≤ lwD S) : lwFa P m p S = .inr (-5000 - p) := by unfold lwFa; rw [if_pos h, if_pos hd]
theorem lwFa_num {P : Int → Int} {m : Nat} {p : Int} {S : List Nat} (h : 48 ≤ P p ∧ P p ≤ 57) (hk : aC P 5 p = 0) : lwFa P m p S = .inl (2, m, S, aQ P 5 p) := by unfold lwFa; rw [if_neg (by omega), if_pos h, if_pos hk]
theorem lwFa_numx {P : Int → Int} {m : Nat} {p : Int} {S : List Nat} (h : 48 ≤ P p ∧ P p ≤ 57) (hk : aC P 5 p ≠ 0) : lwFa P m p S = .inr (aC P 5 p) := by unfold lwFa; rw [if_neg (by omega), if_pos h, if_neg hk]
theorem lwFa_let {P : Int → Int} {m : Nat} {p : Int} {S : List Nat} (h : lwLt (P p)) : lwFa P m p S = .inl (2, m, S, p + 1) := by unfold lwFa; rw [if_neg (by omega), if_neg (by omega), if_pos h]
theorem lwFa_no {P : Int → Int} {m : Nat} {p : Int} {S : List Nat} (h1 : P p ≠ 91) (h2 : ¬ (48 ≤ P p ∧ P p ≤ 57)) (h : ¬ lwLt (P p)) : lwFa P m p S = .inr (-1000 - p) := by unfold lwFa; rw [if_neg h1, if_neg h2, if_neg h]
theorem lwE_0 {P : Int → Int} {m : Nat} {p : Int} {S : List Nat} : lwE P m p (0 :: S) = if P p = 93 then .inl (2, m, S, p + 1) else .inr (-1000 - p) := rfl
theorem lwE_3 {P : Int → Int} {m : Nat} {p : Int} {S : List Nat} : lwE P m p (3 :: S) = if P p = 60 ∨ P p = 62 ∨ P p = 61 then .inl (1, m, 4 :: S, p + 1) else .inr (-1000 - p) := rfl
theorem lwE_4 {P : Int → Int} {m : Nat} {p : Int} {S : List Nat} : lwE P m p (4 :: S) = .inl (4, m, S, p) := rfl
theorem lwE_5 {P : Int → Int} {m : Nat} {p : Int} {S : List Nat} : lwE P m p (5 :: S) = .inl (5, m, S, p) := rfl
theorem lwA_1 {P : Int → Int} {m : Nat} {p : Int} {S : List Nat} : lwA P m p (1 :: S) = if P p = 41 then (if S = [] then .inl (6, m, [], p + 1) else .inl (4, m, S, p + 1)) else if P p = 38 ∨ P p = 124 then .inl (3, m, 1 :: S, p + 1) else .inr (-1000 - p) := rfl
theorem lwO_not {P : Int → Int} {m : Nat} {p : Int} {S : List Nat} (h : P p = 33) (hd : ¬ 6 ≤ lwD S) : lwO P m p S = .inl (3, m, 2 :: S, p + 1) := by unfold lwO; rw [if_pos h, if_neg hd]
theorem lwO_notx {P : Int → Int} {m : Nat} {p : Int} {S : List Nat} (h : P p = 33) (hd : 6 ≤ lwD S) : lwO P m p S = .inr (-5000 - p) := by unfold lwO; rw [if_pos h, if_pos hd]
theorem lwO_op {P : Int → Int} {m : Nat} {p : Int} {S : List Nat} (h : P p = 40) (hd : ¬ 6 ≤ lwD S) : lwO P m p S = .inl (3, m, 1 :: S, p + 1) := by unfold lwO; rw [if_neg (by omega), if_pos h, if_neg hd]
theorem lwO_opx {P : Int → Int} {m : Nat} {p : Int} {S : List Nat} (h : P p = 40) (hd : 6 ≤ lwD S) : lwO P m p S = .inr (-5000 - p) := by unfold lwO; rw [if_neg (by omega), if_pos h, if_pos hd]
theorem lwO_sum {P : Int → Int} {m : Nat} {p : Int} {S : List Nat} (h1 : P p ≠ 33) (h2 : P p ≠ 40) : lwO P m p S = .inl (1, m, 3 :: S, p) := by unfold lwO; rw [if_neg h1, if_neg h2]
