-- the tightest bounds: steps over a square of 12 by 12
def cS (S : Nat → Bool) : Nat → Int
  | 0 => 0
  | m + 1 => cS S m + (if S m = true then 1 else 0)
theorem cS_r (S : Nat → Bool) (m : Nat) : 0 ≤ cS S m ∧ cS S m ≤ (m : Int) := by
  induction m with
  | zero => exact ⟨Int.le_refl 0, Int.le_refl 0⟩
  | succ m ih =>
    have e : cS S (m + 1) = cS S m + (if S m = true then 1 else 0) := rfl
    rw [e]
    split <;> omega
theorem cS_c {S S' : Nat → Bool} (m : Nat) (h : ∀ v : Nat, v < m → S v = S' v) : cS S m = cS S' m := by
  induction m with
  | zero => rfl
  | succ m ih =>
    have e : cS S (m + 1) = cS S m + (if S m = true then 1 else 0) := rfl
    have e2 : cS S' (m + 1) = cS S' m + (if S' m = true then 1 else 0) := rfl
    rw [e, e2, ih (fun v hv => h v (by omega)), h m (Nat.lt_succ_self m)]
theorem cS_or {S S' : Nat → Bool} (m : Nat) (h : ∀ v : Nat, v < m → ¬ (S v = true ∧ S' v = true)) : cS (fun v => S v || S' v) m = cS S m + cS S' m := by
  induction m with
  | zero => rfl
  | succ m ih =>
    have e : cS S (m + 1) = cS S m + (if S m = true then 1 else 0) := rfl
    have e2 : cS S' (m + 1) = cS S' m + (if S' m = true then 1 else 0) := rfl
    have e3 : cS (fun v => S v || S' v) (m + 1) = cS (fun v => S v || S' v) m + (if (S m || S' m) = true then 1 else 0) := rfl
    rw [e, e2, e3, ih (fun v hv => h v (by omega))]
    have h1 := h m (Nat.lt_succ_self m)
    cases h2 : S m <;> cases h3 : S' m
    · show cS S m + cS S' m + 0 = cS S m + 0 + (cS S' m + 0); omega
    · show cS S m + cS S' m + 1 = cS S m + 0 + (cS S' m + 1); omega
    · show cS S m + cS S' m + 1 = cS S m + 1 + (cS S' m + 0); omega
    · exact absurd ⟨h2, h3⟩ h1
/-- a way from i to j by ones below m, none twice, so that it is no dearer than what is there -/
def PV (E : Nat → Nat → Int) (m i j : Nat) : Prop := ∃ S : Nat → Bool, (-9999 * (cS S m + 1) ≤ E i j ∧ E i j ≤ 9999 * (cS S m + 1)) ∧ ∀ v : Nat, v < m → S v = true → E i v < 1000000 ∧ E v j < 1000000 ∧ E i v + E v j ≤ E i j
def FWI (E : Nat → Nat → Int) (m : Nat) : Prop := (∀ i j : Nat, i < 12 → j < 12 → E i j ≤ 1000000) ∧ (∀ v i j : Nat, v < m → i < 12 → j < 12 → E i v < 1000000 → E v j < 1000000 → E i j ≤ E i v + E v j) ∧ (∀ i j : Nat, i < 12 → j < 12 → E i j < 1000000 → PV E m i j)
theorem FWI.r {E : Nat → Nat → Int} {m : Nat} (h : FWI E m) (hm : m ≤ 12) {i j : Nat} (hi : i < 12) (hj : j < 12) (hf : E i j < 1000000) : -129987 ≤ E i j ∧ E i j ≤ 129987 := by
  obtain ⟨S, h1, _⟩ := h.2.2 i j hi hj hf
  have h2 := cS_r S m
  omega
/-- what one step lays at a place -/
def FW1 (E E' : Nat → Nat → Int) (m : Nat) : Prop := ∀ i j : Nat, i < 12 → j < 12 → ((E i m < 1000000 ∧ E m j < 1000000) ∧ E' i j ≤ E i j ∧ E' i j ≤ E i m + E m j ∧ (E' i j = E i j ∨ E' i j = E i m + E m j)) ∨ (¬ (E i m < 1000000 ∧ E m j < 1000000) ∧ E' i j = E i j)
theorem FWI.step {E E' : Nat → Nat → Int} {m : Nat} (h : FWI E m) (hm : m < 12) (hs : FW1 E E' m) (hd : ∀ t : Nat, t < 12 → 0 ≤ E t t) (hd' : ∀ t : Nat, t < 12 → 0 ≤ E' t t) : FWI E' (m + 1) := by
  have hle : ∀ i j : Nat, i < 12 → j < 12 → E' i j ≤ E i j := fun i j hi hj => by
    rcases hs i j hi hj with ⟨_, g, _⟩ | ⟨_, g⟩ <;> omega
  have hcol : ∀ i : Nat, i < 12 → E' i m = E i m := fun i hi => by
    have h1 := hd m hm
    rcases hs i m hi hm with ⟨_, g1, _, g2⟩ | ⟨_, g⟩ <;> omega
  have hrow : ∀ j : Nat, j < 12 → E' m j = E m j := fun j hj => by
    have h1 := hd m hm
    rcases hs m j hm hj with ⟨_, g1, _, g2⟩ | ⟨_, g⟩ <;> omega
  have hsum : ∀ i j : Nat, i < 12 → j < 12 → E i m < 1000000 → E m j < 1000000 → E' i j ≤ E i m + E m j := fun i j hi hj g1 g2 => by
    rcases hs i j hi hj with ⟨_, _, g, _⟩ | ⟨g, _⟩
    · exact g
    · exact absurd ⟨g1, g2⟩ g
  have hr : ∀ i j : Nat, i < 12 → j < 12 → E i j < 1000000 → -129987 ≤ E i j ∧ E i j ≤ 129987 := fun i j hi hj g => h.r (Nat.le_of_lt hm) hi hj g
  refine ⟨fun i j hi hj => Int.le_trans (hle i j hi hj) (h.1 i j hi hj), ?_, ?_⟩
  · intro v i j hv hi hj f1 f2
    by_cases e : v = m
    · subst e
      rw [hcol i hi] at f1 ⊢
      rw [hrow j hj] at f2 ⊢
      exact hsum i j hi hj f1 f2
    · have hvm : v < m := by omega
      have hv12 : v < 12 := by omega
      have hz : E m v < 1000000 → E v m < 1000000 → 0 ≤ E m v + E v m := fun g1 g2 => by
        have g3 := h.2.1 v m m hvm hm hm g1 g2
        have g4 := hd m hm
        omega
      rcases (show E' i v = E i v ∨ (E i m < 1000000 ∧ E m v < 1000000 ∧ E' i v = E i m + E m v) from by
        rcases hs i v hi hv12 with ⟨⟨g0, g0'⟩, _, _, g | g⟩ | ⟨_, g⟩
        · exact Or.inl g
        · exact Or.inr ⟨g0, g0', g⟩
        · exact Or.inl g) with a1 | ⟨a1, a2, a3⟩
      · rcases (show E' v j = E v j ∨ (E v m < 1000000 ∧ E m j < 1000000 ∧ E' v j = E v m + E m j) from by
          rcases hs v j hv12 hj with ⟨⟨g0, g0'⟩, _, _, g | g⟩ | ⟨_, g⟩
          · exact Or.inl g
          · exact Or.inr ⟨g0, g0', g⟩
          · exact Or.inl g) with b1 | ⟨b1, b2, b3⟩
        · have g1 := h.2.1 v i j hvm hi hj (by omega) (by omega)
          have g2 := hle i j hi hj
          omega
        · have g1 := h.2.1 v i m hvm hi hm (by omega) b1
          have g2 := hr i v hi hv12 (by omega)
          have g3 := hr v m hv12 hm b1
          have g4 := hsum i j hi hj (by omega) b2
          omega
      · rcases (show E' v j = E v j ∨ (E v m < 1000000 ∧ E m j < 1000000 ∧ E' v j = E v m + E m j) from by
          rcases hs v j hv12 hj with ⟨⟨g0, g0'⟩, _, _, g | g⟩ | ⟨_, g⟩
          · exact Or.inl g
          · exact Or.inr ⟨g0, g0', g⟩
          · exact Or.inl g) with b1 | ⟨b1, b2, b3⟩
        · have g1 := h.2.1 v m j hvm hm hj a2 (by omega)
          have g2 := hr m v hm hv12 a2
          have g3 := hr v j hv12 hj (by omega)
          have g4 := hsum i j hi hj a1 (by omega)
          omega
        · have g1 := hz a2 b1
          have g4 := hsum i j hi hj a1 b2
          omega
  · intro i j hi hj hf
    by_cases hn : E' i j = E i j
    · obtain ⟨S, h1, h2⟩ := h.2.2 i j hi hj (by omega)
      refine ⟨fun v => S v && decide (v < m), ?_, ?_⟩
      · have e : cS (fun v => S v && decide (v < m)) (m + 1) = cS S m := by
          have e1 : cS (fun v => S v && decide (v < m)) (m + 1) = cS (fun v => S v && decide (v < m)) m + (if (S m && decide (m < m)) = true then 1 else 0) := rfl
          rw [e1, if_neg (by rw [decide_eq_false (Nat.lt_irrefl m), Bool.and_false]; decide), cS_c (S' := S) m (fun v hv => by rw [decide_eq_true hv, Bool.and_true]), Int.add_zero]
        rw [e, hn]
        exact h1
      · intro v hv hS
        have hS2 : S v = true ∧ v < m := by
          rw [Bool.and_eq_true, decide_eq_true_iff] at hS
          exact hS
        obtain ⟨g1, g2, g3⟩ := h2 v hS2.2 hS2.1
        have g4 := hle i v hi (by omega)
        have g5 := hle v j (by omega) hj
        exact ⟨by omega, by omega, by omega⟩
    · have hnew : E i m < 1000000 ∧ E m j < 1000000 ∧ E' i j = E i m + E m j ∧ E i m + E m j < E i j := by
        rcases hs i j hi hj with ⟨⟨g0, g0'⟩, g1, _, g | g⟩ | ⟨_, g⟩
        · exact absurd g hn
        · exact ⟨g0, g0', g, by omega⟩
        · exact absurd g hn
      obtain ⟨f1, f2, f3, f4⟩ := hnew
      obtain ⟨S1, a1, a2⟩ := h.2.2 i m hi hm f1
      obtain ⟨S2, b1, b2⟩ := h.2.2 m j hm hj f2
      have hdis : ∀ v : Nat, v < m → ¬ (S1 v = true ∧ S2 v = true) := by
        rintro v hv ⟨q1, q2⟩
        obtain ⟨g1, g2, g3⟩ := a2 v hv q1
        obtain ⟨k1, k2, k3⟩ := b2 v hv q2
        have g4 := hd' v (by omega)
        have g5 := hsum v v (by omega) (by omega) g2 k1
        have g6 := h.2.1 v i j hv hi hj g1 k2
        omega
      refine ⟨fun v => (S1 v || S2 v) && decide (v < m) || decide (v = m), ?_, ?_⟩
      · have e : cS (fun v => (S1 v || S2 v) && decide (v < m) || decide (v = m)) (m + 1) = cS S1 m + cS S2 m + 1 := by
          have e1 : cS (fun v => (S1 v || S2 v) && decide (v < m) || decide (v = m)) (m + 1) = cS (fun v => (S1 v || S2 v) && decide (v < m) || decide (v = m)) m + (if ((S1 m || S2 m) && decide (m < m) || decide (m = m)) = true then 1 else 0) := rfl
          rw [e1, if_pos (by rw [decide_eq_true (rfl : m = m), Bool.or_true]), cS_c (S' := fun v => S1 v || S2 v) m (fun v hv => by
            show ((S1 v || S2 v) && decide (v < m) || decide (v = m)) = (S1 v || S2 v)
            rw [decide_eq_true hv, decide_eq_false (show ¬ v = m by omega), Bool.and_true, Bool.or_false]), cS_or m hdis]
        rw [e, f3]
        constructor <;> omega
      · intro v hv hS
        rw [Bool.or_eq_true, Bool.and_eq_true, Bool.or_eq_true, decide_eq_true_iff, decide_eq_true_iff] at hS
        rcases hS with ⟨q, hvm⟩ | hvm
        · rcases q with q | q
          · obtain ⟨g1, g2, g3⟩ := a2 v hvm q
            have g4 := hle i v hi (by omega)
            have g5 := hsum v j (by omega) hj g2 f2
            have g6 := hr v m (by omega) hm g2
            have g7 := hr m j hm hj f2
            exact ⟨by omega, by omega, by omega⟩
          · obtain ⟨g1, g2, g3⟩ := b2 v hvm q
            have g4 := hle v j (by omega) hj
            have g5 := hsum i v hi (by omega) f1 g1
            have g6 := hr m v hm (by omega) g1
            have g7 := hr i m hi hm f1
            exact ⟨by omega, by omega, by omega⟩
        · subst hvm
          rw [hcol i hi, hrow j hj]
          exact ⟨f1, f2, by omega⟩
-- in one row of 144
def mn (a b : Int) : Int := if a ≤ b then a else b
theorem mn_e (a b : Int) : (a ≤ b ∧ mn a b = a) ∨ (b < a ∧ mn a b = b) := by
  by_cases h : a ≤ b
  · exact Or.inl ⟨h, if_pos h⟩
  · exact Or.inr ⟨by omega, if_neg h⟩
def fwS (f : Nat → Int) (m : Nat) : Nat → Int := fun c => if f (12 * (c / 12) + m) < 1000000 ∧ f (12 * m + c % 12) < 1000000 then mn (f c) (f (12 * (c / 12) + m) + f (12 * m + c % 12)) else f c
theorem fwS_e (f : Nat → Int) (m c : Nat) : ((f (12 * (c / 12) + m) < 1000000 ∧ f (12 * m + c % 12) < 1000000) ∧ ((f c ≤ f (12 * (c / 12) + m) + f (12 * m + c % 12) ∧ fwS f m c = f c) ∨ (f (12 * (c / 12) + m) + f (12 * m + c % 12) < f c ∧ fwS f m c = f (12 * (c / 12) + m) + f (12 * m + c % 12)))) ∨ (¬ (f (12 * (c / 12) + m) < 1000000 ∧ f (12 * m + c % 12) < 1000000) ∧ fwS f m c = f c) := by
  by_cases h : f (12 * (c / 12) + m) < 1000000 ∧ f (12 * m + c % 12) < 1000000
  · have e : fwS f m c = mn (f c) (f (12 * (c / 12) + m) + f (12 * m + c % 12)) := if_pos h
    have h2 := mn_e (f c) (f (12 * (c / 12) + m) + f (12 * m + c % 12))
    rw [← e] at h2
    exact Or.inl ⟨h, h2⟩
  · exact Or.inr ⟨h, if_neg h⟩
def fwN (f : Nat → Int) : Nat → (Nat → Int)
  | 0 => f
  | m + 1 => fwS (fwN f m) m
def sqE (f : Nat → Int) (i j : Nat) : Int := f (12 * i + j)
theorem sq_i {i j : Nat} (hj : j < 12) : (12 * i + j) / 12 = i ∧ (12 * i + j) % 12 = j := by omega
theorem fwS_1 (f : Nat → Int) {m : Nat} (hm : m < 12) : FW1 (sqE f) (sqE (fwS f m)) m := by
  intro i j hi hj
  have h := fwS_e f m (12 * i + j)
  rw [(sq_i (i := i) hj).1, (sq_i (i := i) hj).2] at h
  unfold sqE
  rcases h with ⟨h1, h2 | h2⟩ | ⟨h1, h2⟩
  · exact Or.inl ⟨h1, by omega, by omega, Or.inl h2.2⟩
  · exact Or.inl ⟨h1, by omega, by omega, Or.inr h2.2⟩
  · exact Or.inr ⟨h1, h2⟩
/-- none is below itself up to so many steps -/
def okN (T : Nat → Int) (m : Nat) : Prop := ∀ k : Nat, k ≤ m → ∀ t : Nat, t < 12 → 0 ≤ fwN T k (13 * t)
theorem okN.le {T : Nat → Int} {m k : Nat} (h : okN T m) (hk : k ≤ m) : okN T k := fun q hq => h q (Nat.le_trans hq hk)
theorem okN.succ {T : Nat → Int} {m : Nat} (h : okN T m) (h1 : ∀ t : Nat, t < 12 → 0 ≤ fwN T (m + 1) (13 * t)) : okN T (m + 1) := fun k hk => by
  rcases (show k ≤ m ∨ k = m + 1 by omega) with h2 | h2
  · exact h k h2
  · rw [h2]; exact h1
/-- what is told at first: in bounds, none told -/
def TB (T : Nat → Int) : Prop := ∀ c : Nat, c < 144 → (-9999 ≤ T c ∧ T c ≤ 9999) ∨ T c = 1000000
theorem okN.I {T : Nat → Int} (hT : TB T) : ∀ m : Nat, m ≤ 12 → okN T m → FWI (sqE (fwN T m)) m := by
  intro m
  induction m with
  | zero =>
    intro _ _
    refine ⟨fun i j hi hj => ?_, fun v i j hv => absurd hv (Nat.not_lt_zero v), fun i j hi hj hf => ⟨fun _ => false, ?_, fun v hv => absurd hv (Nat.not_lt_zero v)⟩⟩
    · have h1 : sqE (fwN T 0) i j = T (12 * i + j) := rfl
      rcases hT (12 * i + j) (by omega) with h | h <;> omega
    · have h1 : sqE (fwN T 0) i j = T (12 * i + j) := rfl
      have h2 : cS (fun _ => false) 0 = 0 := rfl
      rw [h2]
      rcases hT (12 * i + j) (by omega) with h | h <;> omega
  | succ m ih =>
    intro hm hok
    have dg : ∀ (k : Nat), k ≤ m + 1 → ∀ t : Nat, t < 12 → 0 ≤ sqE (fwN T k) t t := fun k hk t ht => by
      have h1 := hok k hk t ht
      unfold sqE
      rw [show 12 * t + t = 13 * t by omega]
      exact h1
    exact FWI.step (ih (by omega) (hok.le (by omega))) (by omega) (fwS_1 (fwN T m) (by omega)) (dg m (by omega)) (dg (m + 1) (by omega))
theorem okN.r {T : Nat → Int} (hT : TB T) {m c : Nat} (hm : m ≤ 12) (hok : okN T m) (hc : c < 144) : (-129987 ≤ fwN T m c ∧ fwN T m c ≤ 129987) ∨ fwN T m c = 1000000 := by
  have h := okN.I hT m hm hok
  have e : sqE (fwN T m) (c / 12) (c % 12) = fwN T m c := by
    unfold sqE
    rw [show 12 * (c / 12) + c % 12 = c by omega]
  have h1 := h.1 (c / 12) (c % 12) (by omega) (by omega)
  rw [e] at h1
  rcases (show fwN T m c < 1000000 ∨ fwN T m c = 1000000 by omega) with h2 | h2
  · have h3 := h.r hm (i := c / 12) (j := c % 12) (by omega) (by omega) (by rw [e]; exact h2)
    rw [e] at h3
    exact Or.inl h3
  · exact Or.inr h2
theorem fwS_row {f : Nat → Int} {m : Nat} (hd : 0 ≤ f (13 * m)) (hm : m < 12) {c : Nat} (hc : c / 12 = m) : fwS f m c = f c := by
  have h := fwS_e f m c
  rw [hc, show 12 * m + m = 13 * m by omega, show 12 * m + c % 12 = c by omega] at h
  omega
theorem fwS_col {f : Nat → Int} {m : Nat} (hd : 0 ≤ f (13 * m)) (hm : m < 12) {c : Nat} (hc : c % 12 = m) : fwS f m c = f c := by
  have h := fwS_e f m c
  rw [hc, show 12 * (c / 12) + m = c by omega, show 12 * m + m = 13 * m by omega] at h
  omega
-- what claims tell
def tlU (f : Nat → Int) (c : Nat) (v : Int) : Nat → Int := updZ f c (mn (f c) v)
def to1 (f : Nat → Int) (a b : Nat) (k v : Int) : Nat → Int := if k = 2 then f else tlU f (12 * a + b) v
def to2 (f : Nat → Int) (a b : Nat) (k v : Int) : Nat → Int := if k = 1 then f else tlU f (12 * b + a) (-v)
def toF (A B K V : Nat → Int) (w : Int) : Nat → (Nat → Int)
  | 0 => fun c => if c / 12 = c % 12 then 0 else 1000000
  | m + 1 => if (m : Int) = w then toF A B K V w m else to2 (to1 (toF A B K V w m) (A m).toNat (B m).toNat (K m) (V m)) (A m).toNat (B m).toNat (K m) (V m)
theorem toF_c {A B K V A' B' K' V' : Nat → Int} (w : Int) (m : Nat) (h : ∀ j : Nat, j < m → A j = A' j ∧ B j = B' j ∧ K j = K' j ∧ V j = V' j) : toF A B K V w m = toF A' B' K' V' w m := by
  induction m with
  | zero => rfl
  | succ m ih =>
    obtain ⟨h1, h2, h3, h4⟩ := h m (Nat.lt_succ_self m)
    have h5 := ih (fun j hj => h j (Nat.lt_succ_of_lt hj))
    unfold toF
    rw [h5, h1, h2, h3, h4]
def TD (T : Nat → Int) : Prop := TB T ∧ ∀ t : Nat, t < 12 → T (13 * t) = 0
theorem TD.tl {T : Nat → Int} (h : TD T) {a b : Nat} {v : Int} (ha : a < 12) (hb : b < 12) (hab : a ≠ b) (hv : -9999 ≤ v ∧ v ≤ 9999) : TD (tlU T (12 * a + b) v) := by
  refine ⟨fun c hc => ?_, fun t ht => ?_⟩
  · unfold tlU
    by_cases e : c = 12 * a + b
    · rw [e, updZ_s]
      have h1 := h.1 (12 * a + b) (by omega)
      have h2 := mn_e (T (12 * a + b)) v
      omega
    · rw [updZ_n _ _ e]; exact h.1 c hc
  · unfold tlU
    rw [updZ_n _ _ (by omega)]; exact h.2 t ht
theorem toF_T {A B K V : Nat → Int} (w : Int) (hA : ∀ j, 0 ≤ A j ∧ A j ≤ 11) (hB : ∀ j, 0 ≤ B j ∧ B j ≤ 11) (hV : ∀ j, -9999 ≤ V j ∧ V j ≤ 9999) (m : Nat) (hn : ∀ j : Nat, j < m → A j ≠ B j) : TD (toF A B K V w m) := by
  induction m with
  | zero =>
    refine ⟨fun c hc => ?_, fun t ht => if_pos (by omega)⟩
    show (-9999 ≤ (if c / 12 = c % 12 then (0 : Int) else 1000000) ∧ (if c / 12 = c % 12 then (0 : Int) else 1000000) ≤ 9999) ∨ (if c / 12 = c % 12 then (0 : Int) else 1000000) = 1000000
    split
    · exact Or.inl ⟨by decide, by decide⟩
    · exact Or.inr rfl
  | succ m ih =>
    have h := ih (fun j hj => hn j (by omega))
    have h1 := hn m (Nat.lt_succ_self m)
    have h2 := hA m
    have h3 := hB m
    have h4 := hV m
    have g1 : TD (to1 (toF A B K V w m) (A m).toNat (B m).toNat (K m) (V m)) := by
      unfold to1
      split
      · exact h
      · exact h.tl (by omega) (by omega) (by omega) h4
    have g2 : TD (to2 (to1 (toF A B K V w m) (A m).toNat (B m).toNat (K m) (V m)) (A m).toNat (B m).toNat (K m) (V m)) := by
      unfold to2
      split
      · exact g1
      · exact g1.tl (by omega) (by omega) (by omega) (by omega)
    unfold toF
    split
    · exact h
    · exact g2
theorem to1_2 {f : Nat → Int} {a b : Nat} {k v : Int} (h : k = 2) : to1 f a b k v = f := if_pos h
theorem to1_x {f : Nat → Int} {a b : Nat} {k v : Int} (h : k ≠ 2) : to1 f a b k v = tlU f (12 * a + b) v := if_neg h
theorem to2_1 {f : Nat → Int} {a b : Nat} {k v : Int} (h : k = 1) : to2 f a b k v = f := if_pos h
theorem to2_x {f : Nat → Int} {a b : Nat} {k v : Int} (h : k ≠ 1) : to2 f a b k v = tlU f (12 * b + a) (-v) := if_neg h
theorem tlU_c {f g : Nat → Int} {p : Nat} {v : Int} (hp : p < 144) (h : ∀ c : Nat, c < 144 → f c = g c) : ∀ c : Nat, c < 144 → tlU f p v c = tlU g p v c := fun c hc => by
  unfold tlU
  by_cases e : c = p
  · rw [e, updZ_s, updZ_s, h p hp]
  · rw [updZ_n _ _ e, updZ_n _ _ e]; exact h c hc
theorem to1_c {f g : Nat → Int} {a b : Nat} {k v : Int} (ha : a < 12) (hb : b < 12) (h : ∀ c : Nat, c < 144 → f c = g c) : ∀ c : Nat, c < 144 → to1 f a b k v c = to1 g a b k v c := by
  by_cases e : k = 2
  · rw [to1_2 e, to1_2 e]; exact h
  · rw [to1_x e, to1_x e]; exact tlU_c (by omega) h
theorem to2_c {f g : Nat → Int} {a b : Nat} {k v : Int} (ha : a < 12) (hb : b < 12) (h : ∀ c : Nat, c < 144 → f c = g c) : ∀ c : Nat, c < 144 → to2 f a b k v c = to2 g a b k v c := by
  by_cases e : k = 1
  · rw [to2_1 e, to2_1 e]; exact h
  · rw [to2_x e, to2_x e]; exact tlU_c (by omega) h
theorem toF_s {A B K V : Nat → Int} {w x : Int} (h : 0 ≤ x) : (x = w ∧ toF A B K V w (x + 1).toNat = toF A B K V w x.toNat) ∨ (x ≠ w ∧ toF A B K V w (x + 1).toNat = to2 (to1 (toF A B K V w x.toNat) (A x.toNat).toNat (B x.toNat).toNat (K x.toNat) (V x.toNat)) (A x.toNat).toNat (B x.toNat).toNat (K x.toNat) (V x.toNat)) := by
  rw [tn_s h]
  by_cases e : ((x.toNat : Nat) : Int) = w
  · exact Or.inl ⟨by omega, if_pos e⟩
  · exact Or.inr ⟨by omega, if_neg e⟩
theorem toF_0 {A B K V : Nat → Int} {w : Int} {c : Nat} : toF A B K V w 0 c = if c / 12 = c % 12 then 0 else 1000000 := rfl
theorem tl_st {f f1 : Nat → Int} {p q : Nat} {v t u : Int} (e1 : f1 = updZ f q t) (hq : q = p) (hu : u = f p) (ht : (t = u ∧ u ≤ v) ∨ (t = v ∧ v ≤ u)) : f1 = tlU f p v := by
  subst hq
  rw [e1]
  unfold tlU
  have h := mn_e (f q) v
  congr 1
  omega
theorem fwS_c {f g : Nat → Int} {m c : Nat} (hm : m < 12) (hc : c < 144) (h : ∀ c : Nat, c < 144 → f c = g c) : fwS f m c = fwS g m c := by
  unfold fwS
  rw [h c hc, h (12 * (c / 12) + m) (by omega), h (12 * m + c % 12) (by omega)]
theorem okN.zero {T : Nat → Int} (h : TD T) : okN T 0 := fun k hk t ht => by
  obtain rfl : k = 0 := by omega
  show 0 ≤ T (13 * t)
  rw [h.2 t ht]; decide
theorem okN.not {T f : Nat → Int} {m : Nat} (hm : m ≤ 12) (hf : ∀ c : Nat, c < 144 → f c = fwN T m c) (h : ∃ t : Nat, t < 12 ∧ f (13 * t) < 0) : ¬ okN T 12 := fun hok => by
  obtain ⟨t, ht, h1⟩ := h
  have h2 := hok m hm t ht
  rw [hf (13 * t) (by omega)] at h1
  omega
-- what is answered of bounds
def toP (P : Int → Int) (n : Int) : Nat → Int := toF (cA P) (cB P) (cK P) (cV P) (-1) n.toNat
theorem AG.tof {P : Int → Int} {n : Int} {A B K V : Nat → Int} (h : AG P n A B K V) (hn : 0 ≤ n) (w : Int) : toF A B K V w n.toNat = toF (cA P) (cB P) (cK P) (cV P) w n.toNat := toF_c w _ (fun j hj => by
  obtain ⟨h1, h2, h3, h4, _⟩ := h j (by omega)
  exact ⟨h1, h2, h3, h4⟩)
noncomputable def okZ (T : Nat → Int) : Int := @ite Int (okN T 12) (Classical.propDecidable _) 1 0
theorem okZ_e (T : Nat → Int) : (okN T 12 ∧ okZ T = 1) ∨ (¬ okN T 12 ∧ okZ T = 0) := by
  rcases Classical.em (okN T 12) with h | h
  · exact Or.inl ⟨h, if_pos h⟩
  · exact Or.inr ⟨h, if_neg h⟩
/-- what the state keeps of the class's bounds -/
def BOd (t : Int) (P : Int → Int) (n : Int) (d b : Nat → Int) (can : Int) : Prop := t = 1 → (∀ c : Nat, c < 144 → d c = toP P n c) ∧ ((can = 1 ∧ okN (toP P n) 12 ∧ ∀ c : Nat, c < 144 → b c = fwN (toP P n) 12 c) ∨ (can = 0 ∧ ¬ okN (toP P n) 12)) ∧ TD (toP P n)
theorem BOd.tb {P : Int → Int} {n can : Int} {d b : Nat → Int} (h : BOd 1 P n d b can) : TB (toP P n) := (h rfl).2.2.1
theorem BOd.ok {P : Int → Int} {n can : Int} {d b : Nat → Int} (h : BOd 1 P n d b can) (hc : can = 1) : okN (toP P n) 12 := by
  rcases (h rfl).2.1 with ⟨_, h1, _⟩ | ⟨h1, _⟩
  · exact h1
  · omega
theorem BOd.can {P : Int → Int} {n can : Int} {d b : Nat → Int} (h : BOd 1 P n d b can) : can = okZ (toP P n) ∧ (can = 1 → ∀ c : Nat, c < 144 → b c = fwN (toP P n) 12 c) := by
  obtain ⟨_, h1, _⟩ := h rfl
  rcases okZ_e (toP P n) with ⟨g1, g2⟩ | ⟨g1, g2⟩
  · rcases h1 with ⟨k1, k2, k3⟩ | ⟨k1, k2⟩
    · exact ⟨by omega, fun _ => k3⟩
    · exact absurd g1 k2
  · rcases h1 with ⟨k1, k2, k3⟩ | ⟨k1, k2⟩
    · exact absurd k2 g1
    · exact ⟨by omega, fun e => by omega⟩
def mtB (f : Nat → Int) (a n : Nat) : Int := fz (fun c s => if f (12 * a + c) < 0 then z_ior s (z_ishl 1 (c : Int)) else s) 0 n
theorem mtB_s (f : Nat → Int) (a : Nat) {x : Int} (h : 0 ≤ x) : (f (12 * a + x.toNat) < 0 ∧ mtB f a (x + 1).toNat = z_ior (mtB f a x.toNat) (z_ishl 1 x)) ∨ (¬ f (12 * a + x.toNat) < 0 ∧ mtB f a (x + 1).toNat = mtB f a x.toNat) := by
  have e : mtB f a (x + 1).toNat = if f (12 * a + x.toNat) < 0 then z_ior (mtB f a x.toNat) (z_ishl 1 ((x.toNat : Nat) : Int)) else mtB f a x.toNat := fz_s _ _ h
  rw [show ((x.toNat : Nat) : Int) = x by omega] at e
  rw [e]
  by_cases hc : f (12 * a + x.toNat) < 0
  · exact Or.inl ⟨hc, if_pos hc⟩
  · exact Or.inr ⟨hc, if_neg hc⟩
theorem mtB_c {f g : Nat → Int} {a : Nat} (n : Nat) (ha : a < 12) (hn : n ≤ 12) (h : ∀ c : Nat, c < 144 → f c = g c) : mtB f a n = mtB g a n := fz_c _ _ (fun k hk s => by rw [h (12 * a + k) (by omega)])
def ltB (f : Nat → Int) (a n : Nat) : Int := fz (fun c s => if f (12 * c + a) < 0 then z_ior s (z_ishl 1 (c : Int)) else s) 0 n
theorem ltB_s (f : Nat → Int) (a : Nat) {x : Int} (h : 0 ≤ x) : (f (12 * x.toNat + a) < 0 ∧ ltB f a (x + 1).toNat = z_ior (ltB f a x.toNat) (z_ishl 1 x)) ∨ (¬ f (12 * x.toNat + a) < 0 ∧ ltB f a (x + 1).toNat = ltB f a x.toNat) := by
  have e : ltB f a (x + 1).toNat = if f (12 * x.toNat + a) < 0 then z_ior (ltB f a x.toNat) (z_ishl 1 ((x.toNat : Nat) : Int)) else ltB f a x.toNat := fz_s _ _ h
  rw [show ((x.toNat : Nat) : Int) = x by omega] at e
  rw [e]
  by_cases hc : f (12 * x.toNat + a) < 0
  · exact Or.inl ⟨hc, if_pos hc⟩
  · exact Or.inr ⟨hc, if_neg hc⟩
theorem ltB_c {f g : Nat → Int} {a : Nat} (n : Nat) (ha : a < 12) (hn : n ≤ 12) (h : ∀ c : Nat, c < 144 → f c = g c) : ltB f a n = ltB g a n := fz_c _ _ (fun k hk s => by rw [h (12 * k + a) (by omega)])
def lwF (f : Nat → Int) (a n : Nat) : Int := fz (fun c m => mx m (-f (12 * c + a))) 0 n
theorem lwF_s (f : Nat → Int) (a : Nat) {x : Int} (h : 0 ≤ x) : lwF f a (x + 1).toNat = mx (lwF f a x.toNat) (-f (12 * x.toNat + a)) := fz_s _ _ h
theorem lwF_c {f g : Nat → Int} {a : Nat} (n : Nat) (ha : a < 12) (hn : n ≤ 12) (h : ∀ c : Nat, c < 144 → f c = g c) : lwF f a n = lwF g a n := fz_c _ _ (fun k hk s => by rw [h (12 * k + a) (by omega)])
def slF (A B K V f : Nat → Int) (i : Nat) : Int := if K i = 0 then 0 else if K i = 1 then V i - f (12 * (A i).toNat + (B i).toNat) else -V i - f (12 * (B i).toNat + (A i).toNat)
theorem slF_e (A B K V f : Nat → Int) (i : Nat) : (K i = 0 ∧ slF A B K V f i = 0) ∨ (K i = 1 ∧ slF A B K V f i = V i - f (12 * (A i).toNat + (B i).toNat)) ∨ (K i ≠ 0 ∧ K i ≠ 1 ∧ slF A B K V f i = -V i - f (12 * (B i).toNat + (A i).toNat)) := by
  unfold slF
  by_cases h : K i = 0
  · exact Or.inl ⟨h, if_pos h⟩
  · rw [if_neg h]
    by_cases h1 : K i = 1
    · exact Or.inr (Or.inl ⟨h1, if_pos h1⟩)
    · exact Or.inr (Or.inr ⟨h, h1, if_neg h1⟩)
theorem slF_c {A B K V f A' B' K' V' g : Nat → Int} {i : Nat} (h : A i = A' i ∧ B i = B' i ∧ K i = K' i ∧ V i = V' i) (ha : 0 ≤ A i ∧ A i ≤ 11) (hb : 0 ≤ B i ∧ B i ≤ 11) (hf : ∀ c : Nat, c < 144 → f c = g c) : slF A B K V f i = slF A' B' K' V' g i := by
  obtain ⟨h1, h2, h3, h4⟩ := h
  unfold slF
  rw [← h1, ← h2, ← h3, ← h4, hf (12 * (A i).toNat + (B i).toNat) (by omega), hf (12 * (B i).toNat + (A i).toNat) (by omega)]
-- idle
/-- without claim k all bounds are as they are -/
def idl (A B K V : Nat → Int) (n : Nat) (k : Nat) : Prop := okN (toF A B K V (k : Int) n) 12 ∧ ∀ c : Nat, c < 144 → fwN (toF A B K V (-1) n) 12 c = fwN (toF A B K V (k : Int) n) 12 c
theorem idl_c {A B K V A' B' K' V' : Nat → Int} {n k : Nat} (h : ∀ j : Nat, j < n → A j = A' j ∧ B j = B' j ∧ K j = K' j ∧ V j = V' j) : idl A B K V n k ↔ idl A' B' K' V' n k := by
  unfold idl
  rw [toF_c (k : Int) n h, toF_c (-1) n h]
noncomputable def idC (A B K V : Nat → Int) (n : Nat) : Nat → Int
  | 0 => 0
  | k + 1 => idC A B K V n k + @ite Int (idl A B K V n k) (Classical.propDecidable _) 1 0
theorem idC_s (A B K V : Nat → Int) (n : Nat) {x : Int} (hx : 0 ≤ x) : (idl A B K V n x.toNat ∧ idC A B K V n (x + 1).toNat = idC A B K V n x.toNat + 1) ∨ (¬ idl A B K V n x.toNat ∧ idC A B K V n (x + 1).toNat = idC A B K V n x.toNat) := by
  rw [tn_s hx]
  have e : idC A B K V n (x.toNat + 1) = idC A B K V n x.toNat + @ite Int (idl A B K V n x.toNat) (Classical.propDecidable _) 1 0 := rfl
  rcases Classical.em (idl A B K V n x.toNat) with h | h
  · exact Or.inl ⟨h, by rw [e]; congr 1; exact if_pos h⟩
  · refine Or.inr ⟨h, ?_⟩
    rw [e, show (@ite Int (idl A B K V n x.toNat) (Classical.propDecidable _) 1 0) = 0 from if_neg h, Int.add_zero]
theorem idC_c {A B K V A' B' K' V' : Nat → Int} {n : Nat} (h : ∀ j : Nat, j < n → A j = A' j ∧ B j = B' j ∧ K j = K' j ∧ V j = V' j) (k : Nat) : idC A B K V n k = idC A' B' K' V' n k := by
  induction k with
  | zero => rfl
  | succ k ih =>
    unfold idC
    have e := idl_c (k := k) h
    rw [ih, show idl A B K V n k = idl A' B' K' V' n k from propext e]
/-- the first idle one -/
noncomputable def idV (A B K V : Nat → Int) (n : Nat) : Nat → Int
  | 0 => -2
  | k + 1 => @ite Int (idV A B K V n k = -2 ∧ idl A B K V n k) (Classical.propDecidable _) (k : Int) (idV A B K V n k)
def idG (A B K V : Nat → Int) (n m : Nat) (r : Int) : Prop := (r = -2 ∧ ∀ k : Nat, k < m → ¬ idl A B K V n k) ∨ (0 ≤ r ∧ r < (m : Int) ∧ idl A B K V n r.toNat ∧ ∀ k : Nat, (k : Int) < r → ¬ idl A B K V n k)
theorem idV_G (A B K V : Nat → Int) (n : Nat) : ∀ m : Nat, idG A B K V n m (idV A B K V n m) := by
  intro m
  induction m with
  | zero => exact Or.inl ⟨rfl, fun k hk => absurd hk (Nat.not_lt_zero k)⟩
  | succ m ih =>
    unfold idV
    rcases Classical.em (idV A B K V n m = -2 ∧ idl A B K V n m) with h | h
    · rw [if_pos h]
      rcases ih with ⟨a1, a2⟩ | ⟨a1, a2, a3, a4⟩
      · exact Or.inr ⟨by omega, by omega, by rw [show (m : Int).toNat = m by omega]; exact h.2, fun k hk => a2 k (by omega)⟩
      · omega
    · rw [if_neg h]
      rcases ih with ⟨a1, a2⟩ | ⟨a1, a2, a3, a4⟩
      · refine Or.inl ⟨a1, fun k hk => ?_⟩
        rcases (show k < m ∨ k = m by omega) with g | g
        · exact a2 k g
        · rw [g]; exact fun q => h ⟨a1, q⟩
      · exact Or.inr ⟨a1, by omega, a3, a4⟩
theorem idG.u {A B K V : Nat → Int} {n m : Nat} {r : Int} (h1 : idG A B K V n m r) : r = idV A B K V n m := by
  rcases h1 with ⟨a1, a2⟩ | ⟨a1, a2, a3, a4⟩
  · rcases idV_G A B K V n m with ⟨b1, b2⟩ | ⟨b1, b2, b3, b4⟩
    · omega
    · exact absurd b3 (a2 _ (by omega))
  · rcases idV_G A B K V n m with ⟨b1, b2⟩ | ⟨b1, b2, b3, b4⟩
    · exact absurd a3 (b2 _ (by omega))
    · rcases (show r < idV A B K V n m ∨ r = idV A B K V n m ∨ idV A B K V n m < r by omega) with g | g | g
      · exact absurd a3 (b4 _ (by omega))
      · exact g
      · exact absurd b3 (a4 _ (by omega))
theorem idV_c {A B K V A' B' K' V' : Nat → Int} {n : Nat} (h : ∀ j : Nat, j < n → A j = A' j ∧ B j = B' j ∧ K j = K' j ∧ V j = V' j) (k : Nat) : idV A B K V n k = idV A' B' K' V' n k := by
  induction k with
  | zero => rfl
  | succ k ih =>
    unfold idV
    rw [ih, show idl A B K V n k = idl A' B' K' V' n k from propext (idl_c h)]
theorem idl_like {A B K V b o : Nat → Int} {n k : Nat} {r w : Int} (hw : w = (k : Int)) (hG : okN (toF A B K V (-1) n) 12 ∧ ∀ c : Nat, c < 144 → b c = fwN (toF A B K V (-1) n) 12 c) (hf : (okN (toF A B K V w n) 12 ∧ ∀ c : Nat, c < 144 → o c = fwN (toF A B K V w n) 12 c) ∨ (¬ okN (toF A B K V w n) 12 ∧ ∃ t : Nat, t < 12 ∧ o (13 * t) < 0)) (hr : (r = 1 ∧ ∀ c : Nat, c < 144 → b c = o c) ∨ (r = 0 ∧ ¬ ∀ c : Nat, c < 144 → b c = o c)) : (r = 1 ∧ idl A B K V n k) ∨ (r = 0 ∧ ¬ idl A B K V n k) := by
  subst hw
  rcases hr with ⟨r1, r2⟩ | ⟨r1, r2⟩
  · rcases hf with ⟨f1, f2⟩ | ⟨f1, t, ht, f2⟩
    · exact Or.inl ⟨r1, f1, fun c hc => by rw [← hG.2 c hc, r2 c hc, f2 c hc]⟩
    · have h1 := hG.1 12 (Nat.le_refl 12) t ht
      rw [← hG.2 (13 * t) (by omega), r2 (13 * t) (by omega)] at h1
      omega
  · refine Or.inr ⟨r1, fun h => r2 (fun c hc => ?_)⟩
    rcases hf with ⟨f1, f2⟩ | ⟨f1, _⟩
    · rw [hG.2 c hc, f2 c hc]; exact h.2 c hc
    · exact absurd h.1 f1
/-- the reference's steps, place by place, with a bound below -/
def FR (T : Nat → Int) (m c : Nat) (f : Nat → Int) : Prop := (okN T m ∧ ∀ e : Nat, e < 144 → (e < c → f e = fwS (fwN T m) m e) ∧ (c ≤ e → f e = fwN T m e)) ∨ (¬ okN T m ∧ ∃ t : Nat, t < 12 ∧ f (13 * t) < 0)
theorem FR.ini {T f : Nat → Int} (hT : TD T) (h : ∀ c : Nat, c < 144 → f c = T c) : FR T 0 0 f := Or.inl ⟨okN.zero hT, fun e he => ⟨fun h1 => absurd h1 (Nat.not_lt_zero e), fun _ => h e he⟩⟩
theorem FR.step {T f f1 : Nat → Int} {m c p : Nat} {t1 t2 a v : Int} (hT : TB T) (hm : m < 12) (hc : c < 144) (h : FR T m c f) (e1 : t1 = f (12 * (c / 12) + m)) (e2 : t2 = f (12 * m + c % 12)) (hst : (¬ (t1 < 1000000 ∧ t2 < 1000000) ∧ f1 = f) ∨ ((t1 < 1000000 ∧ t2 < 1000000) ∧ p = c ∧ f1 = updZ f p v ∧ ((a = f c ∧ f c ≤ t1 + t2) ∨ (a = t1 + t2 ∧ t1 + t2 ≤ f c)) ∧ ((v = -1000000 ∧ a ≤ -1000000) ∨ (v = a ∧ -1000000 ≤ a)))) : FR T m (c + 1) f1 := by
  rcases h with ⟨h1, h2⟩ | ⟨h1, t, ht, h2⟩
  · have hD : 0 ≤ fwN T m (13 * m) := h1 m (Nat.le_refl m) m hm
    have old : ∀ e : Nat, e < 144 → e / 12 = m ∨ e % 12 = m → f e = fwN T m e := fun e he h3 => by
      rcases (show e < c ∨ c ≤ e by omega) with h4 | h4
      · rw [(h2 e he).1 h4]
        rcases h3 with h3 | h3
        · exact fwS_row hD hm h3
        · exact fwS_col hD hm h3
      · exact (h2 e he).2 h4
    have g1 := old (12 * (c / 12) + m) (by omega) (Or.inr (by omega))
    have g2 := old (12 * m + c % 12) (by omega) (Or.inl (by omega))
    have g3 := (h2 c hc).2 (Nat.le_refl c)
    have hS := fwS_e (fwN T m) m c
    have b1 := okN.r hT (Nat.le_of_lt hm) h1 (c := 12 * (c / 12) + m) (by omega)
    have b2 := okN.r hT (Nat.le_of_lt hm) h1 (c := 12 * m + c % 12) (by omega)
    have b3 := okN.r hT (Nat.le_of_lt hm) h1 (c := c) hc
    have hv : f1 c = fwS (fwN T m) m c := by
      rcases hst with ⟨s1, s2⟩ | ⟨s1, s2, s3, s4, s5⟩
      · rw [s2]; omega
      · subst s2
        rw [s3, updZ_s]
        omega
    have ho : ∀ e : Nat, e ≠ c → f1 e = f e := fun e he => by
      rcases hst with ⟨_, s2⟩ | ⟨_, s2, s3, _, _⟩
      · rw [s2]
      · subst s2
        rw [s3, updZ_n _ _ he]
    refine Or.inl ⟨h1, fun e he => ⟨fun h5 => ?_, fun h5 => ?_⟩⟩
    · rcases (show e = c ∨ e < c by omega) with h6 | h6
      · rw [h6]; exact hv
      · rw [ho e (by omega)]; exact (h2 e he).1 h6
    · rw [ho e (by omega)]; exact (h2 e he).2 (by omega)
  · refine Or.inr ⟨h1, t, ht, ?_⟩
    rcases hst with ⟨_, s2⟩ | ⟨s1, s2, s3, s4, s5⟩
    · rw [s2]; exact h2
    · subst s2
      rw [s3]
      by_cases e : 13 * t = p
      · rw [e, updZ_s]
        rw [e] at h2
        omega
      · rw [updZ_n _ _ e]; exact h2
theorem FR.next {T f : Nat → Int} {m : Nat} (h : FR T m 144 f) : FR T (m + 1) 0 f := by
  rcases h with ⟨h1, h2⟩ | ⟨h1, h2⟩
  · have hf : ∀ e : Nat, e < 144 → f e = fwN T (m + 1) e := fun e he => (h2 e he).1 he
    rcases Classical.em (okN T (m + 1)) with h3 | h3
    · exact Or.inl ⟨h3, fun e he => ⟨fun h4 => absurd h4 (Nat.not_lt_zero e), fun _ => hf e he⟩⟩
    · refine Or.inr ⟨h3, Classical.byContradiction (fun h4 => h3 (h1.succ (fun t ht => ?_)))⟩
      rcases (show 0 ≤ fwN T (m + 1) (13 * t) ∨ fwN T (m + 1) (13 * t) < 0 by omega) with h5 | h5
      · exact h5
      · exact absurd ⟨t, ht, by rw [hf (13 * t) (by omega)]; exact h5⟩ h4
  · exact Or.inr ⟨fun h3 => h1 (h3.le (Nat.le_succ m)), h2⟩
theorem FR.out {T f : Nat → Int} (h : FR T 12 0 f) : (okN T 12 ∧ ∀ c : Nat, c < 144 → f c = fwN T 12 c) ∨ (¬ okN T 12 ∧ ∃ t : Nat, t < 12 ∧ f (13 * t) < 0) := by
  rcases h with ⟨h1, h2⟩ | h1
  · exact Or.inl ⟨h1, fun c hc => (h2 c hc).2 (Nat.zero_le c)⟩
  · exact Or.inr h1
theorem can_e {T f : Nat → Int} {r : Int} (h : (okN T 12 ∧ ∀ c : Nat, c < 144 → f c = fwN T 12 c) ∨ (¬ okN T 12 ∧ ∃ t : Nat, t < 12 ∧ f (13 * t) < 0)) (hr : (r = 1 ∧ ∀ t : Nat, t < 12 → 0 ≤ f (13 * t)) ∨ (r = 0 ∧ ∃ t : Nat, t < 12 ∧ f (13 * t) < 0)) : (r = 1 ∧ okN T 12 ∧ ∀ c : Nat, c < 144 → f c = fwN T 12 c) ∨ (r = 0 ∧ ¬ okN T 12) := by
  rcases h with ⟨h1, h2⟩ | ⟨h1, t, ht, h2⟩
  · rcases hr with ⟨r1, _⟩ | ⟨_, t, ht, r2⟩
    · exact Or.inl ⟨r1, h1, h2⟩
    · have h3 := h1 12 (Nat.le_refl 12) t ht
      rw [← h2 (13 * t) (by omega)] at h3
      omega
  · rcases hr with ⟨_, r2⟩ | ⟨r1, _⟩
    · have := r2 t ht; omega
    · exact Or.inr ⟨r1, h1⟩
theorem BOd.off (P : Int → Int) (n : Int) (d b : Nat → Int) (can : Int) : BOd 0 P n d b can := fun h => absurd h (by decide)
theorem BOd.of {P : Int → Int} {n can : Int} {d b : Nat → Int} {T : Nat → Int} (hT : T = toP P n) (h1 : ∀ c : Nat, c < 144 → d c = T c) (h2 : (can = 1 ∧ okN T 12 ∧ ∀ c : Nat, c < 144 → b c = fwN T 12 c) ∨ (can = 0 ∧ ¬ okN T 12 ∧ ∃ t : Nat, t < 12 ∧ b (13 * t) < 0)) (h3 : TD T) : BOd 1 P n d b can := by
  subst hT
  exact fun _ => ⟨h1, h2.elim (fun h => Or.inl h) (fun h => Or.inr ⟨h.1, h.2.1⟩), h3⟩
