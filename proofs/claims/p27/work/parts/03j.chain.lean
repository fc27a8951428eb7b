-- chains: sweep by sweep over a square of 12 by 12
def chU (M : Nat → Int) (c : Nat) (v : Nat → Int) : Nat → Int := if M c < 0 then updZ v (c / 12) (mx (v (c / 12)) (v (c % 12) + 1)) else v
def chN (M : Nat → Int) : Nat → (Nat → Int)
  | 0 => fun _ => 1
  | k + 1 => chU M (k % 144) (chN M k)
theorem chU_e (M : Nat → Int) (c : Nat) (v : Nat → Int) (a : Nat) : (a ≠ c / 12 ∧ chU M c v a = v a) ∨ (a = c / 12 ∧ ¬ M c < 0 ∧ chU M c v a = v a) ∨ (a = c / 12 ∧ M c < 0 ∧ ((v a ≤ v (c % 12) + 1 ∧ chU M c v a = v (c % 12) + 1) ∨ (v (c % 12) + 1 < v a ∧ chU M c v a = v a))) := by
  unfold chU
  by_cases h : M c < 0
  · rw [if_pos h]
    by_cases e : a = c / 12
    · subst e
      rw [updZ_s]
      exact Or.inr (Or.inr ⟨rfl, h, mx_e _ _⟩)
    · rw [updZ_n _ _ e]; exact Or.inl ⟨e, rfl⟩
  · rw [if_neg h]
    by_cases e : a = c / 12
    · exact Or.inr (Or.inl ⟨e, h, rfl⟩)
    · exact Or.inl ⟨e, rfl⟩
theorem chU_c {M v w : Nat → Int} {c : Nat} (hc : c < 144) (h : ∀ a : Nat, a < 12 → v a = w a) : ∀ a : Nat, a < 12 → chU M c v a = chU M c w a := fun a ha => by
  have h1 := chU_e M c v a
  have h2 := chU_e M c w a
  have h3 := h a ha
  have h4 := h (c % 12) (by omega)
  omega
theorem chN_s (M : Nat → Int) {x : Int} (hx : 0 ≤ x) : chN M (x + 1).toNat = chU M (x.toNat % 144) (chN M x.toNat) := by rw [tn_s hx]; rfl
theorem chN_r (M : Nat → Int) (k a : Nat) : 1 ≤ chN M k a ∧ ∀ b : Nat, chN M k b ≤ (k : Int) + 1 := by
  induction k generalizing a with
  | zero => exact ⟨Int.le_refl 1, fun b => by show (1 : Int) ≤ ((0 : Nat) : Int) + 1; decide⟩
  | succ k ih =>
    have e : ∀ b : Nat, chN M (k + 1) b = chU M (k % 144) (chN M k) b := fun b => rfl
    refine ⟨?_, fun b => ?_⟩
    · have h1 := chU_e M (k % 144) (chN M k) a
      have h2 := (ih a).1
      have h3 := (ih (k % 144 % 12)).1
      rw [e]; omega
    · have h1 := chU_e M (k % 144) (chN M k) b
      have h2 := (ih 0).2 b
      have h3 := (ih 0).2 (k % 144 % 12)
      rw [e]; omega
theorem chN_le (M : Nat → Int) (a : Nat) (k d : Nat) : chN M k a ≤ chN M (k + d) a := by
  induction d with
  | zero => exact Int.le_refl _
  | succ d ih =>
    have h1 := chU_e M ((k + d) % 144) (chN M (k + d)) a
    have e : chN M (k + (d + 1)) a = chU M ((k + d) % 144) (chN M (k + d)) a := rfl
    rw [e]; omega
theorem chN_mono (M : Nat → Int) (a : Nat) {k n : Nat} (h : k ≤ n) : chN M k a ≤ chN M n a := by
  have h1 := chN_le M a k (n - k)
  rw [show k + (n - k) = n by omega] at h1
  exact h1
/-- what one sweep does to one of them -/
theorem chN_sw (M : Nat → Int) (r a : Nat) (ha : a < 12) : (∀ b : Nat, b < 12 → M (12 * a + b) < 0 → chN M (144 * r) b + 1 ≤ chN M (144 * (r + 1)) a) ∧ (chN M (144 * (r + 1)) a = chN M (144 * r) a ∨ ∃ b : Nat, b < 12 ∧ M (12 * a + b) < 0 ∧ chN M (144 * (r + 1)) a ≤ chN M (144 * (r + 1)) b + 1) := by
  constructor
  · intro b hb hM
    have e : chN M (144 * r + 12 * a + b + 1) a = chU M ((144 * r + 12 * a + b) % 144) (chN M (144 * r + 12 * a + b)) a := rfl
    have hc : (144 * r + 12 * a + b) % 144 = 12 * a + b := by omega
    have h1 := chU_e M (12 * a + b) (chN M (144 * r + 12 * a + b)) a
    rw [show (12 * a + b) / 12 = a by omega, show (12 * a + b) % 12 = b by omega] at h1
    rw [hc] at e
    have h2 := chN_mono M b (show 144 * r ≤ 144 * r + 12 * a + b by omega)
    have h3 := chN_mono M a (show 144 * r + 12 * a + b + 1 ≤ 144 * (r + 1) by omega)
    rw [e] at h3
    omega
  · have key : ∀ n : Nat, n ≤ 144 → chN M (144 * r + n) a = chN M (144 * r) a ∨ ∃ b : Nat, b < 12 ∧ M (12 * a + b) < 0 ∧ chN M (144 * r + n) a ≤ chN M (144 * (r + 1)) b + 1 := by
      intro n
      induction n with
      | zero => intro _; exact Or.inl rfl
      | succ n ih =>
        intro hn
        have e : chN M (144 * r + (n + 1)) a = chU M ((144 * r + n) % 144) (chN M (144 * r + n)) a := rfl
        have hc : (144 * r + n) % 144 = n := by omega
        rw [hc] at e
        have h1 := chU_e M n (chN M (144 * r + n)) a
        rw [e]
        rcases h1 with ⟨_, h1⟩ | ⟨_, _, h1⟩ | ⟨h0, hM, ⟨_, h1⟩ | ⟨_, h1⟩⟩
        · rw [h1]; exact ih (by omega)
        · rw [h1]; exact ih (by omega)
        · refine Or.inr ⟨n % 12, by omega, by rw [h0, show 12 * (n / 12) + n % 12 = n by omega]; exact hM, ?_⟩
          have h2 := chN_mono M (n % 12) (show 144 * r + n ≤ 144 * (r + 1) by omega)
          omega
        · rw [h1]; exact ih (by omega)
    have h := key 144 (Nat.le_refl 144)
    rw [show 144 * r + 144 = 144 * (r + 1) by omega] at h
    exact h
/-- so many are surely more -/
def ucN (M : Nat → Int) (a : Nat) : Nat → Nat
  | 0 => 0
  | n + 1 => ucN M a n + (if M (12 * a + n) < 0 then 1 else 0)
theorem ucN_lt {M : Nat → Int} {a b : Nat} (h : ∀ c : Nat, c < 12 → M (12 * b + c) < 0 → M (12 * a + c) < 0) (hab : M (12 * a + b) < 0) (hbb : ¬ M (12 * b + b) < 0) : ∀ n : Nat, n ≤ 12 → ucN M b n + (if b < n then 1 else 0) ≤ ucN M a n := by
  intro n
  induction n with
  | zero => intro _; exact Nat.le_refl 0
  | succ n ih =>
    intro hn
    have i1 := ih (by omega)
    have e1 : ucN M b (n + 1) = ucN M b n + (if M (12 * b + n) < 0 then 1 else 0) := rfl
    have e2 : ucN M a (n + 1) = ucN M a n + (if M (12 * a + n) < 0 then 1 else 0) := rfl
    rw [e1, e2]
    by_cases hbn : b = n
    · subst hbn
      rw [if_neg hbb, if_pos hab]
      rw [if_neg (Nat.lt_irrefl b)] at i1
      rw [if_pos (Nat.lt_succ_self b)]
      omega
    · have h1 := h n (by omega)
      by_cases hc : M (12 * b + n) < 0
      · rw [if_pos hc, if_pos (h1 hc)]
        split at i1 <;> split <;> omega
      · rw [if_neg hc]
        split at i1 <;> split <;> split <;> omega
theorem ucN_r (M : Nat → Int) (a n : Nat) : ucN M a n ≤ n := by
  induction n with
  | zero => exact Nat.le_refl 0
  | succ n ih =>
    have e : ucN M a (n + 1) = ucN M a n + (if M (12 * a + n) < 0 then 1 else 0) := rfl
    rw [e]; split <;> omega
/-- an order among twelve -/
def RO (M : Nat → Int) : Prop := (∀ a : Nat, a < 12 → ¬ M (12 * a + a) < 0) ∧ ∀ a b c : Nat, a < 12 → b < 12 → c < 12 → M (12 * a + b) < 0 → M (12 * b + c) < 0 → M (12 * a + c) < 0
theorem RO.uc {M : Nat → Int} (h : RO M) {a b : Nat} (ha : a < 12) (hb : b < 12) (hab : M (12 * a + b) < 0) : ucN M b 12 + 1 ≤ ucN M a 12 := by
  have h1 := ucN_lt (fun c hc h2 => h.2 a b c ha hb hc hab h2) hab (h.1 b hb) 12 (Nat.le_refl 12)
  rw [if_pos hb] at h1
  exact h1
theorem RO.uc11 {M : Nat → Int} (h : RO M) {a : Nat} (ha : a < 12) : ucN M a 12 ≤ 11 := by
  have key : ∀ n : Nat, n ≤ 12 → ucN M a n + (if a < n then 1 else 0) ≤ n := by
    intro n
    induction n with
    | zero => intro _; exact Nat.le_refl 0
    | succ n ih =>
      intro hn
      have i1 := ih (by omega)
      have e : ucN M a (n + 1) = ucN M a n + (if M (12 * a + n) < 0 then 1 else 0) := rfl
      rw [e]
      by_cases han : a = n
      · subst han
        rw [if_neg (h.1 a ha), if_pos (Nat.lt_succ_self a)]
        rw [if_neg (Nat.lt_irrefl a)] at i1
        omega
      · split at i1 <;> split <;> split <;> omega
  have h1 := key 12 (Nat.le_refl 12)
  rw [if_pos ha] at h1
  omega
/-- from so many sweeps on it stays -/
theorem RO.fix {M : Nat → Int} (h : RO M) : ∀ (u a : Nat), a < 12 → ucN M a 12 = u → ∀ r : Nat, u ≤ r → chN M (144 * (r + 1)) a = chN M (144 * r) a := by
  intro u
  induction u using Nat.strongRecOn with
  | ind u ih =>
    intro a ha hu r hr
    obtain ⟨_, h2⟩ := chN_sw M r a ha
    rcases h2 with h2 | ⟨b, hb, hM, h2⟩
    · exact h2
    · have hub := h.uc ha hb hM
      have f1 := ih (ucN M b 12) (by omega) b hb rfl r (by omega)
      have f2 := ih (ucN M b 12) (by omega) b hb rfl (r - 1) (by omega)
      have e : r - 1 + 1 = r := by omega
      have h3 := (chN_sw M (r - 1) a ha).1 b hb hM
      rw [e] at f2 h3
      have h4 := chN_mono M a (show 144 * r ≤ 144 * (r + 1) by omega)
      omega
theorem RO.ch {M : Nat → Int} (h : RO M) {a : Nat} (ha : a < 12) : chN M 1728 a = chN M 1584 a := h.fix _ a ha rfl 11 (h.uc11 ha)
theorem okN.ro {T : Nat → Int} (hT : TB T) (h : okN T 12) : RO (fwN T 12) := by
  have hI := okN.I hT 12 (Nat.le_refl 12) h
  refine ⟨fun a ha => ?_, fun a b c ha hb hc h1 h2 => ?_⟩
  · have h1 := h 12 (Nat.le_refl 12) a ha
    rw [show 12 * a + a = 13 * a by omega]
    omega
  · have h3 := hI.2.1 b a c hb ha hc (show sqE (fwN T 12) a b < 1000000 from by unfold sqE; omega) (show sqE (fwN T 12) b c < 1000000 from by unfold sqE; omega)
    unfold sqE at h3
    omega
theorem chU_M {M N v : Nat → Int} {c : Nat} (h : M c = N c) : chU M c v = chU N c v := by unfold chU; rw [h]
theorem chN_M {M N : Nat → Int} (h : ∀ c : Nat, c < 144 → M c = N c) (k : Nat) : chN M k = chN N k := by
  induction k with
  | zero => rfl
  | succ k ih =>
    have e1 : chN M (k + 1) = chU M (k % 144) (chN M k) := rfl
    have e2 : chN N (k + 1) = chU N (k % 144) (chN N k) := rfl
    rw [e1, e2, ih, chU_M (h _ (by omega))]
/-- the first one of the longest -/
def bsF (v : Nat → Int) : Nat → Nat
  | 0 => 0
  | n + 1 => if v (bsF v n) < v (n + 1) then n + 1 else bsF v n
theorem bsF_s (v : Nat → Int) {x : Int} (h : 1 ≤ x) : (v (bsF v (x - 1).toNat) < v x.toNat ∧ bsF v x.toNat = x.toNat) ∨ (¬ v (bsF v (x - 1).toNat) < v x.toNat ∧ bsF v x.toNat = bsF v (x - 1).toNat) := by
  rw [show x.toNat = (x - 1).toNat + 1 by omega]
  by_cases hc : v (bsF v (x - 1).toNat) < v ((x - 1).toNat + 1)
  · exact Or.inl ⟨hc, if_pos hc⟩
  · exact Or.inr ⟨hc, if_neg hc⟩
theorem bsF_r (v : Nat → Int) (n : Nat) : bsF v n ≤ n := by
  induction n with
  | zero => exact Nat.le_refl 0
  | succ n ih =>
    show (if v (bsF v n) < v (n + 1) then n + 1 else bsF v n) ≤ n + 1
    split <;> omega
theorem bsF_c {v w : Nat → Int} (n : Nat) (hn : n < 12) (h : ∀ a : Nat, a < 12 → v a = w a) : bsF v n = bsF w n := by
  induction n with
  | zero => rfl
  | succ n ih =>
    show (if v (bsF v n) < v (n + 1) then n + 1 else bsF v n) = (if w (bsF w n) < w (n + 1) then n + 1 else bsF w n)
    have h1 := bsF_r w n
    rw [ih (by omega), h (bsF w n) (by omega), h (n + 1) (by omega)]
def chA (v : Nat → Int) (what : Int) : Int := if what = 0 then v (bsF v 11) else (bsF v 11 : Int)
theorem chA_e (v : Nat → Int) (what : Int) : (what = 0 ∧ chA v what = v (bsF v 11)) ∨ (what ≠ 0 ∧ chA v what = (bsF v 11 : Int)) := by
  by_cases h : what = 0
  · exact Or.inl ⟨h, if_pos h⟩
  · exact Or.inr ⟨h, if_neg h⟩
theorem chA_c {v w : Nat → Int} (what : Int) (h : ∀ a : Nat, a < 12 → v a = w a) : chA v what = chA w what := by
  unfold chA
  have h1 := bsF_r w 11
  rw [bsF_c 11 (by decide) h, h (bsF w 11) (by omega)]
theorem ch_st {M v w v1 : Nat → Int} {c p : Nat} {t : Int} (h : ∀ a : Nat, a < 12 → v a = w a) (hc : c < 144) (hst : (¬ M c < 0 ∧ v1 = v) ∨ (M c < 0 ∧ v1 = updZ v p t ∧ p = c / 12 ∧ ((t = v (c / 12) ∧ v (c % 12) + 1 ≤ v (c / 12)) ∨ (t = v (c % 12) + 1 ∧ v (c / 12) ≤ v (c % 12) + 1)))) : ∀ a : Nat, a < 12 → v1 a = chU M c w a := fun a ha => by
  have h1 := chU_e M c w a
  have h2 := h a ha
  have h3 := h (c % 12) (by omega)
  have h4 := h (c / 12) (by omega)
  rcases hst with ⟨s1, s2⟩ | ⟨s1, s2, s3, s4⟩
  · rw [s2]; omega
  · rw [s2]
    by_cases e : a = p
    · rw [e, updZ_s]
      rw [e, s3] at h1 h2
      rw [s3]
      omega
    · rw [updZ_n _ _ e]; omega
