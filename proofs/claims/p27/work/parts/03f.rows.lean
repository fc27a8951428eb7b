-- rows of differences
def dfs (f : Nat → Int) : Nat → Int := fun j => f (j + 1) - f j
def unA (f : Nat → Int) (m : Nat) : Int := ctP (fun j => decide (f j ≠ f 0)) m
theorem unA_c {f g : Nat → Int} (m : Nat) (h : ∀ j : Nat, j < m → f j = g j) : unA f m = unA g m := by
  cases m with
  | zero => rfl
  | succ m => exact ctP_c _ (fun j hj => by rw [h j hj, h 0 (by omega)])
theorem unA_1 (f : Nat → Int) : unA f 1 = 0 := ctP_z (fun j hj => by obtain rfl : j = 0 := (by omega); simp)
theorem unA_le {f : Nat → Int} {x : Int} (h : x ≤ 1) : ¬ 0 < unA f x.toNat := by
  rcases (show x.toNat = 0 ∨ x.toNat = 1 by omega) with h1 | h1
  · rw [h1]; exact Int.lt_irrefl 0
  · rw [h1, unA_1]; exact Int.lt_irrefl 0
theorem unA_y {f : Nat → Int} {x : Int} {j : Nat} (hj : (j : Int) < x) (h : f j ≠ f 0) : 0 < unA f x.toNat := ctP_pos (P := fun j => decide (f j ≠ f 0)) (j := j) (by omega) (decide_eq_true h)
theorem unA_n {f : Nat → Int} {x : Int} (h : ∀ j : Nat, (j : Int) < x → f j = f 0) : ¬ 0 < unA f x.toNat := by
  unfold unA
  rw [ctP_z (P := fun j => decide (f j ≠ f 0)) (fun j hj => decide_eq_false (fun h2 => h2 (h j (by omega))))]
  exact Int.lt_irrefl 0
/-- how often differences are taken of so many numbers till those left are alike -/
def rwD : Nat → (Nat → Int) → Int
  | 0, _ => 0
  | m + 1, f => if 0 < unA f (m + 1) then 1 + rwD m (dfs f) else 0
/-- how the row goes on -/
def rwO : Nat → (Nat → Int) → Int
  | 0, f => f 0
  | m + 1, f => if 0 < unA f (m + 1) then f m + rwO m (dfs f) else f 0
theorem rwD_c (m : Nat) : ∀ f g : Nat → Int, (∀ j : Nat, j < m → f j = g j) → rwD m f = rwD m g := by
  induction m with
  | zero => intro f g _; rfl
  | succ m ih =>
    intro f g h
    unfold rwD
    rw [unA_c (m + 1) h, ih (dfs f) (dfs g) (fun j hj => by unfold dfs; rw [h (j + 1) (by omega), h j (by omega)])]
theorem rwO_c (m : Nat) : ∀ f g : Nat → Int, (∀ j : Nat, j < m + 1 → f j = g j) → rwO (m + 1) f = rwO (m + 1) g := by
  induction m with
  | zero =>
    intro f g h
    unfold rwO
    rw [show (0 + 1 : Nat) = 1 from rfl, unA_1, unA_1, if_neg (Int.lt_irrefl 0), if_neg (Int.lt_irrefl 0), h 0 (by omega)]
  | succ m ih =>
    intro f g h
    show (if 0 < unA f (m + 1 + 1) then f (m + 1) + rwO (m + 1) (dfs f) else f 0) = (if 0 < unA g (m + 1 + 1) then g (m + 1) + rwO (m + 1) (dfs g) else g 0)
    rw [unA_c (m + 1 + 1) h, h (m + 1) (by omega), h 0 (by omega), ih (dfs f) (dfs g) (fun j hj => by unfold dfs; rw [h (j + 1) (by omega), h j (by omega)])]
theorem rwD_n {f : Nat → Int} {x : Int} (h : ¬ 0 < unA f x.toNat) : rwD x.toNat f = 0 := by
  revert h
  cases x.toNat with
  | zero => intro _; rfl
  | succ m => intro h; exact if_neg h
theorem rwD_y {f g : Nat → Int} {x : Int} (h : 0 < unA f x.toNat) (hg : ∀ j : Nat, (j : Int) + 1 < x → g j = f (j + 1) - f j) : rwD x.toNat f = 1 + rwD (x - 1).toNat g := by
  have hx : 1 < x := by
    rcases (show x ≤ 1 ∨ 1 < x by omega) with h1 | h1
    · exact absurd h (unA_le h1)
    · exact h1
  obtain ⟨m, hm⟩ : ∃ m : Nat, x.toNat = m + 1 := ⟨x.toNat - 1, by omega⟩
  rw [show (x - 1).toNat = m by omega, hm]
  rw [hm] at h
  have e : rwD (m + 1) f = 1 + rwD m (dfs f) := if_pos h
  rw [e, rwD_c m g (dfs f) (fun j hj => hg j (by omega))]
theorem rwO_n {f : Nat → Int} {x : Int} (h : ¬ 0 < unA f x.toNat) : rwO x.toNat f = f 0 := by
  revert h
  cases x.toNat with
  | zero => intro _; rfl
  | succ m => intro h; exact if_neg h
theorem rwO_y {f g : Nat → Int} {x : Int} (h : 0 < unA f x.toNat) (hg : ∀ j : Nat, (j : Int) + 1 < x → g j = f (j + 1) - f j) : rwO x.toNat f = f (x - 1).toNat + rwO (x - 1).toNat g := by
  have hx : 1 < x := by
    rcases (show x ≤ 1 ∨ 1 < x by omega) with h1 | h1
    · exact absurd h (unA_le h1)
    · exact h1
  obtain ⟨m, hm⟩ : ∃ m : Nat, x.toNat = m + 1 + 1 := ⟨x.toNat - 2, by omega⟩
  rw [show (x - 1).toNat = m + 1 by omega, hm]
  rw [hm] at h
  have e : rwO (m + 1 + 1) f = f (m + 1) + rwO (m + 1) (dfs f) := if_pos h
  rw [e, rwO_c m g (dfs f) (fun j hj => hg j (by omega))]
def bdZ (k : Int) : Int := 65535 * 2 ^ k.toNat
theorem bdZ_s {k : Int} (h : 0 ≤ k) : bdZ (k + 1) = 2 * bdZ k := by
  unfold bdZ
  rw [tn_s h, Int.pow_succ]; omega
theorem bdZ_r {k : Int} (h : 0 ≤ k ∧ k ≤ 12) : 65535 ≤ bdZ k ∧ bdZ k ≤ 268431360 := by
  have h3 : ∀ n : Nat, n < 13 → (65535 : Int) ≤ 65535 * 2 ^ n ∧ (65535 : Int) * 2 ^ n ≤ 268431360 := by decide +kernel
  exact h3 k.toNat (by omega)
def dbl (f : Nat → Int) : Nat → Int := fun j => 256 * f (2 * j) + f (2 * j + 1)
theorem dbl_e {f : Nat → Int} {x : Int} (h : 0 ≤ x) : dbl f x.toNat = 256 * f (2 * x).toNat + f (2 * x + 1).toNat := by
  unfold dbl
  rw [show 2 * x.toNat = (2 * x).toNat by omega, show (2 * x).toNat + 1 = (2 * x + 1).toNat by omega]
theorem z_dbl {a b : Int} (ha : 0 ≤ a ∧ a ≤ 255) (hb : 0 ≤ b ∧ b ≤ 255) : z_ior (z_ishl a 8) b = 256 * a + b := by
  have h3 : ∀ n : Nat, n < 256 → z_ishl n 8 = ((256 * n : Nat) : Int) := by decide +kernel
  obtain ⟨n, rfl⟩ : ∃ n : Nat, a = (n : Int) := ⟨a.toNat, by omega⟩
  obtain ⟨m, rfl⟩ : ∃ m : Nat, b = (m : Int) := ⟨b.toNat, by omega⟩
  rw [h3 n (by omega)]
  have h5 : z_ior ((256 * n : Nat) : Int) m = ((256 * n ||| m : Nat) : Int) := by
    unfold z_ior
    rw [zI_nI, zI_nI, z_or_nI, nI_toInt]
    rw [← Nat.two_pow_add_eq_or_of_lt (i := 8) (by omega)]
    omega
  rw [h5, ← Nat.two_pow_add_eq_or_of_lt (i := 8) (by omega)]
  omega
def rwF (f : Nat → Int) (n what : Int) : Int := if what = 0 then rwD n.toNat (dbl f) else rwO n.toNat (dbl f)
theorem rwF_e (f : Nat → Int) (n what : Int) : (what = 0 ∧ rwF f n what = rwD n.toNat (dbl f)) ∨ (what ≠ 0 ∧ rwF f n what = rwO n.toNat (dbl f)) := by
  by_cases hw : what = 0
  · exact Or.inl ⟨hw, if_pos hw⟩
  · exact Or.inr ⟨hw, if_neg hw⟩
-- the best rise
def mx (a b : Int) : Int := if a ≤ b then b else a
theorem mx_e (a b : Int) : (a ≤ b ∧ mx a b = b) ∨ (b < a ∧ mx a b = a) := by
  unfold mx
  by_cases h : a ≤ b
  · exact Or.inl ⟨h, if_pos h⟩
  · exact Or.inr ⟨by omega, if_neg h⟩
/-- behind k days: the most had by j bargains at most; by j and a purchase -/
def brP (p : Nat → Int) : Nat → (Nat → Int) × (Nat → Int)
  | 0 => (fun _ => 0, fun _ => -1000000)
  | k + 1 => (fun j => if j = 0 then 0 else mx ((brP p k).1 j) (mx ((brP p k).1 (j - 1)) ((brP p k).2 (j - 1) + p k)), fun j => mx ((brP p k).2 j) ((if j = 0 then 0 else mx ((brP p k).1 j) (mx ((brP p k).1 (j - 1)) ((brP p k).2 (j - 1) + p k))) - p k))
def brF (p : Nat → Int) (k j : Nat) : Int := (brP p k).1 j
def brH (p : Nat → Int) (k j : Nat) : Int := (brP p k).2 j
theorem brF_00 (p : Nat → Int) (j : Nat) : brF p 0 j = 0 := rfl
theorem brH_00 (p : Nat → Int) (j : Nat) : brH p 0 j = -1000000 := rfl
theorem brF_0 (p : Nat → Int) (k : Nat) : brF p k 0 = 0 := by cases k <;> rfl
theorem brF_s (p : Nat → Int) (k j : Nat) : brF p (k + 1) (j + 1) = mx (brF p k (j + 1)) (mx (brF p k j) (brH p k j + p k)) := rfl
theorem brH_s (p : Nat → Int) (k j : Nat) : brH p (k + 1) j = mx (brH p k j) (brF p (k + 1) j - p k) := rfl
theorem br_r {p : Nat → Int} (k : Nat) (hp : ∀ i : Nat, i < k → 0 ≤ p i ∧ p i ≤ 255) : ∀ j, (0 ≤ brF p k j ∧ brF p k j ≤ 255 * k) ∧ (-1000000 ≤ brH p k j ∧ brH p k j ≤ 255 * k) := by
  induction k with
  | zero => intro j; exact ⟨⟨Int.le_refl _, Int.le_refl _⟩, ⟨Int.le_refl _, by show (-1000000 : Int) ≤ 255 * ((0 : Nat) : Int); omega⟩⟩
  | succ k ih =>
    have ih := ih (fun i hi => hp i (by omega))
    have hk := hp k (by omega)
    have hF : ∀ j, 0 ≤ brF p (k + 1) j ∧ brF p (k + 1) j ≤ 255 * ((k + 1 : Nat) : Int) := fun j => by
      cases j with
      | zero => rw [brF_0]; omega
      | succ j =>
        rw [brF_s]
        have h1 := ih j
        have h2 := ih (j + 1)
        have h3 := mx_e (brF p k j) (brH p k j + p k)
        have h4 := mx_e (brF p k (j + 1)) (mx (brF p k j) (brH p k j + p k))
        omega
    intro j
    refine ⟨hF j, ?_⟩
    rw [brH_s]
    have h1 := ih j
    have h2 := hF j
    have h3 := mx_e (brH p k j) (brF p (k + 1) j - p k)
    omega
theorem br_m {p : Nat → Int} (k : Nat) (hp : ∀ i : Nat, i < k → 0 ≤ p i ∧ p i ≤ 255) : ∀ j, brF p k j ≤ brF p k (j + 1) ∧ brH p k j ≤ brH p k (j + 1) := by
  induction k with
  | zero => intro j; exact ⟨Int.le_refl _, Int.le_refl _⟩
  | succ k ih =>
    have ih := ih (fun i hi => hp i (by omega))
    have hr := br_r k (fun i hi => hp i (by omega))
    have hF : ∀ j, brF p (k + 1) j ≤ brF p (k + 1) (j + 1) := fun j => by
      rw [brF_s p k j]
      have h1 := mx_e (brF p k j) (brH p k j + p k)
      have h2 := mx_e (brF p k (j + 1)) (mx (brF p k j) (brH p k j + p k))
      cases j with
      | zero => rw [brF_0]; have := hr (0 + 1); omega
      | succ j =>
        rw [brF_s p k j]
        have h3 := mx_e (brF p k j) (brH p k j + p k)
        have h4 := mx_e (brF p k (j + 1)) (mx (brF p k j) (brH p k j + p k))
        have h5 := ih j
        have h6 := ih (j + 1)
        omega
    intro j
    refine ⟨hF j, ?_⟩
    rw [brH_s, brH_s]
    have h1 := mx_e (brH p k j) (brF p (k + 1) j - p k)
    have h2 := mx_e (brH p k (j + 1)) (brF p (k + 1) (j + 1) - p k)
    have h3 := hF j
    have h4 := ih j
    omega
/-- the class's step: what was sold to day may be bought with again to day -/
theorem br_step {p : Nat → Int} (k j : Nat) (hp : ∀ i : Nat, i < k + 1 → 0 ≤ p i ∧ p i ≤ 255) : brH p (k + 1) j = mx (brH p k j) (brF p (k + 1) j - p k) ∧ brF p (k + 1) (j + 1) = mx (brF p k (j + 1)) (brH p (k + 1) j + p k) := by
  refine ⟨brH_s p k j, ?_⟩
  rw [brH_s, brF_s]
  have hm := br_m k (fun i hi => hp i (by omega))
  have h1 := mx_e (brF p k j) (brH p k j + p k)
  have h2 := mx_e (brF p k (j + 1)) (mx (brF p k j) (brH p k j + p k))
  have h3 := mx_e (brH p k j) (brF p (k + 1) j - p k)
  have h4 := mx_e (brF p k (j + 1)) (mx (brH p k j) (brF p (k + 1) j - p k) + p k)
  have h5 := hm j
  cases j with
  | zero =>
    rw [brF_0] at h3 h4 ⊢
    rw [brF_0] at h1 h2 h5 ⊢
    have := br_r k (fun i hi => hp i (by omega)) 1
    omega
  | succ j =>
    have e := brF_s p k j
    have h6 := mx_e (brF p k j) (brH p k j + p k)
    have h7 := mx_e (brF p k (j + 1)) (mx (brF p k j) (brH p k j + p k))
    have h8 := hm j
    rw [e] at h3 h4 ⊢
    omega
theorem br_1 {p : Nat → Int} (hp : 0 ≤ p 0 ∧ p 0 ≤ 255) : ∀ j, brF p 1 j = 0 ∧ brH p 1 j = -(p 0) := fun j => by
  have hF : ∀ j, brF p 1 j = 0 := fun j => by
    cases j with
    | zero => rfl
    | succ j =>
      rw [brF_s, brF_00, brF_00, brH_00]
      have h1 := mx_e 0 (-1000000 + p 0)
      have h2 := mx_e 0 (mx 0 (-1000000 + p 0))
      omega
  refine ⟨hF j, ?_⟩
  rw [brH_s, hF, brH_00]
  have h1 := mx_e (-1000000) (0 - p 0)
  omega
theorem brP_c {p g : Nat → Int} (k : Nat) (h : ∀ j : Nat, j < k → p j = g j) : brP p k = brP g k := by
  induction k with
  | zero => rfl
  | succ k ih =>
    unfold brP
    rw [ih (fun j hj => h j (by omega)), h k (by omega)]
theorem brF_c {p g : Nat → Int} {n : Int} (j : Nat) (h : ∀ j : Nat, (j : Int) < n → p j = g j) : brF p n.toNat j = brF g n.toNat j := by
  unfold brF
  rw [brP_c n.toNat (toN_c h)]
