-- how many of the first n hold
def ctP (P : Nat → Bool) (n : Nat) : Int := fz (fun j c => if P j = true then c + 1 else c) 0 n
theorem ctP_nn (P : Nat → Bool) (n : Nat) : 0 ≤ ctP P n := by
  induction n with
  | zero => exact Int.le_refl _
  | succ n ih =>
    show 0 ≤ (if P n = true then ctP P n + 1 else ctP P n)
    split <;> omega
theorem ctP_pos {P : Nat → Bool} {n j : Nat} (h : j < n) (hp : P j = true) : 0 < ctP P n := by
  induction n with
  | zero => omega
  | succ n ih =>
    show 0 < (if P n = true then ctP P n + 1 else ctP P n)
    rcases (show j < n ∨ j = n by omega) with h1 | h1
    · have := ih h1; split <;> omega
    · rw [← h1, if_pos hp]; have := ctP_nn P j; omega
theorem ctP_z {P : Nat → Bool} {n : Nat} (h : ∀ j, j < n → P j = false) : ctP P n = 0 := by
  induction n with
  | zero => rfl
  | succ n ih =>
    show (if P n = true then ctP P n + 1 else ctP P n) = 0
    rw [h n (by omega), if_neg (by decide)]
    exact ih (fun j hj => h j (by omega))
theorem ctP_c {P T : Nat → Bool} (n : Nat) (h : ∀ j, j < n → P j = T j) : ctP P n = ctP T n := fz_c _ _ (fun k hk x => by rw [h k hk])
-- two alike
theorem twI_nn (f : Nat → Int) (a : Int) (i : Nat) (m : Int) (n : Nat) : m ≤ twI f a i m n := by
  induction n with
  | zero => exact Int.le_refl _
  | succ n ih =>
    show m ≤ (if f i - f n = a ∨ f n - f i = a then twI f a i m n + 1 else twI f a i m n)
    split <;> omega
theorem twI_pos {f : Nat → Int} {i j n : Nat} (m : Int) (h : j < n) (he : f i = f j) : m < twI f 0 i m n := by
  induction n with
  | zero => omega
  | succ n ih =>
    show m < (if f i - f n = 0 ∨ f n - f i = 0 then twI f 0 i m n + 1 else twI f 0 i m n)
    rcases (show j < n ∨ j = n by omega) with h1 | h1
    · have := ih h1; split <;> omega
    · rw [← h1, if_pos (by omega)]; have := twI_nn f 0 i m j; omega
theorem twO_nn (f : Nat → Int) (a : Int) (n : Nat) : 0 ≤ twO f a n := by
  induction n with
  | zero => exact Int.le_refl _
  | succ n ih => exact Int.le_trans ih (twI_nn f a n (twO f a n) n)
theorem twO_pos {f : Nat → Int} {i j n : Nat} (hj : j < i) (hi : i < n) (he : f i = f j) : 0 < twO f 0 n := by
  induction n with
  | zero => omega
  | succ n ih =>
    show 0 < twI f 0 n (twO f 0 n) n
    rcases (show i < n ∨ i = n by omega) with h1 | h1
    · exact Int.lt_of_lt_of_le (ih h1) (twI_nn f 0 n _ n)
    · rw [← h1]; exact Int.lt_of_le_of_lt (twO_nn f 0 i) (twI_pos _ hj he)
theorem twO_ne {f : Nat → Int} {n : Nat} (h : ¬ 0 < twO f 0 n) (i j : Nat) (hi : i < n) (hj : j < n) (he : f i = f j) : i = j := by
  rcases (show j < i ∨ i < j ∨ i = j by omega) with h1 | h1 | h1
  · exact absurd (twO_pos h1 hi he) h
  · exact absurd (twO_pos h1 hj he.symm) h
  · exact h1
-- the greatest common measure
def gcdZ (a b : Int) : Int := ((Nat.gcd a.toNat b.toNat : Nat) : Int)
theorem gcdZ_0 {x : Int} (h : 0 ≤ x) : gcdZ x 0 = x := by
  unfold gcdZ
  rw [show (0 : Int).toNat = 0 from rfl, Nat.gcd_zero_right]; omega
theorem toNat_mod {x y : Int} (hx : 0 ≤ x) (hy : 0 ≤ y) : (x % y).toNat = x.toNat % y.toNat := by
  obtain ⟨n, rfl⟩ : ∃ n : Nat, x = (n : Int) := ⟨x.toNat, by omega⟩
  obtain ⟨m, rfl⟩ : ∃ m : Nat, y = (m : Int) := ⟨y.toNat, by omega⟩
  rfl
theorem gcdZ_s {x y : Int} (hx : 0 ≤ x) (hy : 0 < y) : gcdZ y (x % y) = gcdZ x y := by
  unfold gcdZ
  rw [toNat_mod hx (by omega)]
  have h := Nat.gcd_rec y.toNat x.toNat
  rw [Nat.gcd_comm x.toNat y.toNat, h, Nat.gcd_comm y.toNat]
theorem gcdZ_r {x y : Int} (hx : 0 ≤ x) (hy : 0 < y) : 0 < gcdZ x y ∧ gcdZ x y ≤ y := by
  have h1 := Nat.gcd_le_right (n := y.toNat) x.toNat (by omega)
  have h2 := Nat.gcd_pos_of_pos_right (n := y.toNat) x.toNat (by omega)
  unfold gcdZ
  omega
def cmG (f : Nat → Int) (n : Nat) : Int := fz (fun j g => gcdZ g (f j)) 0 n
def cmM (f : Nat → Int) (n : Nat) : Int := fz (fun j m => if f j ≤ m then m else f j) 0 n
theorem cmG_s (f : Nat → Int) {x : Int} (h : 0 ≤ x) : cmG f (x + 1).toNat = gcdZ (cmG f x.toNat) (f x.toNat) := fz_s _ _ h
theorem cmM_s (f : Nat → Int) {x : Int} (h : 0 ≤ x) : (f x.toNat ≤ cmM f x.toNat ∧ cmM f (x + 1).toNat = cmM f x.toNat) ∨ (cmM f x.toNat < f x.toNat ∧ cmM f (x + 1).toNat = f x.toNat) := by
  have e : cmM f (x + 1).toNat = if f x.toNat ≤ cmM f x.toNat then cmM f x.toNat else f x.toNat := fz_s _ _ h
  rw [e]
  by_cases hc : f x.toNat ≤ cmM f x.toNat
  · exact Or.inl ⟨hc, if_pos hc⟩
  · exact Or.inr ⟨by omega, if_neg hc⟩
theorem cmG_c {f g : Nat → Int} (n : Nat) (h : ∀ j : Nat, j < n → f j = g j) : cmG f n = cmG g n := fz_c _ _ (fun k hk x => by rw [h k hk])
theorem cmM_c {f g : Nat → Int} (n : Nat) (h : ∀ j : Nat, j < n → f j = g j) : cmM f n = cmM g n := fz_c _ _ (fun k hk x => by rw [h k hk])
theorem cmG_nn (f : Nat → Int) (n : Nat) : 0 ≤ cmG f n := by
  cases n with
  | zero => exact Int.le_refl _
  | succ n => exact Int.natCast_nonneg _
theorem cmG_dvd (f : Nat → Int) (n : Nat) : ∀ j, j < n → (cmG f n).toNat ∣ (f j).toNat := by
  induction n with
  | zero => intro j hj; omega
  | succ n ih =>
    intro j hj
    have e : (cmG f (n + 1)).toNat = Nat.gcd (cmG f n).toNat (f n).toNat := rfl
    rw [e]
    rcases (show j < n ∨ j = n by omega) with h1 | h1
    · exact Nat.dvd_trans (Nat.gcd_dvd_left _ _) (ih j h1)
    · rw [h1]; exact Nat.gcd_dvd_right _ _
theorem cmM_le (f : Nat → Int) (n : Nat) : ∀ j, j < n → f j ≤ cmM f n := by
  induction n with
  | zero => intro j hj; omega
  | succ n ih =>
    intro j hj
    show f j ≤ (if f n ≤ cmM f n then cmM f n else f n)
    rcases (show j < n ∨ j = n by omega) with h1 | h1
    · have := ih j h1; split <;> omega
    · rw [h1]; split <;> omega
theorem pgn : ∀ (q n : Nat) (f : Nat → Nat), (∀ j, j < n → 1 ≤ f j ∧ f j ≤ q) → (∀ i j, i < n → j < n → f i = f j → i = j) → n ≤ q := by
  intro q
  induction q with
  | zero =>
    intro n f h _
    rcases (show n = 0 ∨ 0 < n by omega) with h1 | h1
    · omega
    · have := h 0 h1; omega
  | succ q ih =>
    intro n f h hi
    by_cases hx : ∃ j, j < n ∧ f j = q + 1
    · obtain ⟨j0, h0, h1⟩ := hx
      have h2 := ih (n - 1) (fun j => if j < j0 then f j else f (j + 1)) (fun j hj => by
        show 1 ≤ (if j < j0 then f j else f (j + 1)) ∧ (if j < j0 then f j else f (j + 1)) ≤ q
        split
        · rename_i hc
          have h3 := h j (by omega)
          have h4 : f j ≠ q + 1 := fun h5 => by have := hi j j0 (by omega) h0 (by omega); omega
          omega
        · rename_i hc
          have h3 := h (j + 1) (by omega)
          have h4 : f (j + 1) ≠ q + 1 := fun h5 => by have := hi (j + 1) j0 (by omega) h0 (by omega); omega
          omega) (fun i j hi2 hj2 he => by
        have he : (if i < j0 then f i else f (i + 1)) = (if j < j0 then f j else f (j + 1)) := he
        split at he <;> split at he
        · exact hi i j (by omega) (by omega) he
        · have := hi i (j + 1) (by omega) (by omega) he; omega
        · have := hi (i + 1) j (by omega) (by omega) he; omega
        · have := hi (i + 1) (j + 1) (by omega) (by omega) he; omega)
      omega
    · have h2 := ih n f (fun j hj => by
        have h3 := h j hj
        have h4 : f j ≠ q + 1 := fun h5 => hx ⟨j, hj, h5⟩
        omega) hi
      omega
/-- so many unlike numbers above 0 with a common measure: at least so much goes into the greatest -/
theorem cm_many {f : Nat → Int} {n : Nat} (hn : 0 < n) (h0 : ∀ j, j < n → 0 < f j) (hi : ∀ i j, i < n → j < n → f i = f j → i = j) : 0 < cmG f n ∧ (n : Int) ≤ cmM f n / cmG f n := by
  obtain ⟨k, rfl⟩ : ∃ k, n = k + 1 := ⟨n - 1, by omega⟩
  have hg : 0 < cmG f (k + 1) := (gcdZ_r (cmG_nn f k) (h0 k (by omega))).1
  refine ⟨hg, ?_⟩
  obtain ⟨g, hgg⟩ : ∃ g : Nat, cmG f (k + 1) = (g : Int) := ⟨(cmG f (k + 1)).toNat, by omega⟩
  have hM0 : 0 ≤ cmM f (k + 1) := Int.le_trans (Int.le_of_lt (h0 0 (by omega))) (cmM_le f (k + 1) 0 (by omega))
  obtain ⟨M, hMM⟩ : ∃ M : Nat, cmM f (k + 1) = (M : Int) := ⟨(cmM f (k + 1)).toNat, by omega⟩
  have hd := cmG_dvd f (k + 1)
  have hl := cmM_le f (k + 1)
  rw [hgg] at hd hg ⊢
  rw [hMM] at hl ⊢
  have hg2 : 0 < g := by omega
  have h1 := pgn (M / g) (k + 1) (fun j => (f j).toNat / g) (fun j hj => by
    have h2 := hd j hj
    have h3 := hl j hj
    have h4 := h0 j hj
    rw [Int.toNat_natCast] at h2
    refine ⟨Nat.div_pos (Nat.le_of_dvd (by omega) h2) hg2, Nat.div_le_div_right (by omega)⟩) (fun i j hi2 hj2 he => by
    have he : (f i).toNat / g = (f j).toNat / g := he
    have h2 := hd i hi2
    have h3 := hd j hj2
    rw [Int.toNat_natCast] at h2 h3
    have h4 := Nat.div_mul_cancel h2
    have h5 := Nat.div_mul_cancel h3
    rw [he] at h4
    have h6 := h0 i hi2
    have h7 := h0 j hj2
    exact hi i j hi2 hj2 (by omega))
  have h2 : ((M : Int) / (g : Int)) = ((M / g : Nat) : Int) := rfl
  rw [h2]
  omega
theorem cm_one {f : Nat → Int} (h : 0 < f 0) : cmM f 1 / cmG f 1 - 1 = 0 := by
  have e1 : cmG f 1 = gcdZ 0 (f 0) := rfl
  have e2 : cmM f 1 = if f 0 ≤ 0 then 0 else f 0 := rfl
  have e3 : gcdZ 0 (f 0) = f 0 := by
    unfold gcdZ
    rw [show (0 : Int).toNat = 0 from rfl, Nat.gcd_zero_left]; omega
  rw [e1, e2, e3, if_neg (by omega), Int.ediv_self (by omega)]; rfl
theorem z_and1 {w : Int} (h : 0 ≤ w ∧ w ≤ 255) : z_iand w 1 = w % 2 := by
  have h3 : ∀ n : Nat, n < 256 → z_iand n 1 = ((n % 2 : Nat) : Int) := by decide +kernel
  have h1 := h3 w.toNat (by omega)
  rw [show ((w.toNat : Nat) : Int) = w by omega] at h1
  rw [h1]; omega
/-- what comes answers -/
def cmF (f : Nat → Int) (n what : Int) : Int := if 0 < ctP (fun j => decide (f j = 0)) n.toNat ∨ 0 < twO f 0 n.toNat then -3 else if what = 0 then cmM f n.toNat / cmG f n.toNat - n else (cmM f n.toNat / cmG f n.toNat - n) % 2
theorem cmF_bad {f : Nat → Int} {n : Int} (what : Int) (h : 0 < ctP (fun j => decide (f j = 0)) n.toNat ∨ 0 < twO f 0 n.toNat) : cmF f n what = -3 := if_pos h
theorem cmF_0 {f : Nat → Int} {n what : Int} (h : ¬ (0 < ctP (fun j => decide (f j = 0)) n.toNat ∨ 0 < twO f 0 n.toNat)) (hw : what = 0) : cmF f n what = cmM f n.toNat / cmG f n.toNat - n := (if_neg h).trans (if_pos hw)
theorem cmF_1 {f : Nat → Int} {n what : Int} (h : ¬ (0 < ctP (fun j => decide (f j = 0)) n.toNat ∨ 0 < twO f 0 n.toNat)) (hw : what ≠ 0) : cmF f n what = (cmM f n.toNat / cmG f n.toNat - n) % 2 := (if_neg h).trans (if_neg hw)
theorem cmF_c {f g : Nat → Int} {n : Int} (what : Int) (h : ∀ j : Nat, (j : Int) < n → f j = g j) : cmF f n what = cmF g n what := by
  have h2 := toN_c h
  unfold cmF
  rw [ctP_c (T := fun j => decide (g j = 0)) n.toNat (fun j hj => by rw [h2 j hj]), twO_c 0 _ h2, cmM_c _ h2, cmG_c _ h2]
theorem cm_nz {f : Nat → Int} {n : Nat} (h : ∀ j, j < n → 0 ≤ f j) (hz : ¬ 0 < ctP (fun j => decide (f j = 0)) n) : ∀ j, j < n → 0 < f j := fun j hj => by
  have h1 := h j hj
  rcases (show f j = 0 ∨ 0 < f j by omega) with h2 | h2
  · exact absurd (ctP_pos (P := fun j => decide (f j = 0)) hj (decide_eq_true h2)) hz
  · exact h2
-- how often each rest is a difference
def rsX (f : Nat → Int) (m : Int) (i j : Nat) : Nat := ((f i - f j) % m).toNat
def rsU (a : Nat → Int) (v : Nat) : Nat → Int := updZ a v (a v + 1)
def rsI (f : Nat → Int) (m : Int) (i : Nat) (a : Nat → Int) (n : Nat) : Nat → Int := fz (fun j a => rsU a (rsX f m i j)) a n
def rsO (f : Nat → Int) (m : Int) (k n : Nat) : Nat → Int := fz (fun i a => rsI f m i a k) (fun _ => 0) n
theorem rsI_s (f : Nat → Int) (m : Int) (i : Nat) (a : Nat → Int) {x : Int} (h : 0 ≤ x) : rsI f m i a (x + 1).toNat = rsU (rsI f m i a x.toNat) (rsX f m i x.toNat) := fz_s _ _ h
theorem rsO_s (f : Nat → Int) (m : Int) (k : Nat) {x : Int} (h : 0 ≤ x) : rsO f m k (x + 1).toNat = rsI f m x.toNat (rsO f m k x.toNat) k := fz_s _ _ h
theorem rsU_r {a : Nat → Int} {b : Int} (v : Nat) (h : ∀ j, 0 ≤ a j ∧ a j ≤ b) : ∀ j, 0 ≤ rsU a v j ∧ rsU a v j ≤ b + 1 := fun j => by
  unfold rsU
  by_cases hj : j = v
  · rw [hj, updZ_s]; have := h v; omega
  · rw [updZ_n _ _ hj]; have := h j; omega
theorem rsI_r {a : Nat → Int} {b : Int} (f : Nat → Int) (m : Int) (i n : Nat) (h : ∀ j, 0 ≤ a j ∧ a j ≤ b) : ∀ j, 0 ≤ rsI f m i a n j ∧ rsI f m i a n j ≤ b + n := by
  induction n with
  | zero => intro j; have := h j; show 0 ≤ a j ∧ a j ≤ b + ((0 : Nat) : Int); omega
  | succ n ih =>
    intro j
    have := rsU_r (rsX f m i n) ih j
    show 0 ≤ rsU (rsI f m i a n) (rsX f m i n) j ∧ rsU (rsI f m i a n) (rsX f m i n) j ≤ b + ((n + 1 : Nat) : Int)
    omega
theorem rsO_r (f : Nat → Int) (m : Int) (k n : Nat) (hk : k ≤ 12) : ∀ j, 0 ≤ rsO f m k n j ∧ rsO f m k n j ≤ 12 * n := by
  induction n with
  | zero => intro j; exact ⟨Int.le_refl _, Int.le_refl _⟩
  | succ n ih =>
    intro j
    have := rsI_r (b := 12 * (n : Int)) f m n k ih j
    show 0 ≤ rsI f m n (rsO f m k n) k j ∧ rsI f m n (rsO f m k n) k j ≤ 12 * ((n + 1 : Nat) : Int)
    omega
/-- behind c of n * n pairs -/
def rsC (f : Nat → Int) (m : Int) (n c : Nat) : Nat → Int := rsI f m (c / n) (rsO f m n (c / n)) (c % n)
theorem rsC_s (f : Nat → Int) (m : Int) (n c : Nat) (hn : 0 < n) : rsC f m n (c + 1) = rsU (rsC f m n c) (rsX f m (c / n) (c % n)) := by
  have h1 := Nat.mod_lt c hn
  have h2 := Nat.div_add_mod c n
  unfold rsC
  rcases (show c % n + 1 < n ∨ c % n + 1 = n by omega) with h | h
  · have e1 : (c + 1) / n = c / n := by
      rw [Nat.div_eq_iff hn]; 
      constructor
      · rw [Nat.mul_comm]; omega
      · rw [Nat.mul_comm]; omega
    have e2 : (c + 1) % n = c % n + 1 := by
      have h3 := Nat.div_add_mod (c + 1) n
      rw [e1] at h3; omega
    rw [e1, e2]; rfl
  · have e1 : (c + 1) / n = c / n + 1 := by
      have h3 : c + 1 = n * (c / n + 1) := by rw [Nat.mul_add]; omega
      rw [h3, Nat.mul_div_cancel_left _ hn]
    have e2 : (c + 1) % n = 0 := by
      have h3 : c + 1 = n * (c / n + 1) := by rw [Nat.mul_add]; omega
      rw [h3, Nat.mul_mod_right]
    rw [e1, e2]
    show rsO f m n (c / n + 1) = rsI f m (c / n) (rsO f m n (c / n)) (c % n + 1)
    rw [h]; rfl
theorem rsC_r (f : Nat → Int) (m : Int) (n c : Nat) (hn : 0 < n ∧ n ≤ 12) (hc : c ≤ n * n) : ∀ j, 0 ≤ rsC f m n c j ∧ rsC f m n c j ≤ 156 := fun j => by
  have h1 := rsI_r (b := 12 * ((c / n : Nat) : Int)) f m (c / n) (c % n) (rsO_r f m n (c / n) hn.2) j
  have h2 := Nat.mod_lt c hn.1
  have h3 : c / n ≤ n := by
    have := Nat.div_le_div_right (c := n) hc
    rwa [Nat.mul_div_cancel _ hn.1] at this
  unfold rsC
  omega
theorem rsC_z (f : Nat → Int) (m : Int) (n : Nat) : rsC f m n 0 = fun _ => 0 := by
  unfold rsC
  rw [Nat.zero_div, Nat.zero_mod]; rfl
theorem rsC_e (f : Nat → Int) (m : Int) (n : Nat) (hn : 0 < n) : rsC f m n (n * n) = rsO f m n n := by
  unfold rsC
  rw [Nat.mul_div_cancel _ hn, Nat.mul_mod_right]; rfl
theorem rsX_c {f g : Nat → Int} (m : Int) {n i j : Nat} (hi : i < n) (hj : j < n) (h : ∀ j : Nat, j < n → f j = g j) : rsX f m i j = rsX g m i j := by
  unfold rsX; rw [h i hi, h j hj]
theorem rsO_c {f g : Nat → Int} (m : Int) (n : Nat) (h : ∀ j : Nat, j < n → f j = g j) : rsO f m n n = rsO g m n n := fz_c _ _ (fun k hk x => fz_c _ _ (fun j hj y => by rw [rsX_c m hk hj h]))
-- the least, the most of them
def lsM (W : Nat → Int) (n : Nat) : Int := fz (fun j l => if l ≤ W (j + 1) then l else W (j + 1)) 1000000 n
def msM (W : Nat → Int) (n : Nat) : Int := fz (fun j l => if W (j + 1) ≤ l then l else W (j + 1)) 0 n
theorem lsM_s (W : Nat → Int) {x : Int} (h : 1 ≤ x) : (lsM W (x - 1).toNat ≤ W x.toNat ∧ lsM W x.toNat = lsM W (x - 1).toNat) ∨ (W x.toNat < lsM W (x - 1).toNat ∧ lsM W x.toNat = W x.toNat) := by
  have e : lsM W ((x - 1).toNat + 1) = if lsM W (x - 1).toNat ≤ W ((x - 1).toNat + 1) then lsM W (x - 1).toNat else W ((x - 1).toNat + 1) := rfl
  rw [show (x - 1).toNat + 1 = x.toNat by omega] at e
  rw [e]
  by_cases hc : lsM W (x - 1).toNat ≤ W x.toNat
  · exact Or.inl ⟨hc, if_pos hc⟩
  · exact Or.inr ⟨by omega, if_neg hc⟩
theorem msM_s (W : Nat → Int) {x : Int} (h : 1 ≤ x) : (W x.toNat ≤ msM W (x - 1).toNat ∧ msM W x.toNat = msM W (x - 1).toNat) ∨ (msM W (x - 1).toNat < W x.toNat ∧ msM W x.toNat = W x.toNat) := by
  have e : msM W ((x - 1).toNat + 1) = if W ((x - 1).toNat + 1) ≤ msM W (x - 1).toNat then msM W (x - 1).toNat else W ((x - 1).toNat + 1) := rfl
  rw [show (x - 1).toNat + 1 = x.toNat by omega] at e
  rw [e]
  by_cases hc : W x.toNat ≤ msM W (x - 1).toNat
  · exact Or.inl ⟨hc, if_pos hc⟩
  · exact Or.inr ⟨by omega, if_neg hc⟩
theorem lsM_c {W V : Nat → Int} (n : Nat) (h : ∀ j : Nat, 1 ≤ j → j ≤ n → W j = V j) : lsM W n = lsM V n := fz_c _ _ (fun k hk x => by rw [h (k + 1) (by omega) (by omega)])
theorem msM_c {W V : Nat → Int} (n : Nat) (h : ∀ j : Nat, 1 ≤ j → j ≤ n → W j = V j) : msM W n = msM V n := fz_c _ _ (fun k hk x => by rw [h (k + 1) (by omega) (by omega)])
/-- what rests answers -/
def rsF (f : Nat → Int) (n m what : Int) : Int := if 0 < ctP (fun j => decide (m ≤ f j)) n.toNat ∨ 0 < twO f 0 n.toNat then -3 else if what = 0 then lsM (rsO f m n.toNat n.toNat) (m - 1).toNat else msM (rsO f m n.toNat n.toNat) (m - 1).toNat
theorem rsF_bad {f : Nat → Int} {n m : Int} (what : Int) (h : 0 < ctP (fun j => decide (m ≤ f j)) n.toNat ∨ 0 < twO f 0 n.toNat) : rsF f n m what = -3 := if_pos h
theorem rsF_e {f : Nat → Int} {n m : Int} (what : Int) (h : ¬ (0 < ctP (fun j => decide (m ≤ f j)) n.toNat ∨ 0 < twO f 0 n.toNat)) : (what = 0 ∧ rsF f n m what = lsM (rsO f m n.toNat n.toNat) (m - 1).toNat) ∨ (what ≠ 0 ∧ rsF f n m what = msM (rsO f m n.toNat n.toNat) (m - 1).toNat) := by
  by_cases hw : what = 0
  · exact Or.inl ⟨hw, (if_neg h).trans (if_pos hw)⟩
  · exact Or.inr ⟨hw, (if_neg h).trans (if_neg hw)⟩
theorem rsF_c {f g : Nat → Int} {n : Int} (m what : Int) (h : ∀ j : Nat, (j : Int) < n → f j = g j) : rsF f n m what = rsF g n m what := by
  have h2 := toN_c h
  unfold rsF
  rw [ctP_c (T := fun j => decide (m ≤ g j)) n.toNat (fun j hj => by rw [h2 j hj]), twO_c 0 _ h2, rsO_c m _ h2]
theorem cmM_1 {f : Nat → Int} (h : 0 ≤ f 0) : f 0 = cmM f (1 : Int).toNat := by
  show f 0 = if f 0 ≤ 0 then 0 else f 0
  split <;> omega
theorem rsX_same (f : Nat → Int) (m : Int) (i : Nat) : rsX f m i i = 0 := by
  unfold rsX
  rw [Int.sub_self, Int.zero_emod]; rfl
theorem rsX_e {f : Nat → Int} {m : Int} {i j : Nat} (h : -m < f i - f j ∧ f i - f j < m) : (f i - f j < 0 ∧ ((rsX f m i j : Nat) : Int) = f i - f j + m) ∨ (0 ≤ f i - f j ∧ ((rsX f m i j : Nat) : Int) = f i - f j) := by
  have hm : 0 < m := by omega
  unfold rsX
  rcases (show f i - f j < 0 ∨ 0 ≤ f i - f j by omega) with h1 | h1
  · have e : (f i - f j) % m = f i - f j + m := by
      rw [← Int.add_emod_right, Int.emod_eq_of_lt (by omega) (by omega)]
    rw [e]; omega
  · rw [Int.emod_eq_of_lt h1 h.2]; omega
theorem rsX_m {f : Nat → Int} {m t : Int} {i j : Nat} (hm : 0 < m) (ht : t = (f i - f j + m) % m) : t.toNat = rsX f m i j := by
  unfold rsX
  rw [ht, Int.add_emod_right]
theorem rsU_0 (a : Nat → Int) (v : Nat) (h : 1 ≤ v) : rsU a 0 v = a v := updZ_n _ _ (by omega)
theorem rs_st {a W : Nat → Int} {m : Int} {k k2 : Nat} {t : Int} (hW : ∀ v : Nat, 1 ≤ v → (v : Int) < m → a v = W v) (hk : k = k2) (ht : t = a k + 1) (h1 : 1 ≤ k) (hm : (k : Int) < m) : ∀ v : Nat, 1 ≤ v → (v : Int) < m → updZ a k t v = rsU W k2 v := fun v hv hvm => by
  unfold rsU
  rw [← hk]
  by_cases hq : v = k
  · rw [hq, updZ_s, updZ_s, ht, hW k h1 hm]
  · rw [updZ_n _ _ hq, updZ_n _ _ hq, hW v hv hvm]
theorem rs_st0 {a W : Nat → Int} {m : Int} {k k2 : Nat} {t : Int} (hW : ∀ v : Nat, (v : Int) < m → a v = W v) (hk : k = k2) (ht : t = a k + 1) (hm : (k : Int) < m) : ∀ v : Nat, (v : Int) < m → updZ a k t v = rsU W k2 v := fun v hvm => by
  unfold rsU
  rw [← hk]
  by_cases hq : v = k
  · rw [hq, updZ_s, updZ_s, ht, hW k hm]
  · rw [updZ_n _ _ hq, updZ_n _ _ hq, hW v hvm]
theorem rsC_sZ (f : Nat → Int) (m : Int) {n x : Int} (hn : 0 < n) (hx : 0 ≤ x) : rsC f m n.toNat (x + 1).toNat = rsU (rsC f m n.toNat x.toNat) (rsX f m (x / n).toNat (x % n).toNat) := by
  rw [tn_s hx, rsC_s _ _ _ _ (by omega), toNat_mod hx (by omega)]
  have h : (x / n).toNat = x.toNat / n.toNat := by
    obtain ⟨a, rfl⟩ : ∃ a : Nat, x = (a : Int) := ⟨x.toNat, by omega⟩
    obtain ⟨b, rfl⟩ : ∃ b : Nat, n = (b : Int) := ⟨n.toNat, by omega⟩
    rfl
  rw [h]
theorem rsC_eZ (f : Nat → Int) (m : Int) {n : Int} (hn : 0 < n) : rsC f m n.toNat (n * n).toNat = rsO f m n.toNat n.toNat := by
  rw [Int.toNat_mul (by omega) (by omega)]; exact rsC_e _ _ _ (by omega)
theorem rsC_rZ (f : Nat → Int) (m : Int) {n x : Int} (hn : 0 < n ∧ n ≤ 12) (hx : x ≤ n * n) (j : Nat) : 0 ≤ rsC f m n.toNat x.toNat j ∧ rsC f m n.toNat x.toNat j ≤ 156 := rsC_r _ _ _ _ (by omega) (by rw [← Int.toNat_mul (by omega) (by omega)]; omega) j
