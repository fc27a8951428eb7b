-- triangles: number by number of the first line (bits, absolute values first)
def dzA (a : Int) : Int := if a < 0 then -a else a
theorem dzA_e (a : Int) : (a < 0 ∧ dzA a = -a) ∨ (0 ≤ a ∧ dzA a = a) := by
  unfold dzA
  split
  · exact Or.inl ⟨by assumption, rfl⟩
  · exact Or.inr ⟨by omega, rfl⟩
theorem z_andN {n m : Nat} (hn : n < 4096) (hm : m < 4096) : z_iand (n : Int) (m : Int) = ((n &&& m : Nat) : Int) := by
  unfold z_iand
  rw [zI_nI, zI_nI]
  have h1 : nI n &&& nI m = nI (n &&& m) := by
    apply Int32.toBitVec_inj.1
    show BitVec.ofNat 32 n &&& BitVec.ofNat 32 m = BitVec.ofNat 32 (n &&& m)
    apply BitVec.eq_of_getLsbD_eq
    intro i hi
    simp [hi]
  rw [h1, nI_toInt (Nat.lt_of_le_of_lt Nat.and_le_left (by omega))]
theorem hasU_bit {n k : Nat} (hn : n < 4096) (hk : k < 12) : z_iand (z_iushr (n : Int) (k : Int)) 1 ≠ 0 ↔ n.testBit k = true := by
  have h0 : n / 2 ^ k < 4096 := Nat.lt_of_le_of_lt (Nat.div_le_self _ _) hn
  have h1 : z_iushr (n : Int) (k : Int) = ((n / 2 ^ k : Nat) : Int) := by
    unfold z_iushr
    rw [zI_nI, zI_nI]
    have h2 : ((nI n).toUInt32 >>> ((nI k).toUInt32 &&& Int32.toUInt32 31)).toInt32 = nI (n / 2 ^ k) := by
      apply Int32.toBitVec_inj.1
      have h3 : ∀ j : Nat, j < 12 → ((nI j).toUInt32 &&& Int32.toUInt32 31).toNat % 32 = j := by decide +kernel
      have h4 := h3 k hk
      show ((nI n).toUInt32 >>> ((nI k).toUInt32 &&& Int32.toUInt32 31)).toBitVec = BitVec.ofNat 32 (n / 2 ^ k)
      apply BitVec.eq_of_toNat_eq
      rw [UInt32.toNat_toBitVec, UInt32.toNat_shiftRight, h4, Nat.shiftRight_eq_div_pow, BitVec.toNat_ofNat]
      have h5 : (nI n).toUInt32.toNat = n := by
        show (BitVec.ofNat 32 n).toNat = n
        rw [BitVec.toNat_ofNat]
        exact Nat.mod_eq_of_lt (by omega)
      rw [h5]
      exact (Nat.mod_eq_of_lt (by omega)).symm
    rw [h2, nI_toInt (by omega)]
  rw [h1, show (1 : Int) = ((1 : Nat) : Int) from rfl, z_andN h0 (by decide), Nat.testBit_eq_decide_div_mod_eq, decide_eq_true_iff, Nat.and_one_is_mod]
  omega
theorem tb_U {s k : Int} (hs : 0 ≤ s ∧ s ≤ 4095) (hk : 0 ≤ k ∧ k ≤ 11) : z_iand (z_iushr s k) 1 ≠ 0 ↔ s.toNat.testBit k.toNat = true := by
  have h1 := hasU_bit (n := s.toNat) (k := k.toNat) (by omega) (by omega)
  rw [show ((s.toNat : Nat) : Int) = s by omega, show ((k.toNat : Nat) : Int) = k by omega] at h1
  exact h1
theorem tb_Z {s k : Int} (hs : 0 ≤ s ∧ s ≤ 4095) (hk : 0 ≤ k ∧ k ≤ 30) : hasZ s k = 1 ↔ s.toNat.testBit k.toNat = true := by
  have h1 := hasZ_bit (n := s.toNat) (k := k.toNat) (by omega) (by omega)
  rw [show ((s.toNat : Nat) : Int) = s by omega, show ((k.toNat : Nat) : Int) = k by omega] at h1
  exact h1
theorem tb_UZ {s k : Int} (hs : 0 ≤ s ∧ s ≤ 4095) (hk : 0 ≤ k ∧ k ≤ 11) : z_iand (z_iushr s k) 1 ≠ 0 ↔ hasZ s k = 1 := (tb_U hs hk).trans (tb_Z hs (by omega)).symm
def trRow (n : Int) (P : Nat → Int) : Nat → Int
  | 0 => n
  | l + 1 => dzA (trRow n P l - P l)
def trU (u : Int) (R : Nat → Int) : Nat → Int
  | 0 => u
  | k + 1 => if trU u R k = -1 then -1 else if R k = 0 ∨ hasZ (trU u R k) (R k) = 1 then -1 else z_ior (trU u R k) (z_ishl 1 (R k))
theorem trRow_c (n : Int) {P Q : Nat → Int} : ∀ l : Nat, (∀ j : Nat, j < l → P j = Q j) → trRow n P l = trRow n Q l := by
  intro l
  induction l with
  | zero => intro _; rfl
  | succ l ih =>
    intro h
    show dzA (trRow n P l - P l) = dzA (trRow n Q l - Q l)
    rw [ih (fun j hj => h j (by omega)), h l (Nat.lt_succ_self l)]
theorem trU_c (u : Int) {R S : Nat → Int} : ∀ k : Nat, (∀ j : Nat, j < k → R j = S j) → trU u R k = trU u S k := by
  intro k
  induction k with
  | zero => intro _; rfl
  | succ k ih =>
    intro h
    unfold trU
    rw [ih (fun j hj => h j (by omega)), h k (Nat.lt_succ_self k)]
theorem trU_m {u : Int} {R : Nat → Int} {k : Nat} (h : trU u R k = -1) (d : Nat) : trU u R (k + d) = -1 := by
  induction d with
  | zero => exact h
  | succ d ih =>
    show (if trU u R (k + d) = -1 then (-1 : Int) else _) = -1
    rw [if_pos ih]
theorem trU_s (u : Int) (R : Nat → Int) (k : Nat) (h : trU u R k ≠ -1) : ((R k = 0 ∨ hasZ (trU u R k) (R k) = 1) ∧ trU u R (k + 1) = -1) ∨ (¬ (R k = 0 ∨ hasZ (trU u R k) (R k) = 1) ∧ trU u R (k + 1) = z_ior (trU u R k) (z_ishl 1 (R k))) := by
  have e : trU u R (k + 1) = if trU u R k = -1 then -1 else if R k = 0 ∨ hasZ (trU u R k) (R k) = 1 then -1 else z_ior (trU u R k) (z_ishl 1 (R k)) := rfl
  rw [e, if_neg h]
  by_cases hc : R k = 0 ∨ hasZ (trU u R k) (R k) = 1
  · exact Or.inl ⟨hc, if_pos hc⟩
  · exact Or.inr ⟨hc, if_neg hc⟩
/-- how many so, and the i-th number of the first one -/
def trC : Nat → Nat → Int → (Nat → Int) → Nat → Int
  | 0, _, _, _, _ => 0
  | l + 1, g, u, P, a => fz (fun k c => c + (if trU u (trRow ((k : Int) + 1) P) (a + 1) = -1 then 0 else if l = 0 then 1 else trC l g (trU u (trRow ((k : Int) + 1) P) (a + 1)) (trRow ((k : Int) + 1) P) (a + 1))) 0 g
def trX (l g : Nat) (u : Int) (P : Nat → Int) (a k : Nat) : Int := if trU u (trRow ((k : Int) + 1) P) (a + 1) = -1 then 0 else if l = 0 then 1 else trC l g (trU u (trRow ((k : Int) + 1) P) (a + 1)) (trRow ((k : Int) + 1) P) (a + 1)
def trP (l g : Nat) (u : Int) (P : Nat → Int) (a k : Nat) : Int := fz (fun k c => c + trX l g u P a k) 0 k
theorem trC_P (l g : Nat) (u : Int) (P : Nat → Int) (a : Nat) : trC (l + 1) g u P a = trP l g u P a g := rfl
theorem trP_s (l g : Nat) (u : Int) (P : Nat → Int) (a k : Nat) : trP l g u P a (k + 1) = trP l g u P a k + trX l g u P a k := rfl
theorem trC_nn : ∀ (l g : Nat) (u : Int) (P : Nat → Int) (a : Nat), 0 ≤ trC l g u P a := by
  intro l
  induction l with
  | zero => intro g u P a; exact Int.le_refl 0
  | succ l ih =>
    intro g u P a
    rw [trC_P]
    have hx : ∀ k : Nat, 0 ≤ trX l g u P a k := fun k => by
      unfold trX
      split
      · exact Int.le_refl 0
      · split
        · decide
        · exact ih _ _ _ _
    have key : ∀ k : Nat, 0 ≤ trP l g u P a k := by
      intro k
      induction k with
      | zero => exact Int.le_refl 0
      | succ k ik => rw [trP_s]; have := hx k; omega
    exact key g
theorem trX_nn (l g : Nat) (u : Int) (P : Nat → Int) (a k : Nat) : 0 ≤ trX l g u P a k := by
  unfold trX
  split
  · exact Int.le_refl 0
  · split
    · decide
    · exact trC_nn _ _ _ _ _
theorem trP_mono (l g : Nat) (u : Int) (P : Nat → Int) (a k d : Nat) : trP l g u P a k ≤ trP l g u P a (k + d) := by
  induction d with
  | zero => exact Int.le_refl _
  | succ d ih =>
    have := trX_nn l g u P a (k + d)
    show _ ≤ trP l g u P a (k + d + 1)
    rw [trP_s]; omega
theorem trP_le (l g : Nat) (u : Int) (P : Nat → Int) (a : Nat) {k n : Nat} (h : k ≤ n) : trP l g u P a k ≤ trP l g u P a n := by
  have h1 := trP_mono l g u P a k (n - k)
  rw [show k + (n - k) = n by omega] at h1
  exact h1
theorem trRow_r {n : Int} {P : Nat → Int} (hn : 0 ≤ n ∧ n ≤ 10) (hP : ∀ j, 0 ≤ P j ∧ P j ≤ 10) : ∀ l : Nat, 0 ≤ trRow n P l ∧ trRow n P l ≤ 10 := by
  intro l
  induction l with
  | zero => exact hn
  | succ l ih =>
    have h1 := dzA_e (trRow n P l - P l)
    have h2 := hP l
    show 0 ≤ dzA (trRow n P l - P l) ∧ dzA (trRow n P l - P l) ≤ 10
    omega
theorem trRow_z (n : Int) (P : Nat → Int) {x : Int} (h : 1 ≤ x) : trRow n P x.toNat = dzA (trRow n P (x - 1).toNat - P (x - 1).toNat) := by
  rw [show x.toNat = (x - 1).toNat + 1 by omega]
  rfl
theorem trU_z (u : Int) (R : Nat → Int) {x : Int} (h : 0 ≤ x) (hn : trU u R x.toNat ≠ -1) : ((R x.toNat = 0 ∨ hasZ (trU u R x.toNat) (R x.toNat) = 1) ∧ trU u R (x + 1).toNat = -1) ∨ (¬ (R x.toNat = 0 ∨ hasZ (trU u R x.toNat) (R x.toNat) = 1) ∧ trU u R (x + 1).toNat = z_ior (trU u R x.toNat) (z_ishl 1 (R x.toNat))) := by
  rw [tn_s h]
  exact trU_s u R x.toNat hn
theorem trU_mz {u : Int} {R : Nat → Int} {x y : Int} (h0 : 0 ≤ x) (hxy : x ≤ y) (h : trU u R x.toNat = -1) : trU u R y.toNat = -1 := by
  have h1 := trU_m h (y.toNat - x.toNat)
  rw [show x.toNat + (y.toNat - x.toNat) = y.toNat by omega] at h1
  exact h1
def trA : Nat → Nat → Int → (Nat → Int) → Nat → Nat → Int
  | 0, _, _, _, _, _ => 0
  | l + 1, g, u, P, a, i => fz (fun k c => if trP l g u P a k ≠ 0 then c else if trX l g u P a k = 0 then 0 else if i = a then (k : Int) + 1 else trA l g (trU u (trRow ((k : Int) + 1) P) (a + 1)) (trRow ((k : Int) + 1) P) (a + 1) i) 0 g
def trB (l g : Nat) (u : Int) (P : Nat → Int) (a i k : Nat) : Int := fz (fun k c => if trP l g u P a k ≠ 0 then c else if trX l g u P a k = 0 then 0 else if i = a then (k : Int) + 1 else trA l g (trU u (trRow ((k : Int) + 1) P) (a + 1)) (trRow ((k : Int) + 1) P) (a + 1) i) 0 k
theorem trA_B (l g : Nat) (u : Int) (P : Nat → Int) (a i : Nat) : trA (l + 1) g u P a i = trB l g u P a i g := rfl
theorem trB_s (l g : Nat) (u : Int) (P : Nat → Int) (a i k : Nat) : trB l g u P a i (k + 1) = if trP l g u P a k ≠ 0 then trB l g u P a i k else if trX l g u P a k = 0 then 0 else if i = a then (k : Int) + 1 else trA l g (trU u (trRow ((k : Int) + 1) P) (a + 1)) (trRow ((k : Int) + 1) P) (a + 1) i := rfl
theorem trP_nn (l g : Nat) (u : Int) (P : Nat → Int) (a k : Nat) : 0 ≤ trP l g u P a k := trP_le l g u P a (Nat.zero_le k)
-- what is alike ahead of a
theorem trC_c : ∀ (l g : Nat) (u : Int) {P Q : Nat → Int} (a : Nat), (∀ j : Nat, j < a → P j = Q j) → trC l g u P a = trC l g u Q a := by
  intro l
  induction l with
  | zero => intro _ _ _ _ _ _; rfl
  | succ l ih =>
    intro g u P Q a h
    rw [trC_P, trC_P]
    refine fz_c _ _ (fun k _ c => ?_)
    have h1 : ∀ j : Nat, j < a + 1 → trRow ((k : Int) + 1) P j = trRow ((k : Int) + 1) Q j := fun j hj => trRow_c _ j (fun i hi => h i (by omega))
    unfold trX
    rw [trU_c u (a + 1) h1, ih g _ (a + 1) h1]
theorem trX_c (l g : Nat) (u : Int) {P Q : Nat → Int} (a k : Nat) (h : ∀ j : Nat, j < a → P j = Q j) : trX l g u P a k = trX l g u Q a k := by
  have h1 : ∀ j : Nat, j < a + 1 → trRow ((k : Int) + 1) P j = trRow ((k : Int) + 1) Q j := fun j hj => trRow_c _ j (fun i hi => h i (by omega))
  unfold trX
  rw [trU_c u (a + 1) h1, trC_c l g _ (a + 1) h1]
theorem trP_c (l g : Nat) (u : Int) {P Q : Nat → Int} (a k : Nat) (h : ∀ j : Nat, j < a → P j = Q j) : trP l g u P a k = trP l g u Q a k := fz_c _ _ (fun k _ c => by rw [trX_c l g u a k h])
theorem trA_c : ∀ (l g : Nat) (u : Int) {P Q : Nat → Int} (a i : Nat), (∀ j : Nat, j < a → P j = Q j) → trA l g u P a i = trA l g u Q a i := by
  intro l
  induction l with
  | zero => intro _ _ _ _ _ _ _; rfl
  | succ l ih =>
    intro g u P Q a i h
    rw [trA_B, trA_B]
    refine fz_c _ _ (fun k _ c => ?_)
    have h1 : ∀ j : Nat, j < a + 1 → trRow ((k : Int) + 1) P j = trRow ((k : Int) + 1) Q j := fun j hj => trRow_c _ j (fun i hi => h i (by omega))
    rw [trP_c l g u a k h, trX_c l g u a k h, trU_c u (a + 1) h1, ih g _ (a + 1) i h1]
-- the class's rows; what is found: how many, the first line of the first one
def tP (E : Nat → Int) (a : Int) : Nat → Int := fun j => E ((4 * a - 4).toNat + j)
def grN (n : Int) : Nat := if n = 1 then 1 else if n = 2 then 3 else if n = 3 then 6 else 10
def trG (m0 : Int) (L0 E : Nat → Int) (n : Int) (a : Nat) (C : Int) (T : Nat → Int) (m : Int) (L : Nat → Int) : Prop :=
  m = m0 + C ∧ (m0 ≠ 0 ∨ C = 0 → L = L0) ∧ (m0 = 0 → C ≠ 0 → ∀ i : Nat, (i : Int) < n → L i = if i < a then E (4 * i) else T i)
theorem trG.ini {m0 : Int} {L0 E : Nat → Int} {n : Int} {a l g : Nat} {u : Int} {P : Nat → Int} {k : Nat} (hk : k = 0) : trG m0 L0 E n a (trP l g u P a k) (fun i => trB l g u P a i k) m0 L0 := by
  subst hk
  exact ⟨(Int.add_zero m0).symm, fun _ => rfl, fun _ h => absurd rfl h⟩
theorem trG.no {m0 : Int} {L0 E : Nat → Int} {n : Int} {a l g : Nat} {u w : Int} {P : Nat → Int} {k k1 : Nat} {m : Int} {L : Nat → Int} (h : trG m0 L0 E n a (trP l g u P a k) (fun i => trB l g u P a i k) m L) (hk : k1 = k + 1) (hw : w = (k : Int) + 1) (hX : trU u (trRow w P) (a + 1) = -1) : trG m0 L0 E n a (trP l g u P a k1) (fun i => trB l g u P a i k1) m L := by
  subst hk hw
  have h0 : trX l g u P a k = 0 := if_pos hX
  have h1 : trP l g u P a (k + 1) = trP l g u P a k := by rw [trP_s, h0]; exact Int.add_zero _
  refine ⟨by rw [h1]; exact h.1, fun hh => h.2.1 (by rw [h1] at hh; exact hh), fun hm hC i hi => ?_⟩
  rw [h1] at hC
  rw [h.2.2 hm hC i hi]
  dsimp only
  rw [trB_s, if_pos hC]
theorem trG.last {m0 : Int} {L0 E E1 : Nat → Int} {n : Int} {a l g : Nat} {u w : Int} {P : Nat → Int} {k k1 : Nat} {m m1 : Int} {L L1 : Nat → Int} (h : trG m0 L0 E n a (trP l g u P a k) (fun i => trB l g u P a i k) m L) (hm0 : 0 ≤ m0) (hk : k1 = k + 1) (hw : w = (k : Int) + 1) (hX : trU u (trRow w P) (a + 1) ≠ -1) (hl : l = 0) (hn : n = (a : Int) + 1)
    (hm : m1 = m + 1) (h1 : m ≠ 0 → L1 = L) (h2 : m = 0 → ∀ i : Nat, (i : Int) < n → L1 i = E1 (4 * i)) (hE : ∀ j : Nat, j < 4 * a → E1 j = E j) (hEa : E1 (4 * a) = w) : trG m0 L0 E n a (trP l g u P a k1) (fun i => trB l g u P a i k1) m1 L1 := by
  subst hk hw
  have h0 : trX l g u P a k = 1 := by unfold trX; rw [if_neg hX, if_pos hl]
  have hs : trP l g u P a (k + 1) = trP l g u P a k + 1 := by rw [trP_s, h0]
  have hp := trP_nn l g u P a k
  have hm2 := h.1
  refine ⟨by rw [hs]; omega, fun hh => ?_, fun hz hC i hi => ?_⟩
  · rw [hs] at hh
    rw [h1 (by omega)]
    exact h.2.1 (by omega)
  · by_cases hq : trP l g u P a k = 0
    · have hb : trB l g u P a i (k + 1) = if i = a then (k : Int) + 1 else trA l g (trU u (trRow ((k : Int) + 1) P) (a + 1)) (trRow ((k : Int) + 1) P) (a + 1) i := by rw [trB_s, if_neg (fun g => g hq), if_neg (show ¬ trX l g u P a k = 0 by omega)]
      show L1 i = if i < a then E (4 * i) else trB l g u P a i (k + 1)
      rw [h2 (by omega) i hi, hb]
      by_cases ha : i < a
      · rw [if_pos ha]; exact hE _ (by omega)
      · rw [if_neg ha, show i = a by omega, if_pos rfl]; exact hEa
    · rw [h1 (by omega), h.2.2 hz hq i hi]
      dsimp only
      rw [trB_s, if_pos hq]
theorem trG.rek {m0 : Int} {L0 E E1 : Nat → Int} {n : Int} {a a1 l g : Nat} {u u1 w : Int} {P P1 : Nat → Int} {k k1 : Nat} {m m1 : Int} {L L1 : Nat → Int} (h : trG m0 L0 E n a (trP l g u P a k) (fun i => trB l g u P a i k) m L) (hm0 : 0 ≤ m0) (hk : k1 = k + 1) (hw : w = (k : Int) + 1) (hu : u1 = trU u (trRow w P) (a + 1)) (hX : u1 ≠ -1) (hl : l ≠ 0) (ha1 : a1 = a + 1) (hP : ∀ j : Nat, j < a + 1 → P1 j = trRow w P j)
    (h2 : trG m L E1 n a1 (trC l g u1 P1 a1) (fun i => trA l g u1 P1 a1 i) m1 L1) (hE : ∀ j : Nat, j < 4 * a → E1 j = E j) (hEa : E1 (4 * a) = w) : trG m0 L0 E n a (trP l g u P a k1) (fun i => trB l g u P a i k1) m1 L1 := by
  subst hk ha1 hw
  have h0 : trX l g u P a k = trC l g u1 P1 (a + 1) := by unfold trX; rw [← hu, if_neg hX, if_neg hl]; exact (trC_c l g u1 (a + 1) hP).symm
  have hs : trP l g u P a (k + 1) = trP l g u P a k + trX l g u P a k := trP_s _ _ _ _ _ _
  have hp := trP_nn l g u P a k
  have hx := trX_nn l g u P a k
  have hm2 := h.1
  have hm3 := h2.1
  refine ⟨by rw [hs]; omega, fun hh => ?_, fun hz hC i hi => ?_⟩
  · rw [hs] at hh
    rw [h2.2.1 (by omega)]
    exact h.2.1 (by omega)
  · by_cases hq : trP l g u P a k = 0
    · have hb : trB l g u P a i (k + 1) = if i = a then (k : Int) + 1 else trA l g (trU u (trRow ((k : Int) + 1) P) (a + 1)) (trRow ((k : Int) + 1) P) (a + 1) i := by rw [trB_s, if_neg (fun g => g hq), if_neg (show ¬ trX l g u P a k = 0 by omega)]
      show L1 i = if i < a then E (4 * i) else trB l g u P a i (k + 1)
      rw [h2.2.2 (by omega) (by omega) i hi, hb]
      dsimp only
      by_cases ha : i < a
      · rw [if_pos (show i < a + 1 by omega), if_pos ha]; exact hE _ (by omega)
      · rw [if_neg ha]
        by_cases hi2 : i = a
        · rw [if_pos hi2, if_pos (show i < a + 1 by omega), hi2]; exact hEa
        · rw [if_neg hi2, if_neg (show ¬ i < a + 1 by omega), ← hu]
          exact trA_c l g u1 (a + 1) i hP
    · rw [h2.2.1 (by omega), h.2.2 hz hq i hi]
      dsimp only
      rw [trB_s, if_pos hq]
/-- room for one more -/
theorem trX_room {l g : Nat} {u : Int} {P : Nat → Int} {a k : Nat} (hk : k + 1 ≤ g) : trP l g u P a k + trX l g u P a k ≤ trC (l + 1) g u P a := by
  rw [trC_P, ← trP_s]
  exact trP_le l g u P a hk
theorem trX_1 {l g : Nat} {u u1 w : Int} {P : Nat → Int} {a k : Nat} (hw : w = (k : Int) + 1) (hu : u1 = trU u (trRow w P) (a + 1)) (hX : u1 ≠ -1) (hl : l = 0) : trX l g u P a k = 1 := by
  subst hw
  unfold trX
  rw [← hu, if_neg hX, if_pos hl]
theorem trG.fin {m0 : Int} {L0 E : Nat → Int} {n : Int} {a l g : Nat} {u : Int} {P : Nat → Int} {m : Int} {L : Nat → Int} (h : trG m0 L0 E n a (trP l g u P a g) (fun i => trB l g u P a i g) m L) : trG m0 L0 E n a (trC (l + 1) g u P a) (fun i => trA (l + 1) g u P a i) m L := h
theorem grN_r (n : Int) : 1 ≤ grN n ∧ grN n ≤ 10 := by
  unfold grN
  split
  · decide
  · split
    · decide
    · split <;> decide
theorem trX_y {l g : Nat} {u u1 w : Int} {P P1 : Nat → Int} {a a1 k : Nat} (hw : w = (k : Int) + 1) (hu : u1 = trU u (trRow w P) (a + 1)) (hX : u1 ≠ -1) (ha1 : a1 = a + 1) (hP : ∀ j : Nat, j < a + 1 → P1 j = trRow w P j) : trX l g u P a k = if l = 0 then 1 else trC l g u1 P1 a1 := by
  subst ha1 hw
  unfold trX
  rw [← hu, if_neg hX, ← trC_c l g u1 (a + 1) hP]
-- the reference's: rows of a code; over all codes
def tsR (R : Nat → Int) (i : Nat) : Int := dzA (R i - R (i + 1))
def tsA : Nat → Int → (Nat → Int) → Int
  | 0, _, _ => 1
  | m + 1, u, R => if trU u R (m + 1) = -1 then 0 else tsA m (trU u R (m + 1)) (tsR R)
def tsD (n g k j : Nat) : Int := ((k / g ^ (n - 1 - j) % g : Nat) : Int) + 1
def tsQ (n g k : Nat) : Int := fz (fun k c => c + tsA n 0 (tsD n g k)) 0 k
def tsC (n g : Nat) : Int := tsQ n g (g ^ n)
theorem tsA_c : ∀ (m : Nat) {u : Int} {R S : Nat → Int}, (∀ j : Nat, j < m → R j = S j) → tsA m u R = tsA m u S := by
  intro m
  induction m with
  | zero => intro _ _ _ _; rfl
  | succ m ih =>
    intro u R S h
    have h1 : trU u R (m + 1) = trU u S (m + 1) := trU_c u (m + 1) h
    show (if trU u R (m + 1) = -1 then (0 : Int) else tsA m (trU u R (m + 1)) (tsR R)) = (if trU u S (m + 1) = -1 then (0 : Int) else tsA m (trU u S (m + 1)) (tsR S))
    rw [h1, ih (u := trU u S (m + 1)) (R := tsR R) (S := tsR S) (fun j hj => by unfold tsR; rw [h j (by omega), h (j + 1) (by omega)])]
theorem tsA_n {m : Nat} {u : Int} {R : Nat → Int} {k : Nat} (hk : k ≤ m + 1) (h : trU u R k = -1) : tsA (m + 1) u R = 0 := by
  have h2 := trU_m h (m + 1 - k)
  rw [show k + (m + 1 - k) = m + 1 by omega] at h2
  exact if_pos h2
theorem tsA_y {m : Nat} {u : Int} {R : Nat → Int} (h : trU u R (m + 1) ≠ -1) : tsA (m + 1) u R = tsA m (trU u R (m + 1)) (tsR R) := if_neg h
theorem tsA_01 : ∀ (m : Nat) (u : Int) (R : Nat → Int), tsA m u R = 0 ∨ tsA m u R = 1 := by
  intro m
  induction m with
  | zero => intro _ _; exact Or.inr rfl
  | succ m ih =>
    intro u R
    show (if trU u R (m + 1) = -1 then (0 : Int) else tsA m (trU u R (m + 1)) (tsR R)) = 0 ∨ (if trU u R (m + 1) = -1 then (0 : Int) else tsA m (trU u R (m + 1)) (tsR R)) = 1
    split
    · exact Or.inl rfl
    · exact ih _ _
theorem tsQ_s (n g k : Nat) : tsQ n g (k + 1) = tsQ n g k + tsA n 0 (tsD n g k) := rfl
theorem tsQ_z (n g : Nat) {x : Int} (h : 0 ≤ x) : tsQ n g (x + 1).toNat = tsQ n g x.toNat + tsA n 0 (tsD n g x.toNat) := by rw [tn_s h]; rfl
theorem tsQ_le (n g : Nat) {k m : Nat} (h : k ≤ m) : tsQ n g k ≤ tsQ n g m := by
  have h1 : ∀ d : Nat, tsQ n g k ≤ tsQ n g (k + d) := by
    intro d
    induction d with
    | zero => exact Int.le_refl _
    | succ d ih =>
      have h2 := tsA_01 n 0 (tsD n g (k + d))
      have h3 := tsQ_s n g (k + d)
      show _ ≤ tsQ n g (k + d + 1)
      omega
  have h2 := h1 (m - k)
  rw [show k + (m - k) = m by omega] at h2
  exact h2
theorem tsQ_u {n g x y : Nat} (h1 : tsQ n g x = 0) (h2 : tsA n 0 (tsD n g x) = 1) (h3 : tsQ n g y = 0) (h4 : tsA n 0 (tsD n g y) = 1) : x = y := by
  have a1 := tsQ_s n g x
  have a2 := tsQ_s n g y
  rcases (show x < y ∨ x = y ∨ y < x by omega) with h | h | h
  · have := tsQ_le n g (k := x + 1) (m := y) h; omega
  · exact h
  · have := tsQ_le n g (k := y + 1) (m := x) h; omega
/-- a digit more -/
theorem tsD_st {n x r : Int} {g k : Nat} (hn : 0 ≤ x ∧ x < n) (hr : r = ((k / g ^ (n - 1 - x).toNat : Nat) : Int)) : r % (g : Int) + 1 = tsD n.toNat g k x.toNat ∧ r / (g : Int) = ((k / g ^ (n - 1 - (x + (-1))).toNat : Nat) : Int) := by
  constructor
  · rw [hr]
    unfold tsD
    rw [show n.toNat - 1 - x.toNat = (n - 1 - x).toNat by omega]
    rfl
  · rw [hr, show (n - 1 - (x + (-1))).toNat = (n - 1 - x).toNat + 1 by omega, Nat.pow_succ, ← Nat.div_div_eq_div_mul]
    rfl
-- by the number of lines: how many, the first one's code
def tsN (n : Int) : Int := if n = 1 then 1 else if n = 2 then 4 else 8
def tsF (n : Int) : Nat := if n = 1 then 0 else if n = 2 then 2 else if n = 3 then 33 else 5097
def trF (n what : Int) : Int := if what = 100 then tsN n else if n ≤ what then -4 else tsD n.toNat (grN n) (tsF n) what.toNat
