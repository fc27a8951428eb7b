-- rows of bytes in a long (round)
def lgN (x : Int) : Nat := (zL x).toBitVec.toNat
theorem zL_back (x : Int64) : zL x.toInt = x := Int64.ofInt_toInt x
theorem lgN_inj {x y : Int} (h : lgN x = lgN y) : zL x = zL y := Int64.toBitVec_inj.mp (BitVec.eq_of_toNat_eq h)
theorem lgN_or (a b : Int) : lgN (z_lor a b) = lgN a ||| lgN b := by
  unfold lgN z_lor
  rw [zL_back, Int64.toBitVec_or, BitVec.toNat_or]
theorem lgN_nn {v : Int} (hv : 0 ≤ v ∧ v ≤ 255) : lgN v = v.toNat := by
  show (v % ((2 ^ 64 : Nat) : Int)).toNat = v.toNat
  rw [Int.emod_eq_of_lt hv.1 (Int.lt_of_le_of_lt hv.2 (by decide))]
theorem sh_l : ∀ k : Nat, k < 8 → ((((zI (8 * (k : Int))).toInt64 &&& 63) : Int64).toBitVec.smod 64).toNat = 8 * k := by decide +kernel
theorem sh_r : ∀ k : Nat, k < 8 → ((zI (8 * (k : Int))).toInt64.toUInt64 &&& Int64.toUInt64 63).toNat % 64 = 8 * k := by decide +kernel
theorem pw8 : ∀ k : Nat, k < 8 → 2 ^ (8 * k) = 256 ^ k ∧ 255 * 256 ^ k < 2 ^ 64 := by decide +kernel
theorem pw8e (k : Nat) : 2 ^ (8 * k) = 256 ^ k := by rw [Nat.pow_mul]
theorem lgN_shl {v i : Int} (hv : 0 ≤ v ∧ v ≤ 255) (hi : 0 ≤ i ∧ i ≤ 7) : lgN (z_lshl v (8 * i)) = v.toNat * 256 ^ i.toNat := by
  obtain ⟨k, rfl⟩ : ∃ k : Nat, i = (k : Int) := ⟨i.toNat, by omega⟩
  have hk : k < 8 := by omega
  unfold lgN z_lshl
  rw [zL_back, Int64.toBitVec_shiftLeft, BitVec.shiftLeft_eq', sh_l k hk, BitVec.toNat_shiftLeft, Nat.shiftLeft_eq, (pw8 k hk).1, Int.toNat_natCast]
  have h1 : (zL v).toBitVec.toNat = v.toNat := lgN_nn hv
  rw [h1]
  exact Nat.mod_eq_of_lt (Nat.lt_of_le_of_lt (Nat.mul_le_mul_right _ (show v.toNat ≤ 255 by omega)) (pw8 k hk).2)
theorem lgN_shr (x : Int) {i : Int} (hi : 0 ≤ i ∧ i ≤ 7) : lgN (z_lushr x (8 * i)) = lgN x / 256 ^ i.toNat := by
  obtain ⟨k, rfl⟩ : ∃ k : Nat, i = (k : Int) := ⟨i.toNat, by omega⟩
  have hk : k < 8 := by omega
  unfold z_lushr
  unfold lgN
  rw [zL_back]
  show ((zL x).toUInt64 >>> ((zI (8 * (k : Int))).toInt64.toUInt64 &&& Int64.toUInt64 63)).toNat = _
  rw [UInt64.toNat_shiftRight, sh_r k hk, Nat.shiftRight_eq_div_pow, (pw8 k hk).1, Int.toNat_natCast]
  rfl
theorem l2i_and (y : Int) : z_iand (z_l2i y) 255 = ((lgN y % 256 : Nat) : Int) := by
  unfold z_iand z_l2i
  rw [show zI ((zL y).toInt32.toInt) = (zL y).toInt32 from Int32.ofInt_toInt _]
  have h1 : ((zL y).toInt32 &&& zI 255).toBitVec.toNat = lgN y % 256 := by
    rw [Int32.toBitVec_and, Int64.toBitVec_toInt32, BitVec.toNat_and, BitVec.signExtend_eq_setWidth_of_le _ (by decide), BitVec.toNat_setWidth]
    show (lgN y % 2 ^ 32) &&& (2 ^ 8 - 1) = _
    rw [Nat.and_two_pow_sub_one_eq_mod]
    omega
  show ((zL y).toInt32 &&& zI 255).toBitVec.toInt = _
  rw [BitVec.toInt_eq_toNat_of_lt (by rw [h1]; omega), h1]
theorem by_e (x : Int) {i : Int} (hi : 0 ≤ i ∧ i ≤ 7) : z_iand (z_l2i (z_lushr x (8 * i))) 255 = ((lgN x / 256 ^ i.toNat % 256 : Nat) : Int) := by
  rw [l2i_and, lgN_shr x hi]
-- so many numbers, a byte each
def pkN (R : Nat → Int) : Nat → Nat
  | 0 => 0
  | n + 1 => pkN R n + (R n).toNat * 256 ^ n
theorem pkN_lt {R : Nat → Int} (hR : ∀ j : Nat, 0 ≤ R j ∧ R j ≤ 255) : ∀ n : Nat, pkN R n < 256 ^ n := by
  intro n
  induction n with
  | zero => exact Nat.zero_lt_one
  | succ n ih =>
    have h1 := hR n
    have h2 : (R n).toNat * 256 ^ n ≤ 255 * 256 ^ n := Nat.mul_le_mul_right _ (by omega)
    show pkN R n + (R n).toNat * 256 ^ n < 256 ^ n * 256
    omega
theorem pkN_or {R : Nat → Int} (hR : ∀ j : Nat, 0 ≤ R j ∧ R j ≤ 255) (n : Nat) : pkN R n ||| (R n).toNat * 256 ^ n = pkN R (n + 1) := by
  have h1 := pkN_lt hR n
  rw [← pw8e n] at h1
  have h2 := Nat.shiftLeft_add_eq_or_of_lt h1 (R n).toNat
  rw [Nat.shiftLeft_eq, pw8e n] at h2
  rw [Nat.or_comm, ← h2]
  exact Nat.add_comm _ _
theorem pkN_c {R S : Nat → Int} : ∀ n : Nat, (∀ j : Nat, j < n → R j = S j) → pkN R n = pkN S n := by
  intro n
  induction n with
  | zero => intro _; rfl
  | succ n ih => intro h; show pkN R n + (R n).toNat * 256 ^ n = pkN S n + (S n).toNat * 256 ^ n; rw [ih (fun j hj => h j (by omega)), h n (Nat.lt_succ_self n)]
theorem pkN_byte {R : Nat → Int} (hR : ∀ j : Nat, 0 ≤ R j ∧ R j ≤ 255) : ∀ n j : Nat, j < n → pkN R n / 256 ^ j % 256 = (R j).toNat := by
  intro n
  induction n with
  | zero => intro j hj; exact absurd hj (Nat.not_lt_zero j)
  | succ n ih =>
    intro j hj
    have hp : 0 < 256 ^ j := Nat.pow_pos (by decide)
    show (pkN R n + (R n).toNat * 256 ^ n) / 256 ^ j % 256 = _
    by_cases h : j = n
    · subst h
      rw [Nat.add_mul_div_right _ _ hp, Nat.div_eq_of_lt (pkN_lt hR j), Nat.zero_add]
      have h1 := hR j
      exact Nat.mod_eq_of_lt (by omega)
    · have h2 : (R n).toNat * 256 ^ n = ((R n).toNat * 256 ^ (n - j - 1) * 256) * 256 ^ j := by
        rw [Nat.mul_assoc, Nat.mul_assoc, ← Nat.pow_succ', ← Nat.pow_add]
        congr 2
        omega
      rw [h2, Nat.add_mul_div_right _ _ hp, Nat.add_mul_mod_self_right]
      exact ih j (by omega)
theorem pkN_inj {R S : Nat → Int} (hR : ∀ j : Nat, 0 ≤ R j ∧ R j ≤ 255) (hS : ∀ j : Nat, 0 ≤ S j ∧ S j ≤ 255) {n : Nat} (h : pkN R n = pkN S n) : ∀ j : Nat, j < n → R j = S j := fun j hj => by
  have h1 := pkN_byte hR n j hj
  have h2 := pkN_byte hS n j hj
  have h3 := hR j
  have h4 := hS j
  rw [h] at h1
  omega
theorem pkN_z {R : Nat → Int} (hR : ∀ j : Nat, 0 ≤ R j ∧ R j ≤ 255) : ∀ n : Nat, pkN R n = 0 ↔ ∀ j : Nat, j < n → R j = 0 := by
  intro n
  constructor
  · intro h j hj
    have h1 := pkN_byte hR n j hj
    have h3 := hR j
    rw [h, Nat.zero_div] at h1
    omega
  · intro h
    have h1 := pkN_c (R := R) (S := fun _ => 0) n h
    rw [h1]
    clear h h1
    induction n with
    | zero => rfl
    | succ n ih => show pkN (fun _ => 0) n + (0 : Int).toNat * 256 ^ n = 0; rw [ih, show (0 : Int).toNat = 0 from rfl, Nat.zero_mul]
/-- one byte more -/
theorem pk_step {x v i : Int} {R : Nat → Int} (hR : ∀ j : Nat, 0 ≤ R j ∧ R j ≤ 255) (hi : 0 ≤ i ∧ i ≤ 7) (hx : lgN x = pkN R i.toNat) (hv : v = R i.toNat) : lgN (z_lor x (z_lshl v (8 * i))) = pkN R (i + 1).toNat := by
  have h1 := hR i.toNat
  rw [lgN_or, lgN_shl (by omega) hi, hx, hv, pkN_or hR, show (i + 1).toNat = i.toNat + 1 by omega]
theorem pk_byte {x i : Int} {R : Nat → Int} {n : Nat} (hR : ∀ j : Nat, 0 ≤ R j ∧ R j ≤ 255) (hi : 0 ≤ i ∧ i ≤ 7) (hx : lgN x = pkN R n) (hn : i.toNat < n) : z_iand (z_l2i (z_lushr x (8 * i))) 255 = R i.toNat := by
  have h1 := hR i.toNat
  rw [by_e x hi, hx, pkN_byte hR n _ hn]
  omega
theorem lg_cmp_e (x y : Int64) : ∃ z : Int, lg_cmp x y = zI z ∧ (-1 ≤ z ∧ z ≤ 1) ∧ (z = 0 ↔ x = y) := by
  unfold lg_cmp
  split
  · rename_i h
    refine ⟨1, rfl, by omega, ⟨fun e => absurd e (by decide), fun e => ?_⟩⟩
    subst e
    simp at h
  · split
    · rename_i h
      exact ⟨0, rfl, by omega, ⟨fun _ => by simpa using h, fun _ => rfl⟩⟩
    · rename_i h
      exact ⟨-1, rfl, by omega, ⟨fun e => absurd e (by decide), fun e => absurd (by subst e; simp) h⟩⟩
section GRE
variable {p : Program} {l : Launch} {e : Env} {R : Room} {s : State} {m : MethodId} {args : Array Value} {below : List Frame} {meth : Method} {c : Code} {cells slots : Nat} {Q : State → Prop} {cc : ByteArray} {pc nL : Nat} {D : va_G} {tys : List (ClassId × FieldType)} {ws : va_W} {A : Nat → Prop} {H0 : Heap} {lv : List (Nat × Value)} {st : List Value} {own : String}
theorem g_lcmpE (X : CX p m c cc nL s args own D tys A H0) {a b : Int} (hdg : decode cc pc = .ok (.lcmp, 1)) (kk : ∀ z : Int, -1 ≤ z ∧ z ≤ 1 → (z = 0 ↔ lgN a = lgN b) → GG p l e R s m args below meth c cells slots Q D A H0 nL ws (pc + 1) lv (vI z :: st)) : GG p l e R s m args below meth c cells slots Q D A H0 nL ws pc lv (vL b :: vL a :: st) := fun H locs ls hP hD hS hl => by
  obtain ⟨z, h1, h2, h3⟩ := lg_cmp_e (zL a) (zL b)
  refine W.lcmp X.1.1 X.1.2.1 hdg ?_
  rw [h1]
  exact kk z h2 (h3.trans ⟨fun e => congrArg (fun v : Int64 => v.toBitVec.toNat) e, lgN_inj⟩) H locs ls hP hD hS hl
end GRE
