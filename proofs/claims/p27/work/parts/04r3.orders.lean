-- sets as natural numbers below 4096
theorem z_andN {n m : Nat} (hn : n < 4096) (hm : m < 4096) : z_iand (n : Int) (m : Int) = ((n &&& m : Nat) : Int) := by
  unfold z_iand
  rw [zI_nI, zI_nI]
  have h1 : nI n &&& nI m = nI (n &&& m) := by
    apply Int32.toBitVec_inj.1
    show BitVec.ofNat 32 n &&& BitVec.ofNat 32 m = BitVec.ofNat 32 (n &&& m)
    apply BitVec.eq_of_getLsbD_eq
    intro i hi
    simp [hi]
  rw [h1, nI_toInt (Nat.lt_of_le_of_lt Nat.and_le_left (by omega))]
theorem z_andn {n m : Nat} (hn : n < 4096) (hm : m < 4096) : z_iand (n : Int) (z_ixor (m : Int) (-1)) = ((n &&& (4095 ^^^ m) : Nat) : Int) := by
  have h0 : zI (z_ixor (m : Int) (-1)) = nI m ^^^ zI (-1) := by
    unfold z_ixor
    rw [zI_nI]
    exact Int32.ofInt_toInt _
  unfold z_iand
  rw [h0, zI_nI]
  have h1 : nI n &&& (nI m ^^^ zI (-1)) = nI (n &&& (4095 ^^^ m)) := by
    apply Int32.toBitVec_inj.1
    show BitVec.ofNat 32 n &&& (BitVec.ofNat 32 m ^^^ BitVec.ofInt 32 (-1)) = BitVec.ofNat 32 (n &&& (4095 ^^^ m))
    apply BitVec.eq_of_getLsbD_eq
    intro i hi
    have h2 : (BitVec.ofInt 32 (-1)).getLsbD i = true := by
      have h3 : ∀ j : Nat, j < 32 → (BitVec.ofInt 32 (-1)).getLsbD j = true := by decide +kernel
      exact h3 i hi
    have h4 : (4095 : Nat).testBit i = decide (i < 12) := Nat.testBit_two_pow_sub_one 12 i
    rw [BitVec.getLsbD_and, BitVec.getLsbD_xor, h2, BitVec.getLsbD_ofNat, BitVec.getLsbD_ofNat, BitVec.getLsbD_ofNat, Nat.testBit_and, Nat.testBit_xor, h4, decide_eq_true hi, Bool.true_and, Bool.true_and, Bool.true_and]
    rcases (show i < 12 ∨ 12 ≤ i by omega) with h5 | h5
    · rw [decide_eq_true h5]
      cases n.testBit i <;> cases m.testBit i <;> rfl
    · have h6 : n.testBit i = false := Nat.testBit_lt_two_pow (Nat.lt_of_lt_of_le hn (Nat.pow_le_pow_right (n := 2) (by decide) h5))
      rw [h6, Bool.false_and, Bool.false_and]
  rw [h1, nI_toInt (Nat.lt_of_le_of_lt Nat.and_le_left (by omega))]
theorem hasU_bit {n k : Nat} (hn : n < 4096) (hk : k < 12) : z_iand (z_iushr (n : Int) (k : Int)) 1 ≠ 0 ↔ n.testBit k = true := by
  have h0 : n / 2 ^ k < 4096 := Nat.lt_of_le_of_lt (Nat.div_le_self _ _) hn
  have h1 : z_iushr (n : Int) (k : Int) = ((n / 2 ^ k : Nat) : Int) := by
    unfold z_iushr
    rw [zI_nI, zI_nI]
    have h2 : ((nI n).toUInt32 >>> ((nI k).toUInt32 &&& Int32.toUInt32 31)).toInt32 = nI (n / 2 ^ k) := by
      apply Int32.toBitVec_inj.1
      have h3 : ∀ j : Nat, j < 12 → ((nI j).toUInt32 &&& Int32.toUInt32 31).toNat % 32 = j := by decide +kernel
      have h4 := h3 k hk
      show ((nI n).toUInt32 >>> ((nI k).toUInt32 &&& Int32.toUInt32 31)).toBitVec = BitVec.ofNat 32 (n / 2 ^ k)
      apply BitVec.eq_of_toNat_eq
      rw [UInt32.toNat_toBitVec, UInt32.toNat_shiftRight, h4, Nat.shiftRight_eq_div_pow, BitVec.toNat_ofNat]
      have h5 : (nI n).toUInt32.toNat = n := by
        show (BitVec.ofNat 32 n).toNat = n
        rw [BitVec.toNat_ofNat]
        exact Nat.mod_eq_of_lt (by omega)
      rw [h5]
      exact (Nat.mod_eq_of_lt (by omega)).symm
    rw [h2, nI_toInt (by omega)]
  rw [h1, show (1 : Int) = ((1 : Nat) : Int) from rfl, z_andN h0 (by decide), Nat.testBit_eq_decide_div_mod_eq, decide_eq_true_iff, Nat.and_one_is_mod]
  omega
/-- without one -/
def sbN (n a : Nat) : Nat := n &&& (4095 ^^^ 2 ^ a)
theorem sbN_bit {n a b : Nat} (hn : n < 4096) (ha : a < 12) : (sbN n a).testBit b = (n.testBit b && decide (b ≠ a)) := by
  unfold sbN
  have h4 : (4095 : Nat).testBit b = decide (b < 12) := Nat.testBit_two_pow_sub_one 12 b
  rw [Nat.testBit_and, Nat.testBit_xor, h4, Nat.testBit_two_pow]
  rcases (show b < 12 ∨ 12 ≤ b by omega) with h5 | h5
  · rw [decide_eq_true h5]
    by_cases e : a = b
    · rw [decide_eq_true e, decide_eq_false (fun h => h e.symm)]; rfl
    · rw [decide_eq_false e, decide_eq_true (show b ≠ a from fun h => e h.symm)]; rfl
  · have h6 : n.testBit b = false := Nat.testBit_lt_two_pow (Nat.lt_of_lt_of_le hn (Nat.pow_le_pow_right (n := 2) (by decide) h5))
    rw [h6, Bool.false_and, Bool.false_and]
theorem sbN_le (n a : Nat) : sbN n a ≤ n := Nat.and_le_left
theorem sbN_lt {n a : Nat} (hn : n < 4096) (ha : a < 12) (h : n.testBit a = true) : sbN n a < n := by
  rcases (show sbN n a < n ∨ sbN n a = n by have := sbN_le n a; omega) with h1 | h1
  · exact h1
  · have h2 := sbN_bit (b := a) hn ha
    rw [h1, h, decide_eq_false (fun h => h rfl)] at h2
    exact absurd h2 (by decide)
theorem z_sb {s k : Int} (hs : 0 ≤ s ∧ s ≤ 4095) (hk : 0 ≤ k ∧ k ≤ 11) : z_iand s (z_ixor (z_ishl 1 k) (-1)) = ((sbN s.toNat k.toNat : Nat) : Int) := by
  have h1 := shl1_N k.toNat (by omega)
  rw [show ((k.toNat : Nat) : Int) = k by omega] at h1
  have hp : 2 ^ k.toNat < 4096 := Nat.lt_of_lt_of_le (Nat.pow_lt_pow_right (by decide) (show k.toNat < 12 by omega)) (by decide)
  have h2 := z_andn (n := s.toNat) (by omega) hp
  rw [show ((s.toNat : Nat) : Int) = s by omega] at h2
  rw [h1, h2]
  rfl
theorem tb_U {s k : Int} (hs : 0 ≤ s ∧ s ≤ 4095) (hk : 0 ≤ k ∧ k ≤ 11) : z_iand (z_iushr s k) 1 ≠ 0 ↔ s.toNat.testBit k.toNat = true := by
  have h1 := hasU_bit (n := s.toNat) (k := k.toNat) (by omega) (by omega)
  rw [show ((s.toNat : Nat) : Int) = s by omega, show ((k.toNat : Nat) : Int) = k by omega] at h1
  exact h1
theorem tb_Z {s k : Int} (hs : 0 ≤ s ∧ s ≤ 4095) (hk : 0 ≤ k ∧ k ≤ 30) : hasZ s k = 1 ↔ s.toNat.testBit k.toNat = true := by
  have h1 := hasZ_bit (n := s.toNat) (k := k.toNat) (by omega) (by omega)
  rw [show ((s.toNat : Nat) : Int) = s by omega, show ((k.toNat : Nat) : Int) = k by omega] at h1
  exact h1
/-- no bit in both -/
theorem and0 {n m : Nat} (hn : n < 4096) : n &&& m = 0 ↔ ∀ b : Nat, b < 12 → ¬ (n.testBit b = true ∧ m.testBit b = true) := by
  constructor
  · intro h b _ hb
    have h1 : (n &&& m).testBit b = true := by rw [Nat.testBit_and, hb.1, hb.2]; rfl
    rw [h, Nat.zero_testBit] at h1
    exact absurd h1 (by decide)
  · intro h
    apply Nat.eq_of_testBit_eq
    intro b
    rw [Nat.zero_testBit, Nat.testBit_and]
    rcases (show b < 12 ∨ 12 ≤ b by omega) with h5 | h5
    · cases h1 : n.testBit b <;> cases h2 : m.testBit b
      · rfl
      · rfl
      · rfl
      · exact absurd ⟨h1, h2⟩ (h b h5)
    · have h6 : n.testBit b = false := Nat.testBit_lt_two_pow (Nat.lt_of_lt_of_le hn (Nat.pow_le_pow_right (n := 2) (by decide) h5))
      rw [h6]; rfl
theorem andn0 {n m : Nat} (hn : n < 4096) : n &&& (4095 ^^^ m) = 0 ↔ ∀ b : Nat, b < 12 → n.testBit b = true → m.testBit b = true := by
  rw [and0 hn]
  have h4 : ∀ b : Nat, b < 12 → (4095 ^^^ m).testBit b = !m.testBit b := fun b hb => by
    rw [Nat.testBit_xor, show (4095 : Nat).testBit b = decide (b < 12) from Nat.testBit_two_pow_sub_one 12 b, decide_eq_true hb]
    cases m.testBit b <;> rfl
  constructor
  · intro h b hb h1
    have h2 := h b hb
    rw [h4 b hb] at h2
    cases h3 : m.testBit b
    · exact absurd ⟨h1, by rw [h3]; rfl⟩ h2
    · rfl
  · rintro h b hb ⟨h1, h2⟩
    rw [h4 b hb, h b hb h1] at h2
    exact absurd h2 (by decide)
-- orders: by the last one
/-- what is added up at a set: by the last one, if none surely more is in it -/
def ocV (up : Nat → Nat) (T : Nat → Int) (n k : Nat) : Int := fz (fun a m => if n.testBit a = true ∧ up a &&& n = 0 then wz (m + T (sbN n a)) else m) 0 k
def ocT (up : Nat → Nat) (some : Nat) : Nat → (Nat → Int)
  | 0 => fun _ => 0
  | n + 1 => updZ (ocT up some n) n (if n = 0 then 1 else if n &&& (4095 ^^^ some) = 0 then ocV up (ocT up some n) n 12 else 0)
def ocF (up : Nat → Nat) (some n : Nat) : Int := ocT up some (n + 1) n
/-- the reference's: each one whose surely less ones are there already -/
def orV (less : Nat → Nat) (some : Nat) (T : Nat → Int) (n k : Nat) : Int := fz (fun a m => if n.testBit a = true ∧ n &&& (4095 ^^^ some) = 0 ∧ less a &&& (4095 ^^^ sbN n a) = 0 then wz (m + T (sbN n a)) else m) (if n = 0 then 1 else 0) k
def orT (less : Nat → Nat) (some : Nat) : Nat → (Nat → Int)
  | 0 => fun _ => 0
  | n + 1 => updZ (orT less some n) n (orV less some (orT less some n) n 12)
def orF (less : Nat → Nat) (some n : Nat) : Int := orT less some (n + 1) n
theorem ocT_at (up : Nat → Nat) (some n : Nat) : ∀ d : Nat, ocT up some (n + 1 + d) n = ocF up some n := by
  intro d
  induction d with
  | zero => rfl
  | succ d ih =>
    show updZ (ocT up some (n + 1 + d)) (n + 1 + d) _ n = _
    rw [updZ_n _ _ (by omega)]; exact ih
theorem ocT_lt {up : Nat → Nat} {some n k : Nat} (h : n < k) : ocT up some k n = ocF up some n := by
  have h1 := ocT_at up some n (k - n - 1)
  rw [show n + 1 + (k - n - 1) = k by omega] at h1
  exact h1
theorem orT_at (less : Nat → Nat) (some n : Nat) : ∀ d : Nat, orT less some (n + 1 + d) n = orF less some n := by
  intro d
  induction d with
  | zero => rfl
  | succ d ih =>
    show updZ (orT less some (n + 1 + d)) (n + 1 + d) _ n = _
    rw [updZ_n _ _ (by omega)]; exact ih
theorem orT_lt {less : Nat → Nat} {some n k : Nat} (h : n < k) : orT less some k n = orF less some n := by
  have h1 := orT_at less some n (k - n - 1)
  rw [show n + 1 + (k - n - 1) = k by omega] at h1
  exact h1
theorem ocV_c {up : Nat → Nat} {T T' : Nat → Int} {n : Nat} (hn : n < 4096) (h : ∀ j : Nat, j < n → T j = T' j) (k : Nat) (hk : k ≤ 12) : ocV up T n k = ocV up T' n k := fz_c _ _ (fun a ha m => by
  by_cases e : n.testBit a = true ∧ up a &&& n = 0
  · rw [if_pos e, if_pos e, h _ (sbN_lt hn (by omega) e.1)]
  · rw [if_neg e, if_neg e])
theorem orV_c {less : Nat → Nat} {some : Nat} {T T' : Nat → Int} {n : Nat} (hn : n < 4096) (h : ∀ j : Nat, j < n → T j = T' j) (k : Nat) (hk : k ≤ 12) : orV less some T n k = orV less some T' n k := fz_c _ _ (fun a ha m => by
  by_cases e : n.testBit a = true ∧ n &&& (4095 ^^^ some) = 0 ∧ less a &&& (4095 ^^^ sbN n a) = 0
  · rw [if_pos e, if_pos e, h _ (sbN_lt hn (by omega) e.1)]
  · rw [if_neg e, if_neg e])
theorem ocF_e {up : Nat → Nat} {some n : Nat} (hn : n < 4096) : ocF up some n = if n = 0 then 1 else if n &&& (4095 ^^^ some) = 0 then ocV up (ocF up some) n 12 else 0 := by
  show updZ (ocT up some n) n _ n = _
  rw [updZ_s, ocV_c hn (fun j hj => ocT_lt hj) 12 (Nat.le_refl 12)]
theorem orF_e {less : Nat → Nat} {some n : Nat} (hn : n < 4096) : orF less some n = orV less some (orF less some) n 12 := by
  show updZ (orT less some n) n _ n = _
  rw [updZ_s, orV_c hn (fun j hj => orT_lt hj) 12 (Nat.le_refl 12)]
theorem wz_id {m : Int} (h : IR m) : wz (m + 0) = m := (wz_u h (by unfold CG; omega)).symm
theorem orV_ir (less : Nat → Nat) (some : Nat) (T : Nat → Int) (n k : Nat) : IR (orV less some T n k) := by
  induction k with
  | zero =>
    show IR (if n = 0 then 1 else 0)
    split <;> exact ⟨by decide, by decide⟩
  | succ k ih =>
    show IR (if n.testBit k = true ∧ n &&& (4095 ^^^ some) = 0 ∧ less k &&& (4095 ^^^ sbN n k) = 0 then wz (orV less some T n k + T (sbN n k)) else orV less some T n k)
    split
    · exact wz_ir _
    · exact ih
/-- all that are surely less than one in it are in it -/
def DC (less : Nat → Nat) (n : Nat) : Prop := ∀ a b : Nat, a < 12 → b < 12 → n.testBit a = true → (less a).testBit b = true → n.testBit b = true
theorem or_main {up less : Nat → Nat} {some : Nat} (hl : ∀ a : Nat, a < 12 → less a < 4096) (hu : ∀ a : Nat, a < 12 → up a < 4096) (hir : ∀ a : Nat, a < 12 → ¬ (up a).testBit a = true) (hul : ∀ a b : Nat, a < 12 → b < 12 → some.testBit a = true → ((up a).testBit b = true ↔ (less b).testBit a = true)) :
    ∀ n : Nat, n < 4096 → n &&& (4095 ^^^ some) = 0 → (DC less n → ocF up some n = orF less some n) ∧ (¬ DC less n → orF less some n = 0) := by
  intro n
  induction n using Nat.strongRecOn with
  | ind n ih =>
    intro hn hsub
    have hmem : ∀ b : Nat, b < 12 → n.testBit b = true → some.testBit b = true := (andn0 hn).mp hsub
    have hsb : ∀ a : Nat, a < 12 → n.testBit a = true → sbN n a < n ∧ sbN n a < 4096 ∧ sbN n a &&& (4095 ^^^ some) = 0 := fun a ha h => by
      have h1 := sbN_lt hn ha h
      refine ⟨h1, by omega, (andn0 (by omega)).mpr (fun b hb h2 => hmem b hb ?_)⟩
      rw [sbN_bit hn ha, Bool.and_eq_true] at h2
      exact h2.1
    -- whether the reference takes one
    have hcond : ∀ a : Nat, a < 12 → n.testBit a = true → (less a &&& (4095 ^^^ sbN n a) = 0 ↔ ∀ b : Nat, b < 12 → (less a).testBit b = true → n.testBit b = true) := fun a ha h => by
      rw [andn0 (hl a ha)]
      constructor
      · intro g b hb h1
        have h2 := g b hb h1
        rw [sbN_bit hn ha, Bool.and_eq_true] at h2
        exact h2.1
      · intro g b hb h1
        rw [sbN_bit hn ha, g b hb h1, Bool.true_and]
        refine decide_eq_true (fun e => ?_)
        subst e
        exact hir b hb ((hul b b hb hb (hmem b hb h)).mpr h1)
    rw [ocF_e hn, orF_e hn]
    constructor
    · intro hdc
      by_cases h0 : n = 0
      · subst h0
        rw [if_pos rfl]
        have h1 : ∀ k : Nat, k ≤ 12 → orV less some (orF less some) 0 k = 1 := by
          intro k
          induction k with
          | zero => intro _; rfl
          | succ k ik =>
            intro hk
            show (if (0 : Nat).testBit k = true ∧ _ ∧ _ then _ else orV less some (orF less some) 0 k) = 1
            rw [if_neg (fun h => by rw [Nat.zero_testBit] at h; exact absurd h.1 (by decide))]
            exact ik (by omega)
        exact (h1 12 (Nat.le_refl 12)).symm
      · rw [if_neg h0, if_pos hsub]
        have key : ∀ k : Nat, k ≤ 12 → ocV up (ocF up some) n k = orV less some (orF less some) n k := by
          intro k
          induction k with
          | zero =>
            intro _
            show (0 : Int) = if n = 0 then 1 else 0
            rw [if_neg h0]
          | succ k ik =>
            intro hk
            have i1 := ik (by omega)
            have hk12 : k < 12 := by omega
            have e1 : ocV up (ocF up some) n (k + 1) = if n.testBit k = true ∧ up k &&& n = 0 then wz (ocV up (ocF up some) n k + ocF up some (sbN n k)) else ocV up (ocF up some) n k := rfl
            have e2 : orV less some (orF less some) n (k + 1) = if n.testBit k = true ∧ n &&& (4095 ^^^ some) = 0 ∧ less k &&& (4095 ^^^ sbN n k) = 0 then wz (orV less some (orF less some) n k + orF less some (sbN n k)) else orV less some (orF less some) n k := rfl
            rw [e1, e2]
            cases hkb : n.testBit k
            · rw [if_neg (fun h => absurd h.1 (by decide)), if_neg (fun h => absurd h.1 (by decide))]
              exact i1
            · obtain ⟨s1, s2, s3⟩ := hsb k hk12 hkb
              obtain ⟨q1, q2⟩ := ih (sbN n k) s1 s2 s3
              have hr : less k &&& (4095 ^^^ sbN n k) = 0 := (hcond k hk12 hkb).mpr (fun b hb h1 => hdc k b hk12 hb hkb h1)
              rw [if_pos (show true = true ∧ n &&& (4095 ^^^ some) = 0 ∧ less k &&& (4095 ^^^ sbN n k) = 0 from ⟨rfl, hsub, hr⟩)]
              by_cases hup : up k &&& n = 0
              · rw [if_pos ⟨rfl, hup⟩, i1]
                have hd : DC less (sbN n k) := fun a b ha hb h1 h2 => by
                  rw [sbN_bit hn hk12, Bool.and_eq_true] at h1
                  have h3 := hdc a b ha hb h1.1 h2
                  rw [sbN_bit hn hk12, h3, Bool.true_and]
                  refine decide_eq_true (fun e => ?_)
                  subst e
                  exact (and0 (hu b hb)).mp hup a ha ⟨(hul b a hb ha (hmem b hb hkb)).mpr h2, h1.1⟩
                rw [q1 hd]
              · rw [if_neg (fun h => hup h.2), i1]
                have hnd : ¬ DC less (sbN n k) := fun hd => hup ((and0 (hu k hk12)).mpr (fun c hc h1 => by
                  have h2 := (hul k c hk12 hc (hmem k hk12 hkb)).mp h1.1
                  have hck : c ≠ k := fun e => by subst e; exact hir c hc h1.1
                  have h3 := hd c k hc hk12 (by rw [sbN_bit hn hk12, h1.2, decide_eq_true hck]; rfl) h2
                  rw [sbN_bit hn hk12, decide_eq_false (fun h => h rfl), Bool.and_false] at h3
                  exact absurd h3 (by decide)))
                rw [q2 hnd, wz_id (orV_ir _ _ _ _ _)]
        exact key 12 (Nat.le_refl 12)
    · intro hnd
      have h0 : n ≠ 0 := fun e => hnd (fun a b _ _ h _ => by subst e; rw [Nat.zero_testBit] at h; exact absurd h (by decide))
      obtain ⟨c, d, hc, hd, h1, h2, h3⟩ : ∃ c d : Nat, c < 12 ∧ d < 12 ∧ n.testBit c = true ∧ (less c).testBit d = true ∧ ¬ n.testBit d = true := by
        refine Classical.byContradiction (fun h => hnd (fun a b ha hb g1 g2 => ?_))
        refine Classical.byContradiction (fun g3 => h ⟨a, b, ha, hb, g1, g2, g3⟩)
      have key : ∀ k : Nat, k ≤ 12 → orV less some (orF less some) n k = 0 := by
        intro k
        induction k with
        | zero =>
          intro _
          show (if n = 0 then (1 : Int) else 0) = 0
          rw [if_neg h0]
        | succ k ik =>
          intro hk
          have i1 := ik (by omega)
          have hk12 : k < 12 := by omega
          have e2 : orV less some (orF less some) n (k + 1) = if n.testBit k = true ∧ n &&& (4095 ^^^ some) = 0 ∧ less k &&& (4095 ^^^ sbN n k) = 0 then wz (orV less some (orF less some) n k + orF less some (sbN n k)) else orV less some (orF less some) n k := rfl
          rw [e2, i1]
          by_cases hcnd : n.testBit k = true ∧ n &&& (4095 ^^^ some) = 0 ∧ less k &&& (4095 ^^^ sbN n k) = 0
          · rw [if_pos hcnd]
            obtain ⟨s1, s2, s3⟩ := hsb k hk12 hcnd.1
            have hkc : k ≠ c := fun e => by
              subst e
              exact h3 ((hcond k hk12 hcnd.1).mp hcnd.2.2 d hd h2)
            have hnd2 : ¬ DC less (sbN n k) := fun hdc => by
              have h4 := hdc c d hc hd (by rw [sbN_bit hn hk12, h1, decide_eq_true (show c ≠ k from fun e => hkc e.symm)]; rfl) h2
              rw [sbN_bit hn hk12, Bool.and_eq_true] at h4
              exact h3 h4.1
            rw [(ih (sbN n k) s1 s2 s3).2 hnd2, wz_id ⟨by decide, by decide⟩]
          · rw [if_neg hcnd]
      exact key 12 (Nat.le_refl 12)
theorem z_or_add {m : Nat} {i : Int} (hi : 0 ≤ i ∧ i ≤ 15) (hm : m < 2 ^ i.toNat) : z_ior (m : Int) (z_ishl 1 i) = (m : Int) + ((2 ^ i.toNat : Nat) : Int) := by
  have h1 := (z_shl1_n i.toNat (by omega)).2
  rw [show ((i.toNat : Nat) : Int) = i by omega] at h1
  have h2 : z_ishl 1 i = ((2 ^ i.toNat : Nat) : Int) := by rw [h1]; norm_cast
  have h3 : 2 ^ i.toNat ≤ 2 ^ 15 := Nat.pow_le_pow_right (by decide) (by omega)
  have h4 : m ||| 2 ^ i.toNat = m + 2 ^ i.toNat := by
    have h5 := Nat.two_pow_add_eq_or_of_lt hm 1
    rw [Nat.mul_one] at h5
    rw [Nat.or_comm, ← h5, Nat.add_comm]
  rw [h2]
  unfold z_ior
  rw [zI_nI, zI_nI, z_or_nI, h4, nI_toInt (by omega)]
  norm_cast
theorem ocV_s (up : Nat → Nat) (T : Nat → Int) (n : Nat) {x : Int} (h : 0 ≤ x) : ((n.testBit x.toNat = true ∧ up x.toNat &&& n = 0) ∧ ocV up T n (x + 1).toNat = wz (ocV up T n x.toNat + T (sbN n x.toNat))) ∨ (¬ (n.testBit x.toNat = true ∧ up x.toNat &&& n = 0) ∧ ocV up T n (x + 1).toNat = ocV up T n x.toNat) := by
  have e : ocV up T n (x + 1).toNat = if n.testBit x.toNat = true ∧ up x.toNat &&& n = 0 then wz (ocV up T n x.toNat + T (sbN n x.toNat)) else ocV up T n x.toNat := fz_s _ _ h
  rw [e]
  by_cases hc : n.testBit x.toNat = true ∧ up x.toNat &&& n = 0
  · exact Or.inl ⟨hc, if_pos hc⟩
  · exact Or.inr ⟨hc, if_neg hc⟩
theorem orV_s (less : Nat → Nat) (some : Nat) (T : Nat → Int) (n : Nat) {x : Int} (h : 0 ≤ x) : ((n.testBit x.toNat = true ∧ n &&& (4095 ^^^ some) = 0 ∧ less x.toNat &&& (4095 ^^^ sbN n x.toNat) = 0) ∧ orV less some T n (x + 1).toNat = wz (orV less some T n x.toNat + T (sbN n x.toNat))) ∨ (¬ (n.testBit x.toNat = true ∧ n &&& (4095 ^^^ some) = 0 ∧ less x.toNat &&& (4095 ^^^ sbN n x.toNat) = 0) ∧ orV less some T n (x + 1).toNat = orV less some T n x.toNat) := by
  have e : orV less some T n (x + 1).toNat = if n.testBit x.toNat = true ∧ n &&& (4095 ^^^ some) = 0 ∧ less x.toNat &&& (4095 ^^^ sbN n x.toNat) = 0 then wz (orV less some T n x.toNat + T (sbN n x.toNat)) else orV less some T n x.toNat := fz_s _ _ h
  rw [e]
  by_cases hc : n.testBit x.toNat = true ∧ n &&& (4095 ^^^ some) = 0 ∧ less x.toNat &&& (4095 ^^^ sbN n x.toNat) = 0
  · exact Or.inl ⟨hc, if_pos hc⟩
  · exact Or.inr ⟨hc, if_neg hc⟩
theorem ocV_up {up up' : Nat → Nat} {T : Nat → Int} {n : Nat} (h : ∀ a : Nat, a < 12 → up a = up' a) : ocV up T n 12 = ocV up' T n 12 := fz_c _ _ (fun a ha m => by rw [h a ha])
theorem ocF_up {up up' : Nat → Nat} {some : Nat} (h : ∀ a : Nat, a < 12 → up a = up' a) (n : Nat) (hn : n < 4096) : ocF up some n = ocF up' some n := by
  induction n using Nat.strongRecOn with
  | ind n ih =>
    rw [ocF_e hn, ocF_e hn, ocV_up h, ocV_c hn (fun j hj => ih j hj (by omega)) 12 (Nat.le_refl 12)]
theorem ltB_h {f : Nat → Int} {a : Nat} (ha : a < 12) : ∀ n : Nat, n ≤ 12 → (0 ≤ ltB f a n ∧ ltB f a n ≤ 4095) ∧ ∀ v : Int, 0 ≤ v ∧ v ≤ 11 → (hasZ (ltB f a n) v = 1 ↔ v < (n : Int) ∧ f (12 * v.toNat + a) < 0) := by
  intro n
  induction n with
  | zero =>
    intro _
    refine ⟨⟨Int.le_refl 0, show (0 : Int) ≤ 4095 by decide⟩, fun v hv => ⟨fun h => ?_, fun h => by omega⟩⟩
    have h1 : hasZ 0 v = 1 := h
    have h2 : ∀ m : Nat, m < 12 → hasZ 0 (m : Int) = 0 := by decide +kernel
    have h3 := h2 v.toNat (by omega)
    rw [show ((v.toNat : Nat) : Int) = v by omega] at h3
    omega
  | succ n ih =>
    intro hn
    obtain ⟨i1, i2⟩ := ih (by omega)
    have hS := ltB_s f a (x := (n : Int)) (by omega)
    rw [show ((n : Int) + 1).toNat = n + 1 by omega, show (n : Int).toNat = n by omega] at hS
    rcases hS with ⟨h1, h2⟩ | ⟨h1, h2⟩
    · rw [h2]
      refine ⟨z_ior_4095 _ _ i1 ⟨(z_shl1_11 _ (by omega)).1, (z_shl1_11 _ (by omega)).2.1⟩, fun v hv => ?_⟩
      rw [hasZ_up i1 (by omega) hv, i2 v hv]
      constructor
      · rintro (⟨q1, q2⟩ | q)
        · exact ⟨by omega, q2⟩
        · exact ⟨by omega, by rw [q, show (n : Int).toNat = n by omega]; exact h1⟩
      · rintro ⟨q1, q2⟩
        rcases (show v < (n : Int) ∨ v = (n : Int) by omega) with q3 | q3
        · exact Or.inl ⟨q3, q2⟩
        · exact Or.inr q3
    · rw [h2]
      refine ⟨i1, fun v hv => ?_⟩
      rw [i2 v hv]
      constructor
      · rintro ⟨q1, q2⟩
        exact ⟨by omega, q2⟩
      · rintro ⟨q1, q2⟩
        refine ⟨?_, q2⟩
        rcases (show v < (n : Int) ∨ v = (n : Int) by omega) with q3 | q3
        · exact q3
        · rw [q3, show (n : Int).toNat = n by omega] at q2
          exact absurd q2 h1
/-- the rows of those surely more, surely less -/
def upB (M : Nat → Int) (a : Nat) : Nat := (mtB M a 12).toNat
def lsB (M : Nat → Int) (some a : Nat) : Nat := (ltB M a 12).toNat &&& some
theorem upB_bit {M : Nat → Int} {a b : Nat} (ha : a < 12) (hb : b < 12) : (upB M a).testBit b = true ↔ M (12 * a + b) < 0 := by
  obtain ⟨h1, h2⟩ := mtB_h (f := M) ha 12 (Nat.le_refl 12)
  have h3 := h2 (b : Int) (by omega)
  have h4 := tb_Z h1 (show 0 ≤ (b : Int) ∧ (b : Int) ≤ 30 by omega)
  rw [show (b : Int).toNat = b by omega] at h3 h4
  unfold upB
  rw [← h4, h3]
  constructor
  · exact fun h => h.2
  · exact fun h => ⟨by omega, h⟩
theorem lsB_bit {M : Nat → Int} {some a b : Nat} (ha : a < 12) (hb : b < 12) : (lsB M some a).testBit b = true ↔ M (12 * b + a) < 0 ∧ some.testBit b = true := by
  obtain ⟨h1, h2⟩ := ltB_h (f := M) ha 12 (Nat.le_refl 12)
  have h3 := h2 (b : Int) (by omega)
  have h4 := tb_Z h1 (show 0 ≤ (b : Int) ∧ (b : Int) ≤ 30 by omega)
  rw [show (b : Int).toNat = b by omega] at h3 h4
  unfold lsB
  rw [Nat.testBit_and, Bool.and_eq_true, ← h4, h3]
  constructor
  · exact fun h => ⟨h.1.2, h.2⟩
  · exact fun h => ⟨⟨by omega, h.1⟩, h.2⟩
theorem or_same {M : Nat → Int} (hM : RO M) {some : Nat} (hs : some < 4096) : ocF (upB M) some some = orF (lsB M some) some some := by
  have h := or_main (up := upB M) (less := lsB M some) (some := some) (fun a ha => by
      have h1 := (ltB_h (f := M) ha 12 (Nat.le_refl 12)).1
      exact Nat.lt_of_le_of_lt Nat.and_le_left (by omega)) (fun a ha => by
      have h1 := (mtB_h (f := M) ha 12 (Nat.le_refl 12)).1
      unfold upB; omega) (fun a ha h => hM.1 a ha ((upB_bit ha ha).mp h)) (fun a b ha hb hsa => by
      rw [upB_bit ha hb, lsB_bit hb ha]
      exact ⟨fun h => ⟨h, hsa⟩, fun h => h.1⟩) some hs ((andn0 hs).mpr (fun b _ h => h))
  refine h.1 (fun a b ha hb h1 h2 => ?_)
  exact ((lsB_bit ha hb).mp h2).2
