/-- the sign at the tape's place, -1 behind the end or a fault -/
def signZ (f a e : Int) (b : Nat → Int) : Int := if f ≠ 0 ∨ e ≤ a then -1 else b a.toNat
/-- a letter's number is a place of the facts -/
def LInv (s b : Nat → Int) : Prop := ∀ j, s j = 97 → 0 ≤ b j ∧ b j ≤ 8
theorem LInv.up {s b : Nat → Int} (h : LInv s b) (k : Nat) (w n : Int) (h1 : w = 97 → 0 ≤ n ∧ n ≤ 8) : LInv (updZ s k w) (updZ b k n) := by
  intro j hj
  unfold updZ at *
  split at hj
  · rename_i hq
    rw [if_pos hq]
    exact h1 hj
  · rename_i hq
    rw [if_neg hq]
    exact h j hj
theorem LInv.jump {s b : Nat → Int} (h : LInv s b) (k : Nat) (n : Int) (hk : s k ≠ 97) : LInv s (updZ b k n) := by
  intro j hj
  unfold updZ
  split
  · rename_i hq
    rw [hq] at hj
    exact absurd hj hk
  · exact h j hj
theorem lowI_exN : ∀ a : Nat, a < 64 → ∀ b : Nat, b < 64 → 64 * a + b ≠ 0 → ∃ k : Nat, k < 12 ∧ z_iand (z_iushr ((64 * a + b : Nat) : Int) k) 1 ≠ 0 := by decide +kernel
theorem lowI_ex (s : Int) (h : 1 ≤ s ∧ s ≤ 4095) : ∃ k : Int, 0 ≤ k ∧ k ≤ 11 ∧ z_iand (z_iushr s k) 1 ≠ 0 := by
  obtain ⟨k, h1, h2⟩ := lowI_exN (s.toNat / 64) (by omega) (s.toNat % 64) (by omega) (by omega)
  rw [show ((64 * (s.toNat / 64) + s.toNat % 64 : Nat) : Int) = s by omega] at h2
  exact ⟨k, by omega, by omega, h2⟩
theorem z_iand01 : z_iand 0 1 = 0 := by decide +kernel
section GB
variable {p : Program} {l : Launch} {e : Env} {R : Room} {s : State} {m : MethodId} {args : Array Value} {below : List Frame} {meth : Method} {c : Code} {cells slots : Nat} {Q : State → Prop} {cc : ByteArray} {pc nL : Nat} {D : va_G} {tys : List (ClassId × FieldType)} {ws : va_W} {A : Nat → Prop} {H0 : Heap} {lv : List (Nat × Value)} {st : List Value} {own : String}
theorem g_nmL {a : Int} (kk : ∀ z : Int, z = a → GG p l e R s m args below meth c cells slots Q D A H0 nL ws pc lv (vL z :: st)) : GG p l e R s m args below meth c cells slots Q D A H0 nL ws pc lv (vL a :: st) := kk a rfl
end GB
section GMM
variable {p : Program} {l : Launch} {e : Env} {R : Room} {s : State} {m : MethodId} {args : Array Value} {below : List Frame} {meth : Method} {c : Code} {cells slots : Nat} {Q : State → Prop} {cc : ByteArray} {pc nL : Nat} {D : va_G} {tys : List (ClassId × FieldType)} {ws : va_W} {A : Nat → Prop} {H0 : Heap} {lv : List (Nat × Value)} {st : List Value} {own : String}
theorem g_mmax (X : CX p m c cc nL s args own D tys A H0) {a b : Int} {index : Nat} (hlk : Cond.methodLink own index Lib.Math.max.name ∈ lw_U) (hst : Cond.static Lib.Math.max.name ∈ lw_U) (hini : Cond.initialized "java/lang/Math" ∈ lw_U) (hcode : Cond.code Lib.Math.max.name Lib.Math.max.code 2 (some .int) ∈ lw_U) (hR : 1 ≤ R.frames ∧ (st.map fun v => v.category).sum + 13 ≤ R.locals) (hcs : cells ≤ R.cells ∧ slots ≤ R.slots) (ha : IR a) (hb : IR b) (hdg : decode cc pc = .ok (.invokestatic index, 3)) (kk : ∀ z : Int, (z = a ∧ b ≤ a) ∨ (z = b ∧ a ≤ b) → GG p l e R s m args below meth c cells slots Q D A H0 nL ws (pc + 3) lv (vI z :: st)) : GG p l e R s m args below meth c cells slots Q D A H0 nL ws pc lv (vI b :: vI a :: st) := fun H locs ls hP hD hS hl =>
  va_mmax X.1.1 X.1.2.1 (X.1.2.2.1.trans hl.1.symm) X.1.2.2.2.1 (X.1.2.2.2.2 _ hlk) (X.1.2.2.2.2 _ hst) (X.1.2.2.2.2 _ hini) (X.1.2.2.2.2 _ hcode) hR.1 hR.2 hcs.1 hcs.2 hdg (by
    by_cases h : zI a < zI b
    · rw [if_pos h]
      have h2 := (zI_lt ha hb).mp h
      exact kk b (Or.inr ⟨rfl, by omega⟩) H locs ls hP hD hS hl
    · rw [if_neg h]
      have h2 : ¬ a < b := fun q => h ((zI_lt ha hb).mpr q)
      exact kk a (Or.inl ⟨rfl, by omega⟩) H locs ls hP hD hS hl)
theorem g_mmin (X : CX p m c cc nL s args own D tys A H0) {a b : Int} {index : Nat} (hlk : Cond.methodLink own index Lib.Math.min.name ∈ lw_U) (hst : Cond.static Lib.Math.min.name ∈ lw_U) (hini : Cond.initialized "java/lang/Math" ∈ lw_U) (hcode : Cond.code Lib.Math.min.name Lib.Math.min.code 2 (some .int) ∈ lw_U) (hR : 1 ≤ R.frames ∧ (st.map fun v => v.category).sum + 13 ≤ R.locals) (hcs : cells ≤ R.cells ∧ slots ≤ R.slots) (ha : IR a) (hb : IR b) (hdg : decode cc pc = .ok (.invokestatic index, 3)) (kk : ∀ z : Int, (z = a ∧ a ≤ b) ∨ (z = b ∧ b ≤ a) → GG p l e R s m args below meth c cells slots Q D A H0 nL ws (pc + 3) lv (vI z :: st)) : GG p l e R s m args below meth c cells slots Q D A H0 nL ws pc lv (vI b :: vI a :: st) := fun H locs ls hP hD hS hl =>
  va_mmin X.1.1 X.1.2.1 (X.1.2.2.1.trans hl.1.symm) X.1.2.2.2.1 (X.1.2.2.2.2 _ hlk) (X.1.2.2.2.2 _ hst) (X.1.2.2.2.2 _ hini) (X.1.2.2.2.2 _ hcode) hR.1 hR.2 hcs.1 hcs.2 hdg (by
    by_cases h : zI b < zI a
    · rw [if_pos h]
      have h2 := (zI_lt hb ha).mp h
      exact kk b (Or.inr ⟨rfl, by omega⟩) H locs ls hP hD hS hl
    · rw [if_neg h]
      have h2 : ¬ b < a := fun q => h ((zI_lt hb ha).mpr q)
      exact kk a (Or.inl ⟨rfl, by omega⟩) H locs ls hP hD hS hl)
theorem g_mabs (X : CX p m c cc nL s args own D tys A H0) {a : Int} {index : Nat} (hlk : Cond.methodLink own index Lib.Math.abs.name ∈ lw_U) (hst : Cond.static Lib.Math.abs.name ∈ lw_U) (hini : Cond.initialized "java/lang/Math" ∈ lw_U) (hcode : Cond.code Lib.Math.abs.name Lib.Math.abs.code 1 (some .int) ∈ lw_U) (hR : 1 ≤ R.frames ∧ (st.map fun v => v.category).sum + 13 ≤ R.locals) (hcs : cells ≤ R.cells ∧ slots ≤ R.slots) (ha : IR a) (hdg : decode cc pc = .ok (.invokestatic index, 3)) (kk : ∀ z : Int, IR z → (z = a ∧ 0 ≤ a) ∨ a < 0 → (-2147483648 < a → (z = a ∧ 0 ≤ a) ∨ (z = -a ∧ a < 0)) → GG p l e R s m args below meth c cells slots Q D A H0 nL ws (pc + 3) lv (vI z :: st)) : GG p l e R s m args below meth c cells slots Q D A H0 nL ws pc lv (vI a :: st) := fun H locs ls hP hD hS hl =>
  va_mabs X.1.1 X.1.2.1 (X.1.2.2.1.trans hl.1.symm) X.1.2.2.2.1 (X.1.2.2.2.2 _ hlk) (X.1.2.2.2.2 _ hst) (X.1.2.2.2.2 _ hini) (X.1.2.2.2.2 _ hcode) hR.1 hR.2 hcs.1 hcs.2 hdg (by
    by_cases h : 0 ≤ zI a
    · rw [if_pos h]
      have h2 := (zI_le zI_ir0 ha).mp h
      exact kk a ha (Or.inl ⟨rfl, h2⟩) (fun _ => Or.inl ⟨rfl, h2⟩) H locs ls hP hD hS hl
    · rw [if_neg h]
      have h2 : ¬ 0 ≤ a := fun q => h ((zI_le zI_ir0 ha).mpr q)
      have e1 : (0 : Int32) - zI a = zI (-a) := by rw [zI_zero, zI_sub, Int.zero_sub]
      rw [e1]
      by_cases h3 : -2147483648 < a
      · exact kk (-a) (by omega) (Or.inr (by omega)) (fun _ => Or.inr ⟨rfl, by omega⟩) H locs ls hP hD hS hl
      · obtain ⟨z, h4, h5⟩ := zI_nm (-a)
        rw [h4]
        exact kk z h5 (Or.inr (by omega)) (fun q => absurd q h3) H locs ls hP hD hS hl)
end GMM
/-- what x2 may be behind x3 digits of p0 -/
def NBd (p0 x3 x2 : Int) : Prop := 0 ≤ x2 ∧ ((x3 = 0 ∧ x2 = 0) ∨ (x3 = 1 ∧ x2 ≤ 9) ∨ (x3 = 2 ∧ x2 ≤ 99) ∨ (x3 = 3 ∧ x2 ≤ 999) ∨ (x3 = 4 ∧ x2 ≤ 9999) ∨ (x3 = 5 ∧ p0 = 4 ∧ x2 ≤ 9999) ∨ (x3 = 5 ∧ p0 = 5 ∧ x2 ≤ 99999) ∨ (x3 = 6 ∧ p0 = 5 ∧ x2 ≤ 99999))
theorem NBd.ini (p0 : Int) {x3 : Int} (h : x3 = 0) : NBd p0 x3 0 := ⟨by omega, Or.inl ⟨h, rfl⟩⟩
theorem NBd.step {p0 x3 x2 z : Int} (h : NBd p0 x3 x2) (h1 : x3 < p0 ∧ (p0 = 4 ∨ p0 = 5)) (hz : 48 ≤ z ∧ z ≤ 57) : NBd p0 (x3 + 1) (((x2 * 10) + z) - 48) := by
  unfold NBd at *
  omega
theorem NBd.last {p0 x3 x2 : Int} (h : NBd p0 x3 x2) (h1 : x3 = p0 ∧ (p0 = 4 ∨ p0 = 5)) : NBd p0 (x3 + 1) x2 := by
  unfold NBd at *
  omega
theorem NBd.r {p0 x3 x2 : Int} (h : NBd p0 x3 x2) : 0 ≤ x2 ∧ x2 ≤ 99999 ∧ 0 ≤ x3 ∧ x3 ≤ 6 ∧ (p0 = 4 → x2 ≤ 9999) := by
  unfold NBd at h
  omega
theorem zI_bfit {z : Int} (h : z = 0 ∨ z = 1) : fits .boolean (.int (zI z)) = true := by
  rcases h with rfl | rfl <;> rfl
