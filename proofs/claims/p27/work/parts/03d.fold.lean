/-- a loop's state behind n rounds -/
def fz {α : Type} (g : Nat → α → α) (a : α) : Nat → α
  | 0 => a
  | n + 1 => g n (fz g a n)
theorem tn_s {x : Int} (h : 0 ≤ x) : (x + 1).toNat = x.toNat + 1 := by omega
theorem fz_s {α : Type} (g : Nat → α → α) (a : α) {x : Int} (h : 0 ≤ x) : fz g a (x + 1).toNat = g x.toNat (fz g a x.toNat) := by
  rw [tn_s h]; rfl
theorem fz_c {α : Type} {g g' : Nat → α → α} (a : α) (n : Nat) (h : ∀ k, k < n → ∀ x, g k x = g' k x) : fz g a n = fz g' a n := by
  induction n with
  | zero => rfl
  | succ n ih =>
    show g n (fz g a n) = g' n (fz g' a n)
    rw [ih (fun k hk => h k (Nat.lt_succ_of_lt hk)), h n (Nat.lt_succ_self n)]
-- the tape's bytes
def oct (tp : Nat → Int) : Nat → Int := fun j => z_iand (tp j) 255
theorem oct_r (tp : Nat → Int) (j : Nat) : 0 ≤ oct tp j ∧ oct tp j ≤ 255 := z_iand_r _ _ (by decide) (by decide)
theorem oct_up (f : Nat → Int) (k : Nat) (z : Int) : oct (updZ f k z) = updZ (oct f) k (z_iand z 255) := by
  funext j
  show z_iand (updZ f k z j) 255 = updZ (oct f) k (z_iand z 255) j
  by_cases h : j = k
  · rw [h, updZ_s, updZ_s]
  · rw [updZ_n _ _ h, updZ_n _ _ h]; rfl
def bt (v : Int) (k : Nat) : Int := z_iand (z_iushr v (24 - 8 * (k : Int))) 255
theorem bt_r {v s : Int} {k : Nat} (hk : k ≤ 3) (hs : s = 24 - 8 * (k : Int)) : z_iand (z_i2b (z_ishr v s)) 255 = bt v k := by
  unfold bt
  rw [← hs]
  have h1 : zI (z_i2b (z_ishr v s)) = (zI v >>> (zI s &&& 31)).toInt8.toInt32 := by
    rw [z_ishr_e]; exact Int32.ofInt_toInt _
  have h2 : zI (z_iushr v s) = ((zI v).toUInt32 >>> ((zI s).toUInt32 &&& Int32.toUInt32 31)).toInt32 := Int32.ofInt_toInt _
  unfold z_iand
  rw [h1, h2]
  generalize zI v = x
  refine congrArg Int32.toInt (Int32.toBitVec_inj.1 ?_)
  rcases (show s = 24 ∨ s = 16 ∨ s = 8 ∨ s = 0 by omega) with rfl | rfl | rfl | rfl
  all_goals
    apply BitVec.eq_of_getLsbD_eq
    intro i hi
    rcases (show i < 8 ∨ 8 ≤ i by omega) with h | h
    · rcases (show i = 0 ∨ i = 1 ∨ i = 2 ∨ i = 3 ∨ i = 4 ∨ i = 5 ∨ i = 6 ∨ i = 7 by omega) with rfl | rfl | rfl | rfl | rfl | rfl | rfl | rfl <;> simp [show (zI 24).toBitVec = 24#32 from rfl, show (zI 16).toBitVec = 16#32 from rfl, show (zI 8).toBitVec = 8#32 from rfl, show (zI 0).toBitVec = 0#32 from rfl, show (zI 255).toBitVec = 255#32 from rfl, BitVec.getElem_signExtend, BitVec.getLsbD_signExtend, BitVec.getElem_sshiftRight, BitVec.getLsbD_sshiftRight]
    · have h3 : (zI 255).toBitVec.getLsbD i = false := by
        have h4 : ∀ j : Nat, j < 32 → 8 ≤ j → (zI 255).toBitVec.getLsbD j = false := by decide +kernel
        exact h4 i hi h
      rw [Int32.toBitVec_and, Int32.toBitVec_and, BitVec.getLsbD_and, BitVec.getLsbD_and, h3, Bool.and_false, Bool.and_false]
def wr (f : Nat → Int) (n : Nat) (v : Int) : Nat → Nat → Int
  | 0 => f
  | k + 1 => updZ (wr f n v k) (n + k) (bt v k)
theorem wr_st {f : Nat → Int} {n : Nat} {v : Int} {k k1 : Int} {i : Nat} {t : Int} (hk : 0 ≤ k) (h1 : k1 = k + 1) (hi : i = n + k.toNat) (ht : t = bt v k.toNat) : updZ (wr f n v k.toNat) i t = wr f n v k1.toNat := by
  rw [h1, tn_s hk, hi, ht]; rfl
def wr5 (f : Nat → Int) (n : Nat) (a b c d e : Int) : Nat → Int := wr (wr (wr (wr (wr f n a 4) (n + 4) b 4) (n + 8) c 4) (n + 12) d 4) (n + 16) e 4
/-- the tape's bytes behind a feed -/
def fdB (f : Nat → Int) (n : Int) (a b c d e : Int) : Nat → Int := if n + 20 ≤ 260 then wr5 f n.toNat a b c d e else f
theorem fdB_n {f : Nat → Int} {n a b c d e : Int} (h : 260 < n + 20) : f = fdB f n a b c d e := (if_neg (by omega)).symm
theorem fdB_y {f g1 g2 g3 g4 g5 : Nat → Int} {n n1 n2 n3 n4 a b c d e : Int} (h : n + 20 ≤ 260) (h0 : 0 ≤ n) (e1 : n1 = n + 4) (e2 : n2 = n1 + 4) (e3 : n3 = n2 + 4) (e4 : n4 = n3 + 4) (h1 : g1 = wr f n.toNat a 4) (h2 : g2 = wr g1 n1.toNat b 4) (h3 : g3 = wr g2 n2.toNat c 4) (h4 : g4 = wr g3 n3.toNat d 4) (h5 : g5 = wr g4 n4.toNat e 4) : g5 = fdB f n a b c d e := by
  unfold fdB wr5
  rw [if_pos h, h5, h4, h3, h2, h1, show n1.toNat = n.toNat + 4 by omega, show n2.toNat = n.toNat + 8 by omega, show n3.toNat = n.toNat + 12 by omega, show n4.toNat = n.toNat + 16 by omega]
-- twos
def twI (f : Nat → Int) (a : Int) (i : Nat) (m : Int) (n : Nat) : Int := fz (fun j m => if f i - f j = a ∨ f j - f i = a then m + 1 else m) m n
def twO (f : Nat → Int) (a : Int) (n : Nat) : Int := fz (fun i m => twI f a i m i) 0 n
theorem twI_s (f : Nat → Int) (a : Int) (i : Nat) (m : Int) {x : Int} (h : 0 ≤ x) : ((f i - f x.toNat = a ∨ f x.toNat - f i = a) ∧ twI f a i m (x + 1).toNat = twI f a i m x.toNat + 1) ∨ ((f i - f x.toNat ≠ a ∧ f x.toNat - f i ≠ a) ∧ twI f a i m (x + 1).toNat = twI f a i m x.toNat) := by
  unfold twI
  rw [fz_s _ _ h]
  by_cases hc : f i - f x.toNat = a ∨ f x.toNat - f i = a
  · exact Or.inl ⟨hc, if_pos hc⟩
  · exact Or.inr ⟨⟨fun h => hc (Or.inl h), fun h => hc (Or.inr h)⟩, if_neg hc⟩
theorem twO_s (f : Nat → Int) (a : Int) {x : Int} (h : 0 ≤ x) : twO f a (x + 1).toNat = twI f a x.toNat (twO f a x.toNat) x.toNat := fz_s _ _ h
theorem twO_c {f g : Nat → Int} (a : Int) (n : Nat) (h : ∀ j : Nat, j < n → f j = g j) : twO f a n = twO g a n := fz_c _ _ (fun k hk x => by
  unfold twI
  exact fz_c _ _ (fun j hj y => by rw [h k hk, h j (by omega)]))
theorem toN_c {n : Int} {f g : Nat → Int} (h : ∀ j : Nat, (j : Int) < n → f j = g j) : ∀ j : Nat, j < n.toNat → f j = g j := fun j hj => h j (by omega)
-- a walk
def sgn8 (x : Int) : Int := if 127 < x then x - 256 else x
theorem sgn8_p {x : Int} (h : 127 < x) : x - 256 = sgn8 x := (if_pos h).symm
theorem sgn8_n {x : Int} (h : ¬ 127 < x) : x = sgn8 x := (if_neg h).symm
theorem sgn8_r {x : Int} (h : 0 ≤ x ∧ x ≤ 255) : -128 ≤ sgn8 x ∧ sgn8 x ≤ 127 := by
  unfold sgn8; split <;> omega
def wkS (f : Nat → Int) : Nat → Int := fun j => sgn8 (f j)
def wkA (s : Nat → Int) (n : Nat) : Int := fz (fun j a => a + s j) 0 n
def wkM (s : Nat → Int) (n : Nat) : Int := fz (fun j m => if wkA s (j + 1) ≤ m then m else wkA s (j + 1)) 0 n
def wkL (s : Nat → Int) (n : Nat) : Int := fz (fun j m => if m ≤ wkA s (j + 1) then m else wkA s (j + 1)) 0 n
def wkB (s : Nat → Int) (n : Nat) : Int := fz (fun j w => if s j = 0 then w else if 0 < s j then 1 else -1) 0 n
def wkT (s : Nat → Int) (n : Nat) : Int := fz (fun j t => if s j = 0 then t else if 0 < s j then (if wkB s j = -1 then t + 1 else t) else (if wkB s j = 1 then t + 1 else t)) 0 n
theorem wkA_s (s : Nat → Int) {x : Int} (h : 0 ≤ x) : wkA s (x + 1).toNat = wkA s x.toNat + s x.toNat := fz_s _ _ h
theorem wkM_s (s : Nat → Int) {x : Int} (h : 0 ≤ x) : (wkA s (x + 1).toNat ≤ wkM s x.toNat ∧ wkM s (x + 1).toNat = wkM s x.toNat) ∨ (wkM s x.toNat < wkA s (x + 1).toNat ∧ wkM s (x + 1).toNat = wkA s (x + 1).toNat) := by
  have e : wkM s (x + 1).toNat = if wkA s (x.toNat + 1) ≤ wkM s x.toNat then wkM s x.toNat else wkA s (x.toNat + 1) := fz_s _ _ h
  rw [← tn_s h] at e
  by_cases hc : wkA s (x + 1).toNat ≤ wkM s x.toNat
  · exact Or.inl ⟨hc, by rw [e, if_pos hc]⟩
  · exact Or.inr ⟨by omega, by rw [e, if_neg hc]⟩
theorem wkL_s (s : Nat → Int) {x : Int} (h : 0 ≤ x) : (wkL s x.toNat ≤ wkA s (x + 1).toNat ∧ wkL s (x + 1).toNat = wkL s x.toNat) ∨ (wkA s (x + 1).toNat < wkL s x.toNat ∧ wkL s (x + 1).toNat = wkA s (x + 1).toNat) := by
  have e : wkL s (x + 1).toNat = if wkL s x.toNat ≤ wkA s (x.toNat + 1) then wkL s x.toNat else wkA s (x.toNat + 1) := fz_s _ _ h
  rw [← tn_s h] at e
  by_cases hc : wkL s x.toNat ≤ wkA s (x + 1).toNat
  · exact Or.inl ⟨hc, by rw [e, if_pos hc]⟩
  · exact Or.inr ⟨by omega, by rw [e, if_neg hc]⟩
theorem wkB_r (s : Nat → Int) (n : Nat) : wkB s n = 0 ∨ wkB s n = 1 ∨ wkB s n = -1 := by
  induction n with
  | zero => exact Or.inl rfl
  | succ n ih =>
    show (if s n = 0 then wkB s n else if 0 < s n then (1 : Int) else -1) = 0 ∨ (if s n = 0 then wkB s n else if 0 < s n then (1 : Int) else -1) = 1 ∨ (if s n = 0 then wkB s n else if 0 < s n then (1 : Int) else -1) = -1
    split
    · exact ih
    · split
      · exact Or.inr (Or.inl rfl)
      · exact Or.inr (Or.inr rfl)
theorem wkBT_s (s : Nat → Int) {x : Int} (h : 0 ≤ x) : (s x.toNat = 0 ∧ wkB s (x + 1).toNat = wkB s x.toNat ∧ wkT s (x + 1).toNat = wkT s x.toNat) ∨ (0 < s x.toNat ∧ wkB s (x + 1).toNat = 1 ∧ ((wkB s x.toNat = -1 ∧ wkT s (x + 1).toNat = wkT s x.toNat + 1) ∨ (wkB s x.toNat ≠ -1 ∧ wkT s (x + 1).toNat = wkT s x.toNat))) ∨ (s x.toNat < 0 ∧ wkB s (x + 1).toNat = -1 ∧ ((wkB s x.toNat = 1 ∧ wkT s (x + 1).toNat = wkT s x.toNat + 1) ∨ (wkB s x.toNat ≠ 1 ∧ wkT s (x + 1).toNat = wkT s x.toNat))) := by
  have e1 : wkB s (x + 1).toNat = if s x.toNat = 0 then wkB s x.toNat else if 0 < s x.toNat then 1 else -1 := fz_s _ _ h
  have e2 : wkT s (x + 1).toNat = if s x.toNat = 0 then wkT s x.toNat else if 0 < s x.toNat then (if wkB s x.toNat = -1 then wkT s x.toNat + 1 else wkT s x.toNat) else (if wkB s x.toNat = 1 then wkT s x.toNat + 1 else wkT s x.toNat) := fz_s _ _ h
  rw [e1, e2]
  by_cases h0 : s x.toNat = 0
  · rw [if_pos h0, if_pos h0]; exact Or.inl ⟨h0, rfl, rfl⟩
  · rw [if_neg h0, if_neg h0]
    by_cases h1 : 0 < s x.toNat
    · rw [if_pos h1, if_pos h1]
      by_cases h2 : wkB s x.toNat = -1
      · rw [if_pos h2]; exact Or.inr (Or.inl ⟨h1, rfl, Or.inl ⟨h2, rfl⟩⟩)
      · rw [if_neg h2]; exact Or.inr (Or.inl ⟨h1, rfl, Or.inr ⟨h2, rfl⟩⟩)
    · rw [if_neg h1, if_neg h1]
      by_cases h2 : wkB s x.toNat = 1
      · rw [if_pos h2]; exact Or.inr (Or.inr ⟨by omega, rfl, Or.inl ⟨h2, rfl⟩⟩)
      · rw [if_neg h2]; exact Or.inr (Or.inr ⟨by omega, rfl, Or.inr ⟨h2, rfl⟩⟩)
theorem wkA_c {s g : Nat → Int} (n : Nat) (h : ∀ j : Nat, j < n → s j = g j) : wkA s n = wkA g n := fz_c _ _ (fun k hk x => by rw [h k hk])
theorem wkM_c {s g : Nat → Int} (n : Nat) (h : ∀ j : Nat, j < n → s j = g j) : wkM s n = wkM g n := fz_c _ _ (fun k hk x => by rw [wkA_c (k + 1) (fun j hj => h j (by omega))])
theorem wkL_c {s g : Nat → Int} (n : Nat) (h : ∀ j : Nat, j < n → s j = g j) : wkL s n = wkL g n := fz_c _ _ (fun k hk x => by rw [wkA_c (k + 1) (fun j hj => h j (by omega))])
theorem wkB_c {s g : Nat → Int} (n : Nat) (h : ∀ j : Nat, j < n → s j = g j) : wkB s n = wkB g n := fz_c _ _ (fun k hk x => by rw [h k hk])
theorem wkT_c {s g : Nat → Int} (n : Nat) (h : ∀ j : Nat, j < n → s j = g j) : wkT s n = wkT g n := fz_c _ _ (fun k hk x => by rw [h k hk, wkB_c k (fun j hj => h j (by omega))])
/-- what walk answers -/
def wkF (s : Nat → Int) (n what : Int) : Int := if what = 0 then wkA s n.toNat else if what = 1 then wkM s n.toNat else if what = 2 then wkL s n.toNat else wkT s n.toNat
theorem wkF_e (s : Nat → Int) (n what : Int) (h : 0 ≤ what ∧ what ≤ 3) : (what = 0 ∧ wkF s n what = wkA s n.toNat) ∨ (what = 1 ∧ wkF s n what = wkM s n.toNat) ∨ (what = 2 ∧ wkF s n what = wkL s n.toNat) ∨ (what = 3 ∧ wkF s n what = wkT s n.toNat) := by
  rcases (show what = 0 ∨ what = 1 ∨ what = 2 ∨ what = 3 by omega) with rfl | rfl | rfl | rfl
  · exact Or.inl ⟨rfl, rfl⟩
  · exact Or.inr (Or.inl ⟨rfl, rfl⟩)
  · exact Or.inr (Or.inr (Or.inl ⟨rfl, rfl⟩))
  · exact Or.inr (Or.inr (Or.inr ⟨rfl, rfl⟩))
theorem wkF_c {s g : Nat → Int} {n : Int} (what : Int) (h : ∀ j : Nat, (j : Int) < n → s j = g j) : wkF s n what = wkF g n what := by
  have h2 := toN_c h
  unfold wkF
  rw [wkA_c _ h2, wkM_c _ h2, wkL_c _ h2, wkT_c _ h2]
-- sorted by insertion
def ins (s : Nat → Int) (v : Int) : Nat → Nat → Int
  | 0 => updZ s 0 v
  | k + 1 => if v < s k then ins (updZ s (k + 1) (s k)) v k else updZ s (k + 1) v
theorem ins_stop {s : Nat → Int} {v x : Int} (h0 : 0 ≤ x) (h : x ≤ 0 ∨ s (x - 1).toNat ≤ v) : ins s v x.toNat = updZ s x.toNat v := by
  rcases (show x = 0 ∨ 0 < x by omega) with h1 | h1
  · rw [h1]; rfl
  · rw [show x.toNat = (x - 1).toNat + 1 by omega]
    exact if_neg (by rcases h with h | h <;> omega)
theorem ins_go {s : Nat → Int} {v x : Int} (h1 : 0 < x) (h : v < s (x - 1).toNat) : ins (updZ s x.toNat (s (x - 1).toNat)) v (x - 1).toNat = ins s v x.toNat := by
  rw [show x.toNat = (x - 1).toNat + 1 by omega]
  exact (if_pos h).symm
theorem ins_out (s : Nat → Int) (v : Int) (k j : Nat) (h : k < j) : ins s v k j = s j := by
  induction k generalizing s with
  | zero => exact updZ_n _ _ (by omega)
  | succ k ih =>
    unfold ins
    split
    · rw [ih _ (by omega), updZ_n _ _ (by omega)]
    · exact updZ_n _ _ (by omega)
theorem ins_loc (v : Int) (k : Nat) : ∀ s g : Nat → Int, (∀ j, j < k → s j = g j) → ∀ j, j ≤ k → ins s v k j = ins g v k j := by
  induction k with
  | zero =>
    intro s g h j hj
    obtain rfl : j = 0 := by omega
    show updZ s 0 v 0 = updZ g 0 v 0
    rw [updZ_s, updZ_s]
  | succ k ih =>
    intro s g h j hj
    unfold ins
    rw [h k (by omega)]
    split
    · rcases (show j ≤ k ∨ j = k + 1 by omega) with h1 | h1
      · exact ih _ _ (fun i hi => by rw [updZ_n _ _ (by omega), updZ_n _ _ (by omega)]; exact h i (by omega)) j h1
      · rw [ins_out _ _ _ _ (by omega), ins_out _ _ _ _ (by omega), h1, updZ_s, updZ_s]
    · rcases (show j ≤ k ∨ j = k + 1 by omega) with h1 | h1
      · rw [updZ_n _ _ (by omega), updZ_n _ _ (by omega)]; exact h j (by omega)
      · rw [h1, updZ_s, updZ_s]
theorem ins_all (P : Int → Prop) (v : Int) (hv : P v) (k : Nat) : ∀ s : Nat → Int, (∀ j, j < k → P (s j)) → ∀ j, j ≤ k → P (ins s v k j) := by
  induction k with
  | zero =>
    intro s h j hj
    obtain rfl : j = 0 := by omega
    show P (updZ s 0 v 0)
    rw [updZ_s]; exact hv
  | succ k ih =>
    intro s h j hj
    unfold ins
    split
    · rcases (show j ≤ k ∨ j = k + 1 by omega) with h1 | h1
      · exact ih _ (fun i hi => by rw [updZ_n _ _ (by omega)]; exact h i (by omega)) j h1
      · rw [ins_out _ _ _ _ (by omega), h1, updZ_s]; exact h k (by omega)
    · rcases (show j ≤ k ∨ j = k + 1 by omega) with h1 | h1
      · rw [updZ_n _ _ (by omega)]; exact h j (by omega)
      · rw [h1, updZ_s]; exact hv
def Sd (s : Nat → Int) (k : Nat) : Prop := ∀ j, j + 1 < k → s j ≤ s (j + 1)
theorem Sd.le {s : Nat → Int} {k : Nat} (h : Sd s k) : ∀ d i, i + d < k → s i ≤ s (i + d) := by
  intro d
  induction d with
  | zero => intro i _; exact Int.le_refl _
  | succ d ih => intro i hi; exact Int.le_trans (ih i (by omega)) (h (i + d) (by omega))
theorem Sd_ins (v : Int) (k : Nat) : ∀ s : Nat → Int, Sd s k → Sd (ins s v k) (k + 1) := by
  induction k with
  | zero => intro s _ j hj; omega
  | succ k ih =>
    intro s h j hj
    unfold ins
    split
    · rename_i hc
      rcases (show j + 1 < k + 1 ∨ j = k by omega) with h1 | h1
      · exact ih _ (fun i hi => by rw [updZ_n _ _ (by omega), updZ_n _ _ (by omega)]; exact h i (by omega)) j h1
      · rw [h1, ins_out _ _ _ (k + 1) (by omega), updZ_s]
        refine ins_all (fun z => z ≤ s k) v (by omega) k _ (fun i hi => ?_) k (Nat.le_refl k)
        rw [updZ_n _ _ (by omega)]
        have h2 := h.le (k - i) i (by omega)
        rw [show i + (k - i) = k by omega] at h2
        exact h2
    · rename_i hc
      rcases (show j + 1 < k + 1 ∨ j = k by omega) with h1 | h1
      · rw [updZ_n _ _ (by omega), updZ_n _ _ (by omega)]; exact h j (by omega)
      · rw [h1, updZ_n _ _ (by omega), updZ_s]; omega
/-- the first n of f, sorted into h -/
def srt (h f : Nat → Int) : Nat → Nat → Int
  | 0 => h
  | n + 1 => ins (srt h f n) (f n) n
theorem srt_s (h f : Nat → Int) {x : Int} (hx : 0 ≤ x) : ins (srt h f x.toNat) (f x.toNat) x.toNat = srt h f (x + 1).toNat := by
  rw [tn_s hx]; rfl
theorem srt_out (h f : Nat → Int) (n j : Nat) (hj : n ≤ j) : srt h f n j = h j := by
  induction n with
  | zero => rfl
  | succ n ih =>
    show ins (srt h f n) (f n) n j = h j
    rw [ins_out _ _ _ _ (by omega)]; exact ih (by omega)
theorem srt_one (f : Nat → Int) : f = srt f f 1 := by
  funext j
  show f j = updZ f 0 (f 0) j
  by_cases h : j = 0
  · rw [h, updZ_s]
  · rw [updZ_n _ _ h]
theorem srt_c {h g f f2 : Nat → Int} (n : Nat) (hf : ∀ j : Nat, j < n → f j = f2 j) : ∀ j : Nat, j < n → srt h f n j = srt g f2 n j := by
  induction n with
  | zero => intro j hj; omega
  | succ n ih =>
    intro j hj
    show ins (srt h f n) (f n) n j = ins (srt g f2 n) (f2 n) n j
    rw [hf n (by omega)]
    exact ins_loc _ n _ _ (ih (fun j hj => hf j (by omega))) j (by omega)
theorem srt_all (P : Int → Prop) (h f : Nat → Int) (n : Nat) (hf : ∀ j : Nat, j < n → P (f j)) : ∀ j : Nat, j < n → P (srt h f n j) := by
  induction n with
  | zero => intro j hj; omega
  | succ n ih => intro j hj; exact ins_all P _ (hf n (by omega)) n _ (ih (fun j hj => hf j (by omega))) j (by omega)
theorem srt_Sd (h f : Nat → Int) (n : Nat) : Sd (srt h f n) n := by
  induction n with
  | zero => intro j hj; omega
  | succ n ih => exact Sd_ins _ n _ ih
-- narrowest
def nwM (S : Nat → Int) (w n : Nat) : Int := fz (fun i m => if m ≤ S (i + w) - S i then m else S (i + w) - S i) 1000000 n
theorem nwM_s (S : Nat → Int) (w : Nat) {x : Int} (h : 0 ≤ x) : (nwM S w x.toNat ≤ S (x.toNat + w) - S x.toNat ∧ nwM S w (x + 1).toNat = nwM S w x.toNat) ∨ (S (x.toNat + w) - S x.toNat < nwM S w x.toNat ∧ nwM S w (x + 1).toNat = S (x.toNat + w) - S x.toNat) := by
  have e : nwM S w (x + 1).toNat = if nwM S w x.toNat ≤ S (x.toNat + w) - S x.toNat then nwM S w x.toNat else S (x.toNat + w) - S x.toNat := fz_s _ _ h
  rw [e]
  by_cases hc : nwM S w x.toNat ≤ S (x.toNat + w) - S x.toNat
  · exact Or.inl ⟨hc, if_pos hc⟩
  · exact Or.inr ⟨by omega, if_neg hc⟩
theorem nwM_c {S T : Nat → Int} (w n m : Nat) (hm : n + w ≤ m) (h : ∀ j : Nat, j < m → S j = T j) : nwM S w n = nwM T w n := fz_c _ _ (fun k hk x => by rw [h (k + w) (by omega), h k (by omega)])
def nwF (f : Nat → Int) (n out : Int) : Int := nwM (srt f f n.toNat) (n - 1 - out).toNat (out + 1).toNat
theorem nwF_c {f g h : Nat → Int} {n out : Int} (hn : 1 ≤ n) (ho : 0 ≤ out ∧ out ≤ n - 1) (hf : ∀ j : Nat, (j : Int) < n → f j = g j) : nwM (srt h f n.toNat) (n - 1 - out).toNat (out + 1).toNat = nwF g n out :=
  nwM_c _ _ n.toNat (by omega) (fun j hj => srt_c n.toNat (toN_c hf) j hj)
-- paired
def prA (S : Nat → Int) (n : Nat) : Int := fz (fun i m => m + (S (2 * i + 1) - S (2 * i))) 0 n
def prM (S : Nat → Int) (n : Nat) : Int := fz (fun i m => if S (2 * i + 1) - S (2 * i) ≤ m then m else S (2 * i + 1) - S (2 * i)) 0 n
theorem pr_n {x : Int} (h : 0 ≤ x) (he : x % 2 = 0) : ((x + 2) / 2).toNat = (x / 2).toNat + 1 ∧ 2 * (x / 2).toNat = x.toNat ∧ 2 * (x / 2).toNat + 1 = (x + 1).toNat := by omega
theorem prA_s (S : Nat → Int) {x : Int} (h : 0 ≤ x) (he : x % 2 = 0) : prA S ((x + 2) / 2).toNat = prA S (x / 2).toNat + (S (x + 1).toNat - S x.toNat) := by
  obtain ⟨h1, h2, h3⟩ := pr_n h he
  have e : prA S ((x / 2).toNat + 1) = prA S (x / 2).toNat + (S (2 * (x / 2).toNat + 1) - S (2 * (x / 2).toNat)) := rfl
  rw [h1, e, h3, h2]
theorem prM_s (S : Nat → Int) {x : Int} (h : 0 ≤ x) (he : x % 2 = 0) : (S (x + 1).toNat - S x.toNat ≤ prM S (x / 2).toNat ∧ prM S ((x + 2) / 2).toNat = prM S (x / 2).toNat) ∨ (prM S (x / 2).toNat < S (x + 1).toNat - S x.toNat ∧ prM S ((x + 2) / 2).toNat = S (x + 1).toNat - S x.toNat) := by
  obtain ⟨h1, h2, h3⟩ := pr_n h he
  have e : prM S ((x / 2).toNat + 1) = if S (2 * (x / 2).toNat + 1) - S (2 * (x / 2).toNat) ≤ prM S (x / 2).toNat then prM S (x / 2).toNat else S (2 * (x / 2).toNat + 1) - S (2 * (x / 2).toNat) := rfl
  rw [h3, h2] at e
  rw [h1, e]
  by_cases hc : S (x + 1).toNat - S x.toNat ≤ prM S (x / 2).toNat
  · exact Or.inl ⟨hc, if_pos hc⟩
  · exact Or.inr ⟨by omega, if_neg hc⟩
theorem prA_c {S T : Nat → Int} (n m : Nat) (hm : 2 * n ≤ m) (h : ∀ j : Nat, j < m → S j = T j) : prA S n = prA T n := fz_c _ _ (fun k hk x => by rw [h (2 * k + 1) (by omega), h (2 * k) (by omega)])
theorem prM_c {S T : Nat → Int} (n m : Nat) (hm : 2 * n ≤ m) (h : ∀ j : Nat, j < m → S j = T j) : prM S n = prM T n := fz_c _ _ (fun k hk x => by rw [h (2 * k + 1) (by omega), h (2 * k) (by omega)])
def prF (f : Nat → Int) (n what : Int) : Int := if what = 0 then prA (srt f f n.toNat) (n / 2).toNat else prM (srt f f n.toNat) (n / 2).toNat
theorem prF_e {f g h : Nat → Int} {n : Int} (what : Int) (hn : 0 ≤ n) (hf : ∀ j : Nat, (j : Int) < n → f j = g j) : (what = 0 ∧ prA (srt h f n.toNat) (n / 2).toNat = prF g n what) ∨ (what ≠ 0 ∧ prM (srt h f n.toNat) (n / 2).toNat = prF g n what) := by
  have hS : ∀ j : Nat, j < n.toNat → srt h f n.toNat j = srt g g n.toNat j := srt_c n.toNat (toN_c hf)
  unfold prF
  by_cases hw : what = 0
  · rw [if_pos hw]; exact Or.inl ⟨hw, prA_c _ n.toNat (by omega) hS⟩
  · rw [if_neg hw]; exact Or.inr ⟨hw, prM_c _ n.toNat (by omega) hS⟩
