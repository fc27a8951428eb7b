/-! the reader of the reference: what is noted, what waits -/
def cw (m : Int) (W : Nat → Int) : Nat → Int
  | 0 => 0
  | n + 1 => cw m W n + (if W n < m then 1 else 0)
theorem cw_succ (m : Int) (W : Nat → Int) (n : Nat) : cw m W (n + 1) = cw m W n + (if W n < m then 1 else 0) := rfl
theorem cw_same {m : Int} {W V : Nat → Int} : ∀ n : Nat, (∀ j : Nat, j < n → V j = W j) → cw m V n = cw m W n := by
  intro n
  induction n with
  | zero => intro _; rfl
  | succ n ih =>
    intro h
    rw [cw_succ, cw_succ, ih (fun j hj => h j (by omega)), h n (by omega)]
theorem cw_bd (m : Int) (W : Nat → Int) : ∀ n : Nat, 0 ≤ cw m W n ∧ cw m W n ≤ n := by
  intro n
  induction n with
  | zero => exact ⟨Int.le_refl 0, Int.le_refl 0⟩
  | succ n ih =>
    rw [cw_succ]
    by_cases hq : W n < m
    · rw [if_pos hq]; omega
    · rw [if_neg hq]; omega
theorem cw_zero {m : Int} {W : Nat → Int} : ∀ n : Nat, (∀ j : Nat, j < n → m ≤ W j) → cw m W n = 0 := by
  intro n
  induction n with
  | zero => intro _; rfl
  | succ n ih =>
    intro h
    rw [cw_succ, ih (fun j hj => h j (by omega)), if_neg (by have := h n (by omega); omega)]
    rfl
theorem cw_push_lt (m : Int) (W : Nat → Int) {w v : Int} (hw : 0 ≤ w) (hv : v < m) : cw m (updZ W w.toNat v) (w + 1).toNat = cw m W w.toNat + 1 := by
  rw [show (w + 1).toNat = w.toNat + 1 by omega, cw_succ, updZ_s, if_pos hv, cw_same (W := W) w.toNat (fun j hj => updZ_n _ _ (by omega))]
theorem cw_push_ge (m : Int) (W : Nat → Int) {w v : Int} (hw : 0 ≤ w) (hv : m ≤ v) : cw m (updZ W w.toNat v) (w + 1).toNat = cw m W w.toNat := by
  rw [show (w + 1).toNat = w.toNat + 1 by omega, cw_succ, updZ_s, if_neg (by omega), cw_same (W := W) w.toNat (fun j hj => updZ_n _ _ (by omega)), Int.add_zero]
theorem cw_pop_lt (m : Int) (W : Nat → Int) {w : Int} (hw : 1 ≤ w) (hv : W (w - 1).toNat < m) : cw m W w.toNat = cw m W (w - 1).toNat + 1 := by
  rw [show w.toNat = (w - 1).toNat + 1 by omega, cw_succ, if_pos hv]
theorem cw_pop_ge (m : Int) (W : Nat → Int) {w : Int} (hw : 1 ≤ w) (hv : m ≤ W (w - 1).toNat) : cw m W w.toNat = cw m W (w - 1).toNat := by
  rw [show w.toNat = (w - 1).toNat + 1 by omega, cw_succ, if_neg (by omega), Int.add_zero]
theorem cw_pop_le (m : Int) (W : Nat → Int) {w : Int} (hw : 1 ≤ w) : cw m W (w - 1).toNat ≤ cw m W w.toNat := by
  by_cases hq : W (w - 1).toNat < m
  · rw [cw_pop_lt m W hw hq]; omega
  · rw [cw_pop_ge m W hw (by omega)]; exact Int.le_refl _
/-- the same ahead of a place -/
def SB (a : Int) (f g : Nat → Int) : Prop := ∀ j : Nat, (j : Int) < a → g j = f j
theorem SB.refl (a : Int) (f : Nat → Int) : SB a f f := fun _ _ => rfl
theorem SB.trans {a b : Int} {f g k : Nat → Int} (h : SB a f g) (h2 : SB b g k) (hab : a ≤ b) : SB a f k := fun j hj => (h2 j (by omega)).trans (h j hj)
theorem SB.less {a b : Int} {f g : Nat → Int} (h : SB b f g) (hab : a ≤ b) : SB a f g := fun j hj => h j (by omega)
theorem SB.up {a : Int} {f g : Nat → Int} (h : SB a f g) {k v : Int} (hk : a ≤ k) (h0 : 0 ≤ k) : SB a f (updZ g k.toNat v) := fun j hj => (updZ_n _ _ (by omega)).trans (h j hj)
def Ge (m : Int) (W : Nat → Int) (w : Int) : Prop := ∀ j : Nat, (j : Int) < w → m ≤ W j
theorem Ge.same {m w : Int} {W V : Nat → Int} (h : Ge m W w) (hs : SB w W V) : Ge m V w := fun j hj => by rw [hs j hj]; exact h j hj
theorem Ge.less {m w w2 : Int} {W : Nat → Int} (h : Ge m W w) (hw : w2 ≤ w) : Ge m W w2 := fun j hj => h j (by omega)
theorem Ge.push {m w v : Int} {W : Nat → Int} (h : Ge m W w) (hw : 0 ≤ w) (hv : m ≤ v) : Ge m (updZ W w.toNat v) (w + 1) := fun j hj => by
  by_cases hq : j = w.toNat
  · rw [hq, updZ_s]; exact hv
  · rw [updZ_n _ _ hq]; exact h j (by omega)
/-- from a on operators and open sums alone wait -/
def AB (a : Int) (W : Nat → Int) (w : Int) : Prop := ∀ j : Nat, a ≤ (j : Int) → (j : Int) < w → 2097152 ≤ W j ∧ (W j < 7340032 ∨ W j = 14680064)
theorem AB.nil {a w : Int} {W : Nat → Int} (h : w ≤ a) : AB a W w := fun j h1 h2 => by omega
theorem AB.less {a w w2 : Int} {W : Nat → Int} (h : AB a W w) (hw : w2 ≤ w) : AB a W w2 := fun j h1 h2 => h j h1 (by omega)
theorem AB.push {a w v : Int} {W : Nat → Int} (h : AB a W w) (hw : 0 ≤ w) (hv : 2097152 ≤ v ∧ (v < 7340032 ∨ v = 14680064)) : AB a (updZ W w.toNat v) (w + 1) := fun j h1 h2 => by
  by_cases hq : j = w.toNat
  · rw [hq, updZ_s]; exact hv
  · rw [updZ_n _ _ hq]; exact h j h1 (by omega)
theorem AB.ext {a w w2 : Int} {W V : Nat → Int} (h : AB a W w) (hs : SB w W V) (hn : ∀ j : Nat, w ≤ (j : Int) → (j : Int) < w2 → V j = 14680064) : AB a V w2 := fun j h1 h2 => by
  rcases (show (j : Int) < w ∨ w ≤ (j : Int) by omega) with hq | hq
  · rw [hs j hq]; exact h j h1 hq
  · rw [hn j hq h2]; exact ⟨by decide, Or.inr rfl⟩
theorem Ge.of {a w : Int} {W V : Nat → Int} (hG : Ge 10485760 V a) (hs : SB a V W) (h : AB a W w) : Ge 2097152 W w := fun j hj => by
  rcases (show (j : Int) < a ∨ a ≤ (j : Int) by omega) with hq | hq
  · rw [hs j hq]; have := hG j hq; omega
  · exact (h j hq hj).1
theorem AB.close {a w w2 : Int} {W V : Nat → Int} (hG : Ge 10485760 V a) (hs : SB a V W) (h : AB a W w) (ha : 0 ≤ a) (haw : a ≤ w) (hw2 : 0 ≤ w2) (hw : w2 ≤ w) (hno : ∀ j : Nat, a ≤ (j : Int) → (j : Int) < w → W j / 1048576 ≠ 14) (hp : ∀ j : Nat, w2 ≤ (j : Int) → (j : Int) < w → W j < 7340032) (ht : w2 = 0 ∨ 7340032 ≤ W (w2 - 1).toNat) : w2 = a := by
  rcases (show w2 < a ∨ w2 = a ∨ a < w2 by omega) with hq | hq | hq
  · have h1 := hp w2.toNat (by omega) (by omega)
    have h2 := hG w2.toNat (by omega)
    rw [hs w2.toNat (by omega)] at h1
    omega
  · exact hq
  · have h1 := h (w2 - 1).toNat (by omega) (by omega)
    have h2 := hno (w2 - 1).toNat (by omega) (by omega)
    rcases h1.2 with h3 | h3
    · omega
    · exfalso; apply h2; rw [h3]; decide
theorem stepOK.mono {v k hi hi2 : Int} {ht ht2 : Int → Int} (H : stepOK v k hi ht) (hk : k < hi) (hh : hi ≤ hi2) (e : ∀ q : Int, q ≤ hi → ht2 q = ht q) : stepOK v k hi2 ht2 := by
  unfold stepOK at *
  rw [e k (by omega), e (k + 1) (by omega)]
  obtain ⟨h1, h2, h3⟩ := H
  refine ⟨h1, h2, ?_⟩
  rcases h3 with h3 | h3 | h3 | h3 | h3
  · exact Or.inl h3
  · exact Or.inr (Or.inl h3)
  · exact Or.inr (Or.inr (Or.inl h3))
  · obtain ⟨g1, g2, g3, g4, g5, g6⟩ := h3
    exact Or.inr (Or.inr (Or.inr (Or.inl ⟨g1, g2, g3, g4, by omega, by rw [e _ g5]; exact g6⟩)))
  · exact Or.inr (Or.inr (Or.inr (Or.inr h3)))
/-- noted from lo to cm; the first w wait; so high stands the row of numbers behind it -/
def RD (lo : Int) (said : Nat → Int) (cm : Int) (W : Nat → Int) (w h : Int) : Prop :=
  0 ≤ lo ∧ lo ≤ cm ∧ (∀ j : Nat, (j : Int) < w → 11534336 ≤ W j → W j < 13631488 → lo ≤ W j % 1048576 ∧ W j % 1048576 < cm ∧ 11 ≤ said (W j % 1048576).toNat / 1048576 ∧ said (W j % 1048576).toNat / 1048576 ≤ 12) ∧
  ∃ ht : Int → Int, ht lo = 0 ∧ ht cm = h ∧ (∀ k : Int, lo ≤ k → k ≤ cm → 0 ≤ ht k ∧ ht k ≤ k) ∧
    (∀ k : Int, lo ≤ k → k < cm → stepOK (said k.toNat) k cm ht ∨ (ht k = 1 ∧ ht (k + 1) = 0 ∧ ∃ j : Nat, (j : Int) < w ∧ 11534336 ≤ W j ∧ W j < 13631488 ∧ W j % 1048576 = k)) ∧
    (∀ j : Nat, (j : Int) < w → 11534336 ≤ W j → W j < 13631488 → ht (W j % 1048576) = 1 ∧ ht (W j % 1048576 + 1) = 0)
section RDX
variable {lo cm w h : Int} {said W : Nat → Int}
theorem RD.ini (said W : Nat → Int) (h0 : 0 ≤ lo) : RD lo said lo W 0 0 :=
  ⟨h0, Int.le_refl _, fun j hj => by omega, fun _ => 0, rfl, rfl, fun k h1 h2 => ⟨Int.le_refl 0, by show (0 : Int) ≤ k; omega⟩, fun k h1 h2 => by omega, fun j hj => by omega⟩
theorem RD.push (H : RD lo said cm W w h) {v : Int} (hw : 0 ≤ w) (hv : v < 11534336 ∨ 13631488 ≤ v) : RD lo said cm (updZ W w.toNat v) (w + 1) h := by
  obtain ⟨h0, h1, hB, ht, e0, e1, hr, hs, hb⟩ := H
  have key : ∀ j : Nat, (j : Int) < w + 1 → 11534336 ≤ updZ W w.toNat v j → updZ W w.toNat v j < 13631488 → (j : Int) < w ∧ updZ W w.toNat v j = W j := by
    intro j hj a b
    by_cases hq : j = w.toNat
    · rw [hq, updZ_s] at a b; omega
    · exact ⟨by omega, updZ_n _ _ hq⟩
  refine ⟨h0, h1, fun j hj a b => ?_, ht, e0, e1, hr, fun k k1 k2 => ?_, fun j hj a b => ?_⟩
  · obtain ⟨c1, c2⟩ := key j hj a b
    rw [c2] at a b ⊢
    exact hB j c1 a b
  · rcases hs k k1 k2 with q | ⟨q1, q2, j, q3, q4, q5, q6⟩
    · exact Or.inl q
    · refine Or.inr ⟨q1, q2, j, by omega, ?_⟩
      rw [updZ_n _ _ (by omega)]
      exact ⟨q4, q5, q6⟩
  · obtain ⟨c1, c2⟩ := key j hj a b
    rw [c2] at a b ⊢
    exact hb j c1 a b
theorem RD.pop (H : RD lo said cm W w h) (hw : 1 ≤ w) (hv : W (w - 1).toNat < 11534336 ∨ 13631488 ≤ W (w - 1).toNat) : RD lo said cm W (w - 1) h := by
  obtain ⟨h0, h1, hB, ht, e0, e1, hr, hs, hb⟩ := H
  refine ⟨h0, h1, fun j hj a b => hB j (by omega) a b, ht, e0, e1, hr, fun k k1 k2 => ?_, fun j hj a b => hb j (by omega) a b⟩
  rcases hs k k1 k2 with q | ⟨q1, q2, j, q3, q4, q5, q6⟩
  · exact Or.inl q
  · refine Or.inr ⟨q1, q2, j, ?_, q4, q5, q6⟩
    by_cases hq : j = (w - 1).toNat
    · rw [hq] at q4 q5; omega
    · omega
theorem RD.note (H : RD lo said cm W w h) (v h2 : Int) (hv : (v / 1048576 = 0 ∧ h2 = h + 1) ∨ (v / 1048576 = 1 ∧ v % 1048576 ≤ 8 ∧ h2 = h + 1) ∨ (v / 1048576 = 10 ∧ 1 ≤ h ∧ h2 = h) ∨ (2 ≤ v / 1048576 ∧ v / 1048576 ≤ 9 ∧ 2 ≤ h ∧ h2 = h - 1)) : RD lo (updZ said cm.toNat v) (cm + 1) W w h2 := by
  obtain ⟨h0, h1, hB, ht, e0, e1, hr, hs, hb⟩ := H
  have hn : ∀ k : Int, lo ≤ k → k < cm → updZ said cm.toNat v k.toNat = said k.toNat := fun k a b => updZ_n _ _ (by omega)
  have hold : ∀ q : Int, q ≤ cm → (fun k : Int => if k = cm + 1 then h2 else ht k) q = ht q := fun q hq => if_neg (by omega)
  have hnew : (fun k : Int => if k = cm + 1 then h2 else ht k) (cm + 1) = h2 := if_pos rfl
  have hcm := hr cm h1 (Int.le_refl _)
  rw [e1] at hcm
  refine ⟨h0, by omega, fun j hj a b => ?_, fun k => if k = cm + 1 then h2 else ht k, (hold lo h1).trans e0, hnew, fun k k1 k2 => ?_, fun k k1 k2 => ?_, fun j hj a b => ?_⟩
  · obtain ⟨b1, b2, b3, b4⟩ := hB j hj a b
    rw [hn _ b1 b2]
    exact ⟨b1, by omega, b3, b4⟩
  · rcases (show k ≤ cm ∨ k = cm + 1 by omega) with q | q
    · rw [hold k q]; exact hr k k1 q
    · rw [q, hnew]; omega
  · rcases (show k < cm ∨ k = cm by omega) with q | q
    · rw [hn k k1 q]
      rcases hs k k1 q with d | ⟨d1, d2, d3⟩
      · exact Or.inl (d.mono q (by omega) hold)
      · exact Or.inr ⟨(hold k (by omega)).trans d1, (hold (k + 1) (by omega)).trans d2, d3⟩
    · refine Or.inl ?_
      rw [q, updZ_s]
      unfold stepOK
      rw [hold cm (Int.le_refl _), hnew, e1]
      refine ⟨hcm.1, hcm.2, ?_⟩
      rcases hv with d | d | d | d
      · exact Or.inl d
      · exact Or.inr (Or.inl d)
      · exact Or.inr (Or.inr (Or.inl d))
      · exact Or.inr (Or.inr (Or.inr (Or.inr d)))
  · obtain ⟨b1, b2, b3, b4⟩ := hB j hj a b
    obtain ⟨d1, d2⟩ := hb j hj a b
    exact ⟨(hold _ (by omega)).trans d1, (hold _ (by omega)).trans d2⟩
theorem RD.jump (H : RD lo said cm W w 1) {op : Int} (hw : 0 ≤ w) (ho : op = 11 ∨ op = 12) (hcm : cm < 1048576) : RD lo (updZ said cm.toNat (1048576 * op + 0)) (cm + 1) (updZ W w.toNat (1048576 * op + cm)) (w + 1) 0 := by
  obtain ⟨h0, h1, hB, ht, e0, e1, hr, hs, hb⟩ := H
  have hn : ∀ k : Int, lo ≤ k → k < cm → updZ said cm.toNat (1048576 * op + 0) k.toNat = said k.toNat := fun k a b => updZ_n _ _ (by omega)
  have hold : ∀ q : Int, q ≤ cm → (fun k : Int => if k = cm + 1 then 0 else ht k) q = ht q := fun q hq => if_neg (by omega)
  have hnew : (fun k : Int => if k = cm + 1 then (0 : Int) else ht k) (cm + 1) = 0 := if_pos rfl
  have hmod : (1048576 * op + cm) % 1048576 = cm := by rcases ho with rfl | rfl <;> omega
  have hdiv : (1048576 * op + 0) / 1048576 = op := by rcases ho with rfl | rfl <;> decide
  have key : ∀ j : Nat, (j : Int) < w + 1 → (j = w.toNat ∧ updZ W w.toNat (1048576 * op + cm) j = 1048576 * op + cm) ∨ ((j : Int) < w ∧ updZ W w.toNat (1048576 * op + cm) j = W j) := by
    intro j hj
    by_cases hq : j = w.toNat
    · left; exact ⟨hq, by rw [hq, updZ_s]⟩
    · right; exact ⟨by omega, updZ_n _ _ hq⟩
  refine ⟨h0, by omega, fun j hj a b => ?_, fun k => if k = cm + 1 then 0 else ht k, (hold lo h1).trans e0, hnew, fun k k1 k2 => ?_, fun k k1 k2 => ?_, fun j hj a b => ?_⟩
  · rcases key j hj with ⟨_, q⟩ | ⟨q1, q⟩
    · rw [q, hmod, updZ_s, hdiv]; omega
    · rw [q] at a b ⊢
      obtain ⟨b1, b2, b3, b4⟩ := hB j q1 a b
      rw [hn _ b1 b2]
      exact ⟨b1, by omega, b3, b4⟩
  · rcases (show k ≤ cm ∨ k = cm + 1 by omega) with q | q
    · rw [hold k q]; exact hr k k1 q
    · rw [q, hnew]; omega
  · rcases (show k < cm ∨ k = cm by omega) with q | q
    · rw [hn k k1 q]
      rcases hs k k1 q with d | ⟨d1, d2, j, d3, d4, d5, d6⟩
      · exact Or.inl (d.mono q (by omega) hold)
      · refine Or.inr ⟨(hold k (by omega)).trans d1, (hold (k + 1) (by omega)).trans d2, j, by omega, ?_⟩
        rw [updZ_n _ _ (by omega)]
        exact ⟨d4, d5, d6⟩
    · refine Or.inr ⟨by rw [q]; exact (hold cm (Int.le_refl _)).trans e1, by rw [q]; exact hnew, w.toNat, by omega, ?_⟩
      rw [updZ_s, q]
      exact ⟨by omega, by omega, hmod⟩
  · rcases key j hj with ⟨_, q⟩ | ⟨q1, q⟩
    · rw [q, hmod]; exact ⟨(hold cm (Int.le_refl _)).trans e1, hnew⟩
    · rw [q] at a b ⊢
      obtain ⟨b1, b2, b3, b4⟩ := hB j q1 a b
      obtain ⟨d1, d2⟩ := hb j q1 a b
      exact ⟨(hold _ (by omega)).trans d1, (hold _ (by omega)).trans d2⟩
theorem RD.at (H : RD lo said cm W w h) (hw : 1 ≤ w) (hv : 11534336 ≤ W (w - 1).toNat ∧ W (w - 1).toNat < 13631488) : lo ≤ W (w - 1).toNat % 1048576 ∧ W (w - 1).toNat % 1048576 < cm ∧ 11 ≤ said (W (w - 1).toNat % 1048576).toNat / 1048576 ∧ said (W (w - 1).toNat % 1048576).toNat / 1048576 ≤ 12 := H.2.2.1 _ (by omega) hv.1 hv.2
theorem RD.land (H : RD lo said cm W w 1) (hw : 1 ≤ w) (hv : 11534336 ≤ W (w - 1).toNat ∧ W (w - 1).toNat < 13631488) (hcm : cm < 1048576) {k x : Int} (hk : k = W (w - 1).toNat % 1048576) (hx : x = 1048576 * (said k.toNat / 1048576) + cm) : RD lo (updZ said k.toNat x) cm W (w - 1) 1 := by
  have hat := H.at hw hv
  obtain ⟨h0, h1, hB, ht, e0, e1, hr, hs, hb⟩ := H
  have hbk := hb _ (by omega) hv.1 hv.2
  rw [← hk] at hat hbk
  have hxd : x / 1048576 = said k.toNat / 1048576 := by omega
  have hxm : x % 1048576 = cm := by omega
  refine ⟨h0, h1, fun j hj a b => ?_, ht, e0, e1, hr, fun q q1 q2 => ?_, fun j hj a b => hb j (by omega) a b⟩
  · obtain ⟨b1, b2, b3, b4⟩ := hB j (by omega) a b
    by_cases hq : (W j % 1048576).toNat = k.toNat
    · rw [hq, updZ_s, hxd]; exact ⟨b1, b2, hat.2.2⟩
    · rw [updZ_n _ _ hq]; exact ⟨b1, b2, b3, b4⟩
  · by_cases hq : q = k
    · refine Or.inl ?_
      rw [hq, updZ_s]
      unfold stepOK
      rw [hxd, hxm, hbk.1, hbk.2, e1]
      have := hr k hat.1 (by omega)
      rw [hbk.1] at this
      exact ⟨by omega, this.2, Or.inr (Or.inr (Or.inr (Or.inl ⟨by omega, by omega, by omega, by omega, by omega, rfl⟩)))⟩
    · rw [updZ_n _ _ (by omega)]
      rcases hs q q1 q2 with d | ⟨d1, d2, j, d3, d4, d5, d6⟩
      · exact Or.inl d
      · refine Or.inr ⟨d1, d2, j, ?_, d4, d5, d6⟩
        by_cases hj : j = (w - 1).toNat
        · rw [hj] at d6; omega
        · omega
theorem RD.close (H : RD lo said cm W w h) (hw : w ≤ 0) (hcm : cm ≤ 250) : clOK said lo cm := by
  obtain ⟨h0, h1, hB, ht, e0, e1, hr, hs, hb⟩ := H
  refine ⟨ht, e0, h0, h1, hcm, fun k k1 k2 => ?_⟩
  rcases hs k k1 k2 with d | ⟨_, _, j, d3, _⟩
  · exact d
  · omega
theorem RD.bd (H : RD lo said cm W w h) : 0 ≤ lo ∧ lo ≤ cm ∧ 0 ≤ h := by
  obtain ⟨h0, h1, hB, ht, e0, e1, hr, hs, hb⟩ := H
  have := hr cm h1 (Int.le_refl _)
  exact ⟨h0, h1, by omega⟩
/-- an operator that waited is noted -/
theorem RD.closeOp {gb t : Int} (H : RD lo said cm W w (gb + 1 + cw 7340032 W w.toNat)) (hgb : 0 ≤ gb) (hw : 1 ≤ w) (ht : t = W (w - 1).toNat / 1048576) (h2 : 2 ≤ t ∧ t ≤ 6) : RD lo (updZ said cm.toNat (1048576 * t + 0)) (cm + 1) W (w - 1) (gb + 1 + cw 7340032 W (w - 1).toNat) := by
  have h7 := cw_pop_lt 7340032 W hw (by omega)
  have hb := cw_bd 7340032 W (w - 1).toNat
  exact (H.note (1048576 * t + 0) (gb + 1 + cw 7340032 W (w - 1).toNat) (Or.inr (Or.inr (Or.inr ⟨by omega, by omega, by omega, by omega⟩)))).pop hw (by omega)
end RDX
theorem clOK.same {f g : Nat → Int} {lo hi : Int} (H : clOK f lo hi) (e : SB hi f g) : clOK g lo hi := by
  obtain ⟨ht, h1, h2, h3, h4, h5⟩ := H
  exact ⟨ht, h1, h2, h3, h4, fun k k1 k2 => by rw [e k.toNat (by omega)]; exact h5 k k1 k2⟩
theorem clOK.bd {f : Nat → Int} {lo hi : Int} (H : clOK f lo hi) : 0 ≤ lo ∧ lo ≤ hi := by
  obtain ⟨ht, h1, h2, h3, h4, h5⟩ := H
  exact ⟨h2, h3⟩
/-- the clauses said so far -/
def SaidOK (said : Nat → Int) (n cm : Int) (f h t : Nat → Int) : Prop := ∀ j : Nat, (j : Int) < n → clOK said (f j) (h j) ∧ clOK said (h j) (t j) ∧ t j ≤ cm
theorem SaidOK.nil {said f h t : Nat → Int} {n cm : Int} (hn : n ≤ 0) : SaidOK said n cm f h t := fun j hj => by omega
theorem SaidOK.add {said said2 f h t : Nat → Int} {n cm cm2 a b c : Int} (H : SaidOK said n cm f h t) (hn : 0 ≤ n) (hs : SB cm said said2) (h1 : clOK said2 a b) (h2 : clOK said2 b c) (hc : c ≤ cm2) (hm : cm ≤ cm2) : SaidOK said2 (n + 1) cm2 (updZ f n.toNat a) (updZ h n.toNat b) (updZ t n.toNat c) := by
  intro j hj
  by_cases hq : j = n.toNat
  · rw [hq, updZ_s, updZ_s, updZ_s]; exact ⟨h1, h2, hc⟩
  · rw [updZ_n _ _ hq, updZ_n _ _ hq, updZ_n _ _ hq]
    obtain ⟨g1, g2, g3⟩ := H j (by omega)
    have g4 := g2.bd
    exact ⟨g1.same (hs.less (by omega)), g2.same (hs.less (by omega)), by omega⟩
theorem SaidOK.law {said codes f h t f2 h2 t2 : Nat → Int} {n cm : Int} (H : SaidOK said n cm f h t) (hc : ∀ j : Nat, (j : Int) < cm → codes j = said j) (hf : ∀ j : Nat, (j : Int) < n → f2 j = f j ∧ h2 j = h j ∧ t2 j = t j) : LawOK codes n f2 h2 t2 := by
  intro j hj
  obtain ⟨g1, g2, g3⟩ := H j hj
  obtain ⟨e1, e2, e3⟩ := hf j hj
  have g4 := g2.bd
  rw [e1, e2, e3]
  exact ⟨g1.same fun i hi => hc i (by omega), g2.same fun i hi => hc i (by omega)⟩
