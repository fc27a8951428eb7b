-- the reference's reader of a law against the machine of 03u
def lwJ (P : Int → Int) (n : Int) (A : Nat → List Nat → Prop) (c1 : Nat) (X : List Nat → List Nat) (p : Int) (c2 : Nat) (Y : List Nat → List Nat) (q : Int) : Prop := ∀ (m : Nat) (S : List Nat), A m S → ∀ r : Int, lwZ P n (c2, m, Y S, q) r → lwZ P n (c1, m, X S, p) r
def lwV (P : Int → Int) (n : Int) (A : Nat → List Nat → Prop) (c1 : Nat) (X : List Nat → List Nat) (p f : Int) : Prop := ∀ (m : Nat) (S : List Nat), A m S → lwZ P n (c1, m, X S, p) f
/-- so many [ on it -/
def lw0 : Nat → List Nat → List Nat
  | 0, S => S
  | k + 1, S => 0 :: lw0 k S
def lwz (k : Int) (S : List Nat) : List Nat := lw0 k.toNat S
/-- what is open of what waits: ( and !, the last first -/
def lwL (W : Nat → Int) : Nat → List Nat
  | 0 => []
  | n + 1 => if W n / 1048576 = 13 then 1 :: lwL W n else if W n / 1048576 = 10 then 2 :: lwL W n else lwL W n
/-- a ( waits first; under each & and | stands a ( -/
def lwG (W : Nat → Int) (w : Nat) : Prop := W 0 / 1048576 = 13 ∧ ∀ j : Nat, j < w → W j / 1048576 ≤ 13 ∧ (11 ≤ W j / 1048576 → W j / 1048576 ≤ 12 → ∃ S1, lwL W j = 1 :: S1)
section LWR
variable {P : Int → Int} {n : Int} {A B : Nat → List Nat → Prop} {c1 c2 c3 : Nat} {X Y Z : List Nat → List Nat} {p q s f : Int}
theorem lwJ.id : lwJ P n A c1 X p c1 X p := fun _ _ _ _ h => h
theorem lwJ.trans (h1 : lwJ P n A c1 X p c2 Y q) (h2 : lwJ P n A c2 Y q c3 Z s) : lwJ P n A c1 X p c3 Z s := fun m S hA r hr => h1 m S hA r (h2 m S hA r hr)
theorem lwJ.v (h1 : lwJ P n A c1 X p c2 Y q) (h2 : lwV P n A c2 Y q f) : lwV P n A c1 X p f := fun m S hA => h1 m S hA _ (h2 m S hA)
theorem lwJ.go (h : ∀ (m : Nat) (S : List Nat), A m S → lwT P n (c1, m, X S, p) = .inl (c2, m, Y S, q)) : lwJ P n A c1 X p c2 Y q := fun m S hA _ hr => lwZ.go (h m S hA) hr
theorem lwV.fin (h : ∀ (m : Nat) (S : List Nat), A m S → lwT P n (c1, m, X S, p) = .inr f) : lwV P n A c1 X p f := fun m S hA => lwZ.fin (h m S hA)
theorem lwJ.on (X : List Nat → List Nat) (h : lwJ P n B c1 (fun S => S) p c2 Y q) (hX : ∀ (m : Nat) (S : List Nat), A m S → B m (X S)) : lwJ P n A c1 X p c2 (fun S => Y (X S)) q := fun m S hA r hr => h m (X S) (hX m S hA) r hr
theorem lwV.on (X : List Nat → List Nat) (h : lwV P n B c1 (fun S => S) p f) (hX : ∀ (m : Nat) (S : List Nat), A m S → B m (X S)) : lwV P n A c1 X p f := fun m S hA => h m (X S) (hX m S hA)
-- so many [
theorem lw0_D (S : List Nat) : ∀ k : Nat, lwD (lw0 k S) = lwD S + k := by
  intro k
  induction k with
  | zero => rfl
  | succ k ih => show lwD (lw0 k S) + (if 0 ≤ 2 then 1 else 0) = lwD S + (k + 1); rw [ih, if_pos (Nat.zero_le 2)]; omega
theorem lwz_D (S : List Nat) {k : Int} (h : 0 ≤ k) : ((lwD (lwz k S) : Nat) : Int) = (lwD S : Int) + k := by unfold lwz; rw [lw0_D]; omega
theorem lwz_s (S : List Nat) {k a : Int} (h : 0 ≤ k) (ha : a = k + 1) : lwz a S = 0 :: lwz k S := by
  unfold lwz; rw [show a.toNat = k.toNat + 1 by omega]; rfl
theorem lw0_add (S : List Nat) (b : Nat) : ∀ a : Nat, lw0 a (lw0 b S) = lw0 (a + b) S := by
  intro a
  induction a with
  | zero => rw [Nat.zero_add]; rfl
  | succ a ih => rw [show a + 1 + b = (a + b) + 1 by omega]; show 0 :: lw0 a (lw0 b S) = 0 :: lw0 (a + b) S; rw [ih]
theorem lwz_add (S : List Nat) {a b c : Int} (ha : 0 ≤ a) (hb : 0 ≤ b) (hc : c = a + b) : lwz a (lwz b S) = lwz c S := by
  unfold lwz; rw [lw0_add, show a.toNat + b.toNat = c.toNat by omega]
theorem lwJ.brk {a b : Int} (h : lwJ P n A c1 X p 1 (lwz a) q) (hq : P q = 91) (hd : ∀ (m : Nat) (S : List Nat), A m S → ¬ 6 ≤ lwD (lwz a S)) (ha : 0 ≤ a) (hb : b = a + 1) (hs : s = q + 1) : lwJ P n A c1 X p 1 (lwz b) s := h.trans (lwJ.go (fun m S hA => by rw [lwT_1, lwFa_br hq (hd m S hA), lwz_s S ha hb, hs]))
theorem lwJ.brkx {a : Int} (h : lwJ P n A c1 X p 1 (lwz a) q) (hq : P q = 91) (hd : ∀ (m : Nat) (S : List Nat), A m S → 6 ≤ lwD (lwz a S)) (hf : f = -5000 - q) : lwV P n A c1 X p f := h.v (lwV.fin (fun m S hA => by rw [lwT_1, lwFa_deep hq (hd m S hA), hf]))
theorem lwJ.more {a b c : Int} (h1 : lwJ P n A c1 X p 1 (lwz a) q) (h2 : lwJ P n B 1 (fun S => S) q 2 (lwz b) s) (hB : ∀ (m : Nat) (S : List Nat), A m S → B m (lwz a S)) (ha : 0 ≤ a) (hb : 0 ≤ b) (hc : c = b + a) : lwJ P n A c1 X p 2 (lwz c) s := fun m S hA r hr => h1 m S hA r (h2 m (lwz a S) (hB m S hA) r (by rw [lwz_add S hb ha hc]; exact hr))
theorem lwJ.shut {a b : Int} (h : lwJ P n A c1 X p 2 (lwz a) q) (h1 : ¬ lwOp (P q)) (h2 : P q = 93) (hb : 0 ≤ b) (hab : a = b + 1) (hs : s = q + 1) : lwJ P n A c1 X p 2 (lwz b) s := h.trans (lwJ.go (fun m S hA => by rw [lwT_2, if_neg h1, lwz_s S hb hab, lwE_0, if_pos h2, hs]))
theorem lwJ.unshut {a : Int} (h : lwJ P n A c1 X p 2 (lwz a) q) (h1 : ¬ lwOp (P q)) (h2 : P q ≠ 93) (ha : 1 ≤ a) (hf : f = -1000 - q) : lwV P n A c1 X p f := h.v (lwV.fin (fun m S hA => by rw [lwT_2, if_neg h1, lwz_s (k := a - 1) S (by omega) (by omega), lwE_0, if_neg h2, hf]))
theorem lwJ.none {a : Int} (h : lwJ P n A c1 X p 2 (lwz a) q) (ha : a = 0) : lwJ P n A c1 X p 2 (fun S => S) q := fun m S hA r hr => h m S hA r (by rw [ha]; exact hr)
-- how many of what waits is small
theorem cw_allN {m : Int} {W : Nat → Int} (a : Nat) : ∀ k : Nat, (∀ j : Nat, a ≤ j → j < a + k → W j < m) → cw m W (a + k) = cw m W a + k := by
  intro k
  induction k with
  | zero => intro _; show cw m W a = cw m W a + ((0 : Nat) : Int); omega
  | succ k ih =>
    intro h
    rw [show a + (k + 1) = (a + k) + 1 by omega, cw_succ, ih (fun j h1 h2 => h j h1 (by omega)), if_pos (h (a + k) (by omega) (by omega))]
    omega
theorem cw_leN (m : Int) (W : Nat → Int) (a : Nat) : ∀ k : Nat, cw m W (a + k) ≤ cw m W a + k := by
  intro k
  induction k with
  | zero => show cw m W a ≤ cw m W a + ((0 : Nat) : Int); omega
  | succ k ih =>
    rw [show a + (k + 1) = (a + k) + 1 by omega, cw_succ]
    by_cases h : W (a + k) < m
    · rw [if_pos h]; omega
    · rw [if_neg h]; omega
theorem cw_all {m a b : Int} {W : Nat → Int} (ha : 0 ≤ a) (hab : a ≤ b) (h : ∀ j : Nat, a ≤ (j : Int) → (j : Int) < b → W j < m) : cw m W b.toNat = cw m W a.toNat + (b - a) := by
  have h1 := cw_allN (m := m) (W := W) a.toNat (b - a).toNat (fun j h1 h2 => h j (by omega) (by omega))
  rw [show a.toNat + (b - a).toNat = b.toNat by omega] at h1
  omega
theorem cw_le (m : Int) (W : Nat → Int) {a b : Int} (ha : 0 ≤ a) (hab : a ≤ b) : cw m W b.toNat ≤ cw m W a.toNat + (b - a) := by
  have h1 := cw_leN m W a.toNat (b - a).toNat
  rw [show a.toNat + (b - a).toNat = b.toNat by omega] at h1
  omega
theorem cw_less {m a b : Int} {W : Nat → Int} (ha : 0 ≤ a) {j : Nat} (h1 : a ≤ (j : Int)) (h2 : (j : Int) < b) (h : m ≤ W j) : cw m W b.toNat ≤ cw m W a.toNat + (b - a) - 1 := by
  have g1 := cw_leN m W a.toNat (j - a.toNat)
  have g2 := cw_leN m W (j + 1) (b.toNat - (j + 1))
  rw [show a.toNat + (j - a.toNat) = j by omega] at g1
  rw [show j + 1 + (b.toNat - (j + 1)) = b.toNat by omega, cw_succ, if_neg (by omega)] at g2
  omega
-- the [ among what waits from a on
def lwQ (W : Nat → Int) (a w : Int) : Int := w - a - cw 7340032 W w.toNat
theorem lwQ_all {W : Nat → Int} {a b c : Int} (h0 : 0 ≤ b) (hbc : b ≤ c) (h : ∀ j : Nat, b ≤ (j : Int) → (j : Int) < c → W j < 7340032) : lwQ W a b = lwQ W a c := by
  have h1 := cw_all (m := 7340032) (W := W) h0 hbc h
  unfold lwQ; omega
theorem lwQ_push {W V : Nat → Int} {a w v x : Int} (hV : V = updZ W w.toNat v) (hw : 0 ≤ w) (hv : v < 7340032) (hx : lwQ W a w = x) : lwQ V a (w + 1) = x := by
  rw [← hx, hV]; unfold lwQ; rw [cw_push_lt 7340032 W hw hv]; omega
theorem lwQ_more {W V : Nat → Int} {a w w2 x : Int} (h : cw 7340032 V w2.toNat = cw 7340032 W w.toNat) (hx : lwQ W a w = x) : lwQ V a w2 = w2 - w + x := by
  rw [← hx]; unfold lwQ; omega
theorem lwQ_pop {W : Nat → Int} {a w x : Int} (hw : 1 ≤ w) (h : 7340032 ≤ W (w - 1).toNat) (hx : lwQ W a w = x) : x = lwQ W a (w - 1) + 1 := by
  rw [← hx]; unfold lwQ; rw [cw_pop_ge 7340032 W hw h]; omega
theorem lwQ_nn {W : Nat → Int} {a w : Int} (ha : 0 ≤ a) (haw : a ≤ w) (hz : cw 7340032 W a.toNat = 0) : 0 ≤ lwQ W a w := by
  have h1 := cw_le 7340032 W ha haw
  unfold lwQ; omega
theorem lwQ_ge {W : Nat → Int} {a w : Int} (ha : 0 ≤ a) {j : Nat} (h1 : a ≤ (j : Int)) (h2 : (j : Int) < w) (h : 7340032 ≤ W j) (hz : cw 7340032 W a.toNat = 0) : 1 ≤ lwQ W a w := by
  have h3 := cw_less ha h1 h2 h
  unfold lwQ; omega
theorem lwQ_0 {W : Nat → Int} {a w : Int} (h : w = a) (hz : cw 7340032 W a.toNat = 0) : lwQ W a w = 0 := by
  rw [h]; unfold lwQ; omega
theorem lwQ_z {W V : Nat → Int} {a : Int} (hs : SB a V W) (hG : Ge 10485760 V a) (ha : 0 ≤ a) : cw 7340032 W a.toNat = 0 := cw_zero _ (fun j hj => by rw [hs j (by omega)]; have := hG j (by omega); omega)
theorem lwQ_f {W : Nat → Int} {a w : Int} (h : cw 7340032 W w.toNat = 0) : lwQ W a w = w - a := by unfold lwQ; omega
/-- no ], or no [ that waits for one -/
def lw93 (h a w : Int) (W : Nat → Int) : Prop := h ≠ 93 ∨ ∀ j : Nat, a ≤ (j : Int) → (j : Int) < w → W j / 1048576 ≠ 14
theorem lw93.no {h a w : Int} {W : Nat → Int} (H : lw93 h a w W) {j : Nat} (h1 : a ≤ (j : Int)) (h2 : (j : Int) < w) (h3 : W j / 1048576 = 14) : h ≠ 93 := Or.resolve_right H (fun k => k j h1 h2 h3)
-- what is open of what waits
theorem lwL_same {W V : Nat → Int} : ∀ k : Nat, (∀ j : Nat, j < k → V j = W j) → lwL V k = lwL W k := by
  intro k
  induction k with
  | zero => intro _; rfl
  | succ k ih =>
    intro h
    show (if V k / 1048576 = 13 then 1 :: lwL V k else if V k / 1048576 = 10 then 2 :: lwL V k else lwL V k) = (if W k / 1048576 = 13 then 1 :: lwL W k else if W k / 1048576 = 10 then 2 :: lwL W k else lwL W k)
    rw [h k (by omega), ih (fun j hj => h j (by omega))]
theorem lwL_13 {W : Nat → Int} {w : Int} (hw : 1 ≤ w) (h : W (w - 1).toNat / 1048576 = 13) : lwL W w.toNat = 1 :: lwL W (w - 1).toNat := by
  rw [show w.toNat = (w - 1).toNat + 1 by omega]
  show (if W (w - 1).toNat / 1048576 = 13 then 1 :: lwL W (w - 1).toNat else if W (w - 1).toNat / 1048576 = 10 then 2 :: lwL W (w - 1).toNat else lwL W (w - 1).toNat) = _
  rw [if_pos h]
theorem lwL_10 {W : Nat → Int} {w : Int} (hw : 1 ≤ w) (h : W (w - 1).toNat / 1048576 = 10) : lwL W w.toNat = 2 :: lwL W (w - 1).toNat := by
  rw [show w.toNat = (w - 1).toNat + 1 by omega]
  show (if W (w - 1).toNat / 1048576 = 13 then 1 :: lwL W (w - 1).toNat else if W (w - 1).toNat / 1048576 = 10 then 2 :: lwL W (w - 1).toNat else lwL W (w - 1).toNat) = _
  rw [if_neg (by omega), if_pos h]
theorem lwL_no {W : Nat → Int} {w : Int} (hw : 1 ≤ w) (h : W (w - 1).toNat / 1048576 ≠ 13) (h2 : W (w - 1).toNat / 1048576 ≠ 10) : lwL W w.toNat = lwL W (w - 1).toNat := by
  rw [show w.toNat = (w - 1).toNat + 1 by omega]
  show (if W (w - 1).toNat / 1048576 = 13 then 1 :: lwL W (w - 1).toNat else if W (w - 1).toNat / 1048576 = 10 then 2 :: lwL W (w - 1).toNat else lwL W (w - 1).toNat) = _
  rw [if_neg h, if_neg h2]
theorem lwL_up (W : Nat → Int) (v : Int) {w : Int} : lwL (updZ W w.toNat v) w.toNat = lwL W w.toNat := lwL_same _ (fun j hj => updZ_n _ _ (by omega))
theorem lwL_p13 (W : Nat → Int) {w v : Int} (hw : 0 ≤ w) (hv : v / 1048576 = 13) : lwL (updZ W w.toNat v) (w + 1).toNat = 1 :: lwL W w.toNat := by
  rw [lwL_13 (by omega) (by rw [show w + 1 - 1 = w by omega, updZ_s]; exact hv), show w + 1 - 1 = w by omega, lwL_up]
theorem lwL_p10 (W : Nat → Int) {w v : Int} (hw : 0 ≤ w) (hv : v / 1048576 = 10) : lwL (updZ W w.toNat v) (w + 1).toNat = 2 :: lwL W w.toNat := by
  rw [lwL_10 (by omega) (by rw [show w + 1 - 1 = w by omega, updZ_s]; exact hv), show w + 1 - 1 = w by omega, lwL_up]
theorem lwL_pno (W : Nat → Int) {w v : Int} (hw : 0 ≤ w) (hv : v / 1048576 = 11 ∨ v / 1048576 = 12) : lwL (updZ W w.toNat v) (w + 1).toNat = lwL W w.toNat := by
  rw [lwL_no (by omega) (by rw [show w + 1 - 1 = w by omega, updZ_s]; omega) (by rw [show w + 1 - 1 = w by omega, updZ_s]; omega), show w + 1 - 1 = w by omega, lwL_up]
theorem lwL_skipN {W : Nat → Int} (a : Nat) : ∀ k : Nat, (∀ j : Nat, a ≤ j → j < a + k → 11534336 ≤ W j ∧ W j < 13631488) → lwL W (a + k) = lwL W a := by
  intro k
  induction k with
  | zero => intro _; rfl
  | succ k ih =>
    intro h
    have h1 := h (a + k) (by omega) (by omega)
    show (if W (a + k) / 1048576 = 13 then 1 :: lwL W (a + k) else if W (a + k) / 1048576 = 10 then 2 :: lwL W (a + k) else lwL W (a + k)) = _
    rw [if_neg (by omega), if_neg (by omega)]
    exact ih (fun j g1 g2 => h j g1 (by omega))
theorem lwL_skip {W : Nat → Int} {a b : Int} (ha : 0 ≤ a) (hab : a ≤ b) (h : ∀ j : Nat, a ≤ (j : Int) → (j : Int) < b → 11534336 ≤ W j ∧ W j < 13631488) : lwL W a.toNat = lwL W b.toNat := by
  have h1 := lwL_skipN (W := W) a.toNat (b.toNat - a.toNat) (fun j g1 g2 => h j (by omega) (by omega))
  rw [show a.toNat + (b.toNat - a.toNat) = b.toNat by omega] at h1
  exact h1.symm
theorem lwL_ne {W : Nat → Int} (h : W 0 / 1048576 = 13) : ∀ k : Nat, lwL W (k + 1) ≠ [] := by
  intro k
  induction k with
  | zero =>
    show (if W 0 / 1048576 = 13 then 1 :: lwL W 0 else if W 0 / 1048576 = 10 then 2 :: lwL W 0 else lwL W 0) ≠ []
    rw [if_pos h]; exact fun e => nomatch e
  | succ k ih =>
    show (if W (k + 1) / 1048576 = 13 then 1 :: lwL W (k + 1) else if W (k + 1) / 1048576 = 10 then 2 :: lwL W (k + 1) else lwL W (k + 1)) ≠ []
    by_cases h1 : W (k + 1) / 1048576 = 13
    · rw [if_pos h1]; exact fun e => nomatch e
    · rw [if_neg h1]
      by_cases h2 : W (k + 1) / 1048576 = 10
      · rw [if_pos h2]; exact fun e => nomatch e
      · rw [if_neg h2]; exact ih
theorem lwD_1 (S : List Nat) : lwD (1 :: S) = lwD S + 1 := rfl
theorem lwD_2 (S : List Nat) : lwD (2 :: S) = lwD S + 1 := rfl
theorem lwD_3 (S : List Nat) : lwD (3 :: S) = lwD S := rfl
theorem lwD_4 (S : List Nat) : lwD (4 :: S) = lwD S := rfl
theorem lwD_5 (S : List Nat) : lwD (5 :: S) = lwD S := rfl
theorem lwG.same {W V : Nat → Int} {w w2 : Nat} (H : lwG W w) (h : ∀ j : Nat, j < w → V j = W j) (h2 : w2 ≤ w) (h0 : 0 < w) : lwG V w2 := by
  refine ⟨by rw [h 0 h0]; exact H.1, fun j hj => ?_⟩
  rw [h j (by omega), lwL_same j (fun i hi => h i (by omega))]
  exact H.2 j (by omega)
theorem lwG.less {W : Nat → Int} {w w2 : Nat} (H : lwG W w) (h2 : w2 ≤ w) : lwG W w2 := ⟨H.1, fun j hj => H.2 j (by omega)⟩
theorem lwG.push {W : Nat → Int} {w v : Int} (H : lwG W w.toNat) (hw : 1 ≤ w) (hv : v / 1048576 ≤ 13) (h : 11 ≤ v / 1048576 → v / 1048576 ≤ 12 → ∃ S1, lwL W w.toNat = 1 :: S1) : lwG (updZ W w.toNat v) (w + 1).toNat := by
  refine ⟨by rw [updZ_n _ _ (by omega)]; exact H.1, fun j hj => ?_⟩
  rcases (show j < w.toNat ∨ j = w.toNat by omega) with h1 | h1
  · rw [updZ_n _ _ (by omega), lwL_same (W := W) j (fun i hi => updZ_n _ _ (by omega))]
    exact H.2 j h1
  · rw [h1, updZ_s, lwL_up]; exact ⟨hv, h⟩
theorem lwG.top {W : Nat → Int} {w : Int} (H : lwG W w.toNat) (hw : 1 ≤ w) (h10 : W (w - 1).toNat / 1048576 ≠ 10) (hg : 10485760 ≤ W (w - 1).toNat) : ∃ S1, lwL W w.toNat = 1 :: S1 := by
  have h1 := H.2 (w - 1).toNat (by omega)
  by_cases h : W (w - 1).toNat / 1048576 = 13
  · exact ⟨_, lwL_13 hw h⟩
  · obtain ⟨S1, e⟩ := h1.2 (by omega) (by omega)
    exact ⟨S1, by rw [lwL_no hw h h10]; exact e⟩
/-- a ( stands at the top where one is open and no & and no | waits -/
theorem lwG.at {W : Nat → Int} {w : Int} (H : lwG W w.toNat) (hw : 1 ≤ w) (hg : 10485760 ≤ W (w - 1).toNat) (ht : W (w - 1).toNat < 11534336 ∨ 13631488 ≤ W (w - 1).toNat) {S1 : List Nat} (e : lwL W w.toNat = 1 :: S1) : W (w - 1).toNat / 1048576 = 13 ∧ S1 = lwL W (w - 1).toNat := by
  have h1 := (H.2 (w - 1).toNat (by omega)).1
  have h2 : W (w - 1).toNat / 1048576 ≠ 10 := fun h => by rw [lwL_10 hw h] at e; exact absurd (List.cons.inj e).1 (by decide)
  have h3 : W (w - 1).toNat / 1048576 = 13 := by omega
  exact ⟨h3, by rw [lwL_13 hw h3] at e; exact (List.cons.inj e).2.symm⟩
theorem lw_one {W V : Nat → Int} {w : Int} (hV : V = updZ W (0 : Int).toNat (1048576 * 13)) (hw : w = 1) : lwL V w.toNat = [1] ∧ lwG V w.toNat := by
  have h0 : V 0 = 1048576 * 13 := by rw [hV]; exact updZ_s _ _ _
  have h1 : V 0 / 1048576 = 13 := by rw [h0]; decide
  refine ⟨by rw [hw]; exact lwL_13 (W := V) (w := 1) (by omega) h1, h1, fun j hj => ?_⟩
  rw [show j = 0 by omega]
  exact ⟨by omega, fun a b => absurd b (by omega)⟩
theorem lwJ.no {W V : Nat → Int} {w : Int} (h : lwJ P n A c1 X p 3 (fun _ => lwL W w.toNat) q) (hq : P q = 33) (hd : ¬ 6 ≤ lwD (lwL W w.toNat)) (hw : 0 ≤ w) (hs : s = q + 1) (hV : V = updZ W w.toNat (1048576 * 10)) : lwJ P n A c1 X p 3 (fun _ => lwL V (w + 1).toNat) s := h.trans (lwJ.go (fun m S _ => by rw [lwT_3, lwO_not hq hd, hV, lwL_p10 W hw (by decide), hs]))
theorem lwJ.op {W V : Nat → Int} {w : Int} (h : lwJ P n A c1 X p 3 (fun _ => lwL W w.toNat) q) (hq : P q = 40) (hd : ¬ 6 ≤ lwD (lwL W w.toNat)) (hw : 0 ≤ w) (hs : s = q + 1) (hV : V = updZ W w.toNat (1048576 * 13)) : lwJ P n A c1 X p 3 (fun _ => lwL V (w + 1).toNat) s := h.trans (lwJ.go (fun m S _ => by rw [lwT_3, lwO_op hq hd, hV, lwL_p13 W hw (by decide), hs]))
theorem lwJ.opx {W : Nat → Int} {w : Int} (h : lwJ P n A c1 X p 3 (fun _ => lwL W w.toNat) q) (hq : P q = 33 ∨ P q = 40) (hd : 6 ≤ lwD (lwL W w.toNat)) (hf : f = -5000 - q) : lwV P n A c1 X p f := h.v (lwV.fin (fun m S _ => by rcases hq with hq | hq; (rw [lwT_3, lwO_notx hq hd, hf]); (rw [lwT_3, lwO_opx hq hd, hf])))
theorem lwJ.and {W V : Nat → Int} {w w1 v : Int} (h : lwJ P n A c1 X p 4 (fun _ => lwL W w.toNat) q) (hq : P q = 38 ∨ P q = 124) {S1 : List Nat} (e : lwL W w.toNat = 1 :: S1) (e1 : lwL W w1.toNat = lwL W w.toNat) (hw : 0 ≤ w1) (hs : s = q + 1) (hv : v / 1048576 = 11 ∨ v / 1048576 = 12) (hV : V = updZ W w1.toNat v) : lwJ P n A c1 X p 3 (fun _ => lwL V (w1 + 1).toNat) s := h.trans (lwJ.go (fun m S _ => by rw [lwT_4, hV, lwL_pno W hw hv, e1, e, lwA_1, if_neg (by omega), if_pos hq, hs]))
theorem lwJ.andx {W : Nat → Int} {w : Int} (h : lwJ P n A c1 X p 4 (fun _ => lwL W w.toNat) q) (h0 : P q ≠ 41) (h1 : P q ≠ 38) (h2 : P q ≠ 124) {S1 : List Nat} (e : lwL W w.toNat = 1 :: S1) (hf : f = -1000 - q) : lwV P n A c1 X p f := h.v (lwV.fin (fun m S _ => by rw [lwT_4, e, lwA_1, if_neg h0, if_neg (by omega), hf]))
/-- a ) that closes the last -/
theorem lwJ.end {W : Nat → Int} {w : Int} (h : lwJ P n A c1 X p 4 (fun _ => lwL W w.toNat) q) (hq : P q = 41) (e : lwL W w.toNat = [1]) (hs : s = q + 1) : lwJ P n A c1 X p 6 (fun _ => []) s := h.trans (lwJ.go (fun m S _ => by rw [lwT_4, e, lwA_1, if_pos hq, if_pos rfl, hs]))
/-- and one that does not -/
theorem lwJ.cl {W : Nat → Int} {w w1 : Int} (h : lwJ P n A c1 X p 4 (fun _ => lwL W w.toNat) q) (hq : P q = 41) (e : lwL W w.toNat = 1 :: lwL W w1.toNat) (h0 : W 0 / 1048576 = 13) (hw : 1 ≤ w1) (hs : s = q + 1) : lwJ P n A c1 X p 4 (fun _ => lwL W w1.toNat) s := h.trans (lwJ.go (fun m S _ => by rw [lwT_4, e, lwA_1, if_pos hq, if_neg (by rw [show w1.toNat = (w1.toNat - 1) + 1 by omega]; exact lwL_ne h0 _), hs]))
end LWR
