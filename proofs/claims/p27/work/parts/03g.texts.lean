-- texts read sign by sign: what is wrong first, and where
def sgP (e : Int) (b : Nat → Int) (p : Int) : Int := if p < e then b p.toNat else -1
def sq (a b : Int) : Int := if a = 0 then b else a
theorem sq_0 (b : Int) : sq 0 b = b := if_pos rfl
theorem sq_n {a : Int} (b : Int) (h : a ≠ 0) : sq a b = a := if_neg h
theorem sq_e (a b : Int) : (a = 0 ∧ sq a b = b) ∨ (a ≠ 0 ∧ sq a b = a) := by
  by_cases h : a = 0
  · exact Or.inl ⟨h, by rw [h, sq_0]⟩
  · exact Or.inr ⟨h, sq_n b h⟩
def psC (P : Int → Int) (s p : Int) : Int := if P p = s then 0 else -1000 - p
theorem psC_e (P : Int → Int) (s p : Int) : (P p = s ∧ psC P s p = 0) ∨ (P p ≠ s ∧ psC P s p = -1000 - p) := by
  by_cases h : P p = s
  · exact Or.inl ⟨h, if_pos h⟩
  · exact Or.inr ⟨h, if_neg h⟩
def oneC (P : Int → Int) (f m p : Int) : Int := if f ≤ P p ∧ P p < f + m then 0 else -1000 - p
theorem oneC_e (P : Int → Int) (f m p : Int) : ((f ≤ P p ∧ P p < f + m) ∧ oneC P f m p = 0) ∨ (¬ (f ≤ P p ∧ P p < f + m) ∧ oneC P f m p = -1000 - p) := by
  by_cases h : f ≤ P p ∧ P p < f + m
  · exact Or.inl ⟨h, if_pos h⟩
  · exact Or.inr ⟨h, if_neg h⟩
def ltC (a b p : Int) : Int := if a < b then -3000 - p else 0
theorem ltC_e (a b p : Int) : (a < b ∧ ltC a b p = -3000 - p) ∨ (¬ a < b ∧ ltC a b p = 0) := by
  by_cases h : a < b
  · exact Or.inl ⟨h, if_pos h⟩
  · exact Or.inr ⟨h, if_neg h⟩
/-- digits from a place on, so many at most: (what is wrong, the place behind, the number) -/
def nm (P : Int → Int) : Nat → Int → Int → Int × Int × Int
  | 0, p, v => if 48 ≤ P p ∧ P p ≤ 57 then (-2000 - p, p, v) else (0, p, v)
  | k + 1, p, v => if 48 ≤ P p ∧ P p ≤ 57 then nm P k (p + 1) (10 * v + P p - 48) else (0, p, v)
def am (P : Int → Int) (d : Nat) (p : Int) : Int × Int × Int := if 48 ≤ P p ∧ P p ≤ 57 then nm P d p 0 else (-1000 - p, p, 0)
def aC (P : Int → Int) (d : Nat) (p : Int) : Int := (am P d p).1
def aQ (P : Int → Int) (d : Nat) (p : Int) : Int := (am P d p).2.1
def aV (P : Int → Int) (d : Nat) (p : Int) : Int := (am P d p).2.2
theorem nm_n {P : Int → Int} (k : Nat) {p : Int} (v : Int) (h : ¬ (48 ≤ P p ∧ P p ≤ 57)) : nm P k p v = (0, p, v) := by
  cases k <;> exact if_neg h
theorem nm_0 {P : Int → Int} {x p : Int} (v : Int) (hx : x ≤ 0) (h : 48 ≤ P p ∧ P p ≤ 57) : nm P x.toNat p v = (-2000 - p, p, v) := by
  rw [show x.toNat = 0 by omega]; exact if_pos h
theorem nm_y {P : Int → Int} {x p : Int} (v : Int) (hx : 0 < x) (h : 48 ≤ P p ∧ P p ≤ 57) : nm P x.toNat p v = nm P (x - 1).toNat (p + 1) (10 * v + P p - 48) := by
  rw [show x.toNat = (x - 1).toNat + 1 by omega]; exact if_pos h
theorem am_n {P : Int → Int} (d : Nat) {p : Int} (h : ¬ (48 ≤ P p ∧ P p ≤ 57)) : am P d p = (-1000 - p, p, 0) := if_neg h
theorem am_y {P : Int → Int} (d : Nat) {p : Int} (h : 48 ≤ P p ∧ P p ≤ 57) : am P d p = nm P d p 0 := if_pos h
/-- the loop over digits: what is still to be read comes to what was to be read -/
def NR (P : Int → Int) (x p v : Int) (d : Nat) (p0 : Int) : Prop := nm P x.toNat p v = am P d p0
theorem NR.ini {P : Int → Int} {x p : Int} {d : Nat} {p0 v : Int} (h : 48 ≤ P p0 ∧ P p0 ≤ 57) (hx : x = (d : Int)) (hp : p = p0) (hv : v = 0) : NR P x p v d p0 := by
  subst hp; subst hv
  unfold NR
  rw [am_y d h, show x.toNat = d by omega]
theorem NR.step {P : Int → Int} {x p v : Int} {d : Nat} {p0 x1 p1 v1 : Int} (h : NR P x p v d p0) (hx : 0 < x) (hd : 48 ≤ P p ∧ P p ≤ 57) (e1 : x1 = x - 1) (e2 : p1 = p + 1) (e3 : v1 = 10 * v + P p - 48) : NR P x1 p1 v1 d p0 := by
  subst e1; subst e2; subst e3
  unfold NR at *
  rw [← h, nm_y v hx hd]
theorem NR.last {P : Int → Int} {x p v : Int} {d : Nat} {p0 : Int} (h : NR P x p v d p0) (hx : x ≤ 0) (hd : 48 ≤ P p ∧ P p ≤ 57) : aC P d p0 = -2000 - p := by
  unfold aC NR at *
  rw [← h, nm_0 v hx hd]
theorem NR.out {P : Int → Int} {x p v : Int} {d : Nat} {p0 : Int} (h : NR P x p v d p0) (hd : ¬ (48 ≤ P p ∧ P p ≤ 57)) : aC P d p0 = 0 ∧ aQ P d p0 = p ∧ aV P d p0 = v := by
  unfold aC aQ aV NR at *
  rw [← h, nm_n _ v hd]
  exact ⟨rfl, rfl, rfl⟩
theorem aC_bad {P : Int → Int} (d : Nat) {p : Int} (h : ¬ (48 ≤ P p ∧ P p ≤ 57)) : aC P d p = -1000 - p := by
  unfold aC
  rw [am_n d h]
-- a reader that remembers what was wrong first
def TS (f fa a c q : Int) : Prop := (f = 0 ∧ c = 0 ∧ a = q) ∨ (1 ≤ f ∧ 0 ≤ fa ∧ c = -1000 * f - fa)
def TG (f fa a f1 fa1 a1 k q : Int) : Prop := (f ≠ 0 → f1 = f ∧ fa1 = fa) ∧ (f = 0 → TS f1 fa1 a1 k q)
theorem TG.trans {f fa a f1 fa1 a1 f2 fa2 a2 k1 q1 : Int} (k q : Int → Int) (h1 : TG f fa a f1 fa1 a1 k1 q1) (h2 : TG f1 fa1 a1 f2 fa2 a2 (k a1) (q a1)) : TG f fa a f2 fa2 a2 (sq k1 (k q1)) (q q1) := by
  refine ⟨fun h => ?_, fun h => ?_⟩
  · obtain ⟨e1, e2⟩ := h1.1 h
    obtain ⟨e3, e4⟩ := h2.1 (by omega)
    exact ⟨by omega, by omega⟩
  · rcases h1.2 h with ⟨g1, g2, g3⟩ | ⟨g1, g2, g3⟩
    · subst g2; subst g3
      rw [sq_0]
      exact h2.2 g1
    · obtain ⟨e3, e4⟩ := h2.1 (by omega)
      rw [sq_n _ (by omega)]
      exact Or.inr ⟨by omega, by omega, by omega⟩
theorem TG.id0 (f fa a : Int) : TG f fa a f fa a 0 a := ⟨fun _ => ⟨rfl, rfl⟩, fun h => Or.inl ⟨h, rfl, rfl⟩⟩
theorem TG.k {f fa a f1 fa1 a1 k q : Int} (k2 : Int) (h : TG f fa a f1 fa1 a1 k q) (e : f = 0 → k = k2) : TG f fa a f1 fa1 a1 k2 q := ⟨h.1, fun h1 => e h1 ▸ h.2 h1⟩
theorem TG.fl {f fa a f1 fa1 n w : Int} (h : (f ≠ 0 ∧ f1 = f ∧ fa1 = fa) ∨ (f = 0 ∧ f1 = n ∧ fa1 = w)) (hn : 1 ≤ n) (hw : 0 ≤ w) : TG f fa a f1 fa1 a (-1000 * n - w) a := ⟨fun h1 => by omega, fun h1 => Or.inr (by omega)⟩
theorem TG.at0 {f fa a f1 fa1 a1 k q : Int} (h : TG f fa a f1 fa1 a1 k q) (h1 : f1 = 0) : f = 0 ∧ k = 0 ∧ a1 = q := by
  have h0 : f = 0 := by
    by_cases h2 : f = 0
    · exact h2
    · have := h.1 h2; omega
  rcases h.2 h0 with ⟨g1, g2, g3⟩ | ⟨g1, g2, g3⟩
  · exact ⟨h0, g2, g3⟩
  · omega
theorem TG.bad {f fa a f1 fa1 a1 k q : Int} (h : TG f fa a f1 fa1 a1 k q) (h0 : f = 0) (h1 : f1 ≠ 0) : k = -1000 * f1 - fa1 ∧ 1 ≤ f1 ∧ 0 ≤ fa1 := by
  rcases h.2 h0 with ⟨g1, g2, g3⟩ | ⟨g1, g2, g3⟩
  · exact absurd g1 h1
  · exact ⟨g3, g1, g2⟩
theorem TG.of_y {f fa a a1 k q : Int} (h1 : f = 0) (h2 : k = 0) (h3 : a1 = q) : TG f fa a f fa a1 k q := ⟨fun h => absurd h1 h, fun _ => Or.inl ⟨h1, h2, h3⟩⟩
theorem TG.of_n {f fa a f1 fa1 a2 k2 q2 a1 k q : Int} (h : TG f fa a f1 fa1 a2 k2 q2) (h0 : k2 ≠ 0) (hk : f = 0 → k = k2) : TG f fa a f1 fa1 a1 k q := by
  refine ⟨h.1, fun h1 => ?_⟩
  rcases h.2 h1 with ⟨g1, g2, g3⟩ | ⟨g1, g2, g3⟩
  · exact absurd g2 h0
  · exact Or.inr ⟨g1, g2, by rw [hk h1]; exact g3⟩
theorem TG.q {f fa a f1 fa1 a1 a2 k q q2 : Int} (h : TG f fa a f1 fa1 a1 k q) (e : f1 = 0 → a1 = q → a2 = q2) : TG f fa a f1 fa1 a2 k q2 := by
  refine ⟨h.1, fun h1 => ?_⟩
  rcases h.2 h1 with ⟨g1, g2, g3⟩ | ⟨g1, g2, g3⟩
  · exact Or.inl ⟨g1, g2, e g1 g3⟩
  · exact Or.inr ⟨g1, g2, g3⟩
theorem TG.ps_y {f fa a e s a1 : Int} {b : Nat → Int} (h1 : f = 0) (h2 : sgP e b a = s) (h3 : a1 = a + 1) : TG f fa a f fa a1 (psC (sgP e b) s a) (a + 1) := ⟨fun _ => ⟨rfl, rfl⟩, fun _ => Or.inl ⟨h1, if_pos h2, h3⟩⟩
theorem TG.ps_n {f fa a e s f1 fa1 : Int} {b : Nat → Int} (h1 : TG f fa a f1 fa1 a (-1000 * 1 - a) a) (ha : 0 ≤ a) (h2 : f = 0 → sgP e b a ≠ s) : TG f fa a f1 fa1 a (psC (sgP e b) s a) (a + 1) := by
  refine ⟨h1.1, fun h => ?_⟩
  rcases h1.2 h with ⟨g1, g2, g3⟩ | ⟨g1, g2, g3⟩
  · omega
  · refine Or.inr ⟨g1, g2, ?_⟩
    rw [← g3]
    unfold psC
    rw [if_neg (h2 h)]
    omega
theorem TG.one_y {f fa a e n m a1 : Int} {b : Nat → Int} (h1 : f = 0) (h2 : n ≤ sgP e b a ∧ sgP e b a < n + m) (h3 : a1 = a + 1) : TG f fa a f fa a1 (oneC (sgP e b) n m a) (a + 1) := ⟨fun _ => ⟨rfl, rfl⟩, fun _ => Or.inl ⟨h1, if_pos h2, h3⟩⟩
theorem TG.one_n {f fa a e n m f1 fa1 : Int} {b : Nat → Int} (h1 : TG f fa a f1 fa1 a (-1000 * 1 - a) a) (ha : 0 ≤ a) (h2 : f = 0 → ¬ (n ≤ sgP e b a ∧ sgP e b a < n + m)) : TG f fa a f1 fa1 a (oneC (sgP e b) n m a) (a + 1) := by
  refine ⟨h1.1, fun h => ?_⟩
  rcases h1.2 h with ⟨g1, g2, g3⟩ | ⟨g1, g2, g3⟩
  · omega
  · refine Or.inr ⟨g1, g2, ?_⟩
    rw [← g3]
    unfold oneC
    rw [if_neg (h2 h)]
    omega
/-- the class's loop over digits -/
def NI (P : Int → Int) (p0 f0 fa0 a0 x v f fa a : Int) : Prop := (f0 ≠ 0 ∧ f = f0 ∧ fa = fa0) ∨ (f0 = 0 ∧ f = 0 ∧ x ≤ p0 ∧ NR P (p0 - x) a v p0.toNat a0) ∨ (f0 = 0 ∧ 1 ≤ f ∧ 0 ≤ fa ∧ aC P p0.toNat a0 = -1000 * f - fa)
theorem NI.ini_y {P : Int → Int} {p0 f0 fa0 a0 x v : Int} (hp : 0 ≤ p0) (hx : x = 0) (hv : v = 0) (hd : f0 = 0 → 48 ≤ P a0 ∧ P a0 ≤ 57) : NI P p0 f0 fa0 a0 x v f0 fa0 a0 := by
  by_cases h : f0 = 0
  · exact Or.inr (Or.inl ⟨h, h, by omega, NR.ini (hd h) (by omega) rfl hv⟩)
  · exact Or.inl ⟨h, rfl, rfl⟩
theorem NI.ini_n {P : Int → Int} {p0 f0 fa0 a0 x v f fa : Int} (h : TG f0 fa0 a0 f fa a0 (-1000 * 1 - a0) a0) (ha : 0 ≤ a0) (hd : f0 = 0 → ¬ (48 ≤ P a0 ∧ P a0 ≤ 57)) : NI P p0 f0 fa0 a0 x v f fa a0 := by
  by_cases h0 : f0 = 0
  · rcases h.2 h0 with ⟨g1, g2, g3⟩ | ⟨g1, g2, g3⟩
    · omega
    · exact Or.inr (Or.inr ⟨h0, g1, g2, by rw [aC_bad _ (hd h0)]; omega⟩)
  · exact Or.inl ⟨h0, h.1 h0⟩
theorem NI.step {P : Int → Int} {p0 f0 fa0 a0 x v f fa a x1 v1 a1 : Int} (h : NI P p0 f0 fa0 a0 x v f fa a) (hf : f = 0) (hx : x < p0) (hd : 48 ≤ P a ∧ P a ≤ 57) (e1 : x1 = x + 1) (e2 : a1 = a + 1) (e3 : v1 = 10 * v + P a - 48) : NI P p0 f0 fa0 a0 x1 v1 f fa a1 := by
  rcases h with ⟨g1, g2, g3⟩ | ⟨g1, g2, g3, g4⟩ | ⟨g1, g2, g3, g4⟩
  · omega
  · exact Or.inr (Or.inl ⟨g1, g2, by omega, NR.step g4 (by omega) hd (by omega) e2 e3⟩)
  · omega
theorem NI.last {P : Int → Int} {p0 f0 fa0 a0 x v f fa a x1 v1 f1 fa1 a1 : Int} (h : NI P p0 f0 fa0 a0 x v f fa a) (hf : f = 0) (hx : x = p0) (hd : 48 ≤ P a ∧ P a ≤ 57) (e1 : f1 = 2) (e2 : fa1 = a) (ha : 0 ≤ a) : NI P p0 f0 fa0 a0 x1 v1 f1 fa1 a1 := by
  rcases h with ⟨g1, g2, g3⟩ | ⟨g1, g2, g3, g4⟩ | ⟨g1, g2, g3, g4⟩
  · omega
  · have h1 := NR.last g4 (by omega) hd
    exact Or.inr (Or.inr ⟨g1, by omega, by omega, by omega⟩)
  · omega
theorem NI.out {P : Int → Int} {p0 f0 fa0 a0 x v f fa a : Int} (h : NI P p0 f0 fa0 a0 x v f fa a) (hd : f = 0 → x ≤ p0 → ¬ (48 ≤ P a ∧ P a ≤ 57)) : TG f0 fa0 a0 f fa a (aC P p0.toNat a0) (aQ P p0.toNat a0) ∧ (f = 0 → f0 = 0 ∧ v = aV P p0.toNat a0) := by
  rcases h with ⟨g1, g2, g3⟩ | ⟨g1, g2, g3, g4⟩ | ⟨g1, g2, g3, g4⟩
  · exact ⟨⟨fun _ => ⟨g2, g3⟩, fun h1 => absurd h1 g1⟩, fun h1 => absurd h1 (by omega)⟩
  · obtain ⟨h1, h2, h3⟩ := NR.out g4 (hd g2 g3)
    exact ⟨⟨fun h4 => absurd g1 h4, fun _ => Or.inl ⟨g2, h1, h2.symm⟩⟩, fun _ => ⟨g1, h3.symm⟩⟩
  · exact ⟨⟨fun h4 => absurd g1 h4, fun _ => Or.inr ⟨g2, g3, g4⟩⟩, fun h1 => absurd h1 (by omega)⟩
-- stalls
def tdC (T k p : Int) : Int := if hasZ T k = 1 then -6000 - p else 0
theorem tdC_e (T k p : Int) : (hasZ T k = 1 ∧ tdC T k p = -6000 - p) ∨ (hasZ T k ≠ 1 ∧ tdC T k p = 0) := by
  by_cases h : hasZ T k = 1
  · exact Or.inl ⟨h, if_pos h⟩
  · exact Or.inr ⟨h, if_neg h⟩
def st1 (P : Int → Int) (T p : Int) : Int := sq (oneC P 48 8 p) (tdC T (P p - 48) p)
def st2 (P : Int → Int) (T p : Int) : Int := sq (st1 P T p) (psC P 58 (p + 1))
def st3 (P : Int → Int) (T p : Int) : Int := sq (st2 P T p) (aC P 4 (p + 1 + 1))
def sQ2 (P : Int → Int) (p : Int) : Int := aQ P 4 (p + 1 + 1)
def st4 (P : Int → Int) (T p : Int) : Int := sq (st3 P T p) (psC P 45 (sQ2 P p))
def st5 (P : Int → Int) (T p : Int) : Int := sq (st4 P T p) (aC P 4 (sQ2 P p + 1))
def stC (P : Int → Int) (T p : Int) : Int := sq (st5 P T p) (ltC (aV P 4 (p + 1 + 1)) (aV P 4 (sQ2 P p + 1)) (sQ2 P p + 1))
def stQ (P : Int → Int) (p : Int) : Int := aQ P 4 (sQ2 P p + 1)
theorem stC_s (P : Int → Int) (T p : Int) : ((oneC P 48 8 p = 0 ∧ st1 P T p = tdC T (P p - 48) p) ∨ (oneC P 48 8 p ≠ 0 ∧ st1 P T p = oneC P 48 8 p)) ∧ ((st1 P T p = 0 ∧ st2 P T p = psC P 58 (p + 1)) ∨ (st1 P T p ≠ 0 ∧ st2 P T p = st1 P T p)) ∧ ((st2 P T p = 0 ∧ st3 P T p = aC P 4 (p + 1 + 1)) ∨ (st2 P T p ≠ 0 ∧ st3 P T p = st2 P T p)) ∧ ((st3 P T p = 0 ∧ st4 P T p = psC P 45 (sQ2 P p)) ∨ (st3 P T p ≠ 0 ∧ st4 P T p = st3 P T p)) ∧ ((st4 P T p = 0 ∧ st5 P T p = aC P 4 (sQ2 P p + 1)) ∨ (st4 P T p ≠ 0 ∧ st5 P T p = st4 P T p)) ∧ ((st5 P T p = 0 ∧ stC P T p = ltC (aV P 4 (p + 1 + 1)) (aV P 4 (sQ2 P p + 1)) (sQ2 P p + 1)) ∨ (st5 P T p ≠ 0 ∧ stC P T p = st5 P T p)) := ⟨sq_e _ _, sq_e _ _, sq_e _ _, sq_e _ _, sq_e _ _, sq_e _ _⟩
def cnZ (T : Int) : Int := T % 2 + T / 2 % 2 + T / 4 % 2 + T / 8 % 2 + T / 16 % 2 + T / 32 % 2 + T / 64 % 2 + T / 128 % 2 + T / 256 % 2 + T / 512 % 2 + T / 1024 % 2 + T / 2048 % 2
theorem cnZ_8 {T : Int} (h : 0 ≤ T ∧ T ≤ 255) : 0 ≤ cnZ T ∧ cnZ T ≤ 8 := by unfold cnZ; omega
theorem cnZ_upN : ∀ s : Nat, s < 256 → ∀ k : Nat, k < 8 → hasZ (s : Int) k ≠ 1 → cnZ (z_ior s (z_ishl 1 k)) = cnZ s + 1 ∧ 0 ≤ z_ior s (z_ishl 1 k) ∧ z_ior s (z_ishl 1 k) ≤ 255 := by decide +kernel
theorem cnZ_up {T k : Int} (h : 0 ≤ T ∧ T ≤ 255) (hk : 0 ≤ k ∧ k ≤ 7) (hn : hasZ T k ≠ 1) : cnZ (z_ior T (z_ishl 1 k)) = cnZ T + 1 ∧ 0 ≤ z_ior T (z_ishl 1 k) ∧ z_ior T (z_ishl 1 k) ≤ 255 := by
  have h1 := cnZ_upN T.toNat (by omega) k.toNat (by omega)
  rw [show ((T.toNat : Nat) : Int) = T by omega, show ((k.toNat : Nat) : Int) = k by omega] at h1
  exact h1 hn
theorem hasU_N : ∀ s : Nat, s < 256 → ∀ k : Nat, k < 8 → (z_iand (z_iushr (s : Int) k) 1 ≠ 0 ↔ hasZ (s : Int) k = 1) := by decide +kernel
theorem hasU {T k : Int} (h : 0 ≤ T ∧ T ≤ 255) (hk : 0 ≤ k ∧ k ≤ 7) : z_iand (z_iushr T k) 1 ≠ 0 ↔ hasZ T k = 1 := by
  have h1 := hasU_N T.toNat (by omega) k.toNat (by omega)
  rw [show ((T.toNat : Nat) : Int) = T by omega, show ((k.toNat : Nat) : Int) = k by omega] at h1
  exact h1
theorem stC_0 {P : Int → Int} {T p : Int} (h : stC P T p = 0) (hp : 0 ≤ p) : 0 ≤ P p - 48 ∧ P p - 48 ≤ 7 ∧ hasZ T (P p - 48) ≠ 1 := by
  have h1 := stC_s P T p
  have h2 := oneC_e P 48 8 p
  have h3 := tdC_e T (P p - 48) p
  omega
def bitT (P : Int → Int) (T p : Int) : Int := z_ior T (z_ishl 1 (P p - 48))
theorem stC_T {P : Int → Int} {T p : Int} (h : stC P T p = 0) (hp : 0 ≤ p) (hT : 0 ≤ T ∧ T ≤ 255) : cnZ (bitT P T p) = cnZ T + 1 ∧ 0 ≤ bitT P T p ∧ bitT P T p ≤ 255 := by
  obtain ⟨h1, h2, h3⟩ := stC_0 h hp
  exact cnZ_up hT ⟨h1, h2⟩ h3
theorem zI_w {a z : Int} (h : zI a = zI z) (hz : IR z) : z = (zI a).toInt := by rw [h, zI_toInt hz]
def bcZ (p : Int) : Int :=
  let a := (zI (p - z_iand (z_iushr p 1) 1431655765)).toInt
  let b := z_iand a 858993459 + z_iand (z_iushr a 2) 858993459
  let c := z_iand (zI (b + z_iushr b 4)).toInt 252645135
  let d := (zI (c + z_iushr c 8)).toInt
  z_iand (zI (d + z_iushr d 16)).toInt 63
theorem bcZ_N : ∀ a : Nat, a < 64 → ∀ b : Nat, b < 64 → bcZ ((64 * a + b : Nat) : Int) = cnZ ((64 * a + b : Nat) : Int) := by decide +kernel
theorem bcZ_e {p : Int} (h : 0 ≤ p ∧ p ≤ 4095) : bcZ p = cnZ p := by
  have h1 := bcZ_N (p.toNat / 64) (by omega) (p.toNat % 64) (by omega)
  rw [show ((64 * (p.toNat / 64) + p.toNat % 64 : Nat) : Int) = p by omega] at h1
  exact h1
/-- what stock comes to from a stall's place on, so many told -/
def skF (P : Int → Int) (n : Int) : Nat → Int → Int → Int → Int
  | 0, _, _, _ => 0
  | k + 1, q, T, m => if stC P T q = 0 then (if n ≤ stQ P q then m + 1 else if P (stQ P q) = 59 then skF P n k (stQ P q + 1) (bitT P T q) (m + 1) else -1000 - stQ P q) else stC P T q
def skR (P : Int → Int) (n : Int) (k : Nat) (q T m : Int) : Int := if n ≤ q then m else if P q = 59 then skF P n k (q + 1) T m else -1000 - q
def skA (P : Int → Int) (n : Int) : Int := skF P n 9 0 0 0
theorem skF_s {P : Int → Int} {n : Int} {x : Int} (q T m : Int) (hx : 0 < x) : (stC P T q = 0 ∧ skF P n x.toNat q T m = skR P n (x - 1).toNat (stQ P q) (bitT P T q) (m + 1)) ∨ (stC P T q ≠ 0 ∧ skF P n x.toNat q T m = stC P T q) := by
  rw [show x.toNat = (x - 1).toNat + 1 by omega]
  by_cases h : stC P T q = 0
  · exact Or.inl ⟨h, if_pos h⟩
  · exact Or.inr ⟨h, if_neg h⟩
theorem skR_e (P : Int → Int) (n : Int) (k : Nat) (q T m : Int) : (n ≤ q ∧ skR P n k q T m = m) ∨ (q < n ∧ P q = 59 ∧ skR P n k q T m = skF P n k (q + 1) T m) ∨ (q < n ∧ P q ≠ 59 ∧ skR P n k q T m = -1000 - q) := by
  unfold skR
  by_cases h : n ≤ q
  · exact Or.inl ⟨h, if_pos h⟩
  · rw [if_neg h]
    by_cases h1 : P q = 59
    · exact Or.inr (Or.inl ⟨by omega, h1, if_pos h1⟩)
    · exact Or.inr (Or.inr ⟨by omega, h1, if_neg h1⟩)
/-- the class's loop over stalls -/
def SKI (P : Int → Int) (n f fa a T x : Int) : Prop := (f = 0 ∧ cnZ T = x ∧ skF P n (9 - x).toNat a T x = skA P n) ∨ (1 ≤ f ∧ 0 ≤ fa ∧ skA P n = -1000 * f - fa)
theorem SKI.ini {P : Int → Int} {n f fa a T x : Int} (hf : f = 0) (ha : a = 0) (hT : T = 0) (hx : x = 0) : SKI P n f fa a T x := by
  subst hf; subst ha; subst hT; subst hx
  exact Or.inl ⟨rfl, rfl, rfl⟩
def tdT (P : Int → Int) (f f1 T T1 a : Int) : Prop := (f1 = 0 → f = 0 ∧ T1 = bitT P T a)
theorem SKI.one {P : Int → Int} {n f fa a T x f1 fa1 a1 T1 : Int} (h : SKI P n f fa a T x) (hx : 0 ≤ x ∧ x ≤ 8) (hT : 0 ≤ T ∧ T ≤ 255) (ha : 0 ≤ a) (h1 : TG f fa a f1 fa1 a1 (stC P T a) (stQ P a)) (h2 : tdT P f f1 T T1 a) : (f1 = 0 ∧ cnZ T1 = x + 1 ∧ skR P n (8 - x).toNat a1 T1 (x + 1) = skA P n) ∨ (1 ≤ f1 ∧ 0 ≤ fa1 ∧ skA P n = -1000 * f1 - fa1) := by
  rcases h with ⟨g1, g2, g3⟩ | ⟨g1, g2, g3⟩
  · by_cases hf : f1 = 0
    · obtain ⟨k1, k2, k3⟩ := TG.at0 h1 hf
      obtain ⟨k4, k5⟩ := h2 hf
      have k6 := stC_T k2 ha hT
      rcases skF_s (P := P) (n := n) a T x (show 0 < 9 - x by omega) with ⟨m1, m2⟩ | ⟨m1, m2⟩
      · refine Or.inl ⟨hf, by rw [k5]; omega, ?_⟩
        rw [← g3, m2, k3, k5, show 9 - x - 1 = 8 - x by omega]
      · exact absurd k2 m1
    · obtain ⟨k1, k2, k3⟩ := TG.bad h1 g1 hf
      rcases skF_s (P := P) (n := n) a T x (show 0 < 9 - x by omega) with ⟨m1, m2⟩ | ⟨m1, m2⟩
      · omega
      · exact Or.inr ⟨k2, k3, by omega⟩
  · obtain ⟨k1, k2⟩ := h1.1 (by omega)
    exact Or.inr ⟨by omega, by omega, by omega⟩
theorem SKI.over {P : Int → Int} {n f fa a T x f1 fa1 a1 T1 : Int} (h : SKI P n f fa a T x) (hx : 0 ≤ x ∧ x ≤ 8) (hT : 0 ≤ T ∧ T ≤ 255) (ha : 0 ≤ a) (h1 : TG f fa a f1 fa1 a1 (stC P T a) (stQ P a)) (h2 : tdT P f f1 T T1 a) (h3 : f1 ≠ 0 ∨ n ≤ a1) : (f1 = 0 ∧ skA P n = cnZ T1) ∨ (f1 ≠ 0 ∧ skA P n = -1000 * f1 - fa1) := by
  have h4 := SKI.one h hx hT ha h1 h2
  have h5 := skR_e P n (8 - x).toNat a1 T1 (x + 1)
  omega
theorem SKI.step {P : Int → Int} {n f fa a T x f1 fa1 a1 T1 f2 fa2 a2 x1 : Int} (h : SKI P n f fa a T x) (hx : 0 ≤ x ∧ x ≤ 8) (hT : 0 ≤ T ∧ T ≤ 255) (ha : 0 ≤ a) (ha1 : 0 ≤ a1) (h1 : TG f fa a f1 fa1 a1 (stC P T a) (stQ P a)) (h2 : tdT P f f1 T T1 a) (h3 : f1 = 0 ∧ a1 < n) (h4 : TG f1 fa1 a1 f2 fa2 a2 (psC P 59 a1) (a1 + 1)) (e : x1 = x + 1) : SKI P n f2 fa2 a2 T1 x1 := by
  subst e
  have h5 := SKI.one h hx hT ha h1 h2
  have h6 := skR_e P n (8 - x).toNat a1 T1 (x + 1)
  have h7 := psC_e P 59 a1
  by_cases hf : f2 = 0
  · obtain ⟨k1, k2, k3⟩ := TG.at0 h4 hf
    refine Or.inl ⟨hf, by omega, ?_⟩
    rw [show 9 - (x + 1) = 8 - x by omega, k3]
    omega
  · obtain ⟨k1, k2, k3⟩ := TG.bad h4 h3.1 hf
    exact Or.inr ⟨k2, k3, by omega⟩
theorem SKI.out {P : Int → Int} {n f fa a T x : Int} (h : SKI P n f fa a T x) (hx : 9 ≤ x) (hT : 0 ≤ T ∧ T ≤ 255) : (f = 0 ∧ skA P n = cnZ T) ∨ (f ≠ 0 ∧ skA P n = -1000 * f - fa) := by
  have h1 := cnZ_8 hT
  unfold SKI at h
  omega
/-- the reference's -/
def SRI (P : Int → Int) (n good q T m fault : Int) : Prop := (good = 1 ∧ cnZ T = m ∧ 1 ≤ m ∧ skR P n (9 - m).toNat q T m = skA P n) ∨ (good = 0 ∧ fault = skA P n)
def RSt (P : Int → Int) (r fault q1 T1 m1 q T m : Int) : Prop := (r = 1 ∧ stC P T q = 0 ∧ q1 = stQ P q ∧ T1 = bitT P T q ∧ (m ≤ 100 → m1 = m + 1)) ∨ (r = 0 ∧ stC P T q = fault ∧ fault < 0)
theorem SRI.ini {P : Int → Int} {n r fault q1 T1 m1 q T m : Int} (h : RSt P r fault q1 T1 m1 q T m) (hq : q = 0) (hT : T = 0) (hm : m = 0) : SRI P n r q1 T1 m1 fault := by
  subst hq; subst hT; subst hm
  rcases h with ⟨g1, g2, g3, g4, g5⟩ | ⟨g1, g2, g3⟩
  · have g6 := stC_T g2 (by decide) (by decide)
    rcases skF_s (P := P) (n := n) 0 0 0 (show (0 : Int) < 9 by decide) with ⟨m1, m2⟩ | ⟨m1, m2⟩
    · refine Or.inl ⟨g1, ?_, by omega, ?_⟩
      · rw [g4, g6.1, g5 (by decide)]; rfl
      · rw [g5 (by decide), g3, g4]
        exact m2.symm
    · exact absurd g2 m1
  · rcases skF_s (P := P) (n := n) 0 0 0 (show (0 : Int) < 9 by decide) with ⟨m1, m2⟩ | ⟨m1, m2⟩
    · omega
    · exact Or.inr ⟨g1, by rw [← g2, ← m2]; rfl⟩
theorem SRI.bad {P : Int → Int} {n q T m f0 fault : Int} {r : Int} (h : SRI P n 1 q T m f0) (hq : q < n) (h1 : P q ≠ 59) (h2 : fault = -1000 - q) (hr : r = 0) (q1 T1 m1 : Int) : SRI P n r q1 T1 m1 fault := by
  rcases h with ⟨_, g1, g2, g3⟩ | ⟨g1, _⟩
  · have h3 := skR_e P n (9 - m).toNat q T m
    exact Or.inr ⟨hr, by omega⟩
  · omega
theorem SRI.step {P : Int → Int} {n q T m f0 r fault q1 T1 m1 qq : Int} (h : SRI P n 1 q T m f0) (hq0 : 0 ≤ q) (hq : q < n) (h1 : P q = 59) (hT : 0 ≤ T ∧ T ≤ 255) (h2 : RSt P r fault q1 T1 m1 qq T m) (hqq : qq = q + 1) : SRI P n r q1 T1 m1 fault := by
  subst hqq
  rcases h with ⟨_, g1, g2, g3⟩ | ⟨g1, _⟩
  · have h3 := skR_e P n (9 - m).toNat q T m
    have h4 := cnZ_8 hT
    rcases skF_s (P := P) (n := n) (q + 1) T m (show 0 < 9 - m by omega) with ⟨m1', m2'⟩ | ⟨m1', m2'⟩
    · rcases h2 with ⟨k1, k2, k3, k4, k5⟩ | ⟨k1, k2, k3⟩
      · have k6 := stC_T k2 (by omega) hT
        have k7 := k5 (by omega)
        refine Or.inl ⟨k1, by rw [k4]; omega, by omega, ?_⟩
        rw [k3, k4, k7, show 9 - (m + 1) = 9 - m - 1 by omega, ← m2']
        omega
      · omega
    · rcases h2 with ⟨k1, k2, k3, k4, k5⟩ | ⟨k1, k2, k3⟩
      · omega
      · exact Or.inr ⟨k1, by omega⟩
  · omega
theorem SRI.out {P : Int → Int} {n r q T m fault : Int} (h : SRI P n r q T m fault) (hr : r = 1 → n ≤ q) : (r = 1 ∧ skA P n = m) ∨ (r = 0 ∧ skA P n = fault) := by
  rcases h with ⟨g0, g1, g2, g3⟩ | ⟨g1, g2⟩
  · have h3 := skR_e P n (9 - m).toNat q T m
    have := hr g0
    omega
  · exact Or.inr ⟨g1, g2.symm⟩
