-- claims as a text; what those with = tell
abbrev CG (x y : Int) : Prop := (x - y) % 4294967296 = 0
theorem cg_of {a z : Int} (h : zI a = zI z) (hz : IR z) : CG z a := by
  have h1 : (zI a).toInt = z := by rw [h, zI_toInt hz]
  have h2 : (zI a).toInt = a.bmod 4294967296 := Int32.toInt_ofInt
  rw [h2, Int.bmod_def] at h1
  unfold CG
  split at h1 <;> omega
def wz (x : Int) : Int := (zI x).toInt
theorem wz_cg (x : Int) : CG (wz x) x := by
  have h2 : (zI x).toInt = x.bmod 4294967296 := Int32.toInt_ofInt
  unfold CG wz
  rw [h2, Int.bmod_def]
  split <;> omega
theorem wz_ir (x : Int) : IR (wz x) := z_ir _
theorem wz_u {x t : Int} (ht : IR t) (h : CG t x) : t = wz x := by
  have h1 := wz_cg x
  have h2 := wz_ir x
  unfold CG at *
  omega
theorem wz_of {a z : Int} (h : zI a = zI z) (hz : IR z) : z = wz a := by
  unfold wz
  rw [h, zI_toInt hz]
/-- what those with = tell: of whose group each is, by how much over it; one more told -/
def knJ (s : (Nat → Int) × (Nat → Int)) (a b : Nat) (v : Int) : (Nat → Int) × (Nat → Int) :=
  (fun c => if s.1 c = s.1 a then s.1 b else s.1 c, fun c => if s.1 c = s.1 a then wz (s.2 c + wz (wz (s.2 b + v) - s.2 a)) else s.2 c)
theorem knJ_y {s : (Nat → Int) × (Nat → Int)} {a b c : Nat} {v : Int} (h : s.1 c = s.1 a) : (knJ s a b v).1 c = s.1 b ∧ (knJ s a b v).2 c = wz (s.2 c + wz (wz (s.2 b + v) - s.2 a)) := ⟨if_pos h, if_pos h⟩
theorem knJ_n {s : (Nat → Int) × (Nat → Int)} {a b c : Nat} {v : Int} (h : s.1 c ≠ s.1 a) : (knJ s a b v).1 c = s.1 c ∧ (knJ s a b v).2 c = s.2 c := ⟨if_neg h, if_neg h⟩
theorem knJ_cg {s : (Nat → Int) × (Nat → Int)} {a b c : Nat} {v : Int} (h : s.1 c = s.1 a) : CG ((knJ s a b v).2 c) (s.2 c + s.2 b + v - s.2 a) := by
  have h1 := wz_cg (s.2 c + wz (wz (s.2 b + v) - s.2 a))
  have h2 := wz_cg (wz (s.2 b + v) - s.2 a)
  have h3 := wz_cg (s.2 b + v)
  rw [(knJ_y h).2]
  unfold CG at *
  omega
theorem knJ_c {f m : Nat → Int} {s : (Nat → Int) × (Nat → Int)} {a b a' b' c : Nat} {v v' : Int} (hc : f c = s.1 c ∧ m c = s.2 c) (ha : f a' = s.1 a' ∧ m a' = s.2 a') (hb : f b' = s.1 b' ∧ m b' = s.2 b') (e1 : a = a') (e2 : b = b') (e3 : v = v') : (knJ (f, m) a b v).1 c = (knJ s a' b' v').1 c ∧ (knJ (f, m) a b v).2 c = (knJ s a' b' v').2 c := by
  subst e1
  subst e2
  subst e3
  by_cases h : s.1 c = s.1 a
  · have h1 := knJ_y (b := b) (v := v) h
    have h2 := knJ_y (s := (f, m)) (a := a) (b := b) (c := c) (v := v) (show f c = f a by rw [hc.1, ha.1]; exact h)
    rw [h1.1, h1.2, h2.1, h2.2]
    exact ⟨hb.1, by show wz (m c + wz (wz (m b + v) - m a)) = wz (s.2 c + wz (wz (s.2 b + v) - s.2 a)); rw [hc.2, hb.2, ha.2]⟩
  · have h1 := knJ_n (b := b) (v := v) h
    have h2 := knJ_n (s := (f, m)) (a := a) (b := b) (c := c) (v := v) (show f c ≠ f a by rw [hc.1, ha.1]; exact h)
    rw [h1.1, h1.2, h2.1, h2.2]
    exact hc
def kn (A B K V : Nat → Int) : Nat → (Nat → Int) × (Nat → Int)
  | 0 => (fun c => (c : Int), fun _ => 0)
  | m + 1 => if K m = 0 ∧ (kn A B K V m).1 (A m).toNat ≠ (kn A B K V m).1 (B m).toNat then knJ (kn A B K V m) (A m).toNat (B m).toNat (V m) else kn A B K V m
theorem kn_y {A B K V : Nat → Int} {m : Nat} (h1 : K m = 0) (h2 : (kn A B K V m).1 (A m).toNat ≠ (kn A B K V m).1 (B m).toNat) : kn A B K V (m + 1) = knJ (kn A B K V m) (A m).toNat (B m).toNat (V m) := if_pos ⟨h1, h2⟩
theorem kn_n {A B K V : Nat → Int} {m : Nat} (h : K m = 0 → (kn A B K V m).1 (A m).toNat = (kn A B K V m).1 (B m).toNat) : kn A B K V (m + 1) = kn A B K V m := if_neg (fun h1 => h1.2 (h h1.1))
theorem kn_c {A B K V A' B' K' V' : Nat → Int} (m : Nat) (h : ∀ j : Nat, j < m → A j = A' j ∧ B j = B' j ∧ K j = K' j ∧ V j = V' j) : kn A B K V m = kn A' B' K' V' m := by
  induction m with
  | zero => rfl
  | succ m ih =>
    obtain ⟨h1, h2, h3, h4⟩ := h m (Nat.lt_succ_self m)
    have h5 := ih (fun j hj => h j (Nat.lt_succ_of_lt hj))
    unfold kn
    rw [h5, h1, h2, h3, h4]
/-- the class's and the reference's tell the same -/
def KR (g o : Nat → Int) (s : (Nat → Int) × (Nat → Int)) : Prop := ∀ x y : Nat, x < 12 → y < 12 → (g x = g y ↔ s.1 x = s.1 y) ∧ (s.1 x = s.1 y → CG (o x - o y) (s.2 x - s.2 y))
theorem KR.ini {g o A B K V : Nat → Int} (h : ∀ c : Nat, c < 12 → g c = (c : Int) ∧ o c = 0) : KR g o (kn A B K V 0) := by
  intro x y hx hy
  obtain ⟨h1, h2⟩ := h x hx
  obtain ⟨h3, h4⟩ := h y hy
  rw [h1, h2, h3, h4]
  exact ⟨Iff.rfl, fun _ => rfl⟩
theorem KR.join {g o g1 o1 : Nat → Int} {s : (Nat → Int) × (Nat → Int)} {a b : Nat} {v : Int} (h : KR g o s) (ha : a < 12) (hb : b < 12) (hn : g a ≠ g b) (hj : ∀ c : Nat, c < 12 → (g c = g b → g1 c = g a ∧ CG (o1 c) (o c + (o a - v - o b))) ∧ (g c ≠ g b → g1 c = g c ∧ o1 c = o c)) : KR g1 o1 (knJ s a b v) := by
  have hab : s.1 a ≠ s.1 b := fun e => hn ((h a b ha hb).1.mpr e)
  -- what becomes of one thing
  have key : ∀ x : Nat, x < 12 → (s.1 x = s.1 a ∧ g x = g a ∧ g1 x = g a ∧ (knJ s a b v).1 x = s.1 b ∧ CG (o1 x - (knJ s a b v).2 x) (o a - v - s.2 b)) ∨ (s.1 x = s.1 b ∧ g x = g b ∧ g1 x = g a ∧ (knJ s a b v).1 x = s.1 b ∧ CG (o1 x - (knJ s a b v).2 x) (o a - v - s.2 b)) ∨ (s.1 x ≠ s.1 a ∧ s.1 x ≠ s.1 b ∧ g x ≠ g a ∧ g x ≠ g b ∧ g1 x = g x ∧ (knJ s a b v).1 x = s.1 x ∧ o1 x = o x ∧ (knJ s a b v).2 x = s.2 x) := by
    intro x hx
    by_cases e1 : s.1 x = s.1 a
    · have e2 := (h x a hx ha).1.mpr e1
      have e3 := (h x a hx ha).2 e1
      have e4 := (hj x hx).2 (fun e => hn (e2 ▸ e))
      have e5 := knJ_cg (b := b) (v := v) e1
      refine Or.inl ⟨e1, e2, e4.1.trans e2, (knJ_y e1).1, ?_⟩
      rw [e4.2]
      unfold CG at *
      omega
    · by_cases e2 : s.1 x = s.1 b
      · have e3 := (h x b hx hb).1.mpr e2
        have e4 := (h x b hx hb).2 e2
        have e5 := (hj x hx).1 e3
        have e6 := knJ_n (b := b) (v := v) e1
        refine Or.inr (Or.inl ⟨e2, e3, e5.1, e6.1.trans e2, ?_⟩)
        rw [e6.2]
        have e7 := e5.2
        unfold CG at *
        omega
      · have e3 : g x ≠ g a := fun e => e1 ((h x a hx ha).1.mp e)
        have e4 : g x ≠ g b := fun e => e2 ((h x b hx hb).1.mp e)
        have e5 := (hj x hx).2 e4
        have e6 := knJ_n (b := b) (v := v) e1
        exact Or.inr (Or.inr ⟨e1, e2, e3, e4, e5.1, e6.1, e5.2, e6.2⟩)
  intro x y hx hy
  have hxy := h x y hx hy
  rcases key x hx with ⟨p1, p2, p3, p4, p5⟩ | ⟨p1, p2, p3, p4, p5⟩ | ⟨p1, p2, p3, p4, p5, p6, p7, p8⟩ <;> rcases key y hy with ⟨q1, q2, q3, q4, q5⟩ | ⟨q1, q2, q3, q4, q5⟩ | ⟨q1, q2, q3, q4, q5, q6, q7, q8⟩
  · exact ⟨⟨fun _ => p4.trans q4.symm, fun _ => p3.trans q3.symm⟩, fun _ => by unfold CG at *; omega⟩
  · exact ⟨⟨fun _ => p4.trans q4.symm, fun _ => p3.trans q3.symm⟩, fun _ => by unfold CG at *; omega⟩
  · refine ⟨⟨fun e => absurd (by rw [← q5, ← e, p3]) q3, fun e => absurd (by rw [← q6, ← e, p4]) q2⟩, fun e => absurd (by rw [← q6, ← e, p4]) q2⟩
  · exact ⟨⟨fun _ => p4.trans q4.symm, fun _ => p3.trans q3.symm⟩, fun _ => by unfold CG at *; omega⟩
  · exact ⟨⟨fun _ => p4.trans q4.symm, fun _ => p3.trans q3.symm⟩, fun _ => by unfold CG at *; omega⟩
  · refine ⟨⟨fun e => absurd (by rw [← q5, ← e, p3]) q3, fun e => absurd (by rw [← q6, ← e, p4]) q2⟩, fun e => absurd (by rw [← q6, ← e, p4]) q2⟩
  · refine ⟨⟨fun e => absurd (by rw [← p5, e, q3]) p3, fun e => absurd (by rw [← p6, e, q4]) p2⟩, fun e => absurd (by rw [← p6, e, q4]) p2⟩
  · refine ⟨⟨fun e => absurd (by rw [← p5, e, q3]) p3, fun e => absurd (by rw [← p6, e, q4]) p2⟩, fun e => absurd (by rw [← p6, e, q4]) p2⟩
  · rw [p5, q5, p6, q6, p7, p8, q7, q8]
    exact hxy
/-- what join answers and lays -/
def JNO (g o g1 o1 : Nat → Int) (a b : Nat) (v r : Int) : Prop := (g a = g b ∧ g1 = g ∧ o1 = o ∧ ((r = 1 ∧ CG (o a - o b) v) ∨ (r = 0 ∧ ¬ CG (o a - o b) v))) ∨ (g a ≠ g b ∧ r = 1 ∧ ∀ c : Nat, c < 12 → (g c = g b → g1 c = g a ∧ CG (o1 c) (o c + (o a - v - o b))) ∧ (g c ≠ g b → g1 c = g c ∧ o1 c = o c))
-- a line
def kdC (P : Int → Int) (p : Int) : Int := if P p = 61 ∨ P p = 60 ∨ P p = 62 then 0 else -1000 - p
theorem kdC_e (P : Int → Int) (p : Int) : ((P p = 61 ∨ P p = 60 ∨ P p = 62) ∧ kdC P p = 0) ∨ (¬ (P p = 61 ∨ P p = 60 ∨ P p = 62) ∧ kdC P p = -1000 - p) := by
  by_cases h : P p = 61 ∨ P p = 60 ∨ P p = 62
  · exact Or.inl ⟨h, if_pos h⟩
  · exact Or.inr ⟨h, if_neg h⟩
def kdV (P : Int → Int) (p : Int) : Int := if P p = 61 then 0 else if P p = 60 then 1 else 2
theorem kdV_e (P : Int → Int) (p : Int) : (P p = 61 ∧ kdV P p = 0) ∨ (P p = 60 ∧ kdV P p = 1) ∨ (P p ≠ 61 ∧ P p ≠ 60 ∧ kdV P p = 2) := by
  unfold kdV
  by_cases h : P p = 61
  · exact Or.inl ⟨h, if_pos h⟩
  · rw [if_neg h]
    by_cases h1 : P p = 60
    · exact Or.inr (Or.inl ⟨h1, if_pos h1⟩)
    · exact Or.inr (Or.inr ⟨h, h1, if_neg h1⟩)
def mnQ (P : Int → Int) (p : Int) : Int := if P p = 45 then p + 1 else p
theorem mnQ_e (P : Int → Int) (p : Int) : (P p = 45 ∧ mnQ P p = p + 1) ∨ (P p ≠ 45 ∧ mnQ P p = p) := by
  by_cases h : P p = 45
  · exact Or.inl ⟨h, if_pos h⟩
  · exact Or.inr ⟨h, if_neg h⟩
def lnV (P : Int → Int) (p : Int) : Int := if P (p + 1 + 1 + 1 + 1) = 45 then -aV P 4 (mnQ P (p + 1 + 1 + 1 + 1)) else aV P 4 (mnQ P (p + 1 + 1 + 1 + 1))
theorem lnV_e (P : Int → Int) (p : Int) : (P (p + 1 + 1 + 1 + 1) = 45 ∧ lnV P p = -aV P 4 (mnQ P (p + 1 + 1 + 1 + 1))) ∨ (P (p + 1 + 1 + 1 + 1) ≠ 45 ∧ lnV P p = aV P 4 (mnQ P (p + 1 + 1 + 1 + 1))) := by
  by_cases h : P (p + 1 + 1 + 1 + 1) = 45
  · exact Or.inl ⟨h, if_pos h⟩
  · exact Or.inr ⟨h, if_neg h⟩
def lnQ (P : Int → Int) (p : Int) : Int := aQ P 4 (mnQ P (p + 1 + 1 + 1 + 1))
def myC (m p : Int) : Int := if 40 ≤ m then -4000 - p else 0
theorem myC_e (m p : Int) : (40 ≤ m ∧ myC m p = -4000 - p) ∨ (m < 40 ∧ myC m p = 0) := by
  by_cases h : 40 ≤ m
  · exact Or.inl ⟨h, if_pos h⟩
  · exact Or.inr ⟨by omega, if_neg h⟩
def smC (P : Int → Int) (p : Int) : Int := if P p = P (p + 1 + 1) then -6000 - (p + 1 + 1) else 0
theorem smC_e (P : Int → Int) (p : Int) : (P p = P (p + 1 + 1) ∧ smC P p = -6000 - (p + 1 + 1)) ∨ (P p ≠ P (p + 1 + 1) ∧ smC P p = 0) := by
  by_cases h : P p = P (p + 1 + 1)
  · exact Or.inl ⟨h, if_pos h⟩
  · exact Or.inr ⟨h, if_neg h⟩
def l1 (P : Int → Int) (p : Int) : Int := oneC P 97 12 p
def l2 (P : Int → Int) (m p : Int) : Int := sq (l1 P p) (myC m p)
def l3 (P : Int → Int) (m p : Int) : Int := sq (l2 P m p) (psC P 45 (p + 1))
def l4 (P : Int → Int) (m p : Int) : Int := sq (l3 P m p) (oneC P 97 12 (p + 1 + 1))
def l5 (P : Int → Int) (m p : Int) : Int := sq (l4 P m p) (smC P p)
def l6 (P : Int → Int) (m p : Int) : Int := sq (l5 P m p) (kdC P (p + 1 + 1 + 1))
def l7 (P : Int → Int) (m p : Int) : Int := sq (l6 P m p) (aC P 4 (mnQ P (p + 1 + 1 + 1 + 1)))
theorem l7_s (P : Int → Int) (m p : Int) : ((oneC P 97 12 p = 0 ∧ l2 P m p = myC m p) ∨ (oneC P 97 12 p ≠ 0 ∧ l2 P m p = oneC P 97 12 p)) ∧ ((l2 P m p = 0 ∧ l3 P m p = psC P 45 (p + 1)) ∨ (l2 P m p ≠ 0 ∧ l3 P m p = l2 P m p)) ∧ ((l3 P m p = 0 ∧ l4 P m p = oneC P 97 12 (p + 1 + 1)) ∨ (l3 P m p ≠ 0 ∧ l4 P m p = l3 P m p)) ∧ ((l4 P m p = 0 ∧ l5 P m p = smC P p) ∨ (l4 P m p ≠ 0 ∧ l5 P m p = l4 P m p)) ∧ ((l5 P m p = 0 ∧ l6 P m p = kdC P (p + 1 + 1 + 1)) ∨ (l5 P m p ≠ 0 ∧ l6 P m p = l5 P m p)) ∧ ((l6 P m p = 0 ∧ l7 P m p = aC P 4 (mnQ P (p + 1 + 1 + 1 + 1))) ∨ (l6 P m p ≠ 0 ∧ l7 P m p = l6 P m p)) := ⟨sq_e _ _, sq_e _ _, sq_e _ _, sq_e _ _, sq_e _ _, sq_e _ _⟩
theorem l7_0 {P : Int → Int} {m p : Int} (h : l7 P m p = 0) (hp : 0 ≤ p) : (0 ≤ P p - 97 ∧ P p - 97 ≤ 11) ∧ (0 ≤ P (p + 1 + 1) - 97 ∧ P (p + 1 + 1) - 97 ≤ 11) ∧ m < 40 ∧ (0 ≤ kdV P (p + 1 + 1 + 1) ∧ kdV P (p + 1 + 1 + 1) ≤ 2) ∧ P p ≠ P (p + 1 + 1) := by
  have h1 := l7_s P m p
  have h6 := smC_e P p
  have h2 := oneC_e P 97 12 p
  have h3 := oneC_e P 97 12 (p + 1 + 1)
  have h4 := myC_e m p
  have h5 := kdV_e P (p + 1 + 1 + 1)
  omega
/-- is one with = that can't be with those ahead -/
def ofZ (s : (Nat → Int) × (Nat → Int)) (a b : Nat) (k v p : Int) : Int := if k = 0 ∧ s.1 a = s.1 b ∧ ¬ CG (s.2 a - s.2 b) v then -8000 - p else 0
theorem ofZ_e (s : (Nat → Int) × (Nat → Int)) (a b : Nat) (k v p : Int) : ((k = 0 ∧ s.1 a = s.1 b ∧ ¬ CG (s.2 a - s.2 b) v) ∧ ofZ s a b k v p = -8000 - p) ∨ (¬ (k = 0 ∧ s.1 a = s.1 b ∧ ¬ CG (s.2 a - s.2 b) v) ∧ ofZ s a b k v p = 0) := by
  by_cases h : k = 0 ∧ s.1 a = s.1 b ∧ ¬ CG (s.2 a - s.2 b) v
  · exact Or.inl ⟨h, if_pos h⟩
  · exact Or.inr ⟨h, if_neg h⟩
/-- line by line -/
def clp (P : Int → Int) : Nat → Int
  | 0 => 0
  | j + 1 => lnQ P (clp P j) + 1
def cA (P : Int → Int) (j : Nat) : Int := P (clp P j) - 97
def cB (P : Int → Int) (j : Nat) : Int := P (clp P j + 1 + 1) - 97
def cK (P : Int → Int) (j : Nat) : Int := kdV P (clp P j + 1 + 1 + 1)
def cV (P : Int → Int) (j : Nat) : Int := lnV P (clp P j)
def knP (P : Int → Int) (m : Nat) : (Nat → Int) × (Nat → Int) := kn (cA P) (cB P) (cK P) (cV P) m
def lnC (P : Int → Int) (m : Nat) : Int := sq (l7 P m (clp P m)) (ofZ (knP P m) (cA P m).toNat (cB P m).toNat (cK P m) (cV P m) (clp P m))
theorem lnC_s (P : Int → Int) (m : Nat) : (l7 P m (clp P m) = 0 ∧ lnC P m = ofZ (knP P m) (cA P m).toNat (cB P m).toNat (cK P m) (cV P m) (clp P m)) ∨ (l7 P m (clp P m) ≠ 0 ∧ lnC P m = l7 P m (clp P m)) := sq_e _ _
def clF (P : Int → Int) (n : Int) : Nat → Nat → Int
  | 0, _ => 0
  | k + 1, m => if lnC P m = 0 then (if n ≤ lnQ P (clp P m) then (m : Int) + 1 else if P (lnQ P (clp P m)) = 59 then clF P n k (m + 1) else -1000 - lnQ P (clp P m)) else lnC P m
def clR (P : Int → Int) (n : Int) (k m : Nat) (q : Int) : Int := if n ≤ q then (m : Int) + 1 else if P q = 59 then clF P n k (m + 1) else -1000 - q
def clN (P : Int → Int) (n : Int) : Int := clF P n 41 0
theorem clF_s (P : Int → Int) (n : Int) (k m : Nat) : (lnC P m = 0 ∧ clF P n (k + 1) m = clR P n k m (lnQ P (clp P m))) ∨ (lnC P m ≠ 0 ∧ clF P n (k + 1) m = lnC P m) := by
  by_cases h : lnC P m = 0
  · exact Or.inl ⟨h, if_pos h⟩
  · exact Or.inr ⟨h, if_neg h⟩
theorem clR_e (P : Int → Int) (n : Int) (k m : Nat) (q : Int) : (n ≤ q ∧ clR P n k m q = (m : Int) + 1) ∨ (q < n ∧ P q = 59 ∧ clR P n k m q = clF P n k (m + 1)) ∨ (q < n ∧ P q ≠ 59 ∧ clR P n k m q = -1000 - q) := by
  unfold clR
  by_cases h : n ≤ q
  · exact Or.inl ⟨h, if_pos h⟩
  · rw [if_neg h]
    by_cases h1 : P q = 59
    · exact Or.inr (Or.inl ⟨by omega, h1, if_pos h1⟩)
    · exact Or.inr (Or.inr ⟨by omega, h1, if_neg h1⟩)
def AG (P : Int → Int) (x : Int) (A B K V : Nat → Int) : Prop := ∀ j : Nat, (j : Int) < x → A j = cA P j ∧ B j = cB P j ∧ K j = cK P j ∧ V j = cV P j ∧ A j ≠ B j
theorem AG.kns {P : Int → Int} {x : Int} {A B K V : Nat → Int} (h : AG P x A B K V) (hx : 0 ≤ x) : kn A B K V x.toNat = knP P x.toNat := kn_c _ (fun j hj => by obtain ⟨h1, h2, h3, h4, _⟩ := h j (by omega); exact ⟨h1, h2, h3, h4⟩)
theorem AG.up {P : Int → Int} {x x1 z a b k v : Int} {A B K V : Nat → Int} (h : AG P x A B K V) (hx : 0 ≤ x) (h1 : x1 = x + 1) (hz : z = x) (ha : a = cA P x.toNat) (hb : b = cB P x.toNat) (hk : k = cK P x.toNat) (hv : v = cV P x.toNat) (hne : a ≠ b) : AG P x1 (updZ A z.toNat a) (updZ B z.toNat b) (updZ K z.toNat k) (updZ V z.toNat v) := by
  subst hz
  intro j hj
  by_cases e : j = z.toNat
  · rw [e, updZ_s, updZ_s, updZ_s, updZ_s]; exact ⟨ha, hb, hk, hv, hne⟩
  · rw [updZ_n _ _ e, updZ_n _ _ e, updZ_n _ _ e, updZ_n _ _ e]; exact h j (by omega)
theorem AG.nil (P : Int → Int) (A B K V : Nat → Int) : AG P 0 A B K V := fun j hj => by omega
/-- a line of the class: what it does to the reader, what it lays -/
def RLo (P : Int → Int) (f fa a sz : Int) (A B K V g o : Nat → Int) (f1 fa1 a1 sz1 : Int) (A1 B1 K1 V1 g1 o1 : Nat → Int) : Prop :=
  (f ≠ 0 → f1 = f ∧ fa1 = fa) ∧ (f = 0 → (l7 P sz a ≠ 0 ∧ 1 ≤ f1 ∧ 0 ≤ fa1 ∧ l7 P sz a = -1000 * f1 - fa1) ∨ (l7 P sz a = 0 ∧ sz1 = sz + 1 ∧ a1 = lnQ P a ∧ A1 = updZ A sz.toNat (P a - 97) ∧ B1 = updZ B sz.toNat (P (a + 1 + 1) - 97) ∧ K1 = updZ K sz.toNat (kdV P (a + 1 + 1 + 1)) ∧ V1 = updZ V sz.toNat (lnV P a) ∧ ((kdV P (a + 1 + 1 + 1) ≠ 0 ∧ f1 = 0 ∧ g1 = g ∧ o1 = o) ∨ (kdV P (a + 1 + 1 + 1) = 0 ∧ ∃ r : Int, JNO g o g1 o1 (P a - 97).toNat (P (a + 1 + 1) - 97).toNat (lnV P a) r ∧ ((r = 1 ∧ f1 = 0) ∨ (r = 0 ∧ f1 = 8 ∧ fa1 = a))))))
/-- the class's loop -/
def CLI (P : Int → Int) (n f fa a sz x : Int) (A B K V g o : Nat → Int) : Prop := (f = 0 ∧ sz = x ∧ a = clp P x.toNat ∧ AG P x A B K V ∧ KR g o (knP P x.toNat) ∧ clF P n (41 - x).toNat x.toNat = clN P n) ∨ (1 ≤ f ∧ 0 ≤ fa ∧ clN P n = -1000 * f - fa)
theorem CLI.ini {P : Int → Int} {n f fa a sz x : Int} {A B K V g o : Nat → Int} (hf : f = 0) (ha : a = 0) (hs : sz = 0) (hx : x = 0) (h : ∀ c : Nat, (c : Int) < 12 → g c = (c : Int) ∧ o c = 0) : CLI P n f fa a sz x A B K V g o := by
  subst hf; subst ha; subst hs; subst hx
  exact Or.inl ⟨rfl, rfl, rfl, AG.nil _ _ _ _ _, KR.ini (fun c hc => h c (by omega)), rfl⟩
/-- behind a line -/
def CLO (P : Int → Int) (n f fa a sz x : Int) (A B K V g o : Nat → Int) : Prop := (f = 0 ∧ sz = x + 1 ∧ a = lnQ P (clp P x.toNat) ∧ AG P (x + 1) A B K V ∧ KR g o (knP P (x + 1).toNat) ∧ clR P n (40 - x).toNat x.toNat a = clN P n) ∨ (1 ≤ f ∧ 0 ≤ fa ∧ clN P n = -1000 * f - fa)
theorem CLI.one {P : Int → Int} {n f fa a sz x f1 fa1 a1 sz1 : Int} {A B K V g o A1 B1 K1 V1 g1 o1 : Nat → Int} (h : CLI P n f fa a sz x A B K V g o) (hx : 0 ≤ x ∧ x ≤ 40) (ha : 0 ≤ a) (h1 : RLo P f fa a sz A B K V g o f1 fa1 a1 sz1 A1 B1 K1 V1 g1 o1) : CLO P n f1 fa1 a1 sz1 x A1 B1 K1 V1 g1 o1 := by
  rcases h with ⟨g1', g2, g3, g4, g5, g6⟩ | ⟨g1', g2, g3⟩
  · have hxN : ((x.toNat : Nat) : Int) = x := by omega
    have h41 : (41 - x).toNat = (40 - x).toNat + 1 := by omega
    have hF := clF_s P n (40 - x).toNat x.toNat
    have hL := lnC_s P x.toNat
    rw [hxN] at hL
    rw [h41] at g6
    rw [g3] at h1
    rw [g2] at h1
    rcases h1.2 g1' with ⟨k1, k2, k3, k4⟩ | ⟨k1, k2, k3, k4, k5, k6, k7, k8⟩
    · refine Or.inr ⟨k2, k3, ?_⟩
      rw [← g6]
      omega
    · have hl := l7_0 k1 (by omega)
      have hO := ofZ_e (knP P x.toNat) (cA P x.toNat).toNat (cB P x.toNat).toNat (cK P x.toNat) (cV P x.toNat) (clp P x.toNat)
      have hAG : AG P (x + 1) A1 B1 K1 V1 := by
        rw [k4, k5, k6, k7]
        exact AG.up g4 hx.1 rfl rfl rfl rfl rfl rfl (by have := hl.2.2.2.2; omega)
      have hx1 : (x + 1).toNat = x.toNat + 1 := by omega
      have fin : f1 = 0 → KR g1 o1 (knP P (x + 1).toNat) → lnC P x.toNat = 0 → CLO P n f1 fa1 a1 sz1 x A1 B1 K1 V1 g1 o1 := fun e1 e2 e3 => by
        refine Or.inl ⟨e1, k2, k3, hAG, e2, ?_⟩
        rw [k3, ← g6]
        rcases hF with ⟨_, m2⟩ | ⟨m1, _⟩
        · exact m2.symm
        · exact absurd e3 m1
      rcases k8 with ⟨m1, m2, m3, m4⟩ | ⟨m1, r, m2, m3⟩
      · have e0 : lnC P x.toNat = 0 := by
          have m5 : cK P x.toNat ≠ 0 := m1
          rcases hO with ⟨q1, q2⟩ | ⟨q1, q2⟩
          · exact absurd q1.1 m5
          · omega
        refine fin m2 ?_ e0
        rw [hx1]
        have e3 : knP P (x.toNat + 1) = knP P x.toNat := kn_n (fun e => absurd e m1)
        rw [e3, m3, m4]
        exact g5
      · have hKR := g5 (cA P x.toNat).toNat (cB P x.toNat).toNat (by have := hl.1; unfold cA; omega) (by have := hl.2.1; unfold cB; omega)
        have m0 : cK P x.toNat = 0 := m1
        rcases m2 with ⟨q1, q2, q3, q4⟩ | ⟨q1, q2, q3⟩
        · have e1 : (knP P x.toNat).1 (cA P x.toNat).toNat = (knP P x.toNat).1 (cB P x.toNat).toNat := hKR.1.mp q1
          have e2 := hKR.2 e1
          have e3 : knP P (x.toNat + 1) = knP P x.toNat := kn_n (fun _ => e1)
          rcases m3 with ⟨s1, s2⟩ | ⟨s1, s2, s3⟩
          · have q5 : CG (o (cA P x.toNat).toNat - o (cB P x.toNat).toNat) (cV P x.toNat) := by
              rcases q4 with ⟨_, t2⟩ | ⟨t1, _⟩
              · exact t2
              · omega
            have e0 : lnC P x.toNat = 0 := by
              rcases hO with ⟨u1, u2⟩ | ⟨u1, u2⟩
              · exact absurd (by unfold CG at *; omega) u1.2.2
              · omega
            refine fin s2 ?_ e0
            rw [hx1, e3, q2, q3]
            exact g5
          · have q5 : ¬ CG (o (cA P x.toNat).toNat - o (cB P x.toNat).toNat) (cV P x.toNat) := by
              rcases q4 with ⟨t1, _⟩ | ⟨_, t2⟩
              · omega
              · exact t2
            refine Or.inr ⟨by omega, ?_, ?_⟩
            · omega
            · rw [← g6]
              rcases hO with ⟨u1, u2⟩ | ⟨u1, u2⟩
              · omega
              · exact absurd ⟨m0, e1, fun u => q5 (by unfold CG at *; omega)⟩ u1
        · have e1 : (knP P x.toNat).1 (cA P x.toNat).toNat ≠ (knP P x.toNat).1 (cB P x.toNat).toNat := fun e => q1 (hKR.1.mpr e)
          have e0 : lnC P x.toNat = 0 := by
            rcases hO with ⟨u1, u2⟩ | ⟨u1, u2⟩
            · exact absurd u1.2.1 e1
            · omega
          refine fin (by omega) ?_ e0
          rw [hx1]
          have e3 : knP P (x.toNat + 1) = knJ (knP P x.toNat) (cA P x.toNat).toNat (cB P x.toNat).toNat (cV P x.toNat) := kn_y m0 e1
          rw [e3]
          exact KR.join g5 (by have := hl.1; unfold cA; omega) (by have := hl.2.1; unfold cB; omega) q1 q3
  · obtain ⟨k1, k2⟩ := h1.1 (by omega)
    exact Or.inr ⟨by omega, by omega, by omega⟩
theorem CLO.over {P : Int → Int} {n f fa a sz x : Int} {A B K V g o : Nat → Int} (h : CLO P n f fa a sz x A B K V g o) (hx : 0 ≤ x ∧ x ≤ 40) (h3 : f ≠ 0 ∨ n ≤ a) : (f = 0 ∧ clN P n = sz ∧ 1 ≤ sz ∧ AG P sz A B K V ∧ KR g o (knP P sz.toNat)) ∨ (f ≠ 0 ∧ clN P n = -1000 * f - fa ∧ clN P n < 0) := by
  rcases h with ⟨g1, g2, g3, g4, g5, g6⟩ | ⟨g1, g2, g3⟩
  · have h6 := clR_e P n (40 - x).toNat x.toNat a
    refine Or.inl ⟨g1, by omega, by omega, ?_, ?_⟩
    · rw [g2]; exact g4
    · rw [g2]; exact g5
  · exact Or.inr ⟨by omega, g3, by omega⟩
theorem CLO.step {P : Int → Int} {n f fa a sz x f2 fa2 a2 x1 : Int} {A B K V g o : Nat → Int} (h : CLO P n f fa a sz x A B K V g o) (hx : 0 ≤ x ∧ x ≤ 40) (ha : 0 ≤ a) (h3 : f = 0 ∧ a < n) (h4 : TG f fa a f2 fa2 a2 (psC P 59 a) (a + 1)) (e : x1 = x + 1) : CLI P n f2 fa2 a2 sz x1 A B K V g o := by
  subst e
  have h7 := psC_e P 59 a
  rcases h with ⟨g1, g2, g3, g4, g5, g6⟩ | ⟨g1, g2, g3⟩
  · have h6 := clR_e P n (40 - x).toNat x.toNat a
    have hx1 : (x + 1).toNat = x.toNat + 1 := by omega
    by_cases hf : f2 = 0
    · obtain ⟨k1, k2, k3⟩ := TG.at0 h4 hf
      refine Or.inl ⟨hf, g2, ?_, g4, g5, ?_⟩
      · rw [hx1, k3, g3]; rfl
      · rw [hx1, show (41 - (x + 1)).toNat = (40 - x).toNat by omega, ← g6]
        omega
    · obtain ⟨k1, k2, k3⟩ := TG.bad h4 h3.1 hf
      exact Or.inr ⟨k2, k3, by omega⟩
  · omega
theorem CLI.out {P : Int → Int} {n f fa a sz x : Int} {A B K V g o : Nat → Int} (h : CLI P n f fa a sz x A B K V g o) (hx : 41 ≤ x) (hs : sz ≤ 40) : (f = 0 ∧ clN P n = sz ∧ 1 ≤ sz ∧ AG P sz A B K V ∧ KR g o (knP P sz.toNat)) ∨ (f ≠ 0 ∧ clN P n = -1000 * f - fa ∧ clN P n < 0) := by
  rcases h with ⟨g1, g2, g3, g4, g5, g6⟩ | ⟨g1, g2, g3⟩
  · omega
  · exact Or.inr ⟨by omega, g3, by omega⟩
/-- the reference's line -/
def RCl (P : Int → Int) (r fault q1 m1 : Int) (A1 B1 K1 V1 : Nat → Int) (q m : Int) (A B K V : Nat → Int) : Prop :=
  (r = 1 ∧ l7 P m q = 0 ∧ q1 = lnQ P q ∧ m1 = m + 1 ∧ A1 = updZ A m.toNat (P q - 97) ∧ B1 = updZ B m.toNat (P (q + 1 + 1) - 97) ∧ K1 = updZ K m.toNat (kdV P (q + 1 + 1 + 1)) ∧ V1 = updZ V m.toNat (lnV P q) ∧ ofZ (kn A1 B1 K1 V1 m.toNat) (P q - 97).toNat (P (q + 1 + 1) - 97).toNat (kdV P (q + 1 + 1 + 1)) (lnV P q) q = 0) ∨
  (r = 0 ∧ fault < 0 ∧ ((l7 P m q ≠ 0 ∧ l7 P m q = fault) ∨ (l7 P m q = 0 ∧ ofZ (kn (updZ A m.toNat (P q - 97)) (updZ B m.toNat (P (q + 1 + 1) - 97)) (updZ K m.toNat (kdV P (q + 1 + 1 + 1))) (updZ V m.toNat (lnV P q)) m.toNat) (P q - 97).toNat (P (q + 1 + 1) - 97).toNat (kdV P (q + 1 + 1 + 1)) (lnV P q) q = fault)))
theorem RCl.bad {P : Int → Int} {r fault q1 m1 q m : Int} {A1 B1 K1 V1 A B K V : Nat → Int} (h1 : r = 0) (h2 : fault < 0) (h3 : l7 P m q = fault) : RCl P r fault q1 m1 A1 B1 K1 V1 q m A B K V := Or.inr ⟨h1, h2, Or.inl ⟨by omega, h3⟩⟩
theorem RCl.bad8 {P : Int → Int} {r fault q1 m1 q m : Int} {A1 B1 K1 V1 A B K V : Nat → Int} (h1 : r = 0) (hf : fault = -8000 - q) (hq : 0 ≤ q) (h7 : l7 P m q = 0) (hA : A1 = updZ A m.toNat (P q - 97)) (hB : B1 = updZ B m.toNat (P (q + 1 + 1) - 97)) (hK : K1 = updZ K m.toNat (kdV P (q + 1 + 1 + 1))) (hV : V1 = updZ V m.toNat (lnV P q)) (hk : kdV P (q + 1 + 1 + 1) = 0) (hc : (kn A1 B1 K1 V1 m.toNat).1 (A1 m.toNat).toNat = (kn A1 B1 K1 V1 m.toNat).1 (B1 m.toNat).toNat ∧ ¬ CG ((kn A1 B1 K1 V1 m.toNat).2 (A1 m.toNat).toNat - (kn A1 B1 K1 V1 m.toNat).2 (B1 m.toNat).toNat) (V1 m.toNat)) : RCl P r fault q1 m1 A1 B1 K1 V1 q m A B K V := by
  refine Or.inr ⟨h1, by omega, Or.inr ⟨h7, ?_⟩⟩
  rw [show A1 m.toNat = P q - 97 by rw [hA, updZ_s], show B1 m.toNat = P (q + 1 + 1) - 97 by rw [hB, updZ_s], show V1 m.toNat = lnV P q by rw [hV, updZ_s]] at hc
  rw [← hA, ← hB, ← hK, ← hV, hf]
  exact if_pos ⟨hk, hc⟩
theorem RCl.ok {P : Int → Int} {r fault q1 m1 q m : Int} {A1 B1 K1 V1 A B K V : Nat → Int} (h1 : r = 1) (h7 : l7 P m q = 0) (hq : q1 = lnQ P q) (hm : m1 = m + 1) (hA : A1 = updZ A m.toNat (P q - 97)) (hB : B1 = updZ B m.toNat (P (q + 1 + 1) - 97)) (hK : K1 = updZ K m.toNat (kdV P (q + 1 + 1 + 1))) (hV : V1 = updZ V m.toNat (lnV P q)) (hc : kdV P (q + 1 + 1 + 1) ≠ 0 ∨ ¬ ((kn A1 B1 K1 V1 m.toNat).1 (A1 m.toNat).toNat = (kn A1 B1 K1 V1 m.toNat).1 (B1 m.toNat).toNat ∧ ¬ CG ((kn A1 B1 K1 V1 m.toNat).2 (A1 m.toNat).toNat - (kn A1 B1 K1 V1 m.toNat).2 (B1 m.toNat).toNat) (V1 m.toNat))) : RCl P r fault q1 m1 A1 B1 K1 V1 q m A B K V := by
  refine Or.inl ⟨h1, h7, hq, hm, hA, hB, hK, hV, ?_⟩
  rw [show A1 m.toNat = P q - 97 by rw [hA, updZ_s], show B1 m.toNat = P (q + 1 + 1) - 97 by rw [hB, updZ_s], show V1 m.toNat = lnV P q by rw [hV, updZ_s]] at hc
  refine if_neg (fun h => ?_)
  rcases hc with hc | hc
  · exact hc h.1
  · exact hc h.2
def CRI (P : Int → Int) (n good q m fault : Int) (A B K V : Nat → Int) : Prop := (good = 1 ∧ 1 ≤ m ∧ q = lnQ P (clp P (m - 1).toNat) ∧ AG P m A B K V ∧ clR P n (41 - m).toNat (m - 1).toNat q = clN P n) ∨ (good = 0 ∧ fault = clN P n ∧ fault < 0)
theorem CRI.line {P : Int → Int} {n r fault q1 m1 q m : Int} {A1 B1 K1 V1 A B K V : Nat → Int} (hm : 0 ≤ m ∧ m ≤ 40) (hq0 : 0 ≤ q) (hq : q = clp P m.toNat) (hA : AG P m A B K V) (hF : clF P n (41 - m).toNat m.toNat = clN P n) (h : RCl P r fault q1 m1 A1 B1 K1 V1 q m A B K V) : CRI P n r q1 m1 fault A1 B1 K1 V1 := by
  have hmN : ((m.toNat : Nat) : Int) = m := by omega
  have hS := clF_s P n (40 - m).toNat m.toNat
  have hL := lnC_s P m.toNat
  rw [hmN] at hL
  rw [show (41 - m).toNat = (40 - m).toNat + 1 by omega] at hF
  subst hq
  have hAu : l7 P m (clp P m.toNat) = 0 → AG P (m + 1) (updZ A m.toNat (P (clp P m.toNat) - 97)) (updZ B m.toNat (P (clp P m.toNat + 1 + 1) - 97)) (updZ K m.toNat (kdV P (clp P m.toNat + 1 + 1 + 1))) (updZ V m.toNat (lnV P (clp P m.toNat))) := fun h7 => AG.up hA hm.1 rfl rfl rfl rfl rfl rfl (by have := (l7_0 h7 hq0).2.2.2.2; omega)
  have hkn : kn (updZ A m.toNat (P (clp P m.toNat) - 97)) (updZ B m.toNat (P (clp P m.toNat + 1 + 1) - 97)) (updZ K m.toNat (kdV P (clp P m.toNat + 1 + 1 + 1))) (updZ V m.toNat (lnV P (clp P m.toNat))) m.toNat = knP P m.toNat := kn_c _ (fun j hj => by
    obtain ⟨h1, h2, h3, h4, _⟩ := hA j (by omega)
    rw [updZ_n _ _ (by omega), updZ_n _ _ (by omega), updZ_n _ _ (by omega), updZ_n _ _ (by omega)]
    exact ⟨h1, h2, h3, h4⟩)
  rcases h with ⟨k1, k2, k3, k4, k5, k6, k7, k8, k9⟩ | ⟨k1, k2, k3⟩
  · have hAu := hAu k2
    rw [← k5, ← k6, ← k7, ← k8] at hAu hkn
    rw [hkn] at k9
    have e0 : lnC P m.toNat = 0 := by
      rcases hL with ⟨u1, u2⟩ | ⟨u1, u2⟩
      · rw [u2]; exact k9
      · exact absurd k2 u1
    refine Or.inl ⟨k1, by omega, ?_, ?_, ?_⟩
    · rw [k3, k4, show m + 1 - 1 = m by omega]
    · rw [k4]; exact hAu
    · rw [k4, show 41 - (m + 1) = 40 - m by omega, show m + 1 - 1 = m by omega, k3, ← hF]
      rcases hS with ⟨_, u2⟩ | ⟨u1, _⟩
      · exact u2.symm
      · exact absurd e0 u1
  · refine Or.inr ⟨k1, ?_, k2⟩
    rw [← hF]
    rcases k3 with ⟨u1, u2⟩ | ⟨u1, u2⟩
    · rcases hL with ⟨v1, _⟩ | ⟨_, v2⟩
      · exact absurd v1 u1
      · rcases hS with ⟨w1, _⟩ | ⟨_, w2⟩
        · exact absurd (by rw [← v2]; exact w1) u1
        · rw [w2, v2, u2]
    · rw [hkn] at u2
      rcases hL with ⟨_, v2⟩ | ⟨v1, _⟩
      · have v3 : lnC P m.toNat = fault := v2.trans u2
        rcases hS with ⟨w1, _⟩ | ⟨_, w2⟩
        · omega
        · rw [w2, v3]
      · exact absurd u1 v1
theorem CRI.ini {P : Int → Int} {n r fault q1 m1 q m : Int} {A1 B1 K1 V1 A B K V : Nat → Int} (hq : q = 0) (hm : m = 0) (h : RCl P r fault q1 m1 A1 B1 K1 V1 q m A B K V) : CRI P n r q1 m1 fault A1 B1 K1 V1 := by
  subst hm; subst hq
  exact CRI.line (by decide) (Int.le_refl 0) rfl (AG.nil _ _ _ _ _) rfl h
theorem CRI.bad {P : Int → Int} {n good q m f0 fault r : Int} {A B K V : Nat → Int} (h : CRI P n good q m f0 A B K V) (hg : good = 1) (hm : m ≤ 40) (hq : 0 ≤ q ∧ q < n) (h1 : P q ≠ 59) (h2 : fault = -1000 - q) (hr : r = 0) (q1 m1 : Int) (A1 B1 K1 V1 : Nat → Int) : CRI P n r q1 m1 fault A1 B1 K1 V1 := by
  rcases h with ⟨_, g1, g2, g3, g4⟩ | ⟨g1, _⟩
  · have h3 := clR_e P n (41 - m).toNat (m - 1).toNat q
    exact Or.inr ⟨hr, by omega, by omega⟩
  · omega
theorem CRI.step {P : Int → Int} {n good q m f0 r fault q1 m1 qq : Int} {A1 B1 K1 V1 A B K V : Nat → Int} (h : CRI P n good q m f0 A B K V) (hg : good = 1) (hm : m ≤ 40) (hq0 : 0 ≤ q) (hq : q < n) (h1 : P q = 59) (h2 : RCl P r fault q1 m1 A1 B1 K1 V1 qq m A B K V) (hqq : qq = q + 1) : CRI P n r q1 m1 fault A1 B1 K1 V1 := by
  subst hqq
  rcases h with ⟨_, g1, g2, g3, g4⟩ | ⟨g1, _⟩
  · have h3 := clR_e P n (41 - m).toNat (m - 1).toNat q
    have hmm : m.toNat = (m - 1).toNat + 1 := by omega
    refine CRI.line ⟨by omega, hm⟩ (by omega) ?_ g3 ?_ h2
    · rw [hmm, g2]; rfl
    · rw [← g4, hmm]
      omega
  · omega
theorem CRI.out {P : Int → Int} {n good q m fault : Int} {A B K V : Nat → Int} (h : CRI P n good q m fault A B K V) (hq : good = 1 → n ≤ q) : (good = 1 ∧ clN P n = m ∧ 1 ≤ m ∧ AG P m A B K V) ∨ (good = 0 ∧ clN P n = fault ∧ clN P n < 0) := by
  rcases h with ⟨g0, g1, g2, g3, g4⟩ | ⟨g1, g2, g3⟩
  · have h3 := clR_e P n (41 - m).toNat (m - 1).toNat q
    have := hq g0
    exact Or.inl ⟨g0, by omega, g1, g3⟩
  · exact Or.inr ⟨g1, g2.symm, by omega⟩
theorem RLo.bad {P : Int → Int} {f fa a sz f1 fa1 a1 sz1 a2 : Int} {A B K V g o A1 B1 K1 V1 g1 o1 : Nat → Int} (hT : TG f fa a f1 fa1 a2 (l7 P sz a) (lnQ P a)) (h2 : f1 ≠ 0) : RLo P f fa a sz A B K V g o f1 fa1 a1 sz1 A1 B1 K1 V1 g1 o1 := by
  refine ⟨hT.1, fun h => Or.inl ?_⟩
  obtain ⟨k1, k2, k3⟩ := TG.bad hT h h2
  exact ⟨by omega, k2, k3, k1⟩
theorem RLo.ok {P : Int → Int} {f fa a sz f1 fa1 f2 fa2 a2 sz1 : Int} {A B K V g o A1 B1 K1 V1 g1 o1 : Nat → Int} (hT : TG f fa a f2 fa2 a2 (l7 P sz a) (lnQ P a)) (h2 : f2 = 0) (hs : sz1 = sz + 1) (hA : A1 = updZ A sz.toNat (P a - 97)) (hB : B1 = updZ B sz.toNat (P (a + 1 + 1) - 97)) (hK : K1 = updZ K sz.toNat (kdV P (a + 1 + 1 + 1))) (hV : V1 = updZ V sz.toNat (lnV P a)) (hj : (kdV P (a + 1 + 1 + 1) ≠ 0 ∧ f1 = 0 ∧ g1 = g ∧ o1 = o) ∨ (kdV P (a + 1 + 1 + 1) = 0 ∧ ∃ r : Int, JNO g o g1 o1 (P a - 97).toNat (P (a + 1 + 1) - 97).toNat (lnV P a) r ∧ ((r = 1 ∧ f1 = 0) ∨ (r = 0 ∧ f1 = 8 ∧ fa1 = a)))) : RLo P f fa a sz A B K V g o f1 fa1 a2 sz1 A1 B1 K1 V1 g1 o1 := by
  obtain ⟨k1, k2, k3⟩ := TG.at0 hT h2
  exact ⟨fun h => absurd k1 h, fun _ => Or.inr ⟨k2, hs, k3, hA, hB, hK, hV, hj⟩⟩
-- what is answered of claims
def dfA (g o : Nat → Int) (a b : Int) : Int := if g a.toNat = g b.toNat then wz (o a.toNat - o b.toNat) else -1000000
theorem dfA_e (g o : Nat → Int) (a b : Int) : (g a.toNat = g b.toNat ∧ dfA g o a b = wz (o a.toNat - o b.toNat)) ∨ (g a.toNat ≠ g b.toNat ∧ dfA g o a b = -1000000) := by
  by_cases h : g a.toNat = g b.toNat
  · exact Or.inl ⟨h, if_pos h⟩
  · exact Or.inr ⟨h, if_neg h⟩
def knA (P : Int → Int) (n a b : Int) : Int := dfA (knP P n.toNat).1 (knP P n.toNat).2 a b
theorem dfA_kn {g o : Nat → Int} {P : Int → Int} {n a b : Int} (h : KR g o (knP P n.toNat)) (ha : 0 ≤ a ∧ a ≤ 11) (hb : 0 ≤ b ∧ b ≤ 11) : dfA g o a b = knA P n a b := by
  have h1 := h a.toNat b.toNat (by omega) (by omega)
  have h2 := dfA_e g o a b
  have h3 := dfA_e (knP P n.toNat).1 (knP P n.toNat).2 a b
  unfold knA
  rcases h2 with ⟨e1, e2⟩ | ⟨e1, e2⟩
  · have e3 := h1.2 (h1.1.mp e1)
    rcases h3 with ⟨e4, e5⟩ | ⟨e4, e5⟩
    · rw [e2, e5]
      have e6 := wz_cg (o a.toNat - o b.toNat)
      refine wz_u (wz_ir _) ?_
      unfold CG at *
      omega
    · exact absurd (h1.1.mp e1) e4
  · rcases h3 with ⟨e4, e5⟩ | ⟨e4, e5⟩
    · exact absurd (h1.1.mpr e4) e1
    · rw [e2, e5]
/-- the things of one's group, as bits -/
def grB (g : Nat → Int) (a n : Nat) : Int := fz (fun c s => if g c = g a then z_ior s (z_ishl 1 (c : Int)) else s) 0 n
theorem grB_s (g : Nat → Int) (a : Nat) {x : Int} (h : 0 ≤ x) : (g x.toNat = g a ∧ grB g a (x + 1).toNat = z_ior (grB g a x.toNat) (z_ishl 1 x)) ∨ (g x.toNat ≠ g a ∧ grB g a (x + 1).toNat = grB g a x.toNat) := by
  have e : grB g a (x + 1).toNat = if g x.toNat = g a then z_ior (grB g a x.toNat) (z_ishl 1 ((x.toNat : Nat) : Int)) else grB g a x.toNat := fz_s _ _ h
  rw [show ((x.toNat : Nat) : Int) = x by omega] at e
  rw [e]
  by_cases hc : g x.toNat = g a
  · exact Or.inl ⟨hc, if_pos hc⟩
  · exact Or.inr ⟨hc, if_neg hc⟩
theorem grB_c {g f : Nat → Int} {a : Nat} (n : Nat) (h : ∀ c : Nat, c < n → (g c = g a ↔ f c = f a)) : grB g a n = grB f a n := fz_c _ _ (fun k hk s => by
  by_cases e : g k = g a
  · rw [if_pos e, if_pos ((h k hk).mp e)]
  · rw [if_neg e, if_neg (fun e2 => e ((h k hk).mpr e2))])
/-- the names of groups, as bits; how many begin one -/
def gcS (g : Nat → Int) (n : Nat) : Int := fz (fun c s => z_ior s (z_ishl 1 (g c))) 0 n
theorem gcS_s (g : Nat → Int) {x : Int} (h : 0 ≤ x) : gcS g (x + 1).toNat = z_ior (gcS g x.toNat) (z_ishl 1 (g x.toNat)) := fz_s _ _ h
def fcN (g : Nat → Int) (n : Nat) : Int := fz (fun i m => if ∀ b : Nat, b < i → g b ≠ g i then m + 1 else m) 0 n
theorem fcN_s (g : Nat → Int) {x : Int} (h : 0 ≤ x) : ((∀ b : Nat, b < x.toNat → g b ≠ g x.toNat) ∧ fcN g (x + 1).toNat = fcN g x.toNat + 1) ∨ ((∃ b : Nat, b < x.toNat ∧ g b = g x.toNat) ∧ fcN g (x + 1).toNat = fcN g x.toNat) := by
  have e : fcN g (x + 1).toNat = if ∀ b : Nat, b < x.toNat → g b ≠ g x.toNat then fcN g x.toNat + 1 else fcN g x.toNat := fz_s _ _ h
  rw [e]
  by_cases hc : ∀ b : Nat, b < x.toNat → g b ≠ g x.toNat
  · exact Or.inl ⟨hc, if_pos hc⟩
  · refine Or.inr ⟨?_, if_neg hc⟩
    refine Classical.byContradiction (fun h1 => hc (fun b hb e2 => h1 ⟨b, hb, e2⟩))
theorem fcN_c {g f : Nat → Int} (n : Nat) (h : ∀ c d : Nat, c < n → d < n → (g c = g d ↔ f c = f d)) : fcN g n = fcN f n := fz_c _ _ (fun k hk m => by
  have e : (∀ b : Nat, b < k → g b ≠ g k) ↔ (∀ b : Nat, b < k → f b ≠ f k) := ⟨fun h1 b hb e2 => h1 b hb ((h b k (by omega) hk).mpr e2), fun h1 b hb e2 => h1 b hb ((h b k (by omega) hk).mp e2)⟩
  by_cases h1 : ∀ b : Nat, b < k → g b ≠ g k
  · rw [if_pos h1, if_pos (e.mp h1)]
  · rw [if_neg h1, if_neg (fun h2 => h1 (e.mpr h2))])
def gpA (P : Int → Int) (n what : Int) : Int := if what = 100 then fcN (knP P n.toNat).1 12 else grB (knP P n.toNat).1 what.toNat 12
theorem gpA_e (P : Int → Int) (n what : Int) : (what = 100 ∧ gpA P n what = fcN (knP P n.toNat).1 12) ∨ (what ≠ 100 ∧ gpA P n what = grB (knP P n.toNat).1 what.toNat 12) := by
  by_cases h : what = 100
  · exact Or.inl ⟨h, if_pos h⟩
  · exact Or.inr ⟨h, if_neg h⟩
def ciF (A B K V : Nat → Int) (i what : Int) : Int := if what = 0 then A i.toNat else if what = 1 then B i.toNat else if what = 2 then K i.toNat else V i.toNat
theorem ciF_e (A B K V : Nat → Int) (i what : Int) (h : 0 ≤ what ∧ what ≤ 3) : (what = 0 ∧ ciF A B K V i what = A i.toNat) ∨ (what = 1 ∧ ciF A B K V i what = B i.toNat) ∨ (what = 2 ∧ ciF A B K V i what = K i.toNat) ∨ (what = 3 ∧ ciF A B K V i what = V i.toNat) := by
  rcases (show what = 0 ∨ what = 1 ∨ what = 2 ∨ what = 3 by omega) with rfl | rfl | rfl | rfl
  · exact Or.inl ⟨rfl, rfl⟩
  · exact Or.inr (Or.inl ⟨rfl, rfl⟩)
  · exact Or.inr (Or.inr (Or.inl ⟨rfl, rfl⟩))
  · exact Or.inr (Or.inr (Or.inr ⟨rfl, rfl⟩))
def ciA (P : Int → Int) (i what : Int) : Int := ciF (cA P) (cB P) (cK P) (cV P) i what
theorem ciA_e {P : Int → Int} {n i : Int} {A B K V : Nat → Int} (what : Int) (h : AG P n A B K V) (hi : 0 ≤ i ∧ i < n) : ciF A B K V i what = ciA P i what := by
  obtain ⟨h1, h2, h3, h4, _⟩ := h i.toNat (by omega)
  unfold ciA ciF
  rw [h1, h2, h3, h4]
/-- what the state keeps of the class's claims -/
def CLd (t : Int) (P : Int → Int) (n : Int) (A B K V g o : Nat → Int) : Prop := t = 1 → AG P n A B K V ∧ KR g o (knP P n.toNat)
theorem CLd.off (P : Int → Int) (n : Int) (A B K V g o : Nat → Int) : CLd 0 P n A B K V g o := fun h => absurd h (by decide)
theorem CLd.ini {P : Int → Int} {A B K V g o : Nat → Int} (h : ∀ c : Nat, (c : Int) < 12 → g c = (c : Int) ∧ o c = 0) : CLd 1 P 0 A B K V g o := fun _ => ⟨AG.nil _ _ _ _ _, KR.ini (fun c hc => h c (by omega))⟩
/-- the text of the claims behind a call -/
def clS (p sn : Int) (sb : Nat → Int) (P : Int → Int) : Int → Int := if (1 ≤ p ∧ p ≤ 250 ∧ p ≤ sn) ∧ 0 ≤ clN (sgP p sb) p then sgP p sb else P
theorem clS_y {p sn : Int} {sb : Nat → Int} {P : Int → Int} (h : (1 ≤ p ∧ p ≤ 250 ∧ p ≤ sn) ∧ 0 ≤ clN (sgP p sb) p) : clS p sn sb P = sgP p sb := if_pos h
theorem clS_n {p sn : Int} {sb : Nat → Int} {P : Int → Int} (h : ¬ ((1 ≤ p ∧ p ≤ 250 ∧ p ≤ sn) ∧ 0 ≤ clN (sgP p sb) p)) : clS p sn sb P = P := if_neg h
