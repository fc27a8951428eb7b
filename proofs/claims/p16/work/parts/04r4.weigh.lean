-- weighings: a digit each of some, from the lowest on
def wyS (g : Nat → Int) (n : Nat) : Int := fz (fun k c => c + g k) 0 n
theorem wyS_1 (g : Nat → Int) (n : Nat) : wyS g (n + 1) = wyS g n + g n := rfl
theorem wyS_c {g h : Nat → Int} (n : Nat) (H : ∀ k : Nat, k < n → g k = h k) : wyS g n = wyS h n := fz_c _ _ (fun k hk x => by rw [H k hk])
theorem wyS_0 (n : Nat) : wyS (fun _ => 0) n = 0 := by
  induction n with
  | zero => rfl
  | succ n ih => rw [wyS_1, ih]; rfl
theorem wyS_add (g h : Nat → Int) (n : Nat) : wyS (fun k => g k + h k) n = wyS g n + wyS h n := by
  induction n with
  | zero => rfl
  | succ n ih => rw [wyS_1, wyS_1, wyS_1, ih]; omega
theorem wyS_app (g : Nat → Int) (a b : Nat) : wyS g (a + b) = wyS g a + wyS (fun r => g (a + r)) b := by
  induction b with
  | zero => exact (Int.add_zero _).symm
  | succ b ih => rw [← Nat.add_assoc, wyS_1, wyS_1, ih]; omega
theorem wyS_r {g : Nat → Int} {c : Int} (n : Nat) (h : ∀ k : Nat, 0 ≤ g k ∧ g k ≤ c) : 0 ≤ wyS g n ∧ wyS g n ≤ (n : Int) * c := by
  induction n with
  | zero => exact ⟨Int.le_refl 0, by show (0 : Int) ≤ 0 * c; rw [Int.zero_mul]; exact Int.le_refl 0⟩
  | succ n ih =>
    have h1 := h n
    have h2 : (((n + 1 : Nat) : Int)) * c = (n : Int) * c + c := by rw [show ((n + 1 : Nat) : Int) = (n : Int) + 1 from rfl, Int.add_mul, Int.one_mul]
    rw [wyS_1, h2]
    omega
theorem wyS_le {g : Nat → Int} {n m : Nat} (h : ∀ k : Nat, 0 ≤ g k) (hn : n ≤ m) : wyS g n ≤ wyS g m := by
  have h1 : ∀ d : Nat, wyS g n ≤ wyS g (n + d) := by
    intro d
    induction d with
    | zero => exact Int.le_refl _
    | succ d ih => have := h (n + d); rw [← Nat.add_assoc, wyS_1]; omega
  have h2 := h1 (m - n)
  rw [show n + (m - n) = m by omega] at h2
  exact h2
theorem wyS_split (B : Nat) (hB : 0 < B) (g : Nat → Nat → Int) : ∀ K : Nat, wyS (fun c => g (c % B) (c / B)) (B * K) = wyS (fun r => wyS (fun q => g r q) K) B := by
  intro K
  induction K with
  | zero => rw [Nat.mul_zero]; exact (wyS_0 B).symm
  | succ K ih =>
    rw [Nat.mul_succ, wyS_app, ih]
    have h1 : wyS (fun r => (fun c => g (c % B) (c / B)) (B * K + r)) B = wyS (fun r => g r K) B := wyS_c B (fun r hr => by
      show g ((B * K + r) % B) ((B * K + r) / B) = g r K
      rw [Nat.mul_add_mod, Nat.mod_eq_of_lt hr, Nat.mul_add_div hB, Nat.div_eq_of_lt hr, Nat.add_zero])
    rw [h1, ← wyS_add]
    rfl
def wy (S B : Nat) (I : (Nat → Int) → Int) : Nat → (Nat → Int) → Int
  | 0, W => I W
  | d + 1, W => if S.testBit (11 - d) = true then wyS (fun w => wy S B I d (updZ W (11 - d) (w : Int))) B else wy S B I d W
def wb (S : Nat) : Nat → Nat
  | 0 => 0
  | d + 1 => if S.testBit (11 - d) = true then wb S d + 1 else wb S d
def wd (S B : Nat) : Nat → Nat → (Nat → Int) → (Nat → Int)
  | 0, _, W => W
  | d + 1, c, W => if S.testBit (11 - d) = true then wd S B d (c / B) (updZ W (11 - d) ((c % B : Nat) : Int)) else wd S B d c W
theorem wy_y {S B : Nat} {I : (Nat → Int) → Int} {d : Nat} (W : Nat → Int) (h : S.testBit (11 - d) = true) : wy S B I (d + 1) W = wyS (fun w => wy S B I d (updZ W (11 - d) (w : Int))) B := if_pos h
theorem wy_n {S B : Nat} {I : (Nat → Int) → Int} {d : Nat} (W : Nat → Int) (h : ¬ S.testBit (11 - d) = true) : wy S B I (d + 1) W = wy S B I d W := if_neg h
theorem wd_y {S B : Nat} {d : Nat} (c : Nat) (W : Nat → Int) (h : S.testBit (11 - d) = true) : wd S B (d + 1) c W = wd S B d (c / B) (updZ W (11 - d) ((c % B : Nat) : Int)) := if_pos h
theorem wd_n {S B : Nat} {d : Nat} (c : Nat) (W : Nat → Int) (h : ¬ S.testBit (11 - d) = true) : wd S B (d + 1) c W = wd S B d c W := if_neg h
theorem wb_y {S d : Nat} (h : S.testBit (11 - d) = true) : wb S (d + 1) = wb S d + 1 := if_pos h
theorem wb_n {S d : Nat} (h : ¬ S.testBit (11 - d) = true) : wb S (d + 1) = wb S d := if_neg h
theorem wy_sum (S B : Nat) (hB : 0 < B) (I : (Nat → Int) → Int) : ∀ (d : Nat) (W : Nat → Int), wyS (fun c => I (wd S B d c W)) (B ^ wb S d) = wy S B I d W := by
  intro d
  induction d with
  | zero => intro W; show (0 : Int) + I W = I W; exact Int.zero_add _
  | succ d ih =>
    intro W
    by_cases h : S.testBit (11 - d) = true
    · rw [wb_y h, wy_y W h, Nat.pow_succ, Nat.mul_comm]
      have h1 := wyS_split B hB (fun r q => I (wd S B d q (updZ W (11 - d) (r : Int)))) (B ^ wb S d)
      rw [wyS_c B (fun r _ => ih (updZ W (11 - d) (r : Int)))] at h1
      rw [← h1]
      exact wyS_c _ (fun c _ => by rw [wd_y c W h])
    · rw [wb_n h, wy_n W h, ← ih W]
      exact wyS_c _ (fun c _ => by rw [wd_n c W h])
/-- what can come of W -/
def wyA (S B d : Nat) (W V : Nat → Int) : Prop := ∀ j : Nat, (j < 12 - d ∨ S.testBit j = false → V j = W j) ∧ (12 - d ≤ j → j < 12 → S.testBit j = true → 0 ≤ V j ∧ V j < (B : Int))
theorem wy_c (S B : Nat) {I J : (Nat → Int) → Int} : ∀ (d : Nat), d ≤ 12 → ∀ W : Nat → Int, (∀ V : Nat → Int, wyA S B d W V → I V = J V) → wy S B I d W = wy S B J d W := by
  intro d
  induction d with
  | zero => intro _ W h; exact h W (fun j => ⟨fun _ => rfl, fun a b => absurd a (by omega)⟩)
  | succ d ih =>
    intro hd W h
    by_cases hb : S.testBit (11 - d) = true
    · rw [wy_y W hb, wy_y W hb]
      refine wyS_c B (fun w hw => ih (by omega) _ (fun V hV => h V (fun j => ⟨fun hj => ?_, fun h1 h2 h3 => ?_⟩)))
      · have hne : j ≠ 11 - d := fun e => by
          rcases hj with hj | hj
          · omega
          · rw [e, hb] at hj; exact absurd hj (by decide)
        have h4 := (hV j).1 (hj.elim (fun a => Or.inl (by omega)) Or.inr)
        rw [h4, updZ_n _ _ hne]
      · rcases (show j = 11 - d ∨ 12 - d ≤ j by omega) with h4 | h4
        · have h5 := (hV j).1 (Or.inl (by omega))
          rw [h5, h4, updZ_s]
          omega
        · exact (hV j).2 h4 h2 h3
    · rw [wy_n W hb, wy_n W hb]
      refine ih (by omega) W (fun V hV => h V (fun j => ⟨fun hj => (hV j).1 (hj.elim (fun a => Or.inl (by omega)) Or.inr), fun h1 h2 h3 => ?_⟩))
      rcases (show j = 11 - d ∨ 12 - d ≤ j by omega) with h4 | h4
      · rw [h4] at h3; exact absurd h3 hb
      · exact (hV j).2 h4 h2 h3
theorem wy_zero (S B : Nat) : ∀ (d : Nat) (W : Nat → Int), wy S B (fun _ => 0) d W = 0 := by
  intro d
  induction d with
  | zero => intro _; rfl
  | succ d ih =>
    intro W
    by_cases hb : S.testBit (11 - d) = true
    · rw [wy_y W hb, wyS_c B (fun w _ => ih (updZ W (11 - d) (w : Int)))]
      exact wyS_0 B
    · rw [wy_n W hb]; exact ih W
theorem wy_r {S B : Nat} {I : (Nat → Int) → Int} (hI : ∀ V : Nat → Int, 0 ≤ I V ∧ I V ≤ 1) : ∀ (d : Nat) (W : Nat → Int), 0 ≤ wy S B I d W ∧ wy S B I d W ≤ ((B ^ wb S d : Nat) : Int) := by
  intro d
  induction d with
  | zero => intro W; exact hI W
  | succ d ih =>
    intro W
    by_cases hb : S.testBit (11 - d) = true
    · rw [wy_y W hb, wb_y hb, Nat.pow_succ, Nat.mul_comm]
      have h1 := wyS_r B (fun w => ih (updZ W (11 - d) (w : Int)))
      rw [Int.natCast_mul]
      exact h1
    · rw [wy_n W hb, wb_n hb]; exact ih W
theorem wy_S {S T B : Nat} {I : (Nat → Int) → Int} : ∀ (d : Nat), d ≤ 12 → (∀ j : Nat, 12 - d ≤ j → j < 12 → S.testBit j = T.testBit j) → ∀ W : Nat → Int, wy S B I d W = wy T B I d W := by
  intro d
  induction d with
  | zero => intro _ _ W; rfl
  | succ d ih =>
    intro hd h W
    have h1 := h (11 - d) (by omega) (by omega)
    have h2 := ih (by omega) (fun j a b => h j (by omega) b)
    by_cases hb : S.testBit (11 - d) = true
    · rw [wy_y W hb, wy_y W (h1 ▸ hb)]
      exact wyS_c B (fun w _ => h2 _)
    · rw [wy_n W hb, wy_n W (h1 ▸ hb)]; exact h2 W
theorem wy_skip {S B : Nat} {I : (Nat → Int) → Int} {W : Nat → Int} (d : Nat) : ∀ k : Nat, d + k ≤ 12 → (∀ j : Nat, 12 - (d + k) ≤ j → j < 12 - d → S.testBit j = false) → wy S B I (d + k) W = wy S B I d W := by
  intro k
  induction k with
  | zero => intro _ _; rfl
  | succ k ih =>
    intro hk h
    have h1 := h (11 - (d + k)) (by omega) (by omega)
    have h2 : wy S B I (d + k + 1) W = wy S B I (d + k) W := wy_n W (by rw [h1]; decide)
    exact h2.trans (ih (by omega) (fun j a b => h j (by omega) b))
theorem wy_W {S B U : Nat} {I : (Nat → Int) → Int} (hI : ∀ V V' : Nat → Int, (∀ j : Nat, j < 12 → U.testBit j = true → V j = V' j) → I V = I V') : ∀ (d : Nat), d ≤ 12 → (∀ j : Nat, 12 - d ≤ j → j < 12 → U.testBit j = true → S.testBit j = true) → ∀ W W' : Nat → Int, (∀ j : Nat, j < 12 - d → U.testBit j = true → W j = W' j) → wy S B I d W = wy S B I d W' := by
  intro d
  induction d with
  | zero => intro _ _ W W' h; exact hI W W' (fun j a b => h j (by omega) b)
  | succ d ih =>
    intro hd hU W W' h
    have hU2 : ∀ j : Nat, 12 - d ≤ j → j < 12 → U.testBit j = true → S.testBit j = true := fun j a b c => hU j (by omega) b c
    by_cases hb : S.testBit (11 - d) = true
    · rw [wy_y W hb, wy_y W' hb]
      refine wyS_c B (fun w _ => ih (by omega) hU2 _ _ (fun j a b => ?_))
      by_cases e : j = 11 - d
      · rw [e, updZ_s, updZ_s]
      · rw [updZ_n _ _ e, updZ_n _ _ e]; exact h j (by omega) b
    · rw [wy_n W hb, wy_n W' hb]
      refine ih (by omega) hU2 W W' (fun j a b => ?_)
      by_cases e : j = 11 - d
      · exact absurd (hU j (by omega) (by omega) b) (by rw [e]; exact hb)
      · exact h j (by omega) b
theorem wb_le {S T : Nat} (h : ∀ j : Nat, S.testBit j = true → T.testBit j = true) : ∀ d : Nat, wb S d ≤ wb T d := by
  intro d
  induction d with
  | zero => exact Nat.le_refl _
  | succ d ih =>
    by_cases hb : S.testBit (11 - d) = true
    · rw [wb_y hb, wb_y (h _ hb)]; omega
    · rw [wb_n hb]
      by_cases hc : T.testBit (11 - d) = true
      · rw [wb_y hc]; omega
      · rw [wb_n hc]; exact ih
theorem pw10 {B k : Nat} (hB : B ≤ 10) (hk : k ≤ 4) : B ^ k ≤ 10000 := Nat.le_trans (Nat.pow_le_pow_left hB k) (Nat.pow_le_pow_right (n := 10) (by decide) hk)
noncomputable def ind (p : Prop) : Int := @ite Int p (Classical.propDecidable p) 1 0
theorem ind_y {p : Prop} (h : p) : ind p = 1 := if_pos h
theorem ind_n {p : Prop} (h : ¬ p) : ind p = 0 := if_neg h
theorem ind_c {p q : Prop} (h : p ↔ q) : ind p = ind q := by rw [propext h]
theorem ind_r (p : Prop) : 0 ≤ ind p ∧ ind p ≤ 1 := by
  rcases Classical.em p with h | h
  · rw [ind_y h]; decide
  · rw [ind_n h]; decide
-- the class's: number by number of the lowest one, asked against those that are done
def okP (D W : Nat → Int) (t o : Nat) : Prop := W t - W o ≤ D (12 * t + o) ∧ W o - W t ≤ D (12 * o + t)
def ftP (D W : Nat → Int) (dn t : Nat) : Prop := ∀ o : Nat, o < 12 → dn.testBit o = true → okP D W t o
def jR (D : Nat → Int) (U R : Nat) (W : Nat → Int) : Prop := ∀ t o : Nat, t < 12 → R.testBit t = true → o < t → U.testBit o = true → okP D W t o
noncomputable def jI (D : Nat → Int) (U R : Nat) : (Nat → Int) → Int := fun V => ind (jR D U R V)
theorem okP_c {D V W : Nat → Int} {t o : Nat} (h1 : V t = W t) (h2 : V o = W o) : okP D V t o ↔ okP D W t o := by unfold okP; rw [h1, h2]
theorem jI_W {D : Nat → Int} {U R : Nat} (hR : ∀ j : Nat, R.testBit j = true → U.testBit j = true) (V V' : Nat → Int) (h : ∀ j : Nat, j < 12 → U.testBit j = true → V j = V' j) : jI D U R V = jI D U R V' :=
  ind_c ⟨fun a t o h1 h2 h3 h4 => (okP_c (h t h1 (hR t h2)) (h o (by omega) h4)).mp (a t o h1 h2 h3 h4), fun a t o h1 h2 h3 h4 => (okP_c (h t h1 (hR t h2)) (h o (by omega) h4)).mpr (a t o h1 h2 h3 h4)⟩
theorem or_bit (dn rs j : Nat) : (dn ||| rs).testBit j = true ↔ dn.testBit j = true ∨ rs.testBit j = true := by rw [Nat.testBit_or, Bool.or_eq_true]
theorem wy_low {rs B t : Nat} {I : (Nat → Int) → Int} {W : Nat → Int} (ht : t < 12) (hrt : rs.testBit t = true) (hlow : ∀ k : Nat, k < t → rs.testBit k = false) : wy rs B I 12 W = wyS (fun w => wy rs B I (11 - t) (updZ W t (w : Int))) B := by
  have h1 := wy_skip (S := rs) (B := B) (I := I) (W := W) (12 - t) t (by omega) (fun j _ b => hlow j (by omega))
  rw [show 12 - t + t = 12 by omega, show 12 - t = (11 - t) + 1 by omega] at h1
  rw [h1, wy_y W (by rw [show 11 - (11 - t) = t by omega]; exact hrt), show 11 - (11 - t) = t by omega]
theorem wy_1st {D W We : Nat → Int} {dn rs B t : Nat} {w : Int} (ht : t < 12) (hlow : ∀ k : Nat, k < t → rs.testBit k = false) (hdn : ∀ o : Nat, dn.testBit o = true → o < t) (hWe : ∀ j : Nat, rs.testBit j = false → We j = W j) : wy rs B (jI D (dn ||| rs) rs) (11 - t) (updZ W t w) = wy rs B (jI D (dn ||| rs) rs) (11 - t) (updZ We t w) := by
  refine wy_W (U := dn ||| rs) (jI_W (fun j hj => (or_bit dn rs j).mpr (Or.inr hj))) (11 - t) (by omega) (fun j a _ c => ?_) _ _ (fun j a b => ?_)
  · rcases (or_bit dn rs j).mp c with h | h
    · exact absurd (hdn j h) (by omega)
    · exact h
  · by_cases e : j = t
    · rw [e, updZ_s, updZ_s]
    · rw [updZ_n _ _ e, updZ_n _ _ e]; exact (hWe j (hlow j (by omega))).symm
theorem wy_go_n {D W We : Nat → Int} {dn rs B t : Nat} {w : Int} (ht : t < 12) (hrt : rs.testBit t = true) (hlow : ∀ k : Nat, k < t → rs.testBit k = false) (hdn : ∀ o : Nat, dn.testBit o = true → o < t) (hWe : ∀ j : Nat, rs.testBit j = false → We j = W j) (hf : ¬ ftP D (updZ We t w) dn t) : wy rs B (jI D (dn ||| rs) rs) (11 - t) (updZ W t w) = 0 := by
  rw [wy_1st ht hlow hdn hWe]
  refine (wy_c rs B (I := jI D (dn ||| rs) rs) (J := fun _ => 0) (11 - t) (by omega) (updZ We t w) (fun V hV => ?_)).trans (wy_zero rs B _ _)
  exact ind_n (fun hj => hf (fun o ho hd => by
    have ho := hdn o hd
    exact (okP_c ((hV t).1 (Or.inl (by omega))) ((hV o).1 (Or.inl (by omega)))).mp (hj t o ht hrt ho ((or_bit dn rs o).mpr (Or.inl hd)))))
theorem wy_go_y {D W We : Nat → Int} {dn rs B t : Nat} {w : Int} (ht : t < 12) (h4 : rs < 4096) (hrt : rs.testBit t = true) (hlow : ∀ k : Nat, k < t → rs.testBit k = false) (hdn : ∀ o : Nat, dn.testBit o = true → o < t) (hWe : ∀ j : Nat, rs.testBit j = false → We j = W j) (hf : ftP D (updZ We t w) dn t) : wy rs B (jI D (dn ||| rs) rs) (11 - t) (updZ W t w) = wy (sbN rs t) B (jI D ((dn ||| 2 ^ t) ||| sbN rs t) (sbN rs t)) 12 (updZ We t w) := by
  have hsb : ∀ j : Nat, (sbN rs t).testBit j = true ↔ rs.testBit j = true ∧ j ≠ t := fun j => by rw [sbN_bit h4 ht, Bool.and_eq_true, decide_eq_true_iff]
  have hU : (dn ||| 2 ^ t) ||| sbN rs t = dn ||| rs := by
    apply Nat.eq_of_testBit_eq
    intro j
    rw [Bool.eq_iff_iff, or_bit, or_bit, or_bit, hsb j, Nat.testBit_two_pow, decide_eq_true_iff]
    constructor
    · rintro ((a | a) | a)
      · exact Or.inl a
      · exact Or.inr (a ▸ hrt)
      · exact Or.inr a.1
    · rintro (a | a)
      · exact Or.inl (Or.inl a)
      · by_cases e : t = j
        · exact Or.inl (Or.inr e)
        · exact Or.inr ⟨a, fun e2 => e e2.symm⟩
  rw [hU, wy_1st ht hlow hdn hWe]
  have e1 : wy rs B (jI D (dn ||| rs) rs) (11 - t) (updZ We t w) = wy rs B (jI D (dn ||| rs) (sbN rs t)) (11 - t) (updZ We t w) := wy_c rs B (11 - t) (by omega) _ (fun V hV => ind_c ⟨fun hj t' o a b c d => hj t' o a ((hsb t').mp b).1 c d, fun hj t' o a b c d => by
    by_cases e : t' = t
    · subst e
      rcases (or_bit dn rs o).mp d with h | h
      · exact (okP_c ((hV t').1 (Or.inl (by omega))) ((hV o).1 (Or.inl (by omega)))).mpr (hf o (by omega) h)
      · rw [hlow o c] at h; exact absurd h (by decide)
    · exact hj t' o a ((hsb t').mpr ⟨b, e⟩) c d⟩)
  have e2 := wy_S (S := rs) (T := sbN rs t) (B := B) (I := jI D (dn ||| rs) (sbN rs t)) (11 - t) (by omega) (fun j a _ => by rw [Bool.eq_iff_iff, hsb j]; exact ⟨fun h => ⟨h, by omega⟩, fun h => h.1⟩) (updZ We t w)
  have e3 := wy_skip (S := sbN rs t) (B := B) (I := jI D (dn ||| rs) (sbN rs t)) (W := updZ We t w) (11 - t) (t + 1) (by omega) (fun j _ b => by
    rcases Bool.eq_false_or_eq_true ((sbN rs t).testBit j) with h | h
    · have h2 := (hsb j).mp h
      rw [hlow j (by omega)] at h2
      exact absurd h2.1 (by decide)
    · exact h)
  rw [show 11 - t + (t + 1) = 12 by omega] at e3
  rw [e1, e2, e3]
theorem wy_none {B : Nat} {D W : Nat → Int} {U : Nat} : wy 0 B (jI D U 0) 12 W = 1 := by
  have h1 := wy_skip (S := 0) (B := B) (I := jI D U 0) (W := W) 0 12 (by omega) (fun j _ _ => Nat.zero_testBit j)
  rw [Nat.zero_add] at h1
  rw [h1]
  exact ind_y (fun t o _ h => by rw [Nat.zero_testBit] at h; exact absurd h (by decide))
-- the reference's: the claims themselves
def cR (A B K V : Nat → Int) (n S : Nat) (W : Nat → Int) : Prop := ∀ j : Nat, j < n → S.testBit (A j).toNat = true → S.testBit (B j).toNat = true → hK A B K V W j
noncomputable def wyI (A B K V : Nat → Int) (n S : Nat) : (Nat → Int) → Int := fun W => ind (cR A B K V n S W)
theorem cR_c {A B K V : Nat → Int} {n S : Nat} {W W' : Nat → Int} (h : ∀ j : Nat, S.testBit j = true → W j = W' j) : cR A B K V n S W ↔ cR A B K V n S W' := by
  constructor
  · intro a j h1 h2 h3; have h4 := a j h1 h2 h3; unfold hK at h4 ⊢; rw [← h _ h2, ← h _ h3]; exact h4
  · intro a j h1 h2 h3; have h4 := a j h1 h2 h3; unfold hK at h4 ⊢; rw [h _ h2, h _ h3]; exact h4
theorem cR_r {A B K V A' B' K' V' : Nat → Int} {n S : Nat} {W : Nat → Int} (h : ∀ j : Nat, j < n → A j = A' j ∧ B j = B' j ∧ K j = K' j ∧ V j = V' j) : cR A B K V n S W ↔ cR A' B' K' V' n S W := by
  constructor
  · intro a j h1 h2 h3
    obtain ⟨e1, e2, e3, e4⟩ := h j h1
    rw [← e1] at h2; rw [← e2] at h3
    have h4 := a j h1 h2 h3
    unfold hK at h4 ⊢; rw [← e1, ← e2, ← e3, ← e4]; exact h4
  · intro a j h1 h2 h3
    obtain ⟨e1, e2, e3, e4⟩ := h j h1
    rw [e1] at h2; rw [e2] at h3
    have h4 := a j h1 h2 h3
    unfold hK at h4 ⊢; rw [e1, e2, e3, e4]; exact h4
theorem wd_c {S B : Nat} : ∀ (d : Nat), d ≤ 12 → ∀ (c : Nat) (W W' : Nat → Int), (∀ j : Nat, S.testBit j = true → j < 12 - d → W j = W' j) → ∀ j : Nat, S.testBit j = true → j < 12 → wd S B d c W j = wd S B d c W' j := by
  intro d
  induction d with
  | zero => intro _ c W W' h j hj h2; exact h j hj h2
  | succ d ih =>
    intro hd c W W' h
    by_cases hb : S.testBit (11 - d) = true
    · rw [wd_y c W hb, wd_y c W' hb]
      refine ih (by omega) _ _ _ (fun j a b => ?_)
      by_cases e : j = 11 - d
      · rw [e, updZ_s, updZ_s]
      · rw [updZ_n _ _ e, updZ_n _ _ e]; exact h j a (by omega)
    · rw [wd_n c W hb, wd_n c W' hb]
      refine ih (by omega) _ _ _ (fun j a b => ?_)
      by_cases e : j = 11 - d
      · rw [e] at a; exact absurd a hb
      · exact h j a (by omega)
theorem wd_s {S B c : Nat} {W : Nat → Int} {x : Int} (h : 0 ≤ x ∧ x ≤ 11) : (S.testBit x.toNat = true ∧ wd S B (12 - x).toNat c W = wd S B (12 - (x + 1)).toNat (c / B) (updZ W x.toNat ((c % B : Nat) : Int))) ∨ (¬ S.testBit x.toNat = true ∧ wd S B (12 - x).toNat c W = wd S B (12 - (x + 1)).toNat c W) := by
  rw [show (12 - x).toNat = (12 - (x + 1)).toNat + 1 by omega]
  by_cases hb : S.testBit x.toNat = true
  · refine Or.inl ⟨hb, ?_⟩
    rw [wd_y c W (by rw [show 11 - (12 - (x + 1)).toNat = x.toNat by omega]; exact hb), show 11 - (12 - (x + 1)).toNat = x.toNat by omega]
  · refine Or.inr ⟨hb, ?_⟩
    rw [wd_n c W (by rw [show 11 - (12 - (x + 1)).toNat = x.toNat by omega]; exact hb)]
theorem wd_r {S B : Nat} (hB : 0 < B) : ∀ (d : Nat) (c : Nat) (W : Nat → Int), (∀ j : Nat, 0 ≤ W j ∧ W j < (B : Int)) → ∀ j : Nat, 0 ≤ wd S B d c W j ∧ wd S B d c W j < (B : Int) := by
  intro d
  induction d with
  | zero => intro c W h; exact h
  | succ d ih =>
    intro c W h
    by_cases hb : S.testBit (11 - d) = true
    · rw [wd_y c W hb]
      refine ih _ _ (fun j => ?_)
      by_cases e : j = 11 - d
      · rw [e, updZ_s]; have := Nat.mod_lt c hB; omega
      · rw [updZ_n _ _ e]; exact h j
    · rw [wd_n c W hb]; exact ih c W h
-- a bound of what is told is one of each claim
theorem le_to1 {f : Nat → Int} {p q a b : Nat} {k v x : Int} (hp : p < 12) (hq : q < 12) (ha : a < 12) (hb : b < 12) : x ≤ to1 f p q k v (12 * a + b) ↔ x ≤ f (12 * a + b) ∧ (k ≠ 2 ∧ p = a ∧ q = b → x ≤ v) := by
  by_cases hk : k = 2
  · rw [to1_2 hk]; exact ⟨fun h => ⟨h, fun h2 => absurd hk h2.1⟩, fun h => h.1⟩
  · rw [to1_x hk]
    unfold tlU
    by_cases e : 12 * a + b = 12 * p + q
    · rw [e, updZ_s]
      have h1 := mn_e (f (12 * p + q)) v
      constructor
      · intro h; exact ⟨by omega, fun _ => by omega⟩
      · intro h; have h2 := h.2 ⟨hk, by omega, by omega⟩; omega
    · rw [updZ_n _ _ e]; exact ⟨fun h => ⟨h, fun h2 => absurd (by omega) e⟩, fun h => h.1⟩
theorem le_to2 {f : Nat → Int} {p q a b : Nat} {k v x : Int} (hp : p < 12) (hq : q < 12) (ha : a < 12) (hb : b < 12) : x ≤ to2 f p q k v (12 * a + b) ↔ x ≤ f (12 * a + b) ∧ (k ≠ 1 ∧ q = a ∧ p = b → x ≤ -v) := by
  by_cases hk : k = 1
  · rw [to2_1 hk]; exact ⟨fun h => ⟨h, fun h2 => absurd hk h2.1⟩, fun h => h.1⟩
  · rw [to2_x hk]
    unfold tlU
    by_cases e : 12 * a + b = 12 * q + p
    · rw [e, updZ_s]
      have h1 := mn_e (f (12 * q + p)) (-v)
      constructor
      · intro h; exact ⟨by omega, fun _ => by omega⟩
      · intro h; have h2 := h.2 ⟨hk, by omega, by omega⟩; omega
    · rw [updZ_n _ _ e]; exact ⟨fun h => ⟨h, fun h2 => absurd (by omega) e⟩, fun h => h.1⟩
theorem le_toF {A B K V : Nat → Int} {a b : Nat} {x : Int} (ha : a < 12) (hb : b < 12) (hab : a ≠ b) (hx : x ≤ 1000000) : ∀ n : Nat, (∀ j : Nat, j < n → (0 ≤ A j ∧ A j ≤ 11) ∧ (0 ≤ B j ∧ B j ≤ 11)) → (x ≤ toF A B K V (-1) n (12 * a + b) ↔ ∀ j : Nat, j < n → (K j ≠ 2 ∧ (A j).toNat = a ∧ (B j).toNat = b → x ≤ V j) ∧ (K j ≠ 1 ∧ (B j).toNat = a ∧ (A j).toNat = b → x ≤ -V j)) := by
  intro n
  induction n with
  | zero =>
    intro _
    rw [toF_0, if_neg (by omega)]
    exact ⟨fun _ j hj => absurd hj (Nat.not_lt_zero j), fun _ => hx⟩
  | succ n ih =>
    intro hr
    have h1 := hr n (Nat.lt_succ_self n)
    have h2 := toF_s (A := A) (B := B) (K := K) (V := V) (w := -1) (x := (n : Int)) (by omega)
    have h3 := (h2.resolve_left (fun h => by omega)).2
    rw [show ((n : Int) + 1).toNat = n + 1 by omega, Int.toNat_natCast] at h3
    rw [h3, le_to2 (by omega) (by omega) ha hb, le_to1 (by omega) (by omega) ha hb, ih (fun j hj => hr j (by omega))]
    constructor
    · rintro ⟨⟨c1, c2⟩, c3⟩ j hj
      rcases (show j < n ∨ j = n by omega) with h | h
      · exact c1 j h
      · rw [h]; exact ⟨c2, c3⟩
    · intro h
      exact ⟨⟨fun j hj => h j (by omega), (h n (Nat.lt_succ_self n)).1⟩, (h n (Nat.lt_succ_self n)).2⟩
theorem jR_cR {A B K V D W : Nat → Int} {n S U : Nat} (hU : ∀ j : Nat, U.testBit j = true ↔ S.testBit j = true) (hS : S < 4096) (hr : ∀ j : Nat, j < n → (0 ≤ A j ∧ A j ≤ 11) ∧ (0 ≤ B j ∧ B j ≤ 11) ∧ A j ≠ B j) (hD : ∀ c : Nat, c < 144 → D c = toF A B K V (-1) n c) (hk : ∀ j : Nat, j < n → 0 ≤ K j ∧ K j ≤ 2) (hW : ∀ j : Nat, j < 12 → S.testBit j = true → 0 ≤ W j ∧ W j ≤ 9) : jR D U S W ↔ cR A B K V n S W := by
  have hr2 : ∀ j : Nat, j < n → (0 ≤ A j ∧ A j ≤ 11) ∧ (0 ≤ B j ∧ B j ≤ 11) := fun j hj => ⟨(hr j hj).1, (hr j hj).2.1⟩
  have h12 : ∀ j : Nat, S.testBit j = true → j < 12 := fun j hj => by
    rcases (show j < 12 ∨ 12 ≤ j by omega) with h | h
    · exact h
    · have h6 : S.testBit j = false := Nat.testBit_lt_two_pow (Nat.lt_of_lt_of_le hS (Nat.pow_le_pow_right (n := 2) (by decide) h))
      rw [h6] at hj; exact absurd hj (by decide)
  constructor
  · intro hj j hjn hA hB
    have h1 := hr j hjn
    have key : ∀ a b : Nat, a ≠ b → S.testBit a = true → S.testBit b = true → W a - W b ≤ D (12 * a + b) := fun a b hab h2 h3 => by
      rcases (show b < a ∨ a < b by omega) with h | h
      · exact (hj a b (h12 a h2) h2 h ((hU b).mpr h3)).1
      · exact (hj b a (h12 b h3) h3 h ((hU a).mpr h2)).2
    have ha := h12 _ hA
    have hb := h12 _ hB
    have hwa := hW _ ha hA
    have hwb := hW _ hb hB
    have k1 := key (A j).toNat (B j).toNat (by omega) hA hB
    have k2 := key (B j).toNat (A j).toNat (by omega) hB hA
    rw [hD _ (by omega), le_toF ha hb (by omega) (by omega) n hr2] at k1
    rw [hD _ (by omega), le_toF hb ha (by omega) (by omega) n hr2] at k2
    have m1 := (k1 j hjn).1
    have m2 := (k2 j hjn).2
    have hkj := hk j hjn
    unfold hK
    by_cases e0 : K j = 0
    · have q1 := m1 ⟨by omega, rfl, rfl⟩
      have q2 := m2 ⟨by omega, rfl, rfl⟩
      exact Or.inl ⟨e0, by omega⟩
    · by_cases e1 : K j = 1
      · have q1 := m1 ⟨by omega, rfl, rfl⟩
        exact Or.inr (Or.inl ⟨e1, q1⟩)
      · have q2 := m2 ⟨by omega, rfl, rfl⟩
        exact Or.inr (Or.inr ⟨e0, e1, by omega⟩)
  · intro hc t o ht hRt hot hUo
    have hSo := (hU o).mp hUo
    have hwt := hW t ht hRt
    have hwo := hW o (by omega) hSo
    have key : ∀ a b : Nat, a < 12 → b < 12 → a ≠ b → S.testBit a = true → S.testBit b = true → W a - W b ≤ 9 → W a - W b ≤ D (12 * a + b) := fun a b ha hb hab h2 h3 h9 => by
      rw [hD _ (by omega), le_toF ha hb hab (by omega) n hr2]
      intro j hjn
      have h1 := hr j hjn
      constructor
      · rintro ⟨c1, c2, c3⟩
        have h4 := hc j hjn (by rw [c2]; exact h2) (by rw [c3]; exact h3)
        unfold hK at h4
        rw [c2, c3] at h4
        have := hk j hjn
        omega
      · rintro ⟨c1, c2, c3⟩
        have h4 := hc j hjn (by rw [c3]; exact h3) (by rw [c2]; exact h2)
        unfold hK at h4
        rw [c2, c3] at h4
        have := hk j hjn
        omega
    exact ⟨key t o ht (by omega) (by omega) hRt hSo (by omega), key o t (by omega) ht (by omega) hSo hRt (by omega)⟩
-- how many
theorem wb_i {s : Int} (hs : 0 ≤ s ∧ s ≤ 4095) (d : Nat) (hd : d ≤ 11) : ((wb s.toNat (d + 1) : Nat) : Int) = ((wb s.toNat d : Nat) : Int) + hasZ s ((11 - d : Nat) : Int) := by
  have h1 := tb_Z (s := s) (k := ((11 - d : Nat) : Int)) hs (by omega)
  have h2 := hasZ_01 (s := s) (k := ((11 - d : Nat) : Int)) hs (by omega)
  rw [Int.toNat_natCast] at h1
  by_cases hb : s.toNat.testBit (11 - d) = true
  · rw [wb_y hb, h1.mpr hb]; rfl
  · rw [wb_n hb]
    have h3 : ¬ hasZ s ((11 - d : Nat) : Int) = 1 := fun h => hb (h1.mp h)
    omega
theorem wb_cn {s : Int} (hs : 0 ≤ s ∧ s ≤ 4095) : ((wb s.toNat 12 : Nat) : Int) = cnZ s := by
  rw [cnZ_h hs]
  have h0 : ((wb s.toNat 1 : Nat) : Int) = ((wb s.toNat 0 : Nat) : Int) + hasZ s 11 := wb_i hs 0 (by omega)
  have h1 : ((wb s.toNat 2 : Nat) : Int) = ((wb s.toNat 1 : Nat) : Int) + hasZ s 10 := wb_i hs 1 (by omega)
  have h2 : ((wb s.toNat 3 : Nat) : Int) = ((wb s.toNat 2 : Nat) : Int) + hasZ s 9 := wb_i hs 2 (by omega)
  have h3 : ((wb s.toNat 4 : Nat) : Int) = ((wb s.toNat 3 : Nat) : Int) + hasZ s 8 := wb_i hs 3 (by omega)
  have h4 : ((wb s.toNat 5 : Nat) : Int) = ((wb s.toNat 4 : Nat) : Int) + hasZ s 7 := wb_i hs 4 (by omega)
  have h5 : ((wb s.toNat 6 : Nat) : Int) = ((wb s.toNat 5 : Nat) : Int) + hasZ s 6 := wb_i hs 5 (by omega)
  have h6 : ((wb s.toNat 7 : Nat) : Int) = ((wb s.toNat 6 : Nat) : Int) + hasZ s 5 := wb_i hs 6 (by omega)
  have h7 : ((wb s.toNat 8 : Nat) : Int) = ((wb s.toNat 7 : Nat) : Int) + hasZ s 4 := wb_i hs 7 (by omega)
  have h8 : ((wb s.toNat 9 : Nat) : Int) = ((wb s.toNat 8 : Nat) : Int) + hasZ s 3 := wb_i hs 8 (by omega)
  have h9 : ((wb s.toNat 10 : Nat) : Int) = ((wb s.toNat 9 : Nat) : Int) + hasZ s 2 := wb_i hs 9 (by omega)
  have h10 : ((wb s.toNat 11 : Nat) : Int) = ((wb s.toNat 10 : Nat) : Int) + hasZ s 1 := wb_i hs 10 (by omega)
  have h11 : ((wb s.toNat 12 : Nat) : Int) = ((wb s.toNat 11 : Nat) : Int) + hasZ s 0 := wb_i hs 11 (by omega)
  have hz : ((wb s.toNat 0 : Nat) : Int) = 0 := rfl
  omega
-- what is answered
noncomputable def wyC (A B K V : Nat → Int) (n : Nat) (some most : Int) : Int := wy some.toNat (most + 1).toNat (wyI A B K V n some.toNat) 12 (fun _ => 0)
noncomputable def wyP (P : Int → Int) (n some most : Int) : Int := wyC (cA P) (cB P) (cK P) (cV P) n.toNat some most
theorem wyC_c {A B K V A' B' K' V' : Nat → Int} {n : Nat} (some most : Int) (h : ∀ j : Nat, j < n → A j = A' j ∧ B j = B' j ∧ K j = K' j ∧ V j = V' j) : wyC A B K V n some most = wyC A' B' K' V' n some most := by
  unfold wyC
  congr 1
  funext W
  exact ind_c (cR_r h)
theorem wy_cls {A B K V D W : Nat → Int} {n : Nat} {some most : Int} (hs : 0 ≤ some ∧ some ≤ 4095) (hm : 0 ≤ most ∧ most ≤ 9) (hr : ∀ j : Nat, j < n → (0 ≤ A j ∧ A j ≤ 11) ∧ (0 ≤ B j ∧ B j ≤ 11) ∧ A j ≠ B j) (hD : ∀ c : Nat, c < 144 → D c = toF A B K V (-1) n c) (hk : ∀ j : Nat, j < n → 0 ≤ K j ∧ K j ≤ 2) : wy some.toNat (most + 1).toNat (jI D ((0 : Int).toNat ||| some.toNat) some.toNat) 12 W = wyC A B K V n some most := by
  have hU : ∀ j : Nat, ((0 : Int).toNat ||| some.toNat).testBit j = true ↔ some.toNat.testBit j = true := fun j => by
    rw [or_bit, show (0 : Int).toNat = 0 from rfl, Nat.zero_testBit]
    exact ⟨fun h => h.elim (fun h => absurd h (by decide)) id, Or.inr⟩
  have e1 := wy_W (S := some.toNat) (B := (most + 1).toNat) (U := (0 : Int).toNat ||| some.toNat) (I := jI D ((0 : Int).toNat ||| some.toNat) some.toNat) (jI_W (fun j hj => (hU j).mpr hj)) 12 (Nat.le_refl 12) (fun j _ _ h => (hU j).mp h) W (fun _ => 0) (fun j h => absurd h (by omega))
  rw [e1]
  exact wy_c _ _ 12 (Nat.le_refl 12) _ (fun V' hV => ind_c (jR_cR hU (by omega) hr hD hk (fun j h1 h2 => by have h3 := (hV j).2 (by omega) h1 h2; omega)))
theorem bit12 {S : Nat} (hS : S < 4096) (j : Nat) (hj : S.testBit j = true) : j < 12 := by
  rcases (show j < 12 ∨ 12 ≤ j by omega) with h | h
  · exact h
  · have h6 : S.testBit j = false := Nat.testBit_lt_two_pow (Nat.lt_of_lt_of_le hS (Nat.pow_le_pow_right (n := 2) (by decide) h))
    rw [h6] at hj; exact absurd hj (by decide)
theorem cR_1 {A B K V W : Nat → Int} {n S : Nat} : cR A B K V (n + 1) S W ↔ cR A B K V n S W ∧ (S.testBit (A n).toNat = true → S.testBit (B n).toNat = true → hK A B K V W n) := by
  constructor
  · intro h; exact ⟨fun j hj => h j (by omega), h n (Nat.lt_succ_self n)⟩
  · rintro ⟨h1, h2⟩ j hj
    rcases (show j < n ∨ j = n by omega) with h | h
    · exact h1 j h
    · rw [h]; exact h2
theorem cR_0 {A B K V W : Nat → Int} {S : Nat} : cR A B K V (0 : Int).toNat S W := fun j hj => absurd hj (Nat.not_lt_zero j)
