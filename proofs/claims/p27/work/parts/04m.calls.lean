/-- cells put back at their places -/
def setW : Nat → List (Nat × (Nat × va_E)) → va_W → va_W
  | _, _, [] => []
  | k, ps, q :: qs => ((ps.lookup k).getD q) :: setW (k + 1) ps qs
theorem setW_get (ps : List (Nat × (Nat × va_E))) : ∀ (ws : va_W) (b k : Nat), (setW b ps ws)[k]? = ws[k]?.map (fun q => (ps.lookup (b + k)).getD q) := by
  intro ws
  induction ws with
  | nil => intro b k; simp [setW]
  | cons q qs ih =>
    intro b k
    cases k with
    | zero => simp [setW]
    | succ k =>
      have h := ih (b + 1) k
      rw [show b + 1 + k = b + (k + 1) by omega] at h
      simpa [setW] using h
theorem zip_some : ∀ (is : List Nat) (w : va_W) (k : Nat) (c : Nat × va_E), (is.zip w).lookup k = some c → ∃ t : Nat, is[t]? = some k ∧ w[t]? = some c := by
  intro is
  induction is with
  | nil => intro w k c h; simp at h
  | cons i is ih =>
    intro w k c h
    cases w with
    | nil => simp at h
    | cons x w =>
      rw [List.zip_cons_cons, List.lookup_cons] at h
      by_cases hk : k = i
      · subst hk
        simp at h
        exact ⟨0, by simp, by simp [h]⟩
      · rw [show (k == i) = false from by simp [hk]] at h
        obtain ⟨t, h1, h2⟩ := ih w k c h
        exact ⟨t + 1, by simpa using h1, by simpa using h2⟩
theorem zip_none : ∀ (is : List Nat) (w : va_W) (k : Nat), w.length = is.length → (is.zip w).lookup k = none → k ∉ is := by
  intro is
  induction is with
  | nil => intro w k _ _ h; simp at h
  | cons i is ih =>
    intro w k hl h hm
    cases w with
    | nil => simp at hl
    | cons x w =>
      rw [List.zip_cons_cons, List.lookup_cons] at h
      by_cases hk : k = i
      · subst hk
        simp at h
      · rw [show (k == i) = false from by simp [hk]] at h
        rcases List.mem_cons.mp hm with q | q
        · exact hk q
        · exact ih w k (by simpa using hl) h q
theorem va_setW {A0 : Nat → Prop} {D : va_G} {cl : List vw_C} {ws wc w1 : va_W} {H H1 : Heap} (hP : va_P D cl ws H) (hD : va_D A0 ws) (isC : List Nat) (hC : isC.map (fun i => ws[i]?) = wc.map some) (hadr : w1.map (·.1) = wc.map (·.1))
    (hk : ∀ q : Nat, q < H.size → ¬ va_A wc H.size q → H1[q]? = H[q]?) (hP1 : va_P D cl w1 H1) : va_P D cl (setW 0 (isC.zip w1) ws) H1 ∧ va_D A0 (setW 0 (isC.zip w1) ws) := by
  have hlen : w1.length = isC.length := by
    have h1 := congrArg List.length hadr
    have h2 := congrArg List.length hC
    simp at h1 h2
    omega
  have at1 : ∀ (t : Nat) (q : Nat × va_E), wc[t]? = some q → ∃ i, isC[t]? = some i ∧ ws[i]? = some q := by
    intro t q h
    have h1 := congrArg (fun l => l[t]?) hC
    simp only [List.getElem?_map, h, Option.map_some] at h1
    cases hi : isC[t]? with
    | none => rw [hi] at h1; simp at h1
    | some i => rw [hi] at h1; exact ⟨i, rfl, by simpa using h1⟩
  have at2 : ∀ (t i : Nat) (c : Nat × va_E), isC[t]? = some i → w1[t]? = some c → ∃ q, ws[i]? = some q ∧ q.1 = c.1 := by
    intro t i c hi hc
    have h1 := congrArg (fun l => l[t]?) hadr
    simp only [List.getElem?_map, hc, Option.map_some] at h1
    cases hw : wc[t]? with
    | none => rw [hw] at h1; simp at h1
    | some q =>
      rw [hw] at h1
      obtain ⟨j, hj, hq⟩ := at1 t q hw
      have e : j = i := by rw [hi] at hj; exact (Option.some.inj hj).symm
      exact ⟨q, e ▸ hq, by simpa using h1.symm⟩
  have at3 : ∀ (k : Nat) (q' : Nat × va_E), (setW 0 (isC.zip w1) ws)[k]? = some q' → ∃ q, ws[k]? = some q ∧ q.1 = q'.1 ∧ ((∃ t : Nat, w1[t]? = some q') ∨ (q' = q ∧ k ∉ isC)) := by
    intro k q' h
    rw [setW_get, Nat.zero_add] at h
    cases hq : ws[k]? with
    | none => rw [hq] at h; simp at h
    | some q =>
      rw [hq] at h
      simp only [Option.map_some] at h
      cases hl : (isC.zip w1).lookup k with
      | none =>
        rw [hl] at h
        have e : q' = q := by simpa using h.symm
        exact ⟨q, rfl, by rw [e], Or.inr ⟨e, zip_none isC w1 k hlen hl⟩⟩
      | some c =>
        rw [hl] at h
        have e : q' = c := by simpa using h.symm
        obtain ⟨t, h1, h2⟩ := zip_some isC w1 k c hl
        obtain ⟨q2, h3, h4⟩ := at2 t k c h1 h2
        rw [hq] at h3
        have e2 : q = q2 := Option.some.inj h3
        exact ⟨q, rfl, by rw [e, e2]; exact h4, Or.inl ⟨t, by rw [e]; exact h2⟩⟩
  refine ⟨?_, ?_, ?_⟩
  · intro k q' h
    obtain ⟨q, hq, ha, hc⟩ := at3 k q' h
    rcases hc with ⟨t, ht⟩ | ⟨e, hn⟩
    · exact hP1 t q' ht
    · subst e
      refine (hP k q' hq).kept (hk q'.1 (hP k q' hq).lt ?_)
      rintro (⟨t, e, ht⟩ | hge)
      · obtain ⟨i, hi, hwi⟩ := at1 t _ ht
        have := hD.1 i k _ _ hwi hq rfl
        subst this
        exact hn (List.mem_of_getElem? hi)
      · exact absurd (hP k q' hq).lt (Nat.not_lt.mpr hge)
  · intro i j p q hp hq he
    obtain ⟨p2, h1, h2, -⟩ := at3 i p hp
    obtain ⟨q2, h3, h4, -⟩ := at3 j q hq
    exact hD.1 i j p2 q2 h1 h3 (by rw [h2, h4, he])
  · intro k q h
    obtain ⟨q2, h1, h2, -⟩ := at3 k q h
    rw [← h2]
    exact hD.2 k q2 h1
