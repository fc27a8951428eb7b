-- weighings: how many bits; a claim that holds
def bcF (s : Int) (n : Nat) : Int := fz (fun j c => if hasZ s (j : Int) = 1 then c + 1 else c) 0 n
theorem bcF_s (s : Int) {x : Int} (h : 0 ≤ x) : (hasZ s x = 1 ∧ bcF s (x + 1).toNat = bcF s x.toNat + 1) ∨ (hasZ s x ≠ 1 ∧ bcF s (x + 1).toNat = bcF s x.toNat) := by
  have e := fz_s (fun j c => if hasZ s (j : Int) = 1 then c + 1 else c) (0 : Int) h
  rw [show ((x.toNat : Nat) : Int) = x by omega] at e
  by_cases hq : hasZ s x = 1
  · exact Or.inl ⟨hq, e.trans (if_pos hq)⟩
  · exact Or.inr ⟨hq, e.trans (if_neg hq)⟩
def hK (A B K V W : Nat → Int) (j : Nat) : Prop := (K j = 0 ∧ W (A j).toNat - W (B j).toNat = V j) ∨ (K j = 1 ∧ W (A j).toNat - W (B j).toNat ≤ V j) ∨ (K j ≠ 0 ∧ K j ≠ 1 ∧ V j ≤ W (A j).toNat - W (B j).toNat)
