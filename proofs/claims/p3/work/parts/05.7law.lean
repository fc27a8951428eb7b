-- the letters of a law's factors
theorem txt_lt : ∀ k : Nat, k < 9 → lwLt (txtZ k) := by decide
theorem lt_txt {c : Int} (h : lwLt c) : ∃ j : Nat, j < 9 ∧ c = txtZ j := by
  rcases h with h | h | h | h | h | h | h | h | h
  · exact ⟨0, by omega, h⟩
  · exact ⟨1, by omega, h⟩
  · exact ⟨2, by omega, h⟩
  · exact ⟨3, by omega, h⟩
  · exact ⟨4, by omega, h⟩
  · exact ⟨5, by omega, h⟩
  · exact ⟨6, by omega, h⟩
  · exact ⟨7, by omega, h⟩
  · exact ⟨8, by omega, h⟩
section GTE
variable {p : Program} {l : Launch} {e : Env} {R : Room} {s : State} {m : MethodId} {args : Array Value} {below : List Frame} {meth : Method} {c : Code} {cells slots : Nat} {Q : State → Prop} {cc : ByteArray} {pc nL : Nat} {D : va_G} {tys : List (ClassId × FieldType)} {ws : va_W} {A : Nat → Prop} {lv : List (Nat × Value)} {st : List Value} {own : String} {index a : Nat}
theorem g_charAtE (X : CX p m c cc nL s args own D tys A s.heap) (hA : ∃ v, SA a v A s) (cv : CalV RJ0 yJ0_charAt_5068e cJ0_charAt_5068e 2 (some .char) 1) (hlk : Cond.methodLink own index yJ0_charAt_5068e ∈ lw_U) (hR : 4 ≤ R.frames ∧ 141 ≤ R.locals) {k : Int} (hk : 0 ≤ k ∧ k < 9) (hcat : (st.map fun v => v.category).sum ≤ 8) (hcs : cells ≤ R.cells ∧ slots ≤ R.slots) (hdg : decode cc pc = .ok (.invokevirtual index, 3)) (kk : ∀ z : Int, 0 ≤ z ∧ z ≤ 65535 → z = txtZ k.toNat → GG p l e R s m args below meth c cells slots Q D A s.heap nL ws (pc + 3) lv (vI z :: st)) : GG p l e R s m args below meth c cells slots Q D A s.heap nL ws pc lv (vI k :: .ref a :: st) := by
  obtain ⟨v, hA⟩ := hA
  have hc := txt_c k.toNat (by omega)
  refine g_callTVI X hA (c_J0_charAt l D tys a v hk) cv hlk ⟨rfl, rfl, hR.1, hR.2⟩ rfl rfl hcat hcs hdg (fun z hz => ?_)
  subst hz
  exact kk _ ⟨hc.2.1, hc.2.2.1⟩ rfl
end GTE
