/-! ===== ints of the machine as integers: zI ===== -/
def zI (z : Int) : Int32 := Int32.ofInt z
def zA (f : Nat → Int) : Nat → Int32 := fun j => zI (f j)
def updZ (f : Nat → Int) (k : Nat) (z : Int) : Nat → Int := fun j => if j = k then z else f j
abbrev IR (z : Int) : Prop := -2147483648 ≤ z ∧ z ≤ 2147483647
abbrev vI (z : Int) : Value := .int (zI z)
abbrev eI (cA : ClassId) (n : Nat) (f : Nat → Int) : va_E := .inl (cA, n, .inl (zA f))
def RA (lo hi : Int) (f : Nat → Int) : Prop := ∀ j, lo ≤ f j ∧ f j ≤ hi
theorem zI_add (a b : Int) : zI a + zI b = zI (a + b) := (Int32.ofInt_add a b).symm
theorem zI_sub (a b : Int) : zI a - zI b = zI (a - b) := (Int32.ofInt_sub a b).symm
theorem zI_mul (a b : Int) : zI a * zI b = zI (a * b) := (Int32.ofInt_mul a b).symm
theorem zI_neg (a : Int) : -zI a = zI (-a) := (Int32.ofInt_neg a).symm
theorem zI_toInt {a : Int} (h : IR a) : (zI a).toInt = a := Int32.toInt_ofInt_of_le (by omega) (by omega)
theorem zI_lt {a b : Int} (ha : IR a) (hb : IR b) : zI a < zI b ↔ a < b := by rw [Int32.lt_iff_toInt_lt, zI_toInt ha, zI_toInt hb]
theorem zI_le {a b : Int} (ha : IR a) (hb : IR b) : zI a ≤ zI b ↔ a ≤ b := by rw [Int32.le_iff_toInt_le, zI_toInt ha, zI_toInt hb]
theorem zI_eq {a b : Int} (ha : IR a) (hb : IR b) : zI a = zI b ↔ a = b := by rw [← Int32.toInt_inj, zI_toInt ha, zI_toInt hb]
theorem zI_zero : (0 : Int32) = zI 0 := rfl
theorem zI_ir0 : IR 0 := by omega
theorem zI_cl {a : Int} (h0 : 0 ≤ a) (h1 : a ≤ 2147483647) : (zI a).toNatClampNeg = a.toNat := Int32.toNatClampNeg_ofInt_of_le (by omega) (by omega)
theorem zI_in {a : Int} {n : Nat} (h0 : 0 ≤ a) (h1 : a < n) (hn : n ≤ 2147483647) : vp_in (zI a) n := by
  rw [vp_in_iff, zI_toInt (by omega)]; omega
theorem zI_ex (x : Int32) : ∃ z, x = zI z ∧ IR z := by
  refine ⟨x.toInt, ?_, ?_⟩
  · exact (Int32.ofInt_toInt x).symm
  · have h1 := x.le_toInt
    have h2 := x.toInt_lt
    omega
theorem zI_nm (a : Int) : ∃ z, zI a = zI z ∧ IR z := zI_ex (zI a)
theorem zA_up {f : Nat → Int} {i z : Int} (h0 : 0 ≤ i) (h1 : i ≤ 2147483647) : upd (zA f) (zI i).toNatClampNeg (zI z) = zA (updZ f i.toNat z) := by
  funext j
  rw [zI_cl h0 h1]
  unfold upd zA updZ
  split <;> rfl
theorem updZ_s (f : Nat → Int) (k : Nat) (z : Int) : updZ f k z k = z := if_pos rfl
theorem updZ_n (f : Nat → Int) {k j : Nat} (z : Int) (h : j ≠ k) : updZ f k z j = f j := if_neg h
theorem RA_up {lo hi : Int} {f : Nat → Int} {k : Nat} {z : Int} (h : RA lo hi f) (hz : lo ≤ z ∧ z ≤ hi) : RA lo hi (updZ f k z) := by
  intro j
  unfold updZ
  split
  · exact hz
  · exact h j
theorem zI_tdiv {a b : Int} (ha : IR a) (hb : IR b) : zI a / zI b = zI (a.tdiv b) := (Int32.ofInt_tdiv (by show -2147483648 ≤ a; omega) (by show a ≤ 2147483647; omega) (by show -2147483648 ≤ b; omega) (by show b ≤ 2147483647; omega)).symm
theorem zI_div {a b : Int} (ha : IR a) (hb : IR b) (h0 : 0 ≤ a) : zI a / zI b = zI (a / b) := by
  rw [zI_tdiv ha hb, Int.tdiv_eq_ediv_of_nonneg h0]
theorem zI_rem {a b : Int} (ha : IR a) (hb : IR b) (h0 : 0 ≤ a) : zI a - zI a / zI b * zI b = zI (a % b) := by
  rw [zI_div ha hb h0, zI_mul, zI_sub, Int.emod_def, Int.mul_comm b]
theorem zI_trem {a b : Int} (ha : IR a) (hb : IR b) : zI a - zI a / zI b * zI b = zI (a.tmod b) := by
  rw [zI_tdiv ha hb, zI_mul, zI_sub, Int.tmod_def, Int.mul_comm b]

def isNestW : Cond → Bool
  | .fieldLinkNest .. => true
  | .methodLinkNest .. => true
  | _ => false
/-- the links between nest mates -/
def lw_nest : List Cond := lw_tbl.filter isNestW
theorem lw_nest_ok : lw_nest.all isNestW = true := List.all_eq_true.mpr fun w h => (List.mem_filter.mp h).2
theorem lw_nestU {w : Cond} (h : w ∈ lw_nest) : w ∈ lw_tbl := (List.mem_filter.mp h).1
def NK (U : State) : Prop := ∀ w ∈ lw_nest, va_Nw w U
theorem NK.warm {s U : State} (hW : s.WarmedH U.vm) (h : NK s) : NK U := by
  intro w hw
  have h1 := List.all_eq_true.mp lw_nest_ok w hw
  have h2 := h w hw
  cases w <;> first | exact va_Nw.warmF hW h2 | exact va_Nw.warmM hW h2 | (cases h1; done)
theorem NK.same {u U : State} (hv : u.vm = U.vm) (h : NK u) : NK U := by
  intro w hw
  have h1 := List.all_eq_true.mp lw_nest_ok w hw
  have h2 := h w hw
  cases w <;> first | exact va_Nw.same rfl hv h2 | (cases h1; done)
/-- the bytes of the one text constant -/
def txtB : Nat → Int32 := fun j => ([107, 117, 108, 103, 109, 110, 111, 116, 119] : List Int32).getD j 0
/-- what lies outside of every world: the text constant, two statics of the JDK's -/
def SZ (A : Nat → Prop) (H : Heap) (U : State) : Prop := ∃ a v : Nat, vk_R RX2 37 "kulgmnotw" a U ∧ vk_R RX3 111 "kulgmnotw" a U ∧ va_O "java/lang/String" a A U H ∧ va_OF "java/lang/String" "coder" "B" (.int 0) a A U H ∧ va_OF "java/lang/String" "value" "[B" (.ref v) a A U H ∧ va_T .byte v 9 (fun j => .int (txtB j)) A U H ∧ va_Z "java/lang/String" "COMPACT_STRINGS" "Z" (.int 1) A U H ∧ va_Zq "jdk/internal/util/Preconditions" "SIOOBE_FORMATTER" "Ljava/util/function/BiFunction;" A U H
theorem SZ.call {A B : Nat → Prop} {H0 H : Heap} {locs : List Loc} {s U : State} (h : SZ A H0 s) (hS : va_S A H0 H locs) (hF : ∀ q, B q → A q) (hW : s.WarmedH U.vm) : SZ B H U := by
  obtain ⟨a, v, h1, h2, h3, h4, h5, h6, h7, h8⟩ := h
  have hk : ∀ a : Nat, a < H0.size → ¬ A a → H[a]? = H0[a]? := hS.2.1
  exact ⟨a, v, vk_R.warm hW h1, vk_R.warm hW h2, ((h3.kept hk).narrow hF).moved hW.alike, ((h4.kept hk).narrow hF).moved hW.alike, ((h5.kept hk).narrow hF).moved hW.alike, ((h6.kept hk).narrow hF).moved hW.alike, ((h7.kept hk).narrow hF).moved hW.alike, ((h8.kept hk).narrow hF).moved hW.alike⟩
theorem SZ.same {A : Nat → Prop} {H : Heap} {u U : State} (hv : u.vm = U.vm) (h : SZ A H u) : SZ A H U := by
  obtain ⟨a, v, h1, h2, h3, h4, h5, h6, h7, h8⟩ := h
  have ha : u.vm.Alike U.vm := by rw [hv]; exact Vm.Alike.refl U.vm
  exact ⟨a, v, vk_R.same hv.symm h1, vk_R.same hv.symm h2, h3.moved ha, h4.moved ha, h5.moved ha, h6.moved ha, h7.moved ha, h8.moved ha⟩
abbrev wU (y : MethodName) (b : ByteArray) (n : Nat) (r : Option FieldType) : List Cond := Cond.code y b n r :: lw_U

/-! ===== the goal form: heap, written places and the locals' array are hidden ===== -/
def GG (p : Program) (l : Launch) (e : Env) (R : Room) (s : State) (m : MethodId) (args : Array Value) (below : List Frame) (meth : Method) (c : Code) (cells slots : Nat) (Q : State → Prop) (D : va_G) (A : Nat → Prop) (H0 : Heap) (nL : Nat) (ws : va_W) (pc : Nat) (lv : List (Nat × Value)) (st : List Value) : Prop :=
  ∀ (H : Heap) (locs : List Loc) (ls : Array Slot), va_P D vwCl ws H → va_D A ws → va_S A H0 H locs → lv_has ls nL lv → W p l e R s m args below meth c H locs cells slots Q (F0 m pc ls st)
abbrev CX (p : Program) (m : MethodId) (c : Code) (cc : ByteArray) (nL : Nat) (s : State) (args : Array Value) (own : String) (D : va_G) (tys : List (ClassId × FieldType)) (A : Nat → Prop) (H0 : Heap) : Prop := CallFix p m c cc nL s args lw_U own ∧ va_K D vwCl tys s ∧ (∀ q : Nat, H0.size ≤ q → A q) ∧ NK s ∧ SZ A H0 s
section GR
variable {p : Program} {l : Launch} {e : Env} {R : Room} {s : State} {m : MethodId} {args : Array Value} {below : List Frame} {meth : Method} {c : Code} {cells slots : Nat} {Q : State → Prop} {cc : ByteArray} {pc nL : Nat} {D : va_G} {tys : List (ClassId × FieldType)} {ws : va_W} {A : Nat → Prop} {H0 : Heap} {lv : List (Nat × Value)} {st : List Value} {own : String}
theorem g_iload_n (X : CX p m c cc nL s args own D tys A H0) {k : Fin 4} {x : Int32} (hdg : decode cc pc = .ok (.iload_n k, 1)) (q : Nat) (hl0 : lv[q]? = some ((k : Nat), .int x)) (kk : GG p l e R s m args below meth c cells slots Q D A H0 nL ws (pc + 1) lv (.int x :: st)) : GG p l e R s m args below meth c cells slots Q D A H0 nL ws pc lv st := fun H locs ls hP hD hS hl => lv_iload_n X.1.1 X.1.2.1 hdg rfl (lv_at hl q hl0) (kk H locs ls hP hD hS hl)
theorem g_istore_n (X : CX p m c cc nL s args own D tys A H0) {k : Fin 4} {x : Int32} {lv' : List (Nat × Value)} (hdg : decode cc pc = .ok (.istore_n k, 1)) (hn : (k : Nat) < nL) (hl0 : ((k : Nat), Value.int x) :: lv.filter (fun q => !(q.1 == (k : Nat)) && !(q.1 + 1 == (k : Nat) && q.2.category == 2)) = lv') (kk : GG p l e R s m args below meth c cells slots Q D A H0 nL ws (pc + 1) lv' st) : GG p l e R s m args below meth c cells slots Q D A H0 nL ws pc lv (.int x :: st) := fun H locs ls hP hD hS hl => lv_istore_n X.1.1 X.1.2.1 hdg rfl hl hn hl0 (fun ls hl => kk H locs ls hP hD hS hl)
theorem g_iload (X : CX p m c cc nL s args own D tys A H0) {i : Nat} {x : Int32} (hdg : decode cc pc = .ok (.iload i, 2)) (q : Nat) (hl0 : lv[q]? = some (i, .int x)) (kk : GG p l e R s m args below meth c cells slots Q D A H0 nL ws (pc + 2) lv (.int x :: st)) : GG p l e R s m args below meth c cells slots Q D A H0 nL ws pc lv st := fun H locs ls hP hD hS hl => lv_iload X.1.1 X.1.2.1 hdg (lv_at hl q hl0) (kk H locs ls hP hD hS hl)
theorem g_istore (X : CX p m c cc nL s args own D tys A H0) {i : Nat} {x : Int32} {lv' : List (Nat × Value)} (hdg : decode cc pc = .ok (.istore i, 2)) (hn : i < nL) (hl0 : (i, Value.int x) :: lv.filter (fun q => !(q.1 == i) && !(q.1 + 1 == i && q.2.category == 2)) = lv') (kk : GG p l e R s m args below meth c cells slots Q D A H0 nL ws (pc + 2) lv' st) : GG p l e R s m args below meth c cells slots Q D A H0 nL ws pc lv (.int x :: st) := fun H locs ls hP hD hS hl => lv_istore X.1.1 X.1.2.1 hdg hl hn hl0 (fun ls hl => kk H locs ls hP hD hS hl)
theorem g_lload_n (X : CX p m c cc nL s args own D tys A H0) {k : Fin 4} {x : Int64} (hdg : decode cc pc = .ok (.lload_n k, 1)) (q : Nat) (hl0 : lv[q]? = some ((k : Nat), .long x)) (kk : GG p l e R s m args below meth c cells slots Q D A H0 nL ws (pc + 1) lv (.long x :: st)) : GG p l e R s m args below meth c cells slots Q D A H0 nL ws pc lv st := fun H locs ls hP hD hS hl => lv_lload_n X.1.1 X.1.2.1 hdg rfl (lv_at hl q hl0) (kk H locs ls hP hD hS hl)
theorem g_lstore_n (X : CX p m c cc nL s args own D tys A H0) {k : Fin 4} {x : Int64} {lv' : List (Nat × Value)} (hdg : decode cc pc = .ok (.lstore_n k, 1)) (hn : (k : Nat)+ 1 < nL) (hl0 : ((k : Nat), Value.long x) :: lv.filter (fun q => !(q.1 == (k : Nat)) && (!(q.1 == (k : Nat) + 1) && !(q.1 + 1 == (k : Nat) && q.2.category == 2))) = lv') (kk : GG p l e R s m args below meth c cells slots Q D A H0 nL ws (pc + 1) lv' st) : GG p l e R s m args below meth c cells slots Q D A H0 nL ws pc lv (.long x :: st) := fun H locs ls hP hD hS hl => lv_lstore_n X.1.1 X.1.2.1 hdg rfl hl hn hl0 (fun ls hl => kk H locs ls hP hD hS hl)
theorem g_lload (X : CX p m c cc nL s args own D tys A H0) {i : Nat} {x : Int64} (hdg : decode cc pc = .ok (.lload i, 2)) (q : Nat) (hl0 : lv[q]? = some (i, .long x)) (kk : GG p l e R s m args below meth c cells slots Q D A H0 nL ws (pc + 2) lv (.long x :: st)) : GG p l e R s m args below meth c cells slots Q D A H0 nL ws pc lv st := fun H locs ls hP hD hS hl => lv_lload X.1.1 X.1.2.1 hdg (lv_at hl q hl0) (kk H locs ls hP hD hS hl)
theorem g_lstore (X : CX p m c cc nL s args own D tys A H0) {i : Nat} {x : Int64} {lv' : List (Nat × Value)} (hdg : decode cc pc = .ok (.lstore i, 2)) (hn : i+ 1 < nL) (hl0 : (i, Value.long x) :: lv.filter (fun q => !(q.1 == i) && (!(q.1 == i + 1) && !(q.1 + 1 == i && q.2.category == 2))) = lv') (kk : GG p l e R s m args below meth c cells slots Q D A H0 nL ws (pc + 2) lv' st) : GG p l e R s m args below meth c cells slots Q D A H0 nL ws pc lv (.long x :: st) := fun H locs ls hP hD hS hl => lv_lstore X.1.1 X.1.2.1 hdg hl hn hl0 (fun ls hl => kk H locs ls hP hD hS hl)
theorem g_aload_n (X : CX p m c cc nL s args own D tys A H0) {k : Fin 4} {x : Nat} (hdg : decode cc pc = .ok (.aload_n k, 1)) (q : Nat) (hl0 : lv[q]? = some ((k : Nat), .ref x)) (kk : GG p l e R s m args below meth c cells slots Q D A H0 nL ws (pc + 1) lv (.ref x :: st)) : GG p l e R s m args below meth c cells slots Q D A H0 nL ws pc lv st := fun H locs ls hP hD hS hl => lv_aload_n X.1.1 X.1.2.1 hdg rfl (lv_at hl q hl0) (kk H locs ls hP hD hS hl)
theorem g_astore_n (X : CX p m c cc nL s args own D tys A H0) {k : Fin 4} {x : Nat} {lv' : List (Nat × Value)} (hdg : decode cc pc = .ok (.astore_n k, 1)) (hn : (k : Nat) < nL) (hl0 : ((k : Nat), Value.ref x) :: lv.filter (fun q => !(q.1 == (k : Nat)) && !(q.1 + 1 == (k : Nat) && q.2.category == 2)) = lv') (kk : GG p l e R s m args below meth c cells slots Q D A H0 nL ws (pc + 1) lv' st) : GG p l e R s m args below meth c cells slots Q D A H0 nL ws pc lv (.ref x :: st) := fun H locs ls hP hD hS hl => lv_astore_n X.1.1 X.1.2.1 hdg rfl hl hn hl0 (fun ls hl => kk H locs ls hP hD hS hl)
theorem g_aload (X : CX p m c cc nL s args own D tys A H0) {i : Nat} {x : Nat} (hdg : decode cc pc = .ok (.aload i, 2)) (q : Nat) (hl0 : lv[q]? = some (i, .ref x)) (kk : GG p l e R s m args below meth c cells slots Q D A H0 nL ws (pc + 2) lv (.ref x :: st)) : GG p l e R s m args below meth c cells slots Q D A H0 nL ws pc lv st := fun H locs ls hP hD hS hl => lv_aload X.1.1 X.1.2.1 hdg (lv_at hl q hl0) (kk H locs ls hP hD hS hl)
theorem g_astore (X : CX p m c cc nL s args own D tys A H0) {i : Nat} {x : Nat} {lv' : List (Nat × Value)} (hdg : decode cc pc = .ok (.astore i, 2)) (hn : i < nL) (hl0 : (i, Value.ref x) :: lv.filter (fun q => !(q.1 == i) && !(q.1 + 1 == i && q.2.category == 2)) = lv') (kk : GG p l e R s m args below meth c cells slots Q D A H0 nL ws (pc + 2) lv' st) : GG p l e R s m args below meth c cells slots Q D A H0 nL ws pc lv (.ref x :: st) := fun H locs ls hP hD hS hl => lv_astore X.1.1 X.1.2.1 hdg hl hn hl0 (fun ls hl => kk H locs ls hP hD hS hl)
theorem g_iinc (X : CX p m c cc nL s args own D tys A H0) {i : Nat} {n a : Int} {lv' : List (Nat × Value)} (hdg : decode cc pc = .ok (.iinc i n, 3)) (q : Nat) (hl1 : lv[q]? = some (i, vI a)) (hn : i < nL) (hl0 : (i, vI (a + n)) :: lv.filter (fun q => !(q.1 == i) && !(q.1 + 1 == i && q.2.category == 2)) = lv') (kk : GG p l e R s m args below meth c cells slots Q D A H0 nL ws (pc + 3) lv' st) : GG p l e R s m args below meth c cells slots Q D A H0 nL ws pc lv st := fun H locs ls hP hD hS hl => lv_iinc X.1.1 X.1.2.1 hdg hl hl1 (zI_add a n) hn hl0 (fun ls hl => kk H locs ls hP hD hS hl)
theorem g_iconst (X : CX p m c cc nL s args own D tys A H0) {n : Int} (hdg : decode cc pc = .ok (.iconst n, 1)) (kk : GG p l e R s m args below meth c cells slots Q D A H0 nL ws (pc + 1) lv (vI n :: st)) : GG p l e R s m args below meth c cells slots Q D A H0 nL ws pc lv st := fun H locs ls hP hD hS hl => lv_iconst X.1.1 X.1.2.1 hdg rfl (kk H locs ls hP hD hS hl)
theorem g_bipush (X : CX p m c cc nL s args own D tys A H0) {n z : Int} (hdg : decode cc pc = .ok (.bipush n, 2)) (hz : (Int8.ofInt n).toInt32 = zI z) (kk : GG p l e R s m args below meth c cells slots Q D A H0 nL ws (pc + 2) lv (vI z :: st)) : GG p l e R s m args below meth c cells slots Q D A H0 nL ws pc lv st := fun H locs ls hP hD hS hl => lv_bipush X.1.1 X.1.2.1 hdg hz (kk H locs ls hP hD hS hl)
theorem g_sipush (X : CX p m c cc nL s args own D tys A H0) {n z : Int} (hdg : decode cc pc = .ok (.sipush n, 3)) (hz : (Int16.ofInt n).toInt32 = zI z) (kk : GG p l e R s m args below meth c cells slots Q D A H0 nL ws (pc + 3) lv (vI z :: st)) : GG p l e R s m args below meth c cells slots Q D A H0 nL ws pc lv st := fun H locs ls hP hD hS hl => lv_sipush X.1.1 X.1.2.1 hdg hz (kk H locs ls hP hD hS hl)
theorem g_ldc (X : CX p m c cc nL s args own D tys A H0) {index : Nat} {v : Int32} {z : Int} (hdg : decode cc pc = .ok (.ldc index, 2)) (hc : (Jvm.Cond.constant own index v) ∈ lw_U) (hz : v = zI z) (kk : GG p l e R s m args below meth c cells slots Q D A H0 nL ws (pc + 2) lv (vI z :: st)) : GG p l e R s m args below meth c cells slots Q D A H0 nL ws pc lv st := fun H locs ls hP hD hS hl => lv_ldc X.1.1 X.1.2.1 X.1.2.2.2.1 (X.1.2.2.2.2 _ hc) hdg (by subst hz; exact kk H locs ls hP hD hS hl)
theorem g_ldcw (X : CX p m c cc nL s args own D tys A H0) {index : Nat} {v : Int32} {z : Int} (hdg : decode cc pc = .ok (.ldc_w index, 3)) (hc : (Jvm.Cond.constant own index v) ∈ lw_U) (hz : v = zI z) (kk : GG p l e R s m args below meth c cells slots Q D A H0 nL ws (pc + 3) lv (vI z :: st)) : GG p l e R s m args below meth c cells slots Q D A H0 nL ws pc lv st := fun H locs ls hP hD hS hl => lv_ldcw X.1.1 X.1.2.1 X.1.2.2.2.1 (X.1.2.2.2.2 _ hc) hdg (by subst hz; exact kk H locs ls hP hD hS hl)
theorem g_iadd (X : CX p m c cc nL s args own D tys A H0) {a b : Int} (hdg : decode cc pc = .ok (.iadd, 1)) (kk : GG p l e R s m args below meth c cells slots Q D A H0 nL ws (pc + 1) lv (vI (a + b) :: st)) : GG p l e R s m args below meth c cells slots Q D A H0 nL ws pc lv (vI b :: vI a :: st) := fun H locs ls hP hD hS hl => lv_iadd X.1.1 X.1.2.1 hdg (zI_add a b ▸ kk H locs ls hP hD hS hl)
theorem g_isub (X : CX p m c cc nL s args own D tys A H0) {a b : Int} (hdg : decode cc pc = .ok (.isub, 1)) (kk : GG p l e R s m args below meth c cells slots Q D A H0 nL ws (pc + 1) lv (vI (a - b) :: st)) : GG p l e R s m args below meth c cells slots Q D A H0 nL ws pc lv (vI b :: vI a :: st) := fun H locs ls hP hD hS hl => lv_isub X.1.1 X.1.2.1 hdg (zI_sub a b ▸ kk H locs ls hP hD hS hl)
theorem g_imul (X : CX p m c cc nL s args own D tys A H0) {a b : Int} (hdg : decode cc pc = .ok (.imul, 1)) (kk : GG p l e R s m args below meth c cells slots Q D A H0 nL ws (pc + 1) lv (vI (a * b) :: st)) : GG p l e R s m args below meth c cells slots Q D A H0 nL ws pc lv (vI b :: vI a :: st) := fun H locs ls hP hD hS hl => lv_imul X.1.1 X.1.2.1 hdg (zI_mul a b ▸ kk H locs ls hP hD hS hl)
theorem g_ineg (X : CX p m c cc nL s args own D tys A H0) {a : Int} (hdg : decode cc pc = .ok (.ineg, 1)) (kk : GG p l e R s m args below meth c cells slots Q D A H0 nL ws (pc + 1) lv (vI (-a) :: st)) : GG p l e R s m args below meth c cells slots Q D A H0 nL ws pc lv (vI a :: st) := fun H locs ls hP hD hS hl => lv_ineg X.1.1 X.1.2.1 hdg (zI_neg a ▸ kk H locs ls hP hD hS hl)
theorem zI_ne0 {b : Int} (hb : IR b) (h : b ≠ 0) : ¬ zI b = 0 := fun q => h ((zI_eq hb zI_ir0).mp q)
theorem g_idiv (X : CX p m c cc nL s args own D tys A H0) {a b : Int} (hdg : decode cc pc = .ok (.idiv, 1)) (ha : 0 ≤ a ∧ a ≤ 2147483647) (hb : IR b ∧ b ≠ 0) (kk : GG p l e R s m args below meth c cells slots Q D A H0 nL ws (pc + 1) lv (vI (a / b) :: st)) : GG p l e R s m args below meth c cells slots Q D A H0 nL ws pc lv (vI b :: vI a :: st) := fun H locs ls hP hD hS hl => lv_idiv X.1.1 X.1.2.1 hdg (zI_ne0 hb.1 hb.2) (zI_div (by omega) hb.1 ha.1 ▸ kk H locs ls hP hD hS hl)
theorem g_irem (X : CX p m c cc nL s args own D tys A H0) {a b : Int} (hdg : decode cc pc = .ok (.irem, 1)) (ha : 0 ≤ a ∧ a ≤ 2147483647) (hb : IR b ∧ b ≠ 0) (kk : GG p l e R s m args below meth c cells slots Q D A H0 nL ws (pc + 1) lv (vI (a % b) :: st)) : GG p l e R s m args below meth c cells slots Q D A H0 nL ws pc lv (vI b :: vI a :: st) := fun H locs ls hP hD hS hl => lv_irem X.1.1 X.1.2.1 hdg (zI_ne0 hb.1 hb.2) (zI_rem (by omega) hb.1 ha.1 ▸ kk H locs ls hP hD hS hl)
theorem g_idivT (X : CX p m c cc nL s args own D tys A H0) {a b : Int} (hdg : decode cc pc = .ok (.idiv, 1)) (ha : IR a) (hb : IR b ∧ b ≠ 0) (kk : GG p l e R s m args below meth c cells slots Q D A H0 nL ws (pc + 1) lv (vI (a.tdiv b) :: st)) : GG p l e R s m args below meth c cells slots Q D A H0 nL ws pc lv (vI b :: vI a :: st) := fun H locs ls hP hD hS hl => lv_idiv X.1.1 X.1.2.1 hdg (zI_ne0 hb.1 hb.2) (zI_tdiv ha hb.1 ▸ kk H locs ls hP hD hS hl)
theorem g_iremT (X : CX p m c cc nL s args own D tys A H0) {a b : Int} (hdg : decode cc pc = .ok (.irem, 1)) (ha : IR a) (hb : IR b ∧ b ≠ 0) (kk : GG p l e R s m args below meth c cells slots Q D A H0 nL ws (pc + 1) lv (vI (a.tmod b) :: st)) : GG p l e R s m args below meth c cells slots Q D A H0 nL ws pc lv (vI b :: vI a :: st) := fun H locs ls hP hD hS hl => lv_irem X.1.1 X.1.2.1 hdg (zI_ne0 hb.1 hb.2) (zI_trem ha hb.1 ▸ kk H locs ls hP hD hS hl)
def z_iand (a b : Int) : Int := (zI a &&& zI b).toInt
theorem z_iand_e (a b : Int) : zI a &&& zI b = zI (z_iand a b) := (Int32.ofInt_toInt _).symm
theorem g_iand (X : CX p m c cc nL s args own D tys A H0) {a b : Int} (hdg : decode cc pc = .ok (.iand, 1)) (kk : GG p l e R s m args below meth c cells slots Q D A H0 nL ws (pc + 1) lv (vI (z_iand a b) :: st)) : GG p l e R s m args below meth c cells slots Q D A H0 nL ws pc lv (vI b :: vI a :: st) := fun H locs ls hP hD hS hl => lv_iand X.1.1 X.1.2.1 hdg (z_iand_e a b ▸ kk H locs ls hP hD hS hl)
def z_ior (a b : Int) : Int := (zI a ||| zI b).toInt
theorem z_ior_e (a b : Int) : zI a ||| zI b = zI (z_ior a b) := (Int32.ofInt_toInt _).symm
theorem g_ior (X : CX p m c cc nL s args own D tys A H0) {a b : Int} (hdg : decode cc pc = .ok (.ior, 1)) (kk : GG p l e R s m args below meth c cells slots Q D A H0 nL ws (pc + 1) lv (vI (z_ior a b) :: st)) : GG p l e R s m args below meth c cells slots Q D A H0 nL ws pc lv (vI b :: vI a :: st) := fun H locs ls hP hD hS hl => lv_ior X.1.1 X.1.2.1 hdg (z_ior_e a b ▸ kk H locs ls hP hD hS hl)
def z_ixor (a b : Int) : Int := (zI a ^^^ zI b).toInt
theorem z_ixor_e (a b : Int) : zI a ^^^ zI b = zI (z_ixor a b) := (Int32.ofInt_toInt _).symm
theorem g_ixor (X : CX p m c cc nL s args own D tys A H0) {a b : Int} (hdg : decode cc pc = .ok (.ixor, 1)) (kk : GG p l e R s m args below meth c cells slots Q D A H0 nL ws (pc + 1) lv (vI (z_ixor a b) :: st)) : GG p l e R s m args below meth c cells slots Q D A H0 nL ws pc lv (vI b :: vI a :: st) := fun H locs ls hP hD hS hl => lv_ixor X.1.1 X.1.2.1 hdg (z_ixor_e a b ▸ kk H locs ls hP hD hS hl)
def z_ishl (a b : Int) : Int := (zI a <<< (zI b &&& 31)).toInt
theorem z_ishl_e (a b : Int) : zI a <<< (zI b &&& 31) = zI (z_ishl a b) := (Int32.ofInt_toInt _).symm
theorem g_ishl (X : CX p m c cc nL s args own D tys A H0) {a b : Int} (hdg : decode cc pc = .ok (.ishl, 1)) (kk : GG p l e R s m args below meth c cells slots Q D A H0 nL ws (pc + 1) lv (vI (z_ishl a b) :: st)) : GG p l e R s m args below meth c cells slots Q D A H0 nL ws pc lv (vI b :: vI a :: st) := fun H locs ls hP hD hS hl => lv_ishl X.1.1 X.1.2.1 hdg (z_ishl_e a b ▸ kk H locs ls hP hD hS hl)
def z_ishr (a b : Int) : Int := (zI a >>> (zI b &&& 31)).toInt
theorem z_ishr_e (a b : Int) : zI a >>> (zI b &&& 31) = zI (z_ishr a b) := (Int32.ofInt_toInt _).symm
theorem g_ishr (X : CX p m c cc nL s args own D tys A H0) {a b : Int} (hdg : decode cc pc = .ok (.ishr, 1)) (kk : GG p l e R s m args below meth c cells slots Q D A H0 nL ws (pc + 1) lv (vI (z_ishr a b) :: st)) : GG p l e R s m args below meth c cells slots Q D A H0 nL ws pc lv (vI b :: vI a :: st) := fun H locs ls hP hD hS hl => lv_ishr X.1.1 X.1.2.1 hdg (z_ishr_e a b ▸ kk H locs ls hP hD hS hl)
def z_iushr (a b : Int) : Int := ((zI a).toUInt32 >>> ((zI b).toUInt32 &&& Int32.toUInt32 31)).toInt32.toInt
theorem g_iushr (X : CX p m c cc nL s args own D tys A H0) {a b : Int} (hdg : decode cc pc = .ok (.iushr, 1)) (kk : GG p l e R s m args below meth c cells slots Q D A H0 nL ws (pc + 1) lv (vI (z_iushr a b) :: st)) : GG p l e R s m args below meth c cells slots Q D A H0 nL ws pc lv (vI b :: vI a :: st) := fun H locs ls hP hD hS hl => lv_iushr X.1.1 X.1.2.1 hdg (Int32.ofInt_toInt _).symm (kk H locs ls hP hD hS hl)
def z_i2b (a : Int) : Int := (zI a).toInt8.toInt32.toInt
theorem g_i2b (X : CX p m c cc nL s args own D tys A H0) {a : Int} (hdg : decode cc pc = .ok (.i2b, 1)) (kk : GG p l e R s m args below meth c cells slots Q D A H0 nL ws (pc + 1) lv (vI (z_i2b a) :: st)) : GG p l e R s m args below meth c cells slots Q D A H0 nL ws pc lv (vI a :: st) := fun H locs ls hP hD hS hl => lv_i2b X.1.1 X.1.2.1 hdg (Int32.ofInt_toInt _).symm (kk H locs ls hP hD hS hl)
theorem g_dup (X : CX p m c cc nL s args own D tys A H0) {x : Value} (hx : x.category = 1) (hdg : decode cc pc = .ok (.dup, 1)) (kk : GG p l e R s m args below meth c cells slots Q D A H0 nL ws (pc + 1) lv (x :: x :: st)) : GG p l e R s m args below meth c cells slots Q D A H0 nL ws pc lv (x :: st) := fun H locs ls hP hD hS hl => lv_dup X.1.1 X.1.2.1 hdg hx (kk H locs ls hP hD hS hl)
theorem g_pop (X : CX p m c cc nL s args own D tys A H0) {x : Value} (hx : x.category = 1) (hdg : decode cc pc = .ok (.pop, 1)) (kk : GG p l e R s m args below meth c cells slots Q D A H0 nL ws (pc + 1) lv st) : GG p l e R s m args below meth c cells slots Q D A H0 nL ws pc lv (x :: st) := fun H locs ls hP hD hS hl => lv_pop X.1.1 X.1.2.1 hdg hx (kk H locs ls hP hD hS hl)
theorem z_ir (x : Int32) : IR x.toInt := by
  have h1 := x.le_toInt
  have h2 := x.toInt_lt
  omega
theorem z_iand_r (a b : Int) (h0 : 0 ≤ b) (h1 : IR b) : 0 ≤ z_iand a b ∧ z_iand a b ≤ b := by
  have hb : (zI b).toBitVec.toInt = b := zI_toInt h1
  have hY := BitVec.toInt_eq_toNat_cond (zI b).toBitVec
  have hX := BitVec.toInt_eq_toNat_cond ((zI a).toBitVec &&& (zI b).toBitVec)
  have hle : ((zI a).toBitVec &&& (zI b).toBitVec).toNat ≤ (zI b).toBitVec.toNat := by rw [BitVec.toNat_and]; exact Nat.and_le_right
  have hz : z_iand a b = ((zI a).toBitVec &&& (zI b).toBitVec).toInt := rfl
  rw [hb] at hY
  rw [hz]
  split at hY <;> split at hX <;> omega
theorem z_iand_c (a b : Int) : z_iand a b = z_iand b a := by
  unfold z_iand
  rw [Int32.and_comm]
theorem z_iand_l (a b : Int) (h0 : 0 ≤ a) (h1 : IR a) : 0 ≤ z_iand a b ∧ z_iand a b ≤ a := by
  rw [z_iand_c]; exact z_iand_r b a h0 h1
theorem z_i2b_r (a : Int) : -128 ≤ z_i2b a ∧ z_i2b a ≤ 127 := by
  have h1 := (zI a).toInt8.le_toInt
  have h2 := (zI a).toInt8.toInt_lt
  have h3 : z_i2b a = (zI a).toInt8.toInt := Int8.toInt_toInt32 _
  rw [h3]; omega
theorem z_div_r (a b : Int) (h : 0 ≤ a) (hb : 0 < b) : 0 ≤ a / b ∧ a / b ≤ a := ⟨Int.ediv_nonneg h (by omega), Int.ediv_le_self _ h⟩

theorem g_lvE {lv2 : List (Nat × Value)} (h : lv = lv2) (kk : GG p l e R s m args below meth c cells slots Q D A H0 nL ws pc lv2 st) : GG p l e R s m args below meth c cells slots Q D A H0 nL ws pc lv st := h ▸ kk
theorem g_icmp_lt (X : CX p m c cc nL s args own D tys A H0) {a b off : Int} {tgt : Nat} (hdg : decode cc pc = .ok (.if_icmp .lt off, 3)) (ht : (pc : Int) + off = (tgt : Int)) (ha : IR a) (hb : IR b) (kt : a < b → GG p l e R s m args below meth c cells slots Q D A H0 nL ws tgt lv st) (kf : ¬ a < b → GG p l e R s m args below meth c cells slots Q D A H0 nL ws (pc + 3) lv st) : GG p l e R s m args below meth c cells slots Q D A H0 nL ws pc lv (vI b :: vI a :: st) := fun H locs ls hP hD hS hl => lv_icmp_lt X.1.1 X.1.2.1 hdg ht (fun q => kt ((zI_lt ha hb).mp q) H locs ls hP hD hS hl) (fun q => kf (fun h => q ((zI_lt ha hb).mpr h)) H locs ls hP hD hS hl)
theorem g_if_lt (X : CX p m c cc nL s args own D tys A H0) {a off : Int} {tgt : Nat} (hdg : decode cc pc = .ok (.ifCond .lt off, 3)) (ht : (pc : Int) + off = (tgt : Int)) (ha : IR a) (kt : a < 0 → GG p l e R s m args below meth c cells slots Q D A H0 nL ws tgt lv st) (kf : ¬ a < 0 → GG p l e R s m args below meth c cells slots Q D A H0 nL ws (pc + 3) lv st) : GG p l e R s m args below meth c cells slots Q D A H0 nL ws pc lv (vI a :: st) := fun H locs ls hP hD hS hl => lv_if_lt X.1.1 X.1.2.1 hdg ht (fun q => kt ((zI_lt ha zI_ir0).mp q) H locs ls hP hD hS hl) (fun q => kf (fun h => q ((zI_lt ha zI_ir0).mpr h)) H locs ls hP hD hS hl)
theorem g_icmp_le (X : CX p m c cc nL s args own D tys A H0) {a b off : Int} {tgt : Nat} (hdg : decode cc pc = .ok (.if_icmp .le off, 3)) (ht : (pc : Int) + off = (tgt : Int)) (ha : IR a) (hb : IR b) (kt : a ≤ b → GG p l e R s m args below meth c cells slots Q D A H0 nL ws tgt lv st) (kf : ¬ a ≤ b → GG p l e R s m args below meth c cells slots Q D A H0 nL ws (pc + 3) lv st) : GG p l e R s m args below meth c cells slots Q D A H0 nL ws pc lv (vI b :: vI a :: st) := fun H locs ls hP hD hS hl => lv_icmp_le X.1.1 X.1.2.1 hdg ht (fun q => kt ((zI_le ha hb).mp q) H locs ls hP hD hS hl) (fun q => kf (fun h => q ((zI_le ha hb).mpr h)) H locs ls hP hD hS hl)
theorem g_if_le (X : CX p m c cc nL s args own D tys A H0) {a off : Int} {tgt : Nat} (hdg : decode cc pc = .ok (.ifCond .le off, 3)) (ht : (pc : Int) + off = (tgt : Int)) (ha : IR a) (kt : a ≤ 0 → GG p l e R s m args below meth c cells slots Q D A H0 nL ws tgt lv st) (kf : ¬ a ≤ 0 → GG p l e R s m args below meth c cells slots Q D A H0 nL ws (pc + 3) lv st) : GG p l e R s m args below meth c cells slots Q D A H0 nL ws pc lv (vI a :: st) := fun H locs ls hP hD hS hl => lv_if_le X.1.1 X.1.2.1 hdg ht (fun q => kt ((zI_le ha zI_ir0).mp q) H locs ls hP hD hS hl) (fun q => kf (fun h => q ((zI_le ha zI_ir0).mpr h)) H locs ls hP hD hS hl)
theorem g_icmp_eq (X : CX p m c cc nL s args own D tys A H0) {a b off : Int} {tgt : Nat} (hdg : decode cc pc = .ok (.if_icmp .eq off, 3)) (ht : (pc : Int) + off = (tgt : Int)) (ha : IR a) (hb : IR b) (kt : a = b → GG p l e R s m args below meth c cells slots Q D A H0 nL ws tgt lv st) (kf : ¬ a = b → GG p l e R s m args below meth c cells slots Q D A H0 nL ws (pc + 3) lv st) : GG p l e R s m args below meth c cells slots Q D A H0 nL ws pc lv (vI b :: vI a :: st) := fun H locs ls hP hD hS hl => lv_icmp_eq X.1.1 X.1.2.1 hdg ht (fun q => kt ((zI_eq ha hb).mp q) H locs ls hP hD hS hl) (fun q => kf (fun h => q ((zI_eq ha hb).mpr h)) H locs ls hP hD hS hl)
theorem g_if_eq (X : CX p m c cc nL s args own D tys A H0) {a off : Int} {tgt : Nat} (hdg : decode cc pc = .ok (.ifCond .eq off, 3)) (ht : (pc : Int) + off = (tgt : Int)) (ha : IR a) (kt : a = 0 → GG p l e R s m args below meth c cells slots Q D A H0 nL ws tgt lv st) (kf : ¬ a = 0 → GG p l e R s m args below meth c cells slots Q D A H0 nL ws (pc + 3) lv st) : GG p l e R s m args below meth c cells slots Q D A H0 nL ws pc lv (vI a :: st) := fun H locs ls hP hD hS hl => lv_if_eq X.1.1 X.1.2.1 hdg ht (fun q => kt ((zI_eq ha zI_ir0).mp q) H locs ls hP hD hS hl) (fun q => kf (fun h => q ((zI_eq ha zI_ir0).mpr h)) H locs ls hP hD hS hl)
theorem g_icmp_ge (X : CX p m c cc nL s args own D tys A H0) {a b off : Int} {tgt : Nat} (hdg : decode cc pc = .ok (.if_icmp .ge off, 3)) (ht : (pc : Int) + off = (tgt : Int)) (ha : IR a) (hb : IR b) (kt : b ≤ a → GG p l e R s m args below meth c cells slots Q D A H0 nL ws tgt lv st) (kf : ¬ b ≤ a → GG p l e R s m args below meth c cells slots Q D A H0 nL ws (pc + 3) lv st) : GG p l e R s m args below meth c cells slots Q D A H0 nL ws pc lv (vI b :: vI a :: st) := fun H locs ls hP hD hS hl => lv_icmp_ge X.1.1 X.1.2.1 hdg ht (fun q => kt ((zI_le hb ha).mp q) H locs ls hP hD hS hl) (fun q => kf (fun h => q ((zI_le hb ha).mpr h)) H locs ls hP hD hS hl)
theorem g_if_ge (X : CX p m c cc nL s args own D tys A H0) {a off : Int} {tgt : Nat} (hdg : decode cc pc = .ok (.ifCond .ge off, 3)) (ht : (pc : Int) + off = (tgt : Int)) (ha : IR a) (kt : 0 ≤ a → GG p l e R s m args below meth c cells slots Q D A H0 nL ws tgt lv st) (kf : ¬ 0 ≤ a → GG p l e R s m args below meth c cells slots Q D A H0 nL ws (pc + 3) lv st) : GG p l e R s m args below meth c cells slots Q D A H0 nL ws pc lv (vI a :: st) := fun H locs ls hP hD hS hl => lv_if_ge X.1.1 X.1.2.1 hdg ht (fun q => kt ((zI_le zI_ir0 ha).mp q) H locs ls hP hD hS hl) (fun q => kf (fun h => q ((zI_le zI_ir0 ha).mpr h)) H locs ls hP hD hS hl)
theorem g_icmp_gt (X : CX p m c cc nL s args own D tys A H0) {a b off : Int} {tgt : Nat} (hdg : decode cc pc = .ok (.if_icmp .gt off, 3)) (ht : (pc : Int) + off = (tgt : Int)) (ha : IR a) (hb : IR b) (kt : b < a → GG p l e R s m args below meth c cells slots Q D A H0 nL ws tgt lv st) (kf : ¬ b < a → GG p l e R s m args below meth c cells slots Q D A H0 nL ws (pc + 3) lv st) : GG p l e R s m args below meth c cells slots Q D A H0 nL ws pc lv (vI b :: vI a :: st) := fun H locs ls hP hD hS hl => lv_icmp_gt X.1.1 X.1.2.1 hdg ht (fun q => kt ((zI_lt hb ha).mp q) H locs ls hP hD hS hl) (fun q => kf (fun h => q ((zI_lt hb ha).mpr h)) H locs ls hP hD hS hl)
theorem g_if_gt (X : CX p m c cc nL s args own D tys A H0) {a off : Int} {tgt : Nat} (hdg : decode cc pc = .ok (.ifCond .gt off, 3)) (ht : (pc : Int) + off = (tgt : Int)) (ha : IR a) (kt : 0 < a → GG p l e R s m args below meth c cells slots Q D A H0 nL ws tgt lv st) (kf : ¬ 0 < a → GG p l e R s m args below meth c cells slots Q D A H0 nL ws (pc + 3) lv st) : GG p l e R s m args below meth c cells slots Q D A H0 nL ws pc lv (vI a :: st) := fun H locs ls hP hD hS hl => lv_if_gt X.1.1 X.1.2.1 hdg ht (fun q => kt ((zI_lt zI_ir0 ha).mp q) H locs ls hP hD hS hl) (fun q => kf (fun h => q ((zI_lt zI_ir0 ha).mpr h)) H locs ls hP hD hS hl)
theorem g_icmp_ne (X : CX p m c cc nL s args own D tys A H0) {a b off : Int} {tgt : Nat} (hdg : decode cc pc = .ok (.if_icmp .ne off, 3)) (ht : (pc : Int) + off = (tgt : Int)) (ha : IR a) (hb : IR b) (kt : a ≠ b → GG p l e R s m args below meth c cells slots Q D A H0 nL ws tgt lv st) (kf : a = b → GG p l e R s m args below meth c cells slots Q D A H0 nL ws (pc + 3) lv st) : GG p l e R s m args below meth c cells slots Q D A H0 nL ws pc lv (vI b :: vI a :: st) := fun H locs ls hP hD hS hl => lv_icmp_ne X.1.1 X.1.2.1 hdg ht (fun q => kt (fun h => q ((zI_eq ha hb).mpr h)) H locs ls hP hD hS hl) (fun q => kf ((zI_eq ha hb).mp q) H locs ls hP hD hS hl)
theorem g_if_ne (X : CX p m c cc nL s args own D tys A H0) {a off : Int} {tgt : Nat} (hdg : decode cc pc = .ok (.ifCond .ne off, 3)) (ht : (pc : Int) + off = (tgt : Int)) (ha : IR a) (kt : a ≠ 0 → GG p l e R s m args below meth c cells slots Q D A H0 nL ws tgt lv st) (kf : a = 0 → GG p l e R s m args below meth c cells slots Q D A H0 nL ws (pc + 3) lv st) : GG p l e R s m args below meth c cells slots Q D A H0 nL ws pc lv (vI a :: st) := fun H locs ls hP hD hS hl => lv_if_ne X.1.1 X.1.2.1 hdg ht (fun q => kt (fun h => q ((zI_eq ha zI_ir0).mpr h)) H locs ls hP hD hS hl) (fun q => kf ((zI_eq ha zI_ir0).mp q) H locs ls hP hD hS hl)
theorem g_goto (X : CX p m c cc nL s args own D tys A H0) {off : Int} {tgt : Nat} (hdg : decode cc pc = .ok (.goto off, 3)) (ht : (pc : Int) + off = (tgt : Int)) (kk : GG p l e R s m args below meth c cells slots Q D A H0 nL ws tgt lv st) : GG p l e R s m args below meth c cells slots Q D A H0 nL ws pc lv st := fun H locs ls hP hD hS hl => lv_goto X.1.1 X.1.2.1 hdg ht (kk H locs ls hP hD hS hl)
theorem g_nm {a : Int} (kk : ∀ z : Int, z = a → GG p l e R s m args below meth c cells slots Q D A H0 nL ws pc lv (vI z :: st)) : GG p l e R s m args below meth c cells slots Q D A H0 nL ws pc lv (vI a :: st) := kk a rfl
theorem g_nr {a : Int} (kk : ∀ z : Int, zI a = zI z → IR z → GG p l e R s m args below meth c cells slots Q D A H0 nL ws pc lv (vI z :: st)) : GG p l e R s m args below meth c cells slots Q D A H0 nL ws pc lv (vI a :: st) := by
  obtain ⟨z, h1, h2⟩ := zI_nm a
  unfold vI at *
  rw [h1]
  exact kk z h1 h2
theorem g_ws {ws1 ws2 : va_W} (h : ws1 = ws2) (kk : GG p l e R s m args below meth c cells slots Q D A H0 nL ws2 pc lv st) : GG p l e R s m args below meth c cells slots Q D A H0 nL ws1 pc lv st := h ▸ kk
theorem g_lv {lv1 : List (Nat × Value)} (ks : List Nat) (h : lv_pick lv ks = lv1) (kk : GG p l e R s m args below meth c cells slots Q D A H0 nL ws pc lv1 st) : GG p l e R s m args below meth c cells slots Q D A H0 nL ws pc lv st := fun H locs ls hP hD hS hl => kk H locs ls hP hD hS (lv_sub hl ks h)
theorem g_get (X : CX p m c cc nL s args own D tys A H0) {ref C : String} {T : u_T} {N ci index a : Nat} (q0 : Nat) {fs : List Value} (he : ws[q0]? = some (a, .inr (ci, fs))) (hc : vwCl[ci]? = some (C, T, N)) (hin : ∀ w ∈ u_ws C T N, w ∈ lw_U) (k : Nat) (hk : k < N) (hlink : Cond.fieldLink own index ref (T k).2.1 (T k).2.2.1 ∈ lw_U) (href : ref = (T k).1) {v : Value} (hv : fs[k]? = some v) (hdg : decode cc pc = .ok (.getfield index, 3)) (kk : GG p l e R s m args below meth c cells slots Q D A H0 nL ws (pc + 3) lv (v :: st)) : GG p l e R s m args below meth c cells slots Q D A H0 nL ws pc lv (.ref a :: st) := fun H locs ls hP hD hS hl => va_get (ref := ref) X.1.1 X.1.2.1 X.1.2.2.2.2 hin X.1.2.2.2.1 X.2.1 hP q0 he hc k hk (X.1.2.2.2.2 _ hlink) (fun x h => by rw [href]; exact h) hv hdg (kk H locs ls hP hD hS hl)
theorem g_put (X : CX p m c cc nL s args own D tys A H0) {ref C : String} {T : u_T} {N ci index a : Nat} (q0 : Nat) {fs : List Value} (he : ws[q0]? = some (a, .inr (ci, fs))) (hc : vwCl[ci]? = some (C, T, N)) (hin : ∀ w ∈ u_ws C T N, w ∈ lw_U) (ty0 : Nat → FieldType) (hty : ∀ k, k < N → parseFieldDescriptor (T k).2.2.1 = some (ty0 k)) (hnm : ∀ a, a < N → ∀ b, b < N → a ≠ b → (T a).2.1 ≠ (T b).2.1) (k : Nat) (hk : k < N) (hlink : Cond.fieldLink own index ref (T k).2.1 (T k).2.2.1 ∈ lw_U) (href : ref = (T k).1) (hfin : (T k).2.2.2 = false) {v : Value} (hn : narrow (ty0 k) v = v) (hfit : fits (ty0 k) v = true) (hl0 : k < fs.length) (hdg : decode cc pc = .ok (.putfield index, 3)) (kk : GG p l e R s m args below meth c cells slots Q D A H0 nL (ws.set q0 (a, .inr (ci, fs.set k v))) (pc + 3) lv st) : GG p l e R s m args below meth c cells slots Q D A H0 nL ws pc lv (v :: .ref a :: st) := fun H locs ls hP hD hS hl => va_put (ref := ref) X.1.1 X.1.2.1 X.1.2.2.2.2 hin ty0 hty hnm X.1.2.2.2.1 X.2.1 hP hD hS q0 he hc k hk (X.1.2.2.2.2 _ hlink) (fun x h => by rw [href]; exact h) hfin (hty k hk) hn hfit hl0 hdg (fun H locs hP hD hS => kk H locs ls hP hD hS hl)
theorem g_iald (X : CX p m c cc nL s args own D tys A H0) {a n : Nat} {cA : ClassId} {f : Nat → Int} {i : Int} (q0 t0 : Nat) (he : ws[q0]? = some (a, eI cA n f)) (ht : tys[t0]? = some (cA, .int)) (hin : 0 ≤ i ∧ i < n) (hn : n ≤ 2147483647) (hdg : decode cc pc = .ok (.iaload, 1)) (kk : ∀ z, z = f i.toNat → GG p l e R s m args below meth c cells slots Q D A H0 nL ws (pc + 1) lv (vI z :: st)) : GG p l e R s m args below meth c cells slots Q D A H0 nL ws pc lv (vI i :: .ref a :: st) := fun H locs ls hP hD hS hl => va_iald X.1.1 X.1.2.1 X.2.1 hP q0 t0 he ht (zI_in hin.1 hin.2 hn) hdg (by rw [zI_cl hin.1 (by omega)]; exact kk _ rfl H locs ls hP hD hS hl)
theorem g_bald (X : CX p m c cc nL s args own D tys A H0) {a n : Nat} {cA : ClassId} {f : Nat → Int} {i : Int} (q0 t0 : Nat) (he : ws[q0]? = some (a, eI cA n f)) (ht : tys[t0]? = some (cA, .byte)) (hin : 0 ≤ i ∧ i < n) (hn : n ≤ 2147483647) (hdg : decode cc pc = .ok (.baload, 1)) (kk : ∀ z, z = f i.toNat → GG p l e R s m args below meth c cells slots Q D A H0 nL ws (pc + 1) lv (vI z :: st)) : GG p l e R s m args below meth c cells slots Q D A H0 nL ws pc lv (vI i :: .ref a :: st) := fun H locs ls hP hD hS hl => va_bald X.1.1 X.1.2.1 X.2.1 hP q0 t0 he ht (zI_in hin.1 hin.2 hn) hdg (by rw [zI_cl hin.1 (by omega)]; exact kk _ rfl H locs ls hP hD hS hl)
theorem g_iast (X : CX p m c cc nL s args own D tys A H0) {a n : Nat} {cA : ClassId} {f : Nat → Int} {i z : Int} (q0 t0 : Nat) (he : ws[q0]? = some (a, eI cA n f)) (ht : tys[t0]? = some (cA, .int)) (hin : 0 ≤ i ∧ i < n) (hn : n ≤ 2147483647) (hdg : decode cc pc = .ok (.iastore, 1)) (kk : ∀ f', f' = updZ f i.toNat z → GG p l e R s m args below meth c cells slots Q D A H0 nL (ws.set q0 (a, eI cA n f')) (pc + 1) lv st) : GG p l e R s m args below meth c cells slots Q D A H0 nL ws pc lv (vI z :: vI i :: .ref a :: st) := fun H locs ls hP hD hS hl => va_iast X.1.1 X.1.2.1 X.2.1 hP hD hS q0 t0 he ht (zI_in hin.1 hin.2 hn) hdg (fun H locs hP hD hS => by rw [zA_up hin.1 (by omega)] at hP hD; exact kk _ rfl H locs ls hP hD hS hl)
theorem zI_byte {z : Int} (h : -128 ≤ z ∧ z ≤ 127) : vp_nar .byte (zI z) = zI z := by
  rw [vp_nar_byte]
  apply Int32.toInt_inj.mp
  have h3 : (zI z).toInt = z := zI_toInt (by omega)
  rw [show ((zI z).toInt8.toInt32).toInt = (zI z).toInt8.toInt from Int8.toInt_toInt32 _, h3]
  show ((Int32.ofInt z).toInt8).toInt = z
  rw [show (Int32.ofInt z).toInt8 = Int8.ofInt z from Int32.toInt8_ofInt .. ]
  exact Int8.toInt_ofInt_of_le (by omega) (by omega)
theorem g_bast (X : CX p m c cc nL s args own D tys A H0) {a n : Nat} {cA : ClassId} {f : Nat → Int} {i z : Int} (q0 t0 : Nat) (he : ws[q0]? = some (a, eI cA n f)) (ht : tys[t0]? = some (cA, .byte)) (hin : 0 ≤ i ∧ i < n) (hn : n ≤ 2147483647) (hz : -128 ≤ z ∧ z ≤ 127) (hdg : decode cc pc = .ok (.bastore, 1)) (kk : ∀ f', f' = updZ f i.toNat z → GG p l e R s m args below meth c cells slots Q D A H0 nL (ws.set q0 (a, eI cA n f')) (pc + 1) lv st) : GG p l e R s m args below meth c cells slots Q D A H0 nL ws pc lv (vI z :: vI i :: .ref a :: st) := fun H locs ls hP hD hS hl => va_bast X.1.1 X.1.2.1 X.2.1 hP hD hS q0 t0 he ht (zI_in hin.1 hin.2 hn) hdg (fun H locs hP hD hS => by rw [zI_byte hz, zA_up hin.1 (by omega)] at hP hD; exact kk _ rfl H locs ls hP hD hS hl)
theorem g_alen (X : CX p m c cc nL s args own D tys A H0) {a n : Nat} {cA : ClassId} {x : (Nat → Int32) ⊕ (Nat → Int64) ⊕ (Nat → UInt32) ⊕ (Nat → UInt64) ⊕ (Nat → Option Nat)} {ty : FieldType} {z : Int} (q0 t0 : Nat) (he : ws[q0]? = some (a, .inl (cA, n, x))) (ht : tys[t0]? = some (cA, ty)) (hz : (n : Int) = z) (hdg : decode cc pc = .ok (.arraylength, 1)) (kk : GG p l e R s m args below meth c cells slots Q D A H0 nL ws (pc + 1) lv (vI z :: st)) : GG p l e R s m args below meth c cells slots Q D A H0 nL ws pc lv (.ref a :: st) := fun H locs ls hP hD hS hl => va_alen X.1.1 X.1.2.1 X.2.1 hP q0 t0 he ht (v := zI z) (by rw [← hz]; exact (Int32.ofInt_eq_ofNat).symm) hdg (kk H locs ls hP hD hS hl)
theorem g_tab (X : CX p m c cc nL s args own D tys A H0) {dflt lo hi : Int} {offs : Array Int} {len : Nat} {z off : Int} {tgt : Nat} (hdg : decode cc pc = .ok (.tableswitch dflt lo hi offs, len)) (hz : IR z) (h1 : lo ≤ z ∧ z ≤ hi) (ho : offs[(z - lo).toNat]? = some off) (ht : (pc : Int) + off = (tgt : Int)) (kk : GG p l e R s m args below meth c cells slots Q D A H0 nL ws tgt lv st) : GG p l e R s m args below meth c cells slots Q D A H0 nL ws pc lv (vI z :: st) := fun H locs ls hP hD hS hl => lv_tableIn X.1.1 X.1.2.1 hdg (by rw [zI_toInt hz]; omega) (by rw [zI_toInt hz]; omega) (by rw [zI_toInt hz]; exact ho) ht (kk H locs ls hP hD hS hl)
theorem g_tabD (X : CX p m c cc nL s args own D tys A H0) {dflt lo hi : Int} {offs : Array Int} {len : Nat} {z : Int} {tgt : Nat} (hdg : decode cc pc = .ok (.tableswitch dflt lo hi offs, len)) (hz : IR z) (h1 : z < lo ∨ hi < z) (ht : (pc : Int) + dflt = (tgt : Int)) (kk : GG p l e R s m args below meth c cells slots Q D A H0 nL ws tgt lv st) : GG p l e R s m args below meth c cells slots Q D A H0 nL ws pc lv (vI z :: st) := fun H locs ls hP hD hS hl => lv_tableOut X.1.1 X.1.2.1 hdg (by rw [zI_toInt hz]; exact h1) ht (kk H locs ls hP hD hS hl)
theorem gM_get (X : CX p m c cc nL s args RX10 D tys A H0) {index a : Nat} {fs : List Value} (q0 : Nat) (he : ws[q0]? = some (a, .inr (9, fs))) (k : Nat) (hk : k < 67) (hlink : Cond.fieldLink RX10 index (TX10 k).1 (TX10 k).2.1 (TX10 k).2.2.1 ∈ lw_U) {v : Value} (hv : fs[k]? = some v) (hdg : decode cc pc = .ok (.getfield index, 3)) (kk : GG p l e R s m args below meth c cells slots Q D A H0 nL ws (pc + 3) lv (v :: st)) : GG p l e R s m args below meth c cells slots Q D A H0 nL ws pc lv (.ref a :: st) := g_get X q0 he rfl inU_X10 k hk hlink rfl hv hdg kk
theorem gM_put (X : CX p m c cc nL s args RX10 D tys A H0) {index a : Nat} {fs : List Value} (q0 : Nat) (he : ws[q0]? = some (a, .inr (9, fs))) (k : Nat) (hk : k < 67) (hlink : Cond.fieldLink RX10 index (TX10 k).1 (TX10 k).2.1 (TX10 k).2.2.1 ∈ lw_U) (hfin : (TX10 k).2.2.2 = false) {z : Int} (hn : narrow (tyX10 k) (vI z) = vI z) (hfit : fits (tyX10 k) (vI z) = true) (hl0 : k < fs.length) (hdg : decode cc pc = .ok (.putfield index, 3)) {ws2 : va_W} (hws : ws.set q0 (a, .inr (9, fs.set k (vI z))) = ws2) (kk : GG p l e R s m args below meth c cells slots Q D A H0 nL ws2 (pc + 3) lv st) : GG p l e R s m args below meth c cells slots Q D A H0 nL ws pc lv (vI z :: .ref a :: st) := g_put X q0 he rfl inU_X10 tyX10 tyX10_ok nmX10 k hk hlink rfl hfin hn hfit hl0 hdg (hws ▸ kk)
end GR
/-! ===== contracts: a method's world before and behind it, its answer as an integer ===== -/
abbrev PreZ (D : va_G) (tys : List (ClassId × FieldType)) (ws : va_W) (sz : Nat) : State → Prop := fun U => U.heap.size = sz ∧ va_P D vwCl ws U.heap ∧ va_K D vwCl tys U ∧ va_D (fun _ => True) ws ∧ NK U ∧ SZ (va_A ws sz) U.heap U
abbrev BZ (D : va_G) (tys : List (ClassId × FieldType)) (A : Nat → Prop) (ws' : va_W) (t : State) : Prop := va_P D vwCl ws' t.heap ∧ va_K D vwCl tys t ∧ va_D A ws'
/-- answers an int (or a boolean): post z ws' -/
def CtI (l : Launch) (y : MethodName) (b : ByteArray) (nL : Nat) (ret : Option FieldType) (rm : Room) (D : va_G) (tys : List (ClassId × FieldType)) (ws : va_W) (av : List Value) (post : Int → va_W → Prop) : Prop :=
  ∀ sz : Nat, Met l y (wU y b nL ret) rm (va_Pc av (PreZ D tys ws sz)) (va_Qi (fun (r : Int32) (ws' : va_W) => ∃ z, r = zI z ∧ post z ws') (BZ D tys (va_A ws sz)) (va_A ws sz)) 0 0 (va_A ws sz)
def CtV (l : Launch) (y : MethodName) (b : ByteArray) (nL : Nat) (ret : Option FieldType) (rm : Room) (D : va_G) (tys : List (ClassId × FieldType)) (ws : va_W) (av : List Value) (post : va_W → Prop) : Prop :=
  ∀ sz : Nat, Met l y (wU y b nL ret) rm (va_Pc av (PreZ D tys ws sz)) (va_Qv (fun (ws' : va_W) => post ws') (BZ D tys (va_A ws sz)) (va_A ws sz)) 0 0 (va_A ws sz)


theorem zI_bool {z : Int} (h : z = 0 ∨ z = 1) : narrow .boolean (.int (zI z)) = .int (zI z) := by
  rcases h with rfl | rfl <;> rfl
theorem hdrI {l : Launch} {y : MethodName} {cc : ByteArray} {nL : Nat} {rm : Room} {D : va_G} {tys : List (ClassId × FieldType)} {ws : va_W} {av : List Value} {post : Int → va_W → Prop} {own : String} (hown : y.cls = own) (hy : plainName y.cls = true) (hlen : (lg_sl av).length ≤ nL)
    (body : ∀ (p : Program) (e : Env) (s : State) (m : MethodId) (args : Array Value) (below : List Frame) (meth : Method) (c : Code) (Q : State → Prop) (A : Nat → Prop), CX p m c cc nL s args own D tys A s.heap → (∀ (z : Int) (ws' : va_W) (pc : Nat) (lv : List (Nat × Value)), decode cc pc = .ok (.ireturn, 1) → post z ws' → GG p l e rm s m args below meth c 0 0 Q D A s.heap nL ws' pc lv [vI z]) → GG p l e rm s m args below meth c 0 0 Q D A s.heap nL ws 0 (lv_args 0 av) []) : CtI l y cc nL (some .int) rm D tys ws av post := by
  intro sz
  refine Met.ofW (cc := cc) (maxL := nL) (ret := some .int) hy rfl ?_
  intro p e s m args below meth c s₁ B hml hv
  obtain ⟨rfl, hsz, hP, hK, hD0, hN, hZ⟩ := hv
  subst hsz
  have hD := hD0.self (sz := s.heap.size)
  have hl := lv_entry av (n := nL) hlen
  rw [lg_entry_eq]
  exact body p e s m _ below meth c _ (va_A ws s.heap.size) ⟨⟨B.exec, B.bytes, hml, hown ▸ findClass_of_methodNamed B.named, fun w hw => atoms_spec (ws := wU y cc nL (some .int)) B.pre w (List.mem_cons_of_mem _ hw)⟩, hK, fun q h => Or.inr h, hN, hZ⟩ (fun z ws' pc lv hd hp => fun H locs ls hP hD hS hl => W.iret (v := zI z) B.exec B.bytes B.returns (fun t ht hW => ⟨⟨zI z, ws', rfl, ⟨z, rfl, hp⟩, by rw [ht]; exact hP, va_K.moved hW.alike hK, hD⟩, hS.F ht⟩) hS.2.2 hd B.notSynchronized) s.heap [] _ hP hD va_S.rf hl
theorem hdrZ {l : Launch} {y : MethodName} {cc : ByteArray} {nL : Nat} {rm : Room} {D : va_G} {tys : List (ClassId × FieldType)} {ws : va_W} {av : List Value} {post : Int → va_W → Prop} {own : String} (hown : y.cls = own) (hy : plainName y.cls = true) (hlen : (lg_sl av).length ≤ nL)
    (body : ∀ (p : Program) (e : Env) (s : State) (m : MethodId) (args : Array Value) (below : List Frame) (meth : Method) (c : Code) (Q : State → Prop) (A : Nat → Prop), CX p m c cc nL s args own D tys A s.heap → (∀ (z : Int) (ws' : va_W) (pc : Nat) (lv : List (Nat × Value)), decode cc pc = .ok (.ireturn, 1) → (z = 0 ∨ z = 1) ∧ post z ws' → GG p l e rm s m args below meth c 0 0 Q D A s.heap nL ws' pc lv [vI z]) → GG p l e rm s m args below meth c 0 0 Q D A s.heap nL ws 0 (lv_args 0 av) []) : CtI l y cc nL (some .boolean) rm D tys ws av (fun z ws' => (z = 0 ∨ z = 1) ∧ post z ws') := by
  intro sz
  refine Met.ofW (cc := cc) (maxL := nL) (ret := some .boolean) hy rfl ?_
  intro p e s m args below meth c s₁ B hml hv
  obtain ⟨rfl, hsz, hP, hK, hD0, hN, hZ⟩ := hv
  subst hsz
  have hD := hD0.self (sz := s.heap.size)
  have hl := lv_entry av (n := nL) hlen
  rw [lg_entry_eq]
  exact body p e s m _ below meth c _ (va_A ws s.heap.size) ⟨⟨B.exec, B.bytes, hml, hown ▸ findClass_of_methodNamed B.named, fun w hw => atoms_spec (ws := wU y cc nL (some .boolean)) B.pre w (List.mem_cons_of_mem _ hw)⟩, hK, fun q h => Or.inr h, hN, hZ⟩ (fun z ws' pc lv hd hp => fun H locs ls hP hD hS hl => W.zret (v := zI z) (ty := .boolean) B.exec B.bytes B.returns (zI_bool hp.1) (fun t ht hW => ⟨⟨zI z, ws', rfl, ⟨z, rfl, hp⟩, by rw [ht]; exact hP, va_K.moved hW.alike hK, hD⟩, hS.F ht⟩) hS.2.2 hd B.notSynchronized) s.heap [] _ hP hD va_S.rf hl
theorem hdrV {l : Launch} {y : MethodName} {cc : ByteArray} {nL : Nat} {rm : Room} {D : va_G} {tys : List (ClassId × FieldType)} {ws : va_W} {av : List Value} {post : va_W → Prop} {own : String} (hown : y.cls = own) (hy : plainName y.cls = true) (hlen : (lg_sl av).length ≤ nL)
    (body : ∀ (p : Program) (e : Env) (s : State) (m : MethodId) (args : Array Value) (below : List Frame) (meth : Method) (c : Code) (Q : State → Prop) (A : Nat → Prop), CX p m c cc nL s args own D tys A s.heap → (∀ (ws' : va_W) (pc : Nat) (lv : List (Nat × Value)), decode cc pc = .ok (.return_, 1) → post ws' → GG p l e rm s m args below meth c 0 0 Q D A s.heap nL ws' pc lv []) → GG p l e rm s m args below meth c 0 0 Q D A s.heap nL ws 0 (lv_args 0 av) []) : CtV l y cc nL none rm D tys ws av post := by
  intro sz
  refine Met.ofW (cc := cc) (maxL := nL) (ret := none) hy rfl ?_
  intro p e s m args below meth c s₁ B hml hv
  obtain ⟨rfl, hsz, hP, hK, hD0, hN, hZ⟩ := hv
  subst hsz
  have hD := hD0.self (sz := s.heap.size)
  have hl := lv_entry av (n := nL) hlen
  rw [lg_entry_eq]
  exact body p e s m _ below meth c _ (va_A ws s.heap.size) ⟨⟨B.exec, B.bytes, hml, hown ▸ findClass_of_methodNamed B.named, fun w hw => atoms_spec (ws := wU y cc nL none) B.pre w (List.mem_cons_of_mem _ hw)⟩, hK, fun q h => Or.inr h, hN, hZ⟩ (fun ws' pc lv hd hp => fun H locs ls hP hD hS hl => W.vret B.exec B.bytes B.returns (fun t ht hW => ⟨⟨ws', rfl, hp, by rw [ht]; exact hP, va_K.moved hW.alike hK, hD⟩, hS.F ht⟩) hS.2.2 hd B.notSynchronized) s.heap [] _ hP hD va_S.rf hl
theorem va_freeA {A0 : Nat → Prop} {ws : va_W} {H0 H : Heap} {locs : List Loc} (hD : va_D A0 ws) (hS : va_S A0 H0 H locs) (hA : ∀ q, H0.size ≤ q → A0 q) : ∀ q, va_A ws H.size q → A0 q := by
  intro q hq
  rcases hq with ⟨k, e, hk⟩ | hq
  · exact hD.2 k _ hk
  · exact hA q (Nat.le_trans hS.1 hq)
abbrev CalV (C : String) (y : MethodName) (b : ByteArray) (nL : Nat) (ret : Option FieldType) (n : Nat) : Prop := Cond.code y b nL ret ∈ lw_U ∧ Cond.instanceMethod y ∈ lw_U ∧ Cond.selects C y y ∈ lw_U ∧ Cond.initialized C ∈ lw_U ∧ y.cls = C ∧ y.cls ≠ "java/lang/invoke/MethodHandle" ∧ y.cls ≠ "java/lang/invoke/VarHandle" ∧ (parseMethodDescriptor y.desc).map (fun d => d.parameters.length) = some n
abbrev CalS (y : MethodName) (b : ByteArray) (nL : Nat) (ret : Option FieldType) (n : Nat) : Prop := Cond.code y b nL ret ∈ lw_U ∧ Cond.static y ∈ lw_U ∧ Cond.initialized y.cls ∈ lw_U ∧ y.cls ≠ "java/lang/invoke/MethodHandle" ∧ y.cls ≠ "java/lang/invoke/VarHandle" ∧ (parseMethodDescriptor y.desc).map (fun d => d.parameters.length) = some n
theorem lw_UU : GoodIn lw_U lw_U := fun w h => ⟨h, good_of_word (lw_Ugood w h)⟩
theorem lw_Uw {y : MethodName} {b : ByteArray} {nL : Nat} {ret : Option FieldType} (h : Cond.code y b nL ret ∈ lw_U) : GoodIn lw_U (wU y b nL ret) := fun w hw => lw_UU w ((List.mem_cons.mp hw).elim (fun q => q ▸ h) id)
theorem CalV_w {C : String} {y : MethodName} {b : ByteArray} {nL : Nat} {ret : Option FieldType} {n : Nat} (h : CalV C y b nL ret n) {R : Room} {s : State} {args : Array Value} {own : String} {index : Nat} {rm : Room} (ht : ∀ w ∈ lw_U, w.before args s = true) (hlk : Cond.methodLink own index y ∈ lw_U) (hrm : rm.cells = 0 ∧ rm.slots = 0 ∧ rm.frames + 1 ≤ R.frames ∧ 8 + (nL + 11) + rm.locals ≤ R.locals) : CallW R s args own C index y b nL ret (wU y b nL ret) rm 0 0 n := by
  refine cwV n ht (goodIn_app (fun w hw => lw_UU w ?_) (lw_Uw h.1)) rfl hrm.1 hrm.2.1 h.2.2.2.2 hrm.2.2
  simp only [List.mem_cons, List.not_mem_nil, or_false] at hw
  rcases hw with rfl | rfl | rfl | rfl
  · exact hlk
  · exact h.2.1
  · exact h.2.2.1
  · exact h.2.2.2.1
theorem CalS_w {y : MethodName} {b : ByteArray} {nL : Nat} {ret : Option FieldType} {n : Nat} (h : CalS y b nL ret n) {R : Room} {s : State} {args : Array Value} {own : String} {index : Nat} {rm : Room} (ht : ∀ w ∈ lw_U, w.before args s = true) (hlk : Cond.methodLink own index y ∈ lw_U) (hrm : rm.cells = 0 ∧ rm.slots = 0 ∧ rm.frames + 1 ≤ R.frames ∧ 8 + (nL + 11) + rm.locals ≤ R.locals) : CallB R s args own index y b nL ret (wU y b nL ret) rm 0 0 n ∧ (Cond.static y).before args s = true :=
  ⟨callB_of n ht (lw_Uw h.1) rfl hrm.1 hrm.2.1 (ht _ h.2.2.1) (ht _ hlk) h.2.2.2 hrm.2.2, ht _ h.2.1⟩
section GC
variable {p : Program} {l : Launch} {e : Env} {R : Room} {s : State} {m : MethodId} {args : Array Value} {below : List Frame} {meth : Method} {c : Code} {cells slots : Nat} {Q : State → Prop} {cc : ByteArray} {pc nL : Nat} {D : va_G} {tys : List (ClassId × FieldType)} {ws : va_W} {A : Nat → Prop} {H0 : Heap} {lv : List (Nat × Value)} {st : List Value} {own : String}
variable {y : MethodName} {bytes : ByteArray} {maxL n index : Nat} {ret : Option FieldType} {rm : Room} {C : String} {b : Nat} {As st0 : List Value}
theorem g_perm {ws2 : va_W} (is : List Nat) (h1 : is.filterMap (fun i => ws[i]?) = ws2) (h2 : is.map (fun i => ws[i]?) = ws2.map some) (hnd : va_nd is = true) (kk : GG p l e R s m args below meth c cells slots Q D A H0 nL ws2 pc lv st) : GG p l e R s m args below meth c cells slots Q D A H0 nL ws pc lv st := fun H locs ls hP hD hS hl => kk H locs ls (hP.sub is h1) (hD.sub is hnd h2) hS hl
theorem g_callVI0 (X : CX p m c cc nL s args own D tys A H0)  {post : Int → va_W → Prop} (hM : CtI l y bytes maxL ret rm D tys ws (.ref b :: As) post) (cv : CalV C y bytes maxL ret n) (hlk : Cond.methodLink own index y ∈ lw_U) (hrm : rm.cells = 0 ∧ rm.slots = 0 ∧ rm.frames + 1 ≤ R.frames ∧ 8 + (maxL + 11) + rm.locals ≤ R.locals) {ci : Nat} {r : vw_C} {fs : List Value} (q0 : Nat) (he : ws[q0]? = some (b, .inr (ci, fs))) (hc : vwCl[ci]? = some r) (hrC : r.1 = C) (hn : As.length = n) (hst0 : st0 = As.reverse ++ .ref b :: st) (hcat : (st.map fun v => v.category).sum ≤ 8) (hcs : cells ≤ R.cells ∧ slots ≤ R.slots) (hdg : decode cc pc = .ok (.invokevirtual index, 3)) (kk : ∀ (z : Int) (ws1 : va_W), post z ws1 → GG p l e R s m args below meth c cells slots Q D A H0 nL ws1 (pc + 3) lv (vI z :: st)) : GG p l e R s m args below meth c cells slots Q D A H0 nL ws pc lv st0 := by
  intro H locs ls hP hD hS hl
  subst hst0
  have hPc := hP
  have hDc := hD
  have hFc := va_freeA hD hS X.2.2.1
  refine va_calli (va_runV (As := As) (rest := st) X.1 (hM H.size) (CalV_w cv X.1.2.2.2.2 hlk hrm) ⟨fun a U g mk q => by obtain ⟨q0, q1, qP, qK, qD, qN, qZ⟩ := q; exact ⟨q0, q1, qP, va_K.moved (u := U) (U := U.calling g mk a) (Vm.Alike.refl U.vm) qK, qD, NK.same (u := U) (U := U.calling g mk a) rfl qN, SZ.same (u := U) (U := U.calling g mk a) rfl qZ⟩, hrC ▸ va_recv X.2.1 hPc hc he, fun U hU hW => ⟨rfl, by rw [hU], by rw [hU]; exact hPc, va_K.moved hW.alike X.2.1, hDc.weaken (fun _ _ _ _ => trivial), NK.warm hW X.2.2.2.1, by rw [hU]; exact SZ.call X.2.2.2.2 hS hFc hW⟩⟩ rfl hn hl.1 rfl (lv_room hcat) hdg hcs) hS (fun q _ h => hFc q h) hFc (fun r u t H1 locs ht hvm hw hB hz1 hk1 hS => ?_)
  obtain ⟨z, rfl, hz⟩ := hw
  obtain ⟨hP1, hK1, hD1⟩ := hB
  rw [ht] at hP1
  exact kk z u hz H1 locs ls hP1 (hD1.weaken fun _ _ _ h => hFc _ h) hS hl
theorem g_callVI (X : CX p m c cc nL s args own D tys A H0) {wc : va_W} {post : Int → va_W → Prop} (hM : CtI l y bytes maxL ret rm D tys wc (.ref b :: As) post) (isC isR : List Nat) (hC : isC.map (fun i => ws[i]?) = wc.map some) (hC2 : isC.filterMap (fun i => ws[i]?) = wc) (hnC : va_nd isC = true) (hR : isR.map (fun i => ws[i]?) = (isR.filterMap (fun i => ws[i]?)).map some) (hnR : va_nd isR = true) (hdis : ∀ i ∈ isR, i ∉ isC) (cv : CalV C y bytes maxL ret n) (hlk : Cond.methodLink own index y ∈ lw_U) (hrm : rm.cells = 0 ∧ rm.slots = 0 ∧ rm.frames + 1 ≤ R.frames ∧ 8 + (maxL + 11) + rm.locals ≤ R.locals) {ci : Nat} {r : vw_C} {fs : List Value} (q0 : Nat) (he : wc[q0]? = some (b, .inr (ci, fs))) (hc : vwCl[ci]? = some r) (hrC : r.1 = C) (hn : As.length = n) (hst0 : st0 = As.reverse ++ .ref b :: st) (hcat : (st.map fun v => v.category).sum ≤ 8) (hcs : cells ≤ R.cells ∧ slots ≤ R.slots) (hdg : decode cc pc = .ok (.invokevirtual index, 3)) (kk : ∀ (z : Int) (ws1 : va_W), post z ws1 → GG p l e R s m args below meth c cells slots Q D A H0 nL ((isR.filterMap (fun i => ws[i]?)) ++ ws1) (pc + 3) lv (vI z :: st)) : GG p l e R s m args below meth c cells slots Q D A H0 nL ws pc lv st0 := by
  intro H locs ls hP hD hS hl
  subst hst0
  have hPc := hP.sub (ws' := wc) isC hC2
  have hDc := hD.sub (ws' := wc) isC hnC hC
  have hFc := va_free (wc := wc) hD hS X.2.2.1 isC hC
  refine va_calli (va_runV (As := As) (rest := st) X.1 (hM H.size) (CalV_w cv X.1.2.2.2.2 hlk hrm) ⟨fun a U g mk q => by obtain ⟨q0, q1, qP, qK, qD, qN, qZ⟩ := q; exact ⟨q0, q1, qP, va_K.moved (u := U) (U := U.calling g mk a) (Vm.Alike.refl U.vm) qK, qD, NK.same (u := U) (U := U.calling g mk a) rfl qN, SZ.same (u := U) (U := U.calling g mk a) rfl qZ⟩, hrC ▸ va_recv X.2.1 hPc hc he, fun U hU hW => ⟨rfl, by rw [hU], by rw [hU]; exact hPc, va_K.moved hW.alike X.2.1, hDc.weaken (fun _ _ _ _ => trivial), NK.warm hW X.2.2.2.1, by rw [hU]; exact SZ.call X.2.2.2.2 hS hFc hW⟩⟩ rfl hn hl.1 rfl (lv_room hcat) hdg hcs) hS (fun q _ h => hFc q h) hFc (fun r u t H1 locs ht hvm hw hB hz1 hk1 hS => ?_)
  obtain ⟨z, rfl, hz⟩ := hw
  obtain ⟨hP1, hK1, hD1⟩ := hB
  rw [ht] at hP1
  obtain ⟨hP2, hD2⟩ := va_join (wr := isR.filterMap (fun i => ws[i]?)) (w1 := u) hP hD isC isR hC hR hnR hdis hk1 hFc hP1 hD1
  exact kk z u hz H1 locs ls hP2 hD2 hS hl
theorem g_callVV0 (X : CX p m c cc nL s args own D tys A H0)  {post : va_W → Prop} (hM : CtV l y bytes maxL ret rm D tys ws (.ref b :: As) post) (cv : CalV C y bytes maxL ret n) (hlk : Cond.methodLink own index y ∈ lw_U) (hrm : rm.cells = 0 ∧ rm.slots = 0 ∧ rm.frames + 1 ≤ R.frames ∧ 8 + (maxL + 11) + rm.locals ≤ R.locals) {ci : Nat} {r : vw_C} {fs : List Value} (q0 : Nat) (he : ws[q0]? = some (b, .inr (ci, fs))) (hc : vwCl[ci]? = some r) (hrC : r.1 = C) (hn : As.length = n) (hst0 : st0 = As.reverse ++ .ref b :: st) (hcat : (st.map fun v => v.category).sum ≤ 8) (hcs : cells ≤ R.cells ∧ slots ≤ R.slots) (hdg : decode cc pc = .ok (.invokevirtual index, 3)) (kk : ∀ (ws1 : va_W), post ws1 → GG p l e R s m args below meth c cells slots Q D A H0 nL ws1 (pc + 3) lv st) : GG p l e R s m args below meth c cells slots Q D A H0 nL ws pc lv st0 := by
  intro H locs ls hP hD hS hl
  subst hst0
  have hPc := hP
  have hDc := hD
  have hFc := va_freeA hD hS X.2.2.1
  refine va_callv (va_runV (As := As) (rest := st) X.1 (hM H.size) (CalV_w cv X.1.2.2.2.2 hlk hrm) ⟨fun a U g mk q => by obtain ⟨q0, q1, qP, qK, qD, qN, qZ⟩ := q; exact ⟨q0, q1, qP, va_K.moved (u := U) (U := U.calling g mk a) (Vm.Alike.refl U.vm) qK, qD, NK.same (u := U) (U := U.calling g mk a) rfl qN, SZ.same (u := U) (U := U.calling g mk a) rfl qZ⟩, hrC ▸ va_recv X.2.1 hPc hc he, fun U hU hW => ⟨rfl, by rw [hU], by rw [hU]; exact hPc, va_K.moved hW.alike X.2.1, hDc.weaken (fun _ _ _ _ => trivial), NK.warm hW X.2.2.2.1, by rw [hU]; exact SZ.call X.2.2.2.2 hS hFc hW⟩⟩ rfl hn hl.1 rfl (lv_room hcat) hdg hcs) hS (fun q _ h => hFc q h) hFc (fun u t H1 locs ht hvm hw hB hz1 hk1 hS => ?_)
  obtain ⟨hP1, hK1, hD1⟩ := hB
  rw [ht] at hP1
  exact kk u hw H1 locs ls hP1 (hD1.weaken fun _ _ _ h => hFc _ h) hS hl
theorem g_callVV (X : CX p m c cc nL s args own D tys A H0) {wc : va_W} {post : va_W → Prop} (hM : CtV l y bytes maxL ret rm D tys wc (.ref b :: As) post) (isC isR : List Nat) (hC : isC.map (fun i => ws[i]?) = wc.map some) (hC2 : isC.filterMap (fun i => ws[i]?) = wc) (hnC : va_nd isC = true) (hR : isR.map (fun i => ws[i]?) = (isR.filterMap (fun i => ws[i]?)).map some) (hnR : va_nd isR = true) (hdis : ∀ i ∈ isR, i ∉ isC) (cv : CalV C y bytes maxL ret n) (hlk : Cond.methodLink own index y ∈ lw_U) (hrm : rm.cells = 0 ∧ rm.slots = 0 ∧ rm.frames + 1 ≤ R.frames ∧ 8 + (maxL + 11) + rm.locals ≤ R.locals) {ci : Nat} {r : vw_C} {fs : List Value} (q0 : Nat) (he : wc[q0]? = some (b, .inr (ci, fs))) (hc : vwCl[ci]? = some r) (hrC : r.1 = C) (hn : As.length = n) (hst0 : st0 = As.reverse ++ .ref b :: st) (hcat : (st.map fun v => v.category).sum ≤ 8) (hcs : cells ≤ R.cells ∧ slots ≤ R.slots) (hdg : decode cc pc = .ok (.invokevirtual index, 3)) (kk : ∀ (ws1 : va_W), post ws1 → GG p l e R s m args below meth c cells slots Q D A H0 nL ((isR.filterMap (fun i => ws[i]?)) ++ ws1) (pc + 3) lv st) : GG p l e R s m args below meth c cells slots Q D A H0 nL ws pc lv st0 := by
  intro H locs ls hP hD hS hl
  subst hst0
  have hPc := hP.sub (ws' := wc) isC hC2
  have hDc := hD.sub (ws' := wc) isC hnC hC
  have hFc := va_free (wc := wc) hD hS X.2.2.1 isC hC
  refine va_callv (va_runV (As := As) (rest := st) X.1 (hM H.size) (CalV_w cv X.1.2.2.2.2 hlk hrm) ⟨fun a U g mk q => by obtain ⟨q0, q1, qP, qK, qD, qN, qZ⟩ := q; exact ⟨q0, q1, qP, va_K.moved (u := U) (U := U.calling g mk a) (Vm.Alike.refl U.vm) qK, qD, NK.same (u := U) (U := U.calling g mk a) rfl qN, SZ.same (u := U) (U := U.calling g mk a) rfl qZ⟩, hrC ▸ va_recv X.2.1 hPc hc he, fun U hU hW => ⟨rfl, by rw [hU], by rw [hU]; exact hPc, va_K.moved hW.alike X.2.1, hDc.weaken (fun _ _ _ _ => trivial), NK.warm hW X.2.2.2.1, by rw [hU]; exact SZ.call X.2.2.2.2 hS hFc hW⟩⟩ rfl hn hl.1 rfl (lv_room hcat) hdg hcs) hS (fun q _ h => hFc q h) hFc (fun u t H1 locs ht hvm hw hB hz1 hk1 hS => ?_)
  obtain ⟨hP1, hK1, hD1⟩ := hB
  rw [ht] at hP1
  obtain ⟨hP2, hD2⟩ := va_join (wr := isR.filterMap (fun i => ws[i]?)) (w1 := u) hP hD isC isR hC hR hnR hdis hk1 hFc hP1 hD1
  exact kk u hw H1 locs ls hP2 hD2 hS hl
theorem g_callSI0 (X : CX p m c cc nL s args own D tys A H0)  {post : Int → va_W → Prop} (hM : CtI l y bytes maxL ret rm D tys ws As post) (cv : CalS y bytes maxL ret n) (hlk : Cond.methodLink own index y ∈ lw_U) (hrm : rm.cells = 0 ∧ rm.slots = 0 ∧ rm.frames + 1 ≤ R.frames ∧ 8 + (maxL + 11) + rm.locals ≤ R.locals)  (hn : As.length = n) (hst0 : st0 = As.reverse ++ st) (hcat : (st.map fun v => v.category).sum ≤ 8) (hcs : cells ≤ R.cells ∧ slots ≤ R.slots) (hdg : decode cc pc = .ok (.invokestatic index, 3)) (kk : ∀ (z : Int) (ws1 : va_W), post z ws1 → GG p l e R s m args below meth c cells slots Q D A H0 nL ws1 (pc + 3) lv (vI z :: st)) : GG p l e R s m args below meth c cells slots Q D A H0 nL ws pc lv st0 := by
  intro H locs ls hP hD hS hl
  subst hst0
  have hPc := hP
  have hDc := hD
  have hFc := va_freeA hD hS X.2.2.1
  refine va_calli (va_runS (As := As) (rest := st) X.1 (hM H.size) (CalS_w cv X.1.2.2.2.2 hlk hrm) ⟨fun a U g mk q => by obtain ⟨q0, q1, qP, qK, qD, qN, qZ⟩ := q; exact ⟨q0, q1, qP, va_K.moved (u := U) (U := U.calling g mk a) (Vm.Alike.refl U.vm) qK, qD, NK.same (u := U) (U := U.calling g mk a) rfl qN, SZ.same (u := U) (U := U.calling g mk a) rfl qZ⟩, fun U hU hW => ⟨rfl, by rw [hU], by rw [hU]; exact hPc, va_K.moved hW.alike X.2.1, hDc.weaken (fun _ _ _ _ => trivial), NK.warm hW X.2.2.2.1, by rw [hU]; exact SZ.call X.2.2.2.2 hS hFc hW⟩⟩ rfl hn hl.1 rfl (lv_room hcat) hdg hcs) hS (fun q _ h => hFc q h) hFc (fun r u t H1 locs ht hvm hw hB hz1 hk1 hS => ?_)
  obtain ⟨z, rfl, hz⟩ := hw
  obtain ⟨hP1, hK1, hD1⟩ := hB
  rw [ht] at hP1
  exact kk z u hz H1 locs ls hP1 (hD1.weaken fun _ _ _ h => hFc _ h) hS hl
theorem g_callSI (X : CX p m c cc nL s args own D tys A H0) {wc : va_W} {post : Int → va_W → Prop} (hM : CtI l y bytes maxL ret rm D tys wc As post) (isC isR : List Nat) (hC : isC.map (fun i => ws[i]?) = wc.map some) (hC2 : isC.filterMap (fun i => ws[i]?) = wc) (hnC : va_nd isC = true) (hR : isR.map (fun i => ws[i]?) = (isR.filterMap (fun i => ws[i]?)).map some) (hnR : va_nd isR = true) (hdis : ∀ i ∈ isR, i ∉ isC) (cv : CalS y bytes maxL ret n) (hlk : Cond.methodLink own index y ∈ lw_U) (hrm : rm.cells = 0 ∧ rm.slots = 0 ∧ rm.frames + 1 ≤ R.frames ∧ 8 + (maxL + 11) + rm.locals ≤ R.locals)  (hn : As.length = n) (hst0 : st0 = As.reverse ++ st) (hcat : (st.map fun v => v.category).sum ≤ 8) (hcs : cells ≤ R.cells ∧ slots ≤ R.slots) (hdg : decode cc pc = .ok (.invokestatic index, 3)) (kk : ∀ (z : Int) (ws1 : va_W), post z ws1 → GG p l e R s m args below meth c cells slots Q D A H0 nL ((isR.filterMap (fun i => ws[i]?)) ++ ws1) (pc + 3) lv (vI z :: st)) : GG p l e R s m args below meth c cells slots Q D A H0 nL ws pc lv st0 := by
  intro H locs ls hP hD hS hl
  subst hst0
  have hPc := hP.sub (ws' := wc) isC hC2
  have hDc := hD.sub (ws' := wc) isC hnC hC
  have hFc := va_free (wc := wc) hD hS X.2.2.1 isC hC
  refine va_calli (va_runS (As := As) (rest := st) X.1 (hM H.size) (CalS_w cv X.1.2.2.2.2 hlk hrm) ⟨fun a U g mk q => by obtain ⟨q0, q1, qP, qK, qD, qN, qZ⟩ := q; exact ⟨q0, q1, qP, va_K.moved (u := U) (U := U.calling g mk a) (Vm.Alike.refl U.vm) qK, qD, NK.same (u := U) (U := U.calling g mk a) rfl qN, SZ.same (u := U) (U := U.calling g mk a) rfl qZ⟩, fun U hU hW => ⟨rfl, by rw [hU], by rw [hU]; exact hPc, va_K.moved hW.alike X.2.1, hDc.weaken (fun _ _ _ _ => trivial), NK.warm hW X.2.2.2.1, by rw [hU]; exact SZ.call X.2.2.2.2 hS hFc hW⟩⟩ rfl hn hl.1 rfl (lv_room hcat) hdg hcs) hS (fun q _ h => hFc q h) hFc (fun r u t H1 locs ht hvm hw hB hz1 hk1 hS => ?_)
  obtain ⟨z, rfl, hz⟩ := hw
  obtain ⟨hP1, hK1, hD1⟩ := hB
  rw [ht] at hP1
  obtain ⟨hP2, hD2⟩ := va_join (wr := isR.filterMap (fun i => ws[i]?)) (w1 := u) hP hD isC isR hC hR hnR hdis hk1 hFc hP1 hD1
  exact kk z u hz H1 locs ls hP2 hD2 hS hl
theorem g_callSV0 (X : CX p m c cc nL s args own D tys A H0)  {post : va_W → Prop} (hM : CtV l y bytes maxL ret rm D tys ws As post) (cv : CalS y bytes maxL ret n) (hlk : Cond.methodLink own index y ∈ lw_U) (hrm : rm.cells = 0 ∧ rm.slots = 0 ∧ rm.frames + 1 ≤ R.frames ∧ 8 + (maxL + 11) + rm.locals ≤ R.locals)  (hn : As.length = n) (hst0 : st0 = As.reverse ++ st) (hcat : (st.map fun v => v.category).sum ≤ 8) (hcs : cells ≤ R.cells ∧ slots ≤ R.slots) (hdg : decode cc pc = .ok (.invokestatic index, 3)) (kk : ∀ (ws1 : va_W), post ws1 → GG p l e R s m args below meth c cells slots Q D A H0 nL ws1 (pc + 3) lv st) : GG p l e R s m args below meth c cells slots Q D A H0 nL ws pc lv st0 := by
  intro H locs ls hP hD hS hl
  subst hst0
  have hPc := hP
  have hDc := hD
  have hFc := va_freeA hD hS X.2.2.1
  refine va_callv (va_runS (As := As) (rest := st) X.1 (hM H.size) (CalS_w cv X.1.2.2.2.2 hlk hrm) ⟨fun a U g mk q => by obtain ⟨q0, q1, qP, qK, qD, qN, qZ⟩ := q; exact ⟨q0, q1, qP, va_K.moved (u := U) (U := U.calling g mk a) (Vm.Alike.refl U.vm) qK, qD, NK.same (u := U) (U := U.calling g mk a) rfl qN, SZ.same (u := U) (U := U.calling g mk a) rfl qZ⟩, fun U hU hW => ⟨rfl, by rw [hU], by rw [hU]; exact hPc, va_K.moved hW.alike X.2.1, hDc.weaken (fun _ _ _ _ => trivial), NK.warm hW X.2.2.2.1, by rw [hU]; exact SZ.call X.2.2.2.2 hS hFc hW⟩⟩ rfl hn hl.1 rfl (lv_room hcat) hdg hcs) hS (fun q _ h => hFc q h) hFc (fun u t H1 locs ht hvm hw hB hz1 hk1 hS => ?_)
  obtain ⟨hP1, hK1, hD1⟩ := hB
  rw [ht] at hP1
  exact kk u hw H1 locs ls hP1 (hD1.weaken fun _ _ _ h => hFc _ h) hS hl
theorem g_callSV (X : CX p m c cc nL s args own D tys A H0) {wc : va_W} {post : va_W → Prop} (hM : CtV l y bytes maxL ret rm D tys wc As post) (isC isR : List Nat) (hC : isC.map (fun i => ws[i]?) = wc.map some) (hC2 : isC.filterMap (fun i => ws[i]?) = wc) (hnC : va_nd isC = true) (hR : isR.map (fun i => ws[i]?) = (isR.filterMap (fun i => ws[i]?)).map some) (hnR : va_nd isR = true) (hdis : ∀ i ∈ isR, i ∉ isC) (cv : CalS y bytes maxL ret n) (hlk : Cond.methodLink own index y ∈ lw_U) (hrm : rm.cells = 0 ∧ rm.slots = 0 ∧ rm.frames + 1 ≤ R.frames ∧ 8 + (maxL + 11) + rm.locals ≤ R.locals)  (hn : As.length = n) (hst0 : st0 = As.reverse ++ st) (hcat : (st.map fun v => v.category).sum ≤ 8) (hcs : cells ≤ R.cells ∧ slots ≤ R.slots) (hdg : decode cc pc = .ok (.invokestatic index, 3)) (kk : ∀ (ws1 : va_W), post ws1 → GG p l e R s m args below meth c cells slots Q D A H0 nL ((isR.filterMap (fun i => ws[i]?)) ++ ws1) (pc + 3) lv st) : GG p l e R s m args below meth c cells slots Q D A H0 nL ws pc lv st0 := by
  intro H locs ls hP hD hS hl
  subst hst0
  have hPc := hP.sub (ws' := wc) isC hC2
  have hDc := hD.sub (ws' := wc) isC hnC hC
  have hFc := va_free (wc := wc) hD hS X.2.2.1 isC hC
  refine va_callv (va_runS (As := As) (rest := st) X.1 (hM H.size) (CalS_w cv X.1.2.2.2.2 hlk hrm) ⟨fun a U g mk q => by obtain ⟨q0, q1, qP, qK, qD, qN, qZ⟩ := q; exact ⟨q0, q1, qP, va_K.moved (u := U) (U := U.calling g mk a) (Vm.Alike.refl U.vm) qK, qD, NK.same (u := U) (U := U.calling g mk a) rfl qN, SZ.same (u := U) (U := U.calling g mk a) rfl qZ⟩, fun U hU hW => ⟨rfl, by rw [hU], by rw [hU]; exact hPc, va_K.moved hW.alike X.2.1, hDc.weaken (fun _ _ _ _ => trivial), NK.warm hW X.2.2.2.1, by rw [hU]; exact SZ.call X.2.2.2.2 hS hFc hW⟩⟩ rfl hn hl.1 rfl (lv_room hcat) hdg hcs) hS (fun q _ h => hFc q h) hFc (fun u t H1 locs ht hvm hw hB hz1 hk1 hS => ?_)
  obtain ⟨hP1, hK1, hD1⟩ := hB
  rw [ht] at hP1
  obtain ⟨hP2, hD2⟩ := va_join (wr := isR.filterMap (fun i => ws[i]?)) (w1 := u) hP hD isC isR hC hR hnR hdis hk1 hFc hP1 hD1
  exact kk u hw H1 locs ls hP2 hD2 hS hl
theorem g_callSIE (X : CX p m c cc nL s args own D tys A H0) {post : Int → va_W → Prop} (hM : CtI l y bytes maxL ret rm D tys [] As post) (cv : CalS y bytes maxL ret n) (hlk : Cond.methodLink own index y ∈ lw_U) (hrm : rm.cells = 0 ∧ rm.slots = 0 ∧ rm.frames + 1 ≤ R.frames ∧ 8 + (maxL + 11) + rm.locals ≤ R.locals) (hn : As.length = n) (hst0 : st0 = As.reverse ++ st) (hcat : (st.map fun v => v.category).sum ≤ 8) (hcs : cells ≤ R.cells ∧ slots ≤ R.slots) (hdg : decode cc pc = .ok (.invokestatic index, 3)) (kk : ∀ (z : Int) (ws1 : va_W), post z ws1 → GG p l e R s m args below meth c cells slots Q D A H0 nL ws (pc + 3) lv (vI z :: st)) : GG p l e R s m args below meth c cells slots Q D A H0 nL ws pc lv st0 := by
  intro H locs ls hP hD hS hl
  subst hst0
  have hPc : va_P D vwCl [] H := fun k q h => by simp at h
  have hDc : va_D (fun _ => True) [] := ⟨fun i j p q h => by simp at h, fun k q h => by simp at h⟩
  have hN : ∀ q, va_A [] H.size q → H.size ≤ q := fun q h => h.elim (fun ⟨k, e, hk⟩ => by simp at hk) id
  have hFc : ∀ q, va_A [] H.size q → A q := fun q h => X.2.2.1 q (Nat.le_trans hS.1 (hN q h))
  refine va_calli (va_runS (As := As) (rest := st) X.1 (hM H.size) (CalS_w cv X.1.2.2.2.2 hlk hrm) ⟨fun a U g mk q => by obtain ⟨q0, q1, qP, qK, qD, qN, qZ⟩ := q; exact ⟨q0, q1, qP, va_K.moved (u := U) (U := U.calling g mk a) (Vm.Alike.refl U.vm) qK, qD, NK.same (u := U) (U := U.calling g mk a) rfl qN, SZ.same (u := U) (U := U.calling g mk a) rfl qZ⟩, fun U hU hW => ⟨rfl, by rw [hU], by rw [hU]; exact hPc, va_K.moved hW.alike X.2.1, hDc, NK.warm hW X.2.2.2.1, by rw [hU]; exact SZ.call X.2.2.2.2 hS hFc hW⟩⟩ rfl hn hl.1 rfl (lv_room hcat) hdg hcs) hS (fun q _ h => hFc q h) hFc (fun r u t H1 locs ht hvm hw hB hz1 hk1 hS => ?_)
  obtain ⟨z, rfl, hz⟩ := hw
  exact kk z u hz H1 locs ls (hP.kept fun k q hk => hk1 q.1 (hP k q hk).lt (fun h => absurd (hN _ h) (Nat.not_le.mpr (hP k q hk).lt))) hD hS hl
theorem g_callSVE (X : CX p m c cc nL s args own D tys A H0) {post : va_W → Prop} (hM : CtV l y bytes maxL ret rm D tys [] As post) (cv : CalS y bytes maxL ret n) (hlk : Cond.methodLink own index y ∈ lw_U) (hrm : rm.cells = 0 ∧ rm.slots = 0 ∧ rm.frames + 1 ≤ R.frames ∧ 8 + (maxL + 11) + rm.locals ≤ R.locals) (hn : As.length = n) (hst0 : st0 = As.reverse ++ st) (hcat : (st.map fun v => v.category).sum ≤ 8) (hcs : cells ≤ R.cells ∧ slots ≤ R.slots) (hdg : decode cc pc = .ok (.invokestatic index, 3)) (kk : ∀ (ws1 : va_W), post ws1 → GG p l e R s m args below meth c cells slots Q D A H0 nL ws (pc + 3) lv st) : GG p l e R s m args below meth c cells slots Q D A H0 nL ws pc lv st0 := by
  intro H locs ls hP hD hS hl
  subst hst0
  have hPc : va_P D vwCl [] H := fun k q h => by simp at h
  have hDc : va_D (fun _ => True) [] := ⟨fun i j p q h => by simp at h, fun k q h => by simp at h⟩
  have hN : ∀ q, va_A [] H.size q → H.size ≤ q := fun q h => h.elim (fun ⟨k, e, hk⟩ => by simp at hk) id
  have hFc : ∀ q, va_A [] H.size q → A q := fun q h => X.2.2.1 q (Nat.le_trans hS.1 (hN q h))
  refine va_callv (va_runS (As := As) (rest := st) X.1 (hM H.size) (CalS_w cv X.1.2.2.2.2 hlk hrm) ⟨fun a U g mk q => by obtain ⟨q0, q1, qP, qK, qD, qN, qZ⟩ := q; exact ⟨q0, q1, qP, va_K.moved (u := U) (U := U.calling g mk a) (Vm.Alike.refl U.vm) qK, qD, NK.same (u := U) (U := U.calling g mk a) rfl qN, SZ.same (u := U) (U := U.calling g mk a) rfl qZ⟩, fun U hU hW => ⟨rfl, by rw [hU], by rw [hU]; exact hPc, va_K.moved hW.alike X.2.1, hDc, NK.warm hW X.2.2.2.1, by rw [hU]; exact SZ.call X.2.2.2.2 hS hFc hW⟩⟩ rfl hn hl.1 rfl (lv_room hcat) hdg hcs) hS (fun q _ h => hFc q h) hFc (fun u t H1 locs ht hvm hw hB hz1 hk1 hS => ?_)
  exact kk u hw H1 locs ls (hP.kept fun k q hk => hk1 q.1 (hP k q hk).lt (fun h => absurd (hN _ h) (Nat.not_le.mpr (hP k q hk).lt))) hD hS hl
end GC

