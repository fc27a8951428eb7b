/-! the one text constant: its length and its letters -/
def SA (a v : Nat) (A : Nat → Prop) (s : State) : Prop := va_O "java/lang/String" a A s s.heap ∧ va_OF "java/lang/String" "coder" "B" (.int 0) a A s s.heap ∧ va_OF "java/lang/String" "value" "[B" (.ref v) a A s s.heap ∧ va_T .byte v 9 (fun j => .int (txtB j)) A s s.heap ∧ va_Z "java/lang/String" "COMPACT_STRINGS" "Z" (.int 1) A s s.heap ∧ va_Zq "jdk/internal/util/Preconditions" "SIOOBE_FORMATTER" "Ljava/util/function/BiFunction;" A s s.heap
theorem SA.call {A B : Nat → Prop} {H : Heap} {locs : List Loc} {s U : State} {a v : Nat} (h : SA a v A s) (hS : va_S A s.heap H locs) (hF : ∀ q, B q → A q) (hW : s.WarmedH U.vm) (hU : U.heap = H) : SA a v B U := by
  obtain ⟨h3, h4, h5, h6, h7, h8⟩ := h
  have hk : ∀ a : Nat, a < s.heap.size → ¬ A a → U.heap[a]? = s.heap[a]? := by rw [hU]; exact hS.2.1
  exact ⟨((h3.kept hk).narrow hF).moved hW.alike, ((h4.kept hk).narrow hF).moved hW.alike, ((h5.kept hk).narrow hF).moved hW.alike, ((h6.kept hk).narrow hF).moved hW.alike, ((h7.kept hk).narrow hF).moved hW.alike, ((h8.kept hk).narrow hF).moved hW.alike⟩
theorem SA.same {A : Nat → Prop} {u U : State} {a v : Nat} (hv : u.vm = U.vm) (hh : U.heap = u.heap) (h : SA a v A u) : SA a v A U := by
  obtain ⟨h3, h4, h5, h6, h7, h8⟩ := h
  have ha : u.vm.Alike U.vm := by rw [hv]; exact Vm.Alike.refl U.vm
  unfold SA
  rw [hh]
  exact ⟨h3.moved ha, h4.moved ha, h5.moved ha, h6.moved ha, h7.moved ha, h8.moved ha⟩
abbrev PreT (D : va_G) (tys : List (ClassId × FieldType)) (a v : Nat) (sz : Nat) : State → Prop := fun U => PreZ D tys [] sz U ∧ SA a v (va_A [] sz) U
def CtT (l : Launch) (y : MethodName) (b : ByteArray) (nL : Nat) (ret : Option FieldType) (rm : Room) (D : va_G) (tys : List (ClassId × FieldType)) (a v : Nat) (av : List Value) (post : Int → Prop) : Prop :=
  ∀ sz : Nat, Met l y (wU y b nL ret) rm (va_Pc av (PreT D tys a v sz)) (va_Qi (fun (r : Int32) (_ : Unit) => ∃ z, r = zI z ∧ post z) (fun _ _ => True) (va_A [] sz)) 0 0 (va_A [] sz)
def CtTV (l : Launch) (y : MethodName) (b : ByteArray) (nL : Nat) (ret : Option FieldType) (rm : Room) (D : va_G) (tys : List (ClassId × FieldType)) (a v : Nat) (av : List Value) : Prop :=
  ∀ sz : Nat, Met l y (wU y b nL ret) rm (va_Pc av (PreT D tys a v sz)) (va_Qv (fun (_ : Unit) => True) (fun _ _ => True) (va_A [] sz)) 0 0 (va_A [] sz)
theorem hdrT {l : Launch} {y : MethodName} {cc : ByteArray} {nL : Nat} {rm : Room} {D : va_G} {tys : List (ClassId × FieldType)} {a v : Nat} {av : List Value} {post : Int → Prop} {own : String} {ty : FieldType} (hnar : ∀ z, post z → narrow ty (.int (zI z)) = .int (zI z)) (hown : y.cls = own) (hy : plainName y.cls = true) (hlen : (lg_sl av).length ≤ nL)
    (body : ∀ (p : Program) (e : Env) (s : State) (m : MethodId) (args : Array Value) (below : List Frame) (meth : Method) (c : Code) (Q : State → Prop) (A : Nat → Prop), CX p m c cc nL s args own D tys A s.heap → SA a v A s → (∀ (z : Int) (pc : Nat) (lv : List (Nat × Value)), decode cc pc = .ok (.ireturn, 1) → post z → GG p l e rm s m args below meth c 0 0 Q D A s.heap nL [] pc lv [vI z]) → GG p l e rm s m args below meth c 0 0 Q D A s.heap nL [] 0 (lv_args 0 av) []) : CtT l y cc nL (some ty) rm D tys a v av post := by
  intro sz
  refine Met.ofW (cc := cc) (maxL := nL) (ret := some ty) hy rfl ?_
  intro p e s m args below meth c s₁ B hml hv
  obtain ⟨rfl, ⟨hsz, hP, hK, hD0, hN, hZ⟩, hA⟩ := hv
  subst hsz
  have hD := hD0.self (sz := s.heap.size)
  have hl := lv_entry av (n := nL) hlen
  rw [lg_entry_eq]
  exact body p e s m _ below meth c _ (va_A [] s.heap.size) ⟨⟨B.exec, B.bytes, hml, hown ▸ findClass_of_methodNamed B.named, fun w hw => atoms_spec (ws := wU y cc nL (some ty)) B.pre w (List.mem_cons_of_mem _ hw)⟩, hK, fun q h => Or.inr h, hN, hZ⟩ hA (fun z pc lv hd hp => fun H locs ls hP hD hS hl => W.zret (v := zI z) (ty := ty) B.exec B.bytes B.returns (hnar z hp) (fun t ht hW => ⟨⟨zI z, (), rfl, ⟨z, rfl, hp⟩, trivial⟩, hS.F ht⟩) hS.2.2 hd B.notSynchronized) s.heap [] _ hP hD va_S.rf hl
theorem hdrTI {l : Launch} {y : MethodName} {cc : ByteArray} {nL : Nat} {rm : Room} {D : va_G} {tys : List (ClassId × FieldType)} {a v : Nat} {av : List Value} {post : Int → Prop} {own : String} (hown : y.cls = own) (hy : plainName y.cls = true) (hlen : (lg_sl av).length ≤ nL)
    (body : ∀ (p : Program) (e : Env) (s : State) (m : MethodId) (args : Array Value) (below : List Frame) (meth : Method) (c : Code) (Q : State → Prop) (A : Nat → Prop), CX p m c cc nL s args own D tys A s.heap → SA a v A s → (∀ (z : Int) (pc : Nat) (lv : List (Nat × Value)), decode cc pc = .ok (.ireturn, 1) → post z → GG p l e rm s m args below meth c 0 0 Q D A s.heap nL [] pc lv [vI z]) → GG p l e rm s m args below meth c 0 0 Q D A s.heap nL [] 0 (lv_args 0 av) []) : CtT l y cc nL (some .int) rm D tys a v av post := by
  intro sz
  refine Met.ofW (cc := cc) (maxL := nL) (ret := some .int) hy rfl ?_
  intro p e s m args below meth c s₁ B hml hv
  obtain ⟨rfl, ⟨hsz, hP, hK, hD0, hN, hZ⟩, hA⟩ := hv
  subst hsz
  have hD := hD0.self (sz := s.heap.size)
  have hl := lv_entry av (n := nL) hlen
  rw [lg_entry_eq]
  exact body p e s m _ below meth c _ (va_A [] s.heap.size) ⟨⟨B.exec, B.bytes, hml, hown ▸ findClass_of_methodNamed B.named, fun w hw => atoms_spec (ws := wU y cc nL (some .int)) B.pre w (List.mem_cons_of_mem _ hw)⟩, hK, fun q h => Or.inr h, hN, hZ⟩ hA (fun z pc lv hd hp => fun H locs ls hP hD hS hl => W.iret (v := zI z) B.exec B.bytes B.returns (fun t ht hW => ⟨⟨zI z, (), rfl, ⟨z, rfl, hp⟩, trivial⟩, hS.F ht⟩) hS.2.2 hd B.notSynchronized) s.heap [] _ hP hD va_S.rf hl
theorem hdrTV {l : Launch} {y : MethodName} {cc : ByteArray} {nL : Nat} {rm : Room} {D : va_G} {tys : List (ClassId × FieldType)} {a v : Nat} {av : List Value} {own : String} (hown : y.cls = own) (hy : plainName y.cls = true) (hlen : (lg_sl av).length ≤ nL)
    (body : ∀ (p : Program) (e : Env) (s : State) (m : MethodId) (args : Array Value) (below : List Frame) (meth : Method) (c : Code) (Q : State → Prop) (A : Nat → Prop), CX p m c cc nL s args own D tys A s.heap → SA a v A s → (∀ (pc : Nat) (lv : List (Nat × Value)), decode cc pc = .ok (.return_, 1) → GG p l e rm s m args below meth c 0 0 Q D A s.heap nL [] pc lv []) → GG p l e rm s m args below meth c 0 0 Q D A s.heap nL [] 0 (lv_args 0 av) []) : CtTV l y cc nL none rm D tys a v av := by
  intro sz
  refine Met.ofW (cc := cc) (maxL := nL) (ret := none) hy rfl ?_
  intro p e s m args below meth c s₁ B hml hv
  obtain ⟨rfl, ⟨hsz, hP, hK, hD0, hN, hZ⟩, hA⟩ := hv
  subst hsz
  have hD := hD0.self (sz := s.heap.size)
  have hl := lv_entry av (n := nL) hlen
  rw [lg_entry_eq]
  exact body p e s m _ below meth c _ (va_A [] s.heap.size) ⟨⟨B.exec, B.bytes, hml, hown ▸ findClass_of_methodNamed B.named, fun w hw => atoms_spec (ws := wU y cc nL none) B.pre w (List.mem_cons_of_mem _ hw)⟩, hK, fun q h => Or.inr h, hN, hZ⟩ hA (fun pc lv hd => fun H locs ls hP hD hS hl => W.vret B.exec B.bytes B.returns (fun t ht hW => ⟨⟨(), rfl, trivial, trivial⟩, hS.F ht⟩) hS.2.2 hd B.notSynchronized) s.heap [] _ hP hD va_S.rf hl
section GT
variable {p : Program} {l : Launch} {e : Env} {R : Room} {s : State} {m : MethodId} {args : Array Value} {below : List Frame} {meth : Method} {c : Code} {cells slots : Nat} {Q : State → Prop} {cc : ByteArray} {pc nL : Nat} {D : va_G} {tys : List (ClassId × FieldType)} {ws : va_W} {A : Nat → Prop} {lv : List (Nat × Value)} {st : List Value} {own : String}
variable {y : MethodName} {bytes : ByteArray} {maxL n index : Nat} {ret : Option FieldType} {rm : Room} {As st0 : List Value} {a v : Nat}
theorem g_callTVI (X : CX p m c cc nL s args own D tys A s.heap) (hA : SA a v A s) {post : Int → Prop} (hM : CtT l y bytes maxL ret rm D tys a v (.ref a :: As) post) (cv : CalV RJ0 y bytes maxL ret n) (hlk : Cond.methodLink own index y ∈ lw_U) (hrm : rm.cells = 0 ∧ rm.slots = 0 ∧ rm.frames + 1 ≤ R.frames ∧ 8 + (maxL + 11) + rm.locals ≤ R.locals) (hn : As.length = n) (hst0 : st0 = As.reverse ++ .ref a :: st) (hcat : (st.map fun v => v.category).sum ≤ 8) (hcs : cells ≤ R.cells ∧ slots ≤ R.slots) (hdg : decode cc pc = .ok (.invokevirtual index, 3)) (kk : ∀ (z : Int), post z → GG p l e R s m args below meth c cells slots Q D A s.heap nL ws (pc + 3) lv (vI z :: st)) : GG p l e R s m args below meth c cells slots Q D A s.heap nL ws pc lv st0 := by
  intro H locs ls hP hD hS hl
  subst hst0
  have hPc : va_P D vwCl [] H := fun k q h => by simp at h
  have hDc : va_D (fun _ => True) [] := ⟨fun i j p q h => by simp at h, fun k q h => by simp at h⟩
  have hN : ∀ q, va_A [] H.size q → H.size ≤ q := fun q h => h.elim (fun ⟨k, e, hk⟩ => by simp at hk) id
  have hFc : ∀ q, va_A [] H.size q → A q := fun q h => X.2.2.1 q (Nat.le_trans hS.1 (hN q h))
  have hrc : ∃ cellB : Cell, H[a]? = some cellB ∧ cellB.vm.isStatics = false ∧ s.vm.findClass RJ0 = some cellB.cls := by
    obtain ⟨cell, h1, h2, h3, -⟩ := hA.1.kept hS.2.1
    exact ⟨cell, h1, h2, h3⟩
  refine va_calli (va_runV (As := As) (rest := st) X.1 (hM H.size) (CalV_w cv X.1.2.2.2.2 hlk hrm) ⟨fun a U g mk q => by obtain ⟨q0, ⟨q1, qP, qK, qD, qN, qZ⟩, qA⟩ := q; exact ⟨q0, ⟨q1, qP, va_K.moved (u := U) (U := U.calling g mk a) (Vm.Alike.refl U.vm) qK, qD, NK.same (u := U) (U := U.calling g mk a) rfl qN, SZ.same (u := U) (U := U.calling g mk a) rfl qZ⟩, SA.same (u := U) (U := U.calling g mk a) rfl rfl qA⟩, hrc, fun U hU hW => ⟨rfl, ⟨by rw [hU], by rw [hU]; exact hPc, va_K.moved hW.alike X.2.1, hDc, NK.warm hW X.2.2.2.1, by rw [hU]; exact SZ.call X.2.2.2.2 hS hFc hW⟩, SA.call hA hS hFc hW hU⟩⟩ rfl hn hl.1 rfl (lv_room hcat) hdg hcs) hS (fun q _ h => hFc q h) hFc (fun r u t H1 locs ht hvm hw hB hz1 hk1 hS => ?_)
  obtain ⟨z, rfl, hz⟩ := hw
  exact kk z hz H1 locs ls (hP.kept fun k q hk => hk1 q.1 (hP k q hk).lt (fun h => absurd (hN _ h) (Nat.not_le.mpr (hP k q hk).lt))) hD hS hl
theorem g_callTSI (X : CX p m c cc nL s args own D tys A s.heap) (hA : SA a v A s) {post : Int → Prop} (hM : CtT l y bytes maxL ret rm D tys a v As post) (cv : CalS y bytes maxL ret n) (hlk : Cond.methodLink own index y ∈ lw_U) (hrm : rm.cells = 0 ∧ rm.slots = 0 ∧ rm.frames + 1 ≤ R.frames ∧ 8 + (maxL + 11) + rm.locals ≤ R.locals) (hn : As.length = n) (hst0 : st0 = As.reverse ++ st) (hcat : (st.map fun v => v.category).sum ≤ 8) (hcs : cells ≤ R.cells ∧ slots ≤ R.slots) (hdg : decode cc pc = .ok (.invokestatic index, 3)) (kk : ∀ (z : Int), post z → GG p l e R s m args below meth c cells slots Q D A s.heap nL ws (pc + 3) lv (vI z :: st)) : GG p l e R s m args below meth c cells slots Q D A s.heap nL ws pc lv st0 := by
  intro H locs ls hP hD hS hl
  subst hst0
  have hPc : va_P D vwCl [] H := fun k q h => by simp at h
  have hDc : va_D (fun _ => True) [] := ⟨fun i j p q h => by simp at h, fun k q h => by simp at h⟩
  have hN : ∀ q, va_A [] H.size q → H.size ≤ q := fun q h => h.elim (fun ⟨k, e, hk⟩ => by simp at hk) id
  have hFc : ∀ q, va_A [] H.size q → A q := fun q h => X.2.2.1 q (Nat.le_trans hS.1 (hN q h))
  refine va_calli (va_runS (As := As) (rest := st) X.1 (hM H.size) (CalS_w cv X.1.2.2.2.2 hlk hrm) ⟨fun a U g mk q => by obtain ⟨q0, ⟨q1, qP, qK, qD, qN, qZ⟩, qA⟩ := q; exact ⟨q0, ⟨q1, qP, va_K.moved (u := U) (U := U.calling g mk a) (Vm.Alike.refl U.vm) qK, qD, NK.same (u := U) (U := U.calling g mk a) rfl qN, SZ.same (u := U) (U := U.calling g mk a) rfl qZ⟩, SA.same (u := U) (U := U.calling g mk a) rfl rfl qA⟩, fun U hU hW => ⟨rfl, ⟨by rw [hU], by rw [hU]; exact hPc, va_K.moved hW.alike X.2.1, hDc, NK.warm hW X.2.2.2.1, by rw [hU]; exact SZ.call X.2.2.2.2 hS hFc hW⟩, SA.call hA hS hFc hW hU⟩⟩ rfl hn hl.1 rfl (lv_room hcat) hdg hcs) hS (fun q _ h => hFc q h) hFc (fun r u t H1 locs ht hvm hw hB hz1 hk1 hS => ?_)
  obtain ⟨z, rfl, hz⟩ := hw
  exact kk z hz H1 locs ls (hP.kept fun k q hk => hk1 q.1 (hP k q hk).lt (fun h => absurd (hN _ h) (Nat.not_le.mpr (hP k q hk).lt))) hD hS hl
theorem g_callTSV (X : CX p m c cc nL s args own D tys A s.heap) (hA : SA a v A s) (hM : CtTV l y bytes maxL ret rm D tys a v As) (cv : CalS y bytes maxL ret n) (hlk : Cond.methodLink own index y ∈ lw_U) (hrm : rm.cells = 0 ∧ rm.slots = 0 ∧ rm.frames + 1 ≤ R.frames ∧ 8 + (maxL + 11) + rm.locals ≤ R.locals) (hn : As.length = n) (hst0 : st0 = As.reverse ++ st) (hcat : (st.map fun v => v.category).sum ≤ 8) (hcs : cells ≤ R.cells ∧ slots ≤ R.slots) (hdg : decode cc pc = .ok (.invokestatic index, 3)) (kk : GG p l e R s m args below meth c cells slots Q D A s.heap nL ws (pc + 3) lv st) : GG p l e R s m args below meth c cells slots Q D A s.heap nL ws pc lv st0 := by
  intro H locs ls hP hD hS hl
  subst hst0
  have hPc : va_P D vwCl [] H := fun k q h => by simp at h
  have hDc : va_D (fun _ => True) [] := ⟨fun i j p q h => by simp at h, fun k q h => by simp at h⟩
  have hN : ∀ q, va_A [] H.size q → H.size ≤ q := fun q h => h.elim (fun ⟨k, e, hk⟩ => by simp at hk) id
  have hFc : ∀ q, va_A [] H.size q → A q := fun q h => X.2.2.1 q (Nat.le_trans hS.1 (hN q h))
  refine va_callv (va_runS (As := As) (rest := st) X.1 (hM H.size) (CalS_w cv X.1.2.2.2.2 hlk hrm) ⟨fun a U g mk q => by obtain ⟨q0, ⟨q1, qP, qK, qD, qN, qZ⟩, qA⟩ := q; exact ⟨q0, ⟨q1, qP, va_K.moved (u := U) (U := U.calling g mk a) (Vm.Alike.refl U.vm) qK, qD, NK.same (u := U) (U := U.calling g mk a) rfl qN, SZ.same (u := U) (U := U.calling g mk a) rfl qZ⟩, SA.same (u := U) (U := U.calling g mk a) rfl rfl qA⟩, fun U hU hW => ⟨rfl, ⟨by rw [hU], by rw [hU]; exact hPc, va_K.moved hW.alike X.2.1, hDc, NK.warm hW X.2.2.2.1, by rw [hU]; exact SZ.call X.2.2.2.2 hS hFc hW⟩, SA.call hA hS hFc hW hU⟩⟩ rfl hn hl.1 rfl (lv_room hcat) hdg hcs) hS (fun q _ h => hFc q h) hFc (fun u t H1 locs ht hvm hw hB hz1 hk1 hS => ?_)
  exact kk H1 locs ls (hP.kept fun k q hk => hk1 q.1 (hP k q hk).lt (fun h => absurd (hN _ h) (Nat.not_le.mpr (hP k q hk).lt))) hD hS hl
theorem g_sget (X : CX p m c cc nL s args own D tys A s.heap) {o n d : String} {index q : Nat} {w : Value} (hE : va_OF o n d w q A s s.heap) (hlk : Cond.fieldLink own index o n d ∈ lw_U) (hdg : decode cc pc = .ok (.getfield index, 3)) (kk : GG p l e R s m args below meth c cells slots Q D A s.heap nL ws (pc + 3) lv (w :: st)) : GG p l e R s m args below meth c cells slots Q D A s.heap nL ws pc lv (.ref q :: st) := fun H locs ls hP hD hS hl => vk_getf X.1.1 X.1.2.1 hE hS X.1.2.2.2.1 (X.1.2.2.2.2 _ hlk) (fun x h => h) hdg (kk H locs ls hP hD hS hl)
theorem g_stat (X : CX p m c cc nL s args own D tys A s.heap) {o n d : String} {index : Nat} {w : Value} (hE : va_Z o n d w A s s.heap) (hlk : Cond.fieldLink own index o n d ∈ lw_U) (hdg : decode cc pc = .ok (.getstatic index, 3)) (kk : GG p l e R s m args below meth c cells slots Q D A s.heap nL ws (pc + 3) lv (w :: st)) : GG p l e R s m args below meth c cells slots Q D A s.heap nL ws pc lv st := fun H locs ls hP hD hS hl => va_gets X.1.1 X.1.2.1 hE hS X.1.2.2.2.1 (X.1.2.2.2.2 _ hlk) (fun x h => h) hdg (kk H locs ls hP hD hS hl)
theorem g_tlen (X : CX p m c cc nL s args own D tys A s.heap) {ty : FieldType} {t N : Nat} {f : Nat → Value} {z : Int} (hT : va_T ty t N f A s s.heap) (hz : Int32.ofNat N = zI z) (hdg : decode cc pc = .ok (.arraylength, 1)) (kk : GG p l e R s m args below meth c cells slots Q D A s.heap nL ws (pc + 1) lv (vI z :: st)) : GG p l e R s m args below meth c cells slots Q D A s.heap nL ws pc lv (.ref t :: st) := fun H locs ls hP hD hS hl => va_tlen X.1.1 X.1.2.1 hT hS hz hdg (kk H locs ls hP hD hS hl)
theorem g_tbyte (X : CX p m c cc nL s args own D tys A s.heap) {t N : Nat} {f : Nat → Int32} {i : Int} (hT : va_T .byte t N (fun j => .int (f j)) A s s.heap) (hi : 0 ≤ i ∧ i < N) (hN : N ≤ 2147483647) (hdg : decode cc pc = .ok (.baload, 1)) (kk : GG p l e R s m args below meth c cells slots Q D A s.heap nL ws (pc + 1) lv (.int (f i.toNat) :: st)) : GG p l e R s m args below meth c cells slots Q D A s.heap nL ws pc lv (vI i :: .ref t :: st) := fun H locs ls hP hD hS hl => va_tb X.1.1 X.1.2.1 hT hS (zI_in hi.1 hi.2 hN) (by rw [zI_cl hi.1 (by omega)]) hdg (kk H locs ls hP hD hS hl)
theorem g_ldcS (X : CX p m c cc nL s args own D tys A s.heap) {index : Nat} (ho : (own = RX2 ∧ index = 37) ∨ (own = RX3 ∧ index = 111)) (hdg : decode cc pc = .ok (.ldc index, 2)) (kk : ∀ a : Nat, (∃ v, SA a v A s) → GG p l e R s m args below meth c cells slots Q D A s.heap nL ws (pc + 2) lv (.ref a :: st)) : GG p l e R s m args below meth c cells slots Q D A s.heap nL ws pc lv st := by
  obtain ⟨a, v, h1, h2, h3⟩ := X.2.2.2.2
  rcases ho with ⟨rfl, rfl⟩ | ⟨rfl, rfl⟩
  · exact fun H locs ls hP hD hS hl => va_ldcS X.1.1 X.1.2.1 X.1.2.2.2.1 h1 hdg (kk a ⟨v, h3⟩ H locs ls hP hD hS hl)
  · exact fun H locs ls hP hD hS hl => va_ldcS X.1.1 X.1.2.1 X.1.2.2.2.1 h2 hdg (kk a ⟨v, h3⟩ H locs ls hP hD hS hl)
end GT
theorem c_J3_checkIndex (l : Launch) (D : va_G) (tys : List (ClassId × FieldType)) (a v : Nat) {k n : Int} {fv : Value} (hf : fv = .null ∨ ∃ t, fv = .ref t) (hk : 0 ≤ k ∧ k < n ∧ n ≤ 2147483647) : CtT l yJ3_checkIndex_8e157 cJ3_checkIndex_8e157 3 (some .int) ⟨0, 0, 0, 0⟩ D tys a v [vI k, vI n, fv] (fun _ => True) := by
  have key : ∀ fv : Value, (lg_sl [vI k, vI n, fv]).length ≤ 3 → CtT l yJ3_checkIndex_8e157 cJ3_checkIndex_8e157 3 (some .int) ⟨0, 0, 0, 0⟩ D tys a v [vI k, vI n, fv] (fun _ => True) := by
    intro fv hlen
    refine hdrTI (own := RJ3) rfl (by decide +kernel) hlen ?_
    intro p e s m args below meth c Q A X hA hQ
    refine g_lvE (lv2 := [(0, vI k), (1, vI n), (2, fv)]) rfl ?_
    refine g_iload_n X dJ3_checkIndex_8e157_0 0 rfl ?_
    refine g_if_lt X (tgt := 9) dJ3_checkIndex_8e157_1 (by decide) (by omega) (fun c1 => ?_) (fun c1 => ?_)
    · exfalso; omega
    · refine g_iload_n X dJ3_checkIndex_8e157_4 0 rfl ?_
      refine g_iload_n X dJ3_checkIndex_8e157_5 1 rfl ?_
      refine g_icmp_lt X (tgt := 16) dJ3_checkIndex_8e157_6 (by decide) (by omega) (by omega) (fun c6 => ?_) (fun c6 => ?_)
      · refine g_iload_n X dJ3_checkIndex_8e157_16 0 rfl ?_
        exact hQ _ _ _ dJ3_checkIndex_8e157_17 trivial
      · exfalso; omega
  rcases hf with rfl | ⟨t, rfl⟩
  · exact key _ (Nat.le_of_ble_eq_true rfl)
  · exact key _ (Nat.le_of_ble_eq_true rfl)
theorem c_J0_checkIndex (l : Launch) (D : va_G) (tys : List (ClassId × FieldType)) (a v : Nat) {k n : Int} (hk : 0 ≤ k ∧ k < n ∧ n ≤ 2147483647) : CtTV l yJ0_checkIndex_df160 cJ0_checkIndex_df160 2 none ⟨1, 0, 0, 40⟩ D tys a v [vI k, vI n] := by
  refine hdrTV (own := RJ0) rfl (by decide +kernel) (Nat.le_of_ble_eq_true rfl) ?_
  intro p e s m args below meth c Q A X hA hQ
  refine g_lvE (lv2 := [(0, vI k), (1, vI n)]) rfl ?_
  refine g_iload_n X dJ0_checkIndex_df160_0 0 rfl ?_
  refine g_iload_n X dJ0_checkIndex_df160_1 1 rfl ?_
  have key : ∀ fv : Value, (fv = .null ∨ ∃ t, fv = .ref t) → va_Z "jdk/internal/util/Preconditions" "SIOOBE_FORMATTER" "Ljava/util/function/BiFunction;" fv A s s.heap → GG p l e ⟨1, 0, 0, 40⟩ s m args below meth c 0 0 Q D A s.heap 2 [] 2 [(0, vI k), (1, vI n)] [vI n, vI k] := by
    intro fv hf hz
    refine g_stat X hz uw568 dJ0_checkIndex_df160_2 ?_
    refine g_callTSI X hA (c_J3_checkIndex l D tys a v hf hk) cv_J3_checkIndex_8e157 uw570 ⟨rfl, rfl, by decide, by decide⟩ rfl rfl (Nat.le_of_ble_eq_true rfl) ⟨Nat.zero_le _, Nat.zero_le _⟩ dJ0_checkIndex_df160_5 (fun z _ => ?_)
    refine g_pop X rfl dJ0_checkIndex_df160_8 ?_
    exact hQ _ _ dJ0_checkIndex_df160_9
  rcases hA.2.2.2.2.2 with hz | ⟨t, hz⟩
  · exact key _ (Or.inl rfl) hz
  · exact key _ (Or.inr ⟨t, rfl⟩) hz
/-- the letters as integers -/
def txtZ : Nat → Int := fun j => ([107, 117, 108, 103, 109, 110, 111, 116, 119] : List Int).getD j 0
theorem txt_c : ∀ k : Nat, k < 9 → ((txtB k &&& zI 255).toUInt32 % 65536).toInt32 = zI (txtZ k) ∧ 0 ≤ txtZ k ∧ txtZ k ≤ 65535 ∧ narrow .char (.int (zI (txtZ k))) = .int (zI (txtZ k)) := by
  intro k hk
  rcases (show k = 0 ∨ k = 1 ∨ k = 2 ∨ k = 3 ∨ k = 4 ∨ k = 5 ∨ k = 6 ∨ k = 7 ∨ k = 8 by omega) with rfl | rfl | rfl | rfl | rfl | rfl | rfl | rfl | rfl <;> exact ⟨by decide +kernel, by decide, by decide, by rfl⟩
theorem c_J1_charAt (l : Launch) (D : va_G) (tys : List (ClassId × FieldType)) (a v : Nat) {k : Int} (hk : 0 ≤ k ∧ k < 9) : CtT l yJ1_charAt_3b067 cJ1_charAt_3b067 2 (some .char) ⟨2, 0, 0, 80⟩ D tys a v [.ref v, vI k] (fun z => z = txtZ k.toNat) := by
  have hc := txt_c k.toNat (by omega)
  refine hdrT (own := RJ1) (fun z hz => by rw [hz]; exact hc.2.2.2) rfl (by decide +kernel) (Nat.le_of_ble_eq_true rfl) ?_
  intro p e s m args below meth c Q A X hA hQ
  refine g_lvE (lv2 := [(0, .ref v), (1, vI k)]) rfl ?_
  refine g_iload_n X dJ1_charAt_3b067_0 1 rfl ?_
  refine g_aload_n X dJ1_charAt_3b067_1 0 rfl ?_
  refine g_tlen X (z := 9) hA.2.2.2.1 rfl dJ1_charAt_3b067_2 ?_
  refine g_callTSV X hA (c_J0_checkIndex l D tys a v (k := k) (n := 9) (by omega)) cv_J0_checkIndex_df160 uw565 ⟨rfl, rfl, by decide, by decide⟩ rfl rfl (Nat.le_of_ble_eq_true rfl) ⟨Nat.zero_le _, Nat.zero_le _⟩ dJ1_charAt_3b067_3 ?_
  refine g_aload_n X dJ1_charAt_3b067_6 0 rfl ?_
  refine g_iload_n X dJ1_charAt_3b067_7 1 rfl ?_
  refine g_tbyte X hA.2.2.2.1 (by omega) (by decide) dJ1_charAt_3b067_8 ?_
  refine g_sipush X (z := 255) dJ1_charAt_3b067_9 (by decide) ?_
  intro H locs ls hP hD hS hl
  refine lv_iand X.1.1 X.1.2.1 dJ1_charAt_3b067_12 ?_
  refine lv_i2c X.1.1 X.1.2.1 dJ1_charAt_3b067_13 hc.1 ?_
  exact hQ _ _ _ dJ1_charAt_3b067_14 rfl H locs ls hP hD hS hl
theorem c_J0_isLatin1 (l : Launch) (D : va_G) (tys : List (ClassId × FieldType)) (a v : Nat) : CtT l yJ0_isLatin1_aae02 cJ0_isLatin1_aae02 1 (some .boolean) ⟨0, 0, 0, 0⟩ D tys a v [.ref a] (fun z => z = 1) := by
  refine hdrT (own := RJ0) (fun z hz => by rw [hz]; rfl) rfl (by decide +kernel) (Nat.le_of_ble_eq_true rfl) ?_
  intro p e s m args below meth c Q A X hA hQ
  refine g_lvE (lv2 := [(0, .ref a)]) rfl ?_
  refine g_stat X (w := vI 1) hA.2.2.2.2.1 uw264 dJ0_isLatin1_aae02_0 ?_
  refine g_if_eq X (tgt := 17) dJ0_isLatin1_aae02_3 (by decide) (by omega) (fun c3 => ?_) (fun c3 => ?_)
  · exfalso; omega
  · refine g_aload_n X dJ0_isLatin1_aae02_6 0 rfl ?_
    refine g_sget X (w := vI 0) hA.2.1 uw1855 dJ0_isLatin1_aae02_7 ?_
    refine g_if_ne X (tgt := 17) dJ0_isLatin1_aae02_10 (by decide) (by omega) (fun c10 => ?_) (fun c10 => ?_)
    · exfalso; omega
    · refine g_iconst X dJ0_isLatin1_aae02_13 ?_
      refine g_goto X (tgt := 18) dJ0_isLatin1_aae02_14 (by decide) ?_
      exact hQ _ _ _ dJ0_isLatin1_aae02_18 rfl
theorem c_J0_coder (l : Launch) (D : va_G) (tys : List (ClassId × FieldType)) (a v : Nat) : CtT l yJ0_coder_7d493 cJ0_coder_7d493 1 (some .byte) ⟨0, 0, 0, 0⟩ D tys a v [.ref a] (fun z => z = 0) := by
  refine hdrT (own := RJ0) (fun z hz => by rw [hz]; rfl) rfl (by decide +kernel) (Nat.le_of_ble_eq_true rfl) ?_
  intro p e s m args below meth c Q A X hA hQ
  refine g_lvE (lv2 := [(0, .ref a)]) rfl ?_
  refine g_stat X (w := vI 1) hA.2.2.2.2.1 uw264 dJ0_coder_7d493_0 ?_
  refine g_if_eq X (tgt := 13) dJ0_coder_7d493_3 (by decide) (by omega) (fun c3 => ?_) (fun c3 => ?_)
  · exfalso; omega
  · refine g_aload_n X dJ0_coder_7d493_6 0 rfl ?_
    refine g_sget X (w := vI 0) hA.2.1 uw1855 dJ0_coder_7d493_7 ?_
    refine g_goto X (tgt := 14) dJ0_coder_7d493_10 (by decide) ?_
    exact hQ _ _ _ dJ0_coder_7d493_14 rfl
theorem c_J0_length (l : Launch) (D : va_G) (tys : List (ClassId × FieldType)) (a v : Nat) : CtT l yJ0_length_8abf5 cJ0_length_8abf5 1 (some .int) ⟨1, 0, 0, 40⟩ D tys a v [.ref a] (fun z => z = 9) := by
  refine hdrTI (own := RJ0) rfl (by decide +kernel) (Nat.le_of_ble_eq_true rfl) ?_
  intro p e s m args below meth c Q A X hA hQ
  refine g_lvE (lv2 := [(0, .ref a)]) rfl ?_
  refine g_aload_n X dJ0_length_8abf5_0 0 rfl ?_
  refine g_sget X hA.2.2.1 uw1854 dJ0_length_8abf5_1 ?_
  refine g_tlen X (z := 9) hA.2.2.2.1 rfl dJ0_length_8abf5_4 ?_
  refine g_aload_n X dJ0_length_8abf5_5 0 rfl ?_
  refine g_callTVI X hA (c_J0_coder l D tys a v) cv_J0_coder_7d493 uw260 ⟨rfl, rfl, by decide, by decide⟩ rfl rfl (Nat.le_of_ble_eq_true rfl) ⟨Nat.zero_le _, Nat.zero_le _⟩ dJ0_length_8abf5_6 (fun z hz => ?_)
  subst hz
  refine g_ishr X dJ0_length_8abf5_9 ?_
  rw [show z_ishr 9 0 = 9 by decide +kernel]
  exact hQ _ _ _ dJ0_length_8abf5_10 rfl
theorem c_J0_charAt (l : Launch) (D : va_G) (tys : List (ClassId × FieldType)) (a v : Nat) {k : Int} (hk : 0 ≤ k ∧ k < 9) : CtT l yJ0_charAt_5068e cJ0_charAt_5068e 2 (some .char) ⟨3, 0, 0, 120⟩ D tys a v [.ref a, vI k] (fun z => z = txtZ k.toNat) := by
  have hc := txt_c k.toNat (by omega)
  refine hdrT (own := RJ0) (fun z hz => by rw [hz]; exact hc.2.2.2) rfl (by decide +kernel) (Nat.le_of_ble_eq_true rfl) ?_
  intro p e s m args below meth c Q A X hA hQ
  refine g_lvE (lv2 := [(0, .ref a), (1, vI k)]) rfl ?_
  refine g_aload_n X dJ0_charAt_5068e_0 0 rfl ?_
  refine g_callTVI X hA (c_J0_isLatin1 l D tys a v) cv_J0_isLatin1_aae02 uw558 ⟨rfl, rfl, by decide, by decide⟩ rfl rfl (Nat.le_of_ble_eq_true rfl) ⟨Nat.zero_le _, Nat.zero_le _⟩ dJ0_charAt_5068e_1 (fun z hz => ?_)
  subst hz
  refine g_if_eq X (tgt := 16) dJ0_charAt_5068e_4 (by decide) (by omega) (fun c4 => ?_) (fun c4 => ?_)
  · exfalso; omega
  · refine g_aload_n X dJ0_charAt_5068e_7 0 rfl ?_
    refine g_sget X hA.2.2.1 uw1854 dJ0_charAt_5068e_8 ?_
    refine g_iload_n X dJ0_charAt_5068e_11 1 rfl ?_
    refine g_callTSI X hA (c_J1_charAt l D tys a v hk) cv_J1_charAt_3b067 uw562 ⟨rfl, rfl, by decide, by decide⟩ rfl rfl (Nat.le_of_ble_eq_true rfl) ⟨Nat.zero_le _, Nat.zero_le _⟩ dJ0_charAt_5068e_12 (fun z hz => ?_)
    exact hQ _ _ _ dJ0_charAt_5068e_15 hz
section GT2
variable {p : Program} {l : Launch} {e : Env} {R : Room} {s : State} {m : MethodId} {args : Array Value} {below : List Frame} {meth : Method} {c : Code} {cells slots : Nat} {Q : State → Prop} {cc : ByteArray} {pc nL : Nat} {D : va_G} {tys : List (ClassId × FieldType)} {ws : va_W} {A : Nat → Prop} {lv : List (Nat × Value)} {st : List Value} {own : String} {index a : Nat}
theorem g_strlen (X : CX p m c cc nL s args own D tys A s.heap) (hA : ∃ v, SA a v A s) (cv : CalV RJ0 yJ0_length_8abf5 cJ0_length_8abf5 1 (some .int) 0) (hlk : Cond.methodLink own index yJ0_length_8abf5 ∈ lw_U) (hR : 2 ≤ R.frames ∧ 60 ≤ R.locals) (hcat : (st.map fun v => v.category).sum ≤ 8) (hcs : cells ≤ R.cells ∧ slots ≤ R.slots) (hdg : decode cc pc = .ok (.invokevirtual index, 3)) (kk : GG p l e R s m args below meth c cells slots Q D A s.heap nL ws (pc + 3) lv (vI 9 :: st)) : GG p l e R s m args below meth c cells slots Q D A s.heap nL ws pc lv (.ref a :: st) := by
  obtain ⟨v, hA⟩ := hA
  refine g_callTVI X hA (c_J0_length l D tys a v) cv hlk ⟨rfl, rfl, hR.1, hR.2⟩ rfl rfl hcat hcs hdg (fun z hz => ?_)
  subst hz
  exact kk
theorem g_charAt (X : CX p m c cc nL s args own D tys A s.heap) (hA : ∃ v, SA a v A s) (cv : CalV RJ0 yJ0_charAt_5068e cJ0_charAt_5068e 2 (some .char) 1) (hlk : Cond.methodLink own index yJ0_charAt_5068e ∈ lw_U) (hR : 4 ≤ R.frames ∧ 141 ≤ R.locals) {k : Int} (hk : 0 ≤ k ∧ k < 9) (hcat : (st.map fun v => v.category).sum ≤ 8) (hcs : cells ≤ R.cells ∧ slots ≤ R.slots) (hdg : decode cc pc = .ok (.invokevirtual index, 3)) (kk : ∀ z : Int, 0 ≤ z ∧ z ≤ 65535 → GG p l e R s m args below meth c cells slots Q D A s.heap nL ws (pc + 3) lv (vI z :: st)) : GG p l e R s m args below meth c cells slots Q D A s.heap nL ws pc lv (vI k :: .ref a :: st) := by
  obtain ⟨v, hA⟩ := hA
  have hc := txt_c k.toNat (by omega)
  refine g_callTVI X hA (c_J0_charAt l D tys a v hk) cv hlk ⟨rfl, rfl, hR.1, hR.2⟩ rfl rfl hcat hcs hdg (fun z hz => ?_)
  subst hz
  exact kk _ ⟨hc.2.1, hc.2.2.1⟩
end GT2
