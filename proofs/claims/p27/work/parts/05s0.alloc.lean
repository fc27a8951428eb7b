/-- answers an int and may leave cells behind -/
def CtIJ (l : Launch) (y : MethodName) (b : ByteArray) (nL : Nat) (ret : Option FieldType) (rm : Room) (D : va_G) (tys : List (ClassId × FieldType)) (ws : va_W) (av : List Value) (post : Int → va_W → Prop) (mc ms : Nat) : Prop :=
  ∀ sz : Nat, Met l y (wU y b nL ret) rm (va_Pc av (PreZ D tys ws sz)) (va_Qi (fun (r : Int32) (ws' : va_W) => ∃ z, r = zI z ∧ post z ws') (BZ D tys (va_A ws sz)) (va_A ws sz)) mc ms (va_A ws sz)
theorem hdrIJ {l : Launch} {y : MethodName} {cc : ByteArray} {nL : Nat} {rm : Room} {D : va_G} {tys : List (ClassId × FieldType)} {ws : va_W} {av : List Value} {post : Int → va_W → Prop} {own : String} {mc ms : Nat} (hown : y.cls = own) (hy : plainName y.cls = true) (hlen : (lg_sl av).length ≤ nL)
    (body : ∀ (p : Program) (e : Env) (s : State) (m : MethodId) (args : Array Value) (below : List Frame) (meth : Method) (c : Code) (Q : State → Prop) (A : Nat → Prop), CX p m c cc nL s args own D tys A s.heap → (∀ (z : Int) (ws' : va_W) (pc : Nat) (lv : List (Nat × Value)), decode cc pc = .ok (.ireturn, 1) → post z ws' → GG p l e rm s m args below meth c mc ms Q D A s.heap nL ws' pc lv [vI z]) → GG p l e rm s m args below meth c 0 0 Q D A s.heap nL ws 0 (lv_args 0 av) []) : CtIJ l y cc nL (some .int) rm D tys ws av post mc ms := by
  intro sz
  refine Met.ofW (cc := cc) (maxL := nL) (ret := some .int) hy rfl ?_
  intro p e s m args below meth c s₁ B hml hv
  obtain ⟨rfl, hsz, hP, hK, hD0, hN, hZ⟩ := hv
  subst hsz
  have hD := hD0.self (sz := s.heap.size)
  have hl := lv_entry av (n := nL) hlen
  rw [lg_entry_eq]
  exact body p e s m _ below meth c _ (va_A ws s.heap.size) ⟨⟨B.exec, B.bytes, hml, hown ▸ findClass_of_methodNamed B.named, fun w hw => atoms_spec (ws := wU y cc nL (some .int)) B.pre w (List.mem_cons_of_mem _ hw)⟩, hK, fun q h => Or.inr h, hN, hZ⟩ (fun z ws' pc lv hd hp => fun H locs ls hP hD hS hl => W.iret (v := zI z) B.exec B.bytes B.returns (fun t ht hW => ⟨⟨zI z, ws', rfl, ⟨z, rfl, hp⟩, by rw [ht]; exact hP, va_K.moved hW.alike hK, hD⟩, hS.F ht⟩) hS.2.2 hd B.notSynchronized) s.heap [] _ hP hD va_S.rf hl
theorem CalSJ_w {y : MethodName} {b : ByteArray} {nL : Nat} {ret : Option FieldType} {n mc ms : Nat} (h : CalS y b nL ret n) {R : Room} {s : State} {args : Array Value} {own : String} {index : Nat} {rm : Room} (ht : ∀ w ∈ lw_U, w.before args s = true) (hlk : Cond.methodLink own index y ∈ lw_U) (hrm : rm.cells = mc ∧ rm.slots = ms ∧ rm.frames + 1 ≤ R.frames ∧ 8 + (nL + 11) + rm.locals ≤ R.locals) : CallB R s args own index y b nL ret (wU y b nL ret) rm mc ms n ∧ (Cond.static y).before args s = true :=
  ⟨callB_of n ht (lw_Uw h.1) rfl hrm.1 hrm.2.1 (ht _ h.2.2.1) (ht _ hlk) h.2.2.2 hrm.2.2, ht _ h.2.1⟩
theorem CalVJ_w {C : String} {y : MethodName} {b : ByteArray} {nL : Nat} {ret : Option FieldType} {n mc ms : Nat} (h : CalV C y b nL ret n) {R : Room} {s : State} {args : Array Value} {own : String} {index : Nat} {rm : Room} (ht : ∀ w ∈ lw_U, w.before args s = true) (hlk : Cond.methodLink own index y ∈ lw_U) (hrm : rm.cells = mc ∧ rm.slots = ms ∧ rm.frames + 1 ≤ R.frames ∧ 8 + (nL + 11) + rm.locals ≤ R.locals) : CallW R s args own C index y b nL ret (wU y b nL ret) rm mc ms n := by
  refine cwV n ht (goodIn_app (fun w hw => lw_UU w ?_) (lw_Uw h.1)) rfl hrm.1 hrm.2.1 h.2.2.2.2 hrm.2.2
  simp only [List.mem_cons, List.not_mem_nil, or_false] at hw
  rcases hw with rfl | rfl | rfl | rfl
  · exact hlk
  · exact h.2.1
  · exact h.2.2.1
  · exact h.2.2.2.1
section GIJ
variable {p : Program} {l : Launch} {e : Env} {R : Room} {s : State} {m : MethodId} {args : Array Value} {below : List Frame} {meth : Method} {c : Code} {cells slots : Nat} {Q : State → Prop} {cc : ByteArray} {pc nL : Nat} {D : va_G} {tys : List (ClassId × FieldType)} {ws : va_W} {A : Nat → Prop} {H0 : Heap} {lv : List (Nat × Value)} {st : List Value} {own : String}
variable {y : MethodName} {bytes : ByteArray} {maxL n index mc ms : Nat} {ret : Option FieldType} {rm : Room} {C : String} {b : Nat} {As st0 : List Value}
theorem g_callSIJw (X : CX p m c cc nL s args own D tys A H0) {wc : va_W} {post : Int → va_W → Prop} (hM : CtIJ l y bytes maxL ret rm D tys wc As post mc ms) (isC : List Nat) (hC : isC.map (fun i => ws[i]?) = wc.map some) (hC2 : isC.filterMap (fun i => ws[i]?) = wc) (hnC : va_nd isC = true) (cv : CalS y bytes maxL ret n) (hlk : Cond.methodLink own index y ∈ lw_U) (hrm : rm.cells = mc ∧ rm.slots = ms ∧ rm.frames + 1 ≤ R.frames ∧ 8 + (maxL + 11) + rm.locals ≤ R.locals)  (hn : As.length = n) (hst0 : st0 = As.reverse ++ st) (hcat : (st.map fun v => v.category).sum ≤ 8) (hcs : cells + mc ≤ R.cells ∧ slots + ms ≤ R.slots) (hdg : decode cc pc = .ok (.invokestatic index, 3)) (kk : ∀ (z : Int) (ws1 : va_W), post z ws1 → ws1.map (·.1) = wc.map (·.1) ∧ GG p l e R s m args below meth c (cells + mc) (slots + ms) Q D A H0 nL (setW 0 (isC.zip ws1) ws) (pc + 3) lv (vI z :: st)) : GG p l e R s m args below meth c cells slots Q D A H0 nL ws pc lv st0 := by
  intro H locs ls hP hD hS hl
  subst hst0
  have hPc := hP.sub (ws' := wc) isC hC2
  have hDc := hD.sub (ws' := wc) isC hnC hC
  have hFc := va_free (wc := wc) hD hS X.2.2.1 isC hC
  refine va_calli (va_runS (As := As) (rest := st) X.1 (hM H.size) (CalSJ_w cv X.1.2.2.2.2 hlk hrm) ⟨fun a U g mk q => by obtain ⟨q0, q1, qP, qK, qD, qN, qZ⟩ := q; exact ⟨q0, q1, qP, va_K.moved (u := U) (U := U.calling g mk a) (Vm.Alike.refl U.vm) qK, qD, NK.same (u := U) (U := U.calling g mk a) rfl qN, SZ.same (u := U) (U := U.calling g mk a) rfl qZ⟩, fun U hU hW => ⟨rfl, by rw [hU], by rw [hU]; exact hPc, va_K.moved hW.alike X.2.1, hDc.weaken (fun _ _ _ _ => trivial), NK.warm hW X.2.2.2.1, by rw [hU]; exact SZ.call X.2.2.2.2 hS hFc hW⟩⟩ rfl hn hl.1 rfl (lv_room hcat) hdg hcs) hS (fun q _ h => hFc q h) hFc (fun r u t H1 locs ht hvm hw hB hz1 hk1 hS => ?_)
  obtain ⟨z, rfl, hz⟩ := hw
  obtain ⟨hP1, hK1, hD1⟩ := hB
  rw [ht] at hP1
  obtain ⟨hadr, kk2⟩ := kk z u hz
  obtain ⟨hP2, hD2⟩ := va_setW hP hD isC hC hadr hk1 hP1
  exact kk2 H1 locs ls hP2 hD2 hS hl
theorem g_widen {k1 k2 : Nat} (h1 : cells ≤ k1) (h2 : slots ≤ k2) (kk : GG p l e R s m args below meth c k1 k2 Q D A H0 nL ws pc lv st) : GG p l e R s m args below meth c cells slots Q D A H0 nL ws pc lv st := fun H locs ls hP hD hS hl => W.widen h1 h2 (kk H locs ls hP hD hS hl)
end GIJ
