/-! rows over worlds of blocks -/
section FJ
variable {l : Launch} {y : MethodName} {b : ByteArray} {nL : Nat} {ret : Option FieldType} {rm : Room} {D : va_G} {tys : List (ClassId × FieldType)} {ws wc wr : va_W} {av : List Value} {mc ms : Nat}
theorem CtJ.frame {post : va_W → Prop} (hM : CtJ l y b nL rm D tys wc av post mc ms) (hp : ws.Perm (wc ++ wr)) : CtJ l y b nL rm D tys ws av (fun ws' => ∃ w1, post w1 ∧ ws' = w1 ++ wr) mc ms := by
  intro sz p e h1 h2 h3 s m args below h4 h5 hpre h7
  obtain ⟨ha, hsz, hP, hK, hD, hN, hZ⟩ := hpre
  subst hsz
  obtain ⟨n, o, a1, a2, a3, ⟨⟨u, e1, hz, hB⟩, hF⟩, L, hL, hfree⟩ := hM s.heap.size p e h1 h2 h3 s m args below h4 h5 ⟨ha, rfl, (hP.perm hp).mem (fun q hq => List.mem_append_left _ hq), hK, (hD.perm hp).left, hN, hZ.narrow fun q hq => va_A_perm hp hq⟩ h7
  exact ⟨n, o, a1, a2, a3, ⟨⟨u ++ wr, e1, ⟨u, hz, rfl⟩, va_beside hp hP hD hB hF⟩, hF.weaken fun q hq => va_A_perm hp hq⟩, L, hL, fun q hq => va_A_perm hp (hfree q hq)⟩
theorem CtJ.imp {post post2 : va_W → Prop} (hM : CtJ l y b nL rm D tys ws av post mc ms) (hi : ∀ w, post w → post2 w) : CtJ l y b nL rm D tys ws av post2 mc ms := by
  intro sz p e h1 h2 h3 s m args below h4 h5 hpre h7
  obtain ⟨n, o, a1, a2, a3, ⟨⟨u, e1, hz, hB⟩, hF⟩, L⟩ := hM sz p e h1 h2 h3 s m args below h4 h5 hpre h7
  exact ⟨n, o, a1, a2, a3, ⟨⟨u, e1, hi u hz, hB⟩, hF⟩, L⟩
theorem CtV.frame {post : va_W → Prop} (hM : CtV l y b nL ret rm D tys wc av post) (hp : ws.Perm (wc ++ wr)) : CtV l y b nL ret rm D tys ws av (fun ws' => ∃ w1, post w1 ∧ ws' = w1 ++ wr) := by
  intro sz p e h1 h2 h3 s m args below h4 h5 hpre h7
  obtain ⟨ha, hsz, hP, hK, hD, hN, hZ⟩ := hpre
  subst hsz
  obtain ⟨n, o, a1, a2, a3, ⟨⟨u, e1, hz, hB⟩, hF⟩, L, hL, hfree⟩ := hM s.heap.size p e h1 h2 h3 s m args below h4 h5 ⟨ha, rfl, (hP.perm hp).mem (fun q hq => List.mem_append_left _ hq), hK, (hD.perm hp).left, hN, hZ.narrow fun q hq => va_A_perm hp hq⟩ h7
  exact ⟨n, o, a1, a2, a3, ⟨⟨u ++ wr, e1, ⟨u, hz, rfl⟩, va_beside hp hP hD hB hF⟩, hF.weaken fun q hq => va_A_perm hp hq⟩, L, hL, fun q hq => va_A_perm hp (hfree q hq)⟩
end FJ
section GB
variable {p : Program} {l : Launch} {e : Env} {R : Room} {s : State} {m : MethodId} {args : Array Value} {below : List Frame} {meth : Method} {c : Code} {cells slots : Nat} {Q : State → Prop} {cc : ByteArray} {pc nL : Nat} {D : va_G} {tys : List (ClassId × FieldType)} {ws : va_W} {A : Nat → Prop} {H0 : Heap} {lv : List (Nat × Value)} {st : List Value} {own : String}
variable {y : MethodName} {bytes : ByteArray} {maxL n index mc ms : Nat} {ret : Option FieldType} {rm : Room} {C : String} {b : Nat} {As st0 : List Value}
theorem g_permP {ws2 : va_W} (hp : ws.Perm ws2) (kk : GG p l e R s m args below meth c cells slots Q D A H0 nL ws2 pc lv st) : GG p l e R s m args below meth c cells slots Q D A H0 nL ws pc lv st := fun H locs ls hP hD hS hl => kk H locs ls (hP.perm hp) (hD.perm hp) hS hl
theorem g_callJ0 (X : CX p m c cc nL s args own D tys A H0) {post : va_W → Prop} (hM : CtJ l y bytes maxL rm D tys ws (.ref b :: As) post mc ms) (cv : CalJ y bytes maxL n) (hlk : Cond.methodLink own index y ∈ lw_U) (hrm : rm.cells = mc ∧ rm.slots = ms ∧ rm.frames + 1 ≤ R.frames ∧ 8 + (maxL + 11) + rm.locals ≤ R.locals) (hn : As.length = n) (hst0 : st0 = As.reverse ++ .ref b :: st) (hcat : (st.map fun v => v.category).sum ≤ 8) (hcs : cells + mc ≤ R.cells ∧ slots + ms ≤ R.slots) (hdg : decode cc pc = .ok (.invokespecial index, 3)) (kk : ∀ (ws1 : va_W), post ws1 → GG p l e R s m args below meth c (cells + mc) (slots + ms) Q D A H0 nL ws1 (pc + 3) lv st) : GG p l e R s m args below meth c cells slots Q D A H0 nL ws pc lv st0 := by
  intro H locs ls hP hD hS hl
  subst hst0
  have hPc := hP
  have hDc := hD
  have hFc := va_freeA hD hS X.2.2.1
  refine va_callv (va_runI (As := As) (rest := st) X.1 (hM H.size) (cwI n X.1.2.2.2.2 (lw_Uw cv.1) rfl hrm.1 hrm.2.1 (X.1.2.2.2.2 _ cv.2.2.1) (X.1.2.2.2.2 _ hlk) (X.1.2.2.2.2 _ cv.2.1) cv.2.2.2.1 cv.2.2.2.2 hrm.2.2) ⟨fun a U g mk q => by obtain ⟨q0, q1, qP, qK, qD, qN, qZ⟩ := q; exact ⟨q0, q1, qP, va_K.moved (u := U) (U := U.calling g mk a) (Vm.Alike.refl U.vm) qK, qD, NK.same (u := U) (U := U.calling g mk a) rfl qN, SZ.same (u := U) (U := U.calling g mk a) rfl qZ⟩, fun U hU hW => ⟨rfl, by rw [hU], by rw [hU]; exact hPc, va_K.moved hW.alike X.2.1, hDc.weaken (fun _ _ _ _ => trivial), NK.warm hW X.2.2.2.1, by rw [hU]; exact SZ.call X.2.2.2.2 hS hFc hW⟩⟩ rfl hn hl.1 rfl (lv_room hcat) hdg hcs) hS (fun q _ h => hFc q h) hFc (fun u t H1 locs ht hvm hw hB hz1 hk1 hS => ?_)
  obtain ⟨hP1, hK1, hD1⟩ := hB
  rw [ht] at hP1
  exact kk u hw H1 locs ls hP1 (hD1.weaken fun _ _ _ h => hFc _ h) hS hl
theorem g_ctor (X : CX p m c cc nL s args own D tys A H0) {wa : va_W} {e0 : va_E} {post : va_W → Prop} (hM : CtJ l y bytes maxL rm D tys [(b, e0)] (.ref b :: As) post mc ms) (cv : CalJ y bytes maxL n) (hlk : Cond.methodLink own index y ∈ lw_U) (hrm : rm.cells = mc ∧ rm.slots = ms ∧ rm.frames + 1 ≤ R.frames ∧ 8 + (maxL + 11) + rm.locals ≤ R.locals) (hn : As.length = n) (hst0 : st0 = As.reverse ++ .ref b :: st) (hcat : (st.map fun v => v.category).sum ≤ 8) (hcs : cells + mc ≤ R.cells ∧ slots + ms ≤ R.slots) (hdg : decode cc pc = .ok (.invokespecial index, 3)) (kk : ∀ (w1 : va_W), post w1 → GG p l e R s m args below meth c (cells + mc) (slots + ms) Q D A H0 nL (wa ++ w1) (pc + 3) lv st) : GG p l e R s m args below meth c cells slots Q D A H0 nL (wa ++ [(b, e0)]) pc lv st0 :=
  g_callJ0 X (CtJ.frame hM List.perm_append_comm) cv hlk hrm hn hst0 hcat hcs hdg (fun ws1 h => by
    obtain ⟨w1, h1, rfl⟩ := h
    exact g_permP List.perm_append_comm (kk w1 h1))
theorem g_callJ0N (X : CX p m c cc nL s args own D tys A H0) {post : va_W → Prop} (hM : CtJ l y bytes maxL rm D tys ws (.ref b :: As) post mc ms) (cv : CalJ y bytes maxL n) {host : String} (hlk : Cond.methodLinkNest own index y host ∈ lw_nest) (hrm : rm.cells = mc ∧ rm.slots = ms ∧ rm.frames + 1 ≤ R.frames ∧ 8 + (maxL + 11) + rm.locals ≤ R.locals) (hn : As.length = n) (hst0 : st0 = As.reverse ++ .ref b :: st) (hcat : (st.map fun v => v.category).sum ≤ 8) (hcs : cells + mc ≤ R.cells ∧ slots + ms ≤ R.slots) (hdg : decode cc pc = .ok (.invokespecial index, 3)) (kk : ∀ (ws1 : va_W), post ws1 → GG p l e R s m args below meth c (cells + mc) (slots + ms) Q D A H0 nL ws1 (pc + 3) lv st) : GG p l e R s m args below meth c cells slots Q D A H0 nL ws pc lv st0 := by
  intro H locs ls hP hD hS hl
  subst hst0
  have hPc := hP
  have hDc := hD
  have hFc := va_freeA hD hS X.2.2.1
  refine va_callv (va_runIN (As := As) (rest := st) X.1 (hM H.size) ⟨va_cnB n X.1.2.2.2.2 (lw_Uw cv.1) rfl hrm.1 hrm.2.1 (X.2.2.2.1 _ hlk) (X.1.2.2.2.2 _ cv.2.2.1) cv.2.2.2.2 hrm.2.2, cv.2.2.2.1, X.1.2.2.2.2 _ cv.2.1⟩ ⟨fun a U g mk q => by obtain ⟨q0, q1, qP, qK, qD, qN, qZ⟩ := q; exact ⟨q0, q1, qP, va_K.moved (u := U) (U := U.calling g mk a) (Vm.Alike.refl U.vm) qK, qD, NK.same (u := U) (U := U.calling g mk a) rfl qN, SZ.same (u := U) (U := U.calling g mk a) rfl qZ⟩, fun U hU hW => ⟨rfl, by rw [hU], by rw [hU]; exact hPc, va_K.moved hW.alike X.2.1, hDc.weaken (fun _ _ _ _ => trivial), NK.warm hW X.2.2.2.1, by rw [hU]; exact SZ.call X.2.2.2.2 hS hFc hW⟩⟩ rfl hn hl.1 rfl (lv_room hcat) hdg hcs) hS (fun q _ h => hFc q h) hFc (fun u t H1 locs ht hvm hw hB hz1 hk1 hS => ?_)
  obtain ⟨hP1, hK1, hD1⟩ := hB
  rw [ht] at hP1
  exact kk u hw H1 locs ls hP1 (hD1.weaken fun _ _ _ h => hFc _ h) hS hl
theorem g_ctorN (X : CX p m c cc nL s args own D tys A H0) {wa : va_W} {e0 : va_E} {post : va_W → Prop} (hM : CtJ l y bytes maxL rm D tys [(b, e0)] (.ref b :: As) post mc ms) (cv : CalJ y bytes maxL n) {host : String} (hlk : Cond.methodLinkNest own index y host ∈ lw_nest) (hrm : rm.cells = mc ∧ rm.slots = ms ∧ rm.frames + 1 ≤ R.frames ∧ 8 + (maxL + 11) + rm.locals ≤ R.locals) (hn : As.length = n) (hst0 : st0 = As.reverse ++ .ref b :: st) (hcat : (st.map fun v => v.category).sum ≤ 8) (hcs : cells + mc ≤ R.cells ∧ slots + ms ≤ R.slots) (hdg : decode cc pc = .ok (.invokespecial index, 3)) (kk : ∀ (w1 : va_W), post w1 → GG p l e R s m args below meth c (cells + mc) (slots + ms) Q D A H0 nL (wa ++ w1) (pc + 3) lv st) : GG p l e R s m args below meth c cells slots Q D A H0 nL (wa ++ [(b, e0)]) pc lv st0 :=
  g_callJ0N X (CtJ.frame hM List.perm_append_comm) cv hlk hrm hn hst0 hcat hcs hdg (fun ws1 h => by
    obtain ⟨w1, h1, rfl⟩ := h
    exact g_permP List.perm_append_comm (kk w1 h1))
end GB
theorem va_memI {ws : va_W} {q : Nat × va_E} (h : q ∈ ws) : ∃ k : Nat, ws[k]? = some q := List.mem_iff_getElem?.mp h
