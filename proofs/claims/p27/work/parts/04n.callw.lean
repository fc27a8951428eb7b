section GCw
variable {p : Program} {l : Launch} {e : Env} {R : Room} {s : State} {m : MethodId} {args : Array Value} {below : List Frame} {meth : Method} {c : Code} {cells slots : Nat} {Q : State → Prop} {cc : ByteArray} {pc nL : Nat} {D : va_G} {tys : List (ClassId × FieldType)} {ws : va_W} {A : Nat → Prop} {H0 : Heap} {lv : List (Nat × Value)} {st : List Value} {own : String}
variable {y : MethodName} {bytes : ByteArray} {maxL n index : Nat} {ret : Option FieldType} {rm : Room} {C : String} {b : Nat} {As st0 : List Value}
theorem g_callVIw (X : CX p m c cc nL s args own D tys A H0) {wc : va_W} {post : Int → va_W → Prop} (hM : CtI l y bytes maxL ret rm D tys wc (.ref b :: As) post) (isC : List Nat) (hC : isC.map (fun i => ws[i]?) = wc.map some) (hC2 : isC.filterMap (fun i => ws[i]?) = wc) (hnC : va_nd isC = true) (cv : CalV C y bytes maxL ret n) (hlk : Cond.methodLink own index y ∈ lw_U) (hrm : rm.cells = 0 ∧ rm.slots = 0 ∧ rm.frames + 1 ≤ R.frames ∧ 8 + (maxL + 11) + rm.locals ≤ R.locals) {ci : Nat} {r : vw_C} {fs : List Value} (q0 : Nat) (he : wc[q0]? = some (b, .inr (ci, fs))) (hc : vwCl[ci]? = some r) (hrC : r.1 = C) (hn : As.length = n) (hst0 : st0 = As.reverse ++ .ref b :: st) (hcat : (st.map fun v => v.category).sum ≤ 8) (hcs : cells ≤ R.cells ∧ slots ≤ R.slots) (hdg : decode cc pc = .ok (.invokevirtual index, 3)) (kk : ∀ (z : Int) (ws1 : va_W), post z ws1 → ws1.map (·.1) = wc.map (·.1) ∧ GG p l e R s m args below meth c cells slots Q D A H0 nL (setW 0 (isC.zip ws1) ws) (pc + 3) lv (vI z :: st)) : GG p l e R s m args below meth c cells slots Q D A H0 nL ws pc lv st0 := by
  intro H locs ls hP hD hS hl
  subst hst0
  have hPc := hP.sub (ws' := wc) isC hC2
  have hDc := hD.sub (ws' := wc) isC hnC hC
  have hFc := va_free (wc := wc) hD hS X.2.2.1 isC hC
  refine va_calli (va_runV (As := As) (rest := st) X.1 (hM H.size) (CalV_w cv X.1.2.2.2.2 hlk hrm) ⟨fun a U g mk q => by obtain ⟨q0, q1, qP, qK, qD, qN, qZ⟩ := q; exact ⟨q0, q1, qP, va_K.moved (u := U) (U := U.calling g mk a) (Vm.Alike.refl U.vm) qK, qD, NK.same (u := U) (U := U.calling g mk a) rfl qN, SZ.same (u := U) (U := U.calling g mk a) rfl qZ⟩, hrC ▸ va_recv X.2.1 hPc hc he, fun U hU hW => ⟨rfl, by rw [hU], by rw [hU]; exact hPc, va_K.moved hW.alike X.2.1, hDc.weaken (fun _ _ _ _ => trivial), NK.warm hW X.2.2.2.1, by rw [hU]; exact SZ.call X.2.2.2.2 hS hFc hW⟩⟩ rfl hn hl.1 rfl (lv_room hcat) hdg hcs) hS (fun q _ h => hFc q h) hFc (fun r u t H1 locs ht hvm hw hB hz1 hk1 hS => ?_)
  obtain ⟨z, rfl, hz⟩ := hw
  obtain ⟨hP1, hK1, hD1⟩ := hB
  rw [ht] at hP1
  obtain ⟨hadr, kk2⟩ := kk z u hz
  obtain ⟨hP2, hD2⟩ := va_setW hP hD isC hC hadr hk1 hP1
  exact kk2 H1 locs ls hP2 hD2 hS hl
theorem g_callVVw (X : CX p m c cc nL s args own D tys A H0) {wc : va_W} {post : va_W → Prop} (hM : CtV l y bytes maxL ret rm D tys wc (.ref b :: As) post) (isC : List Nat) (hC : isC.map (fun i => ws[i]?) = wc.map some) (hC2 : isC.filterMap (fun i => ws[i]?) = wc) (hnC : va_nd isC = true) (cv : CalV C y bytes maxL ret n) (hlk : Cond.methodLink own index y ∈ lw_U) (hrm : rm.cells = 0 ∧ rm.slots = 0 ∧ rm.frames + 1 ≤ R.frames ∧ 8 + (maxL + 11) + rm.locals ≤ R.locals) {ci : Nat} {r : vw_C} {fs : List Value} (q0 : Nat) (he : wc[q0]? = some (b, .inr (ci, fs))) (hc : vwCl[ci]? = some r) (hrC : r.1 = C) (hn : As.length = n) (hst0 : st0 = As.reverse ++ .ref b :: st) (hcat : (st.map fun v => v.category).sum ≤ 8) (hcs : cells ≤ R.cells ∧ slots ≤ R.slots) (hdg : decode cc pc = .ok (.invokevirtual index, 3)) (kk : ∀ (ws1 : va_W), post ws1 → ws1.map (·.1) = wc.map (·.1) ∧ GG p l e R s m args below meth c cells slots Q D A H0 nL (setW 0 (isC.zip ws1) ws) (pc + 3) lv st) : GG p l e R s m args below meth c cells slots Q D A H0 nL ws pc lv st0 := by
  intro H locs ls hP hD hS hl
  subst hst0
  have hPc := hP.sub (ws' := wc) isC hC2
  have hDc := hD.sub (ws' := wc) isC hnC hC
  have hFc := va_free (wc := wc) hD hS X.2.2.1 isC hC
  refine va_callv (va_runV (As := As) (rest := st) X.1 (hM H.size) (CalV_w cv X.1.2.2.2.2 hlk hrm) ⟨fun a U g mk q => by obtain ⟨q0, q1, qP, qK, qD, qN, qZ⟩ := q; exact ⟨q0, q1, qP, va_K.moved (u := U) (U := U.calling g mk a) (Vm.Alike.refl U.vm) qK, qD, NK.same (u := U) (U := U.calling g mk a) rfl qN, SZ.same (u := U) (U := U.calling g mk a) rfl qZ⟩, hrC ▸ va_recv X.2.1 hPc hc he, fun U hU hW => ⟨rfl, by rw [hU], by rw [hU]; exact hPc, va_K.moved hW.alike X.2.1, hDc.weaken (fun _ _ _ _ => trivial), NK.warm hW X.2.2.2.1, by rw [hU]; exact SZ.call X.2.2.2.2 hS hFc hW⟩⟩ rfl hn hl.1 rfl (lv_room hcat) hdg hcs) hS (fun q _ h => hFc q h) hFc (fun u t H1 locs ht hvm hw hB hz1 hk1 hS => ?_)
  obtain ⟨hP1, hK1, hD1⟩ := hB
  rw [ht] at hP1
  obtain ⟨hadr, kk2⟩ := kk u hw
  obtain ⟨hP2, hD2⟩ := va_setW hP hD isC hC hadr hk1 hP1
  exact kk2 H1 locs ls hP2 hD2 hS hl
theorem g_callSIw (X : CX p m c cc nL s args own D tys A H0) {wc : va_W} {post : Int → va_W → Prop} (hM : CtI l y bytes maxL ret rm D tys wc As post) (isC : List Nat) (hC : isC.map (fun i => ws[i]?) = wc.map some) (hC2 : isC.filterMap (fun i => ws[i]?) = wc) (hnC : va_nd isC = true) (cv : CalS y bytes maxL ret n) (hlk : Cond.methodLink own index y ∈ lw_U) (hrm : rm.cells = 0 ∧ rm.slots = 0 ∧ rm.frames + 1 ≤ R.frames ∧ 8 + (maxL + 11) + rm.locals ≤ R.locals)  (hn : As.length = n) (hst0 : st0 = As.reverse ++ st) (hcat : (st.map fun v => v.category).sum ≤ 8) (hcs : cells ≤ R.cells ∧ slots ≤ R.slots) (hdg : decode cc pc = .ok (.invokestatic index, 3)) (kk : ∀ (z : Int) (ws1 : va_W), post z ws1 → ws1.map (·.1) = wc.map (·.1) ∧ GG p l e R s m args below meth c cells slots Q D A H0 nL (setW 0 (isC.zip ws1) ws) (pc + 3) lv (vI z :: st)) : GG p l e R s m args below meth c cells slots Q D A H0 nL ws pc lv st0 := by
  intro H locs ls hP hD hS hl
  subst hst0
  have hPc := hP.sub (ws' := wc) isC hC2
  have hDc := hD.sub (ws' := wc) isC hnC hC
  have hFc := va_free (wc := wc) hD hS X.2.2.1 isC hC
  refine va_calli (va_runS (As := As) (rest := st) X.1 (hM H.size) (CalS_w cv X.1.2.2.2.2 hlk hrm) ⟨fun a U g mk q => by obtain ⟨q0, q1, qP, qK, qD, qN, qZ⟩ := q; exact ⟨q0, q1, qP, va_K.moved (u := U) (U := U.calling g mk a) (Vm.Alike.refl U.vm) qK, qD, NK.same (u := U) (U := U.calling g mk a) rfl qN, SZ.same (u := U) (U := U.calling g mk a) rfl qZ⟩, fun U hU hW => ⟨rfl, by rw [hU], by rw [hU]; exact hPc, va_K.moved hW.alike X.2.1, hDc.weaken (fun _ _ _ _ => trivial), NK.warm hW X.2.2.2.1, by rw [hU]; exact SZ.call X.2.2.2.2 hS hFc hW⟩⟩ rfl hn hl.1 rfl (lv_room hcat) hdg hcs) hS (fun q _ h => hFc q h) hFc (fun r u t H1 locs ht hvm hw hB hz1 hk1 hS => ?_)
  obtain ⟨z, rfl, hz⟩ := hw
  obtain ⟨hP1, hK1, hD1⟩ := hB
  rw [ht] at hP1
  obtain ⟨hadr, kk2⟩ := kk z u hz
  obtain ⟨hP2, hD2⟩ := va_setW hP hD isC hC hadr hk1 hP1
  exact kk2 H1 locs ls hP2 hD2 hS hl
theorem g_callSVw (X : CX p m c cc nL s args own D tys A H0) {wc : va_W} {post : va_W → Prop} (hM : CtV l y bytes maxL ret rm D tys wc As post) (isC : List Nat) (hC : isC.map (fun i => ws[i]?) = wc.map some) (hC2 : isC.filterMap (fun i => ws[i]?) = wc) (hnC : va_nd isC = true) (cv : CalS y bytes maxL ret n) (hlk : Cond.methodLink own index y ∈ lw_U) (hrm : rm.cells = 0 ∧ rm.slots = 0 ∧ rm.frames + 1 ≤ R.frames ∧ 8 + (maxL + 11) + rm.locals ≤ R.locals)  (hn : As.length = n) (hst0 : st0 = As.reverse ++ st) (hcat : (st.map fun v => v.category).sum ≤ 8) (hcs : cells ≤ R.cells ∧ slots ≤ R.slots) (hdg : decode cc pc = .ok (.invokestatic index, 3)) (kk : ∀ (ws1 : va_W), post ws1 → ws1.map (·.1) = wc.map (·.1) ∧ GG p l e R s m args below meth c cells slots Q D A H0 nL (setW 0 (isC.zip ws1) ws) (pc + 3) lv st) : GG p l e R s m args below meth c cells slots Q D A H0 nL ws pc lv st0 := by
  intro H locs ls hP hD hS hl
  subst hst0
  have hPc := hP.sub (ws' := wc) isC hC2
  have hDc := hD.sub (ws' := wc) isC hnC hC
  have hFc := va_free (wc := wc) hD hS X.2.2.1 isC hC
  refine va_callv (va_runS (As := As) (rest := st) X.1 (hM H.size) (CalS_w cv X.1.2.2.2.2 hlk hrm) ⟨fun a U g mk q => by obtain ⟨q0, q1, qP, qK, qD, qN, qZ⟩ := q; exact ⟨q0, q1, qP, va_K.moved (u := U) (U := U.calling g mk a) (Vm.Alike.refl U.vm) qK, qD, NK.same (u := U) (U := U.calling g mk a) rfl qN, SZ.same (u := U) (U := U.calling g mk a) rfl qZ⟩, fun U hU hW => ⟨rfl, by rw [hU], by rw [hU]; exact hPc, va_K.moved hW.alike X.2.1, hDc.weaken (fun _ _ _ _ => trivial), NK.warm hW X.2.2.2.1, by rw [hU]; exact SZ.call X.2.2.2.2 hS hFc hW⟩⟩ rfl hn hl.1 rfl (lv_room hcat) hdg hcs) hS (fun q _ h => hFc q h) hFc (fun u t H1 locs ht hvm hw hB hz1 hk1 hS => ?_)
  obtain ⟨hP1, hK1, hD1⟩ := hB
  rw [ht] at hP1
  obtain ⟨hadr, kk2⟩ := kk u hw
  obtain ⟨hP2, hD2⟩ := va_setW hP hD isC hC hadr hk1 hP1
  exact kk2 H1 locs ls hP2 hD2 hS hl
end GCw
