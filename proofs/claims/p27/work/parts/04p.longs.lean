abbrev vL (z : Int) : Value := .long (zL z)
theorem zL_add (a b : Int) : zL a + zL b = zL (a + b) := (Int64.ofInt_add a b).symm
theorem zL_sub (a b : Int) : zL a - zL b = zL (a - b) := (Int64.ofInt_sub a b).symm
theorem zI_long {a : Int} (h : IR a) : (zI a).toInt64 = zL a := by
  apply Int64.toInt_inj.mp
  rw [Int32.toInt_toInt64, zI_toInt h]
  exact (Int64.toInt_ofInt_of_le (by omega) (by omega)).symm
theorem zAL_up {f : Nat → Int} {i z : Int} (h0 : 0 ≤ i) (h1 : i ≤ 2147483647) : vp_updL (zAL f) (zI i).toNatClampNeg (zL z) = zAL (updZ f i.toNat z) := by
  funext j
  rw [zI_cl h0 h1]
  unfold vp_updL zAL updZ
  split <;> rfl
theorem lg_cmp_r (x y : Int64) : ∃ z : Int, lg_cmp x y = zI z ∧ -1 ≤ z ∧ z ≤ 1 := by
  unfold lg_cmp
  split
  · exact ⟨1, rfl, by omega, by omega⟩
  · split
    · exact ⟨0, rfl, by omega, by omega⟩
    · exact ⟨-1, rfl, by omega, by omega⟩
theorem zL_inj {a b : Int} (ha : -4611686018427387904 ≤ a ∧ a ≤ 4611686018427387904) (hb : -4611686018427387904 ≤ b ∧ b ≤ 4611686018427387904) (h : zL a = zL b) : a = b := by
  have h1 : (zL a).toInt = a := Int64.toInt_ofInt_of_le (by omega) (by omega)
  have h2 : (zL b).toInt = b := Int64.toInt_ofInt_of_le (by omega) (by omega)
  rw [← h1, ← h2, h]
theorem lg_cmp_i {a b : Int} (ha : -4611686018427387904 ≤ a ∧ a ≤ 4611686018427387904) (hb : -4611686018427387904 ≤ b ∧ b ≤ 4611686018427387904) : ∃ z : Int, lg_cmp (zL a) (zL b) = zI z ∧ (-1 ≤ z ∧ z ≤ 1) ∧ ((z = 0 ∧ a = b) ∨ (z ≠ 0 ∧ a ≠ b)) := by
  unfold lg_cmp
  split
  · rename_i h
    refine ⟨1, rfl, by omega, Or.inr ⟨by omega, fun e => ?_⟩⟩
    subst e
    simp at h
  · split
    · rename_i h
      exact ⟨0, rfl, by omega, Or.inl ⟨rfl, zL_inj ha hb (by simpa using h)⟩⟩
    · rename_i h
      exact ⟨-1, rfl, by omega, Or.inr ⟨by omega, fun e => h (by subst e; simp)⟩⟩
section GRL
variable {p : Program} {l : Launch} {e : Env} {R : Room} {s : State} {m : MethodId} {args : Array Value} {below : List Frame} {meth : Method} {c : Code} {cells slots : Nat} {Q : State → Prop} {cc : ByteArray} {pc nL : Nat} {D : va_G} {tys : List (ClassId × FieldType)} {ws : va_W} {A : Nat → Prop} {H0 : Heap} {lv : List (Nat × Value)} {st : List Value} {own : String}
theorem g_i2l (X : CX p m c cc nL s args own D tys A H0) {a : Int} (hdg : decode cc pc = .ok (.i2l, 1)) (ha : IR a) (kk : GG p l e R s m args below meth c cells slots Q D A H0 nL ws (pc + 1) lv (vL a :: st)) : GG p l e R s m args below meth c cells slots Q D A H0 nL ws pc lv (vI a :: st) := fun H locs ls hP hD hS hl => lv_i2l X.1.1 X.1.2.1 hdg (zI_long ha) (kk H locs ls hP hD hS hl)
theorem g_ladd (X : CX p m c cc nL s args own D tys A H0) {a b : Int} (hdg : decode cc pc = .ok (.ladd, 1)) (kk : GG p l e R s m args below meth c cells slots Q D A H0 nL ws (pc + 1) lv (vL (a + b) :: st)) : GG p l e R s m args below meth c cells slots Q D A H0 nL ws pc lv (vL b :: vL a :: st) := fun H locs ls hP hD hS hl => lv_ladd X.1.1 X.1.2.1 hdg (zL_add a b ▸ kk H locs ls hP hD hS hl)
theorem g_lsub (X : CX p m c cc nL s args own D tys A H0) {a b : Int} (hdg : decode cc pc = .ok (.lsub, 1)) (kk : GG p l e R s m args below meth c cells slots Q D A H0 nL ws (pc + 1) lv (vL (a - b) :: st)) : GG p l e R s m args below meth c cells slots Q D A H0 nL ws pc lv (vL b :: vL a :: st) := fun H locs ls hP hD hS hl => lv_lsub X.1.1 X.1.2.1 hdg (zL_sub a b ▸ kk H locs ls hP hD hS hl)
theorem g_lconst (X : CX p m c cc nL s args own D tys A H0) {n : Fin 2} {z : Int} (hdg : decode cc pc = .ok (.lconst n, 1)) (hz : Int64.ofNat (n : Nat) = zL z) (kk : GG p l e R s m args below meth c cells slots Q D A H0 nL ws (pc + 1) lv (vL z :: st)) : GG p l e R s m args below meth c cells slots Q D A H0 nL ws pc lv st := fun H locs ls hP hD hS hl => lv_lconst X.1.1 X.1.2.1 hdg hz (kk H locs ls hP hD hS hl)
theorem g_ldc2 (X : CX p m c cc nL s args own D tys A H0) {index : Nat} {v : Int64} {z : Int} (hdg : decode cc pc = .ok (.ldc2_w index, 3)) (hc : (Jvm.Cond.constantLong own index v) ∈ lw_U) (hz : v = zL z) (kk : GG p l e R s m args below meth c cells slots Q D A H0 nL ws (pc + 3) lv (vL z :: st)) : GG p l e R s m args below meth c cells slots Q D A H0 nL ws pc lv st := fun H locs ls hP hD hS hl => lv_ldc2 X.1.1 X.1.2.1 X.1.2.2.2.1 (X.1.2.2.2.2 _ hc) hdg (by subst hz; exact kk H locs ls hP hD hS hl)
theorem g_lcmp (X : CX p m c cc nL s args own D tys A H0) {a b : Int64} (hdg : decode cc pc = .ok (.lcmp, 1)) (kk : ∀ z : Int, -1 ≤ z ∧ z ≤ 1 → GG p l e R s m args below meth c cells slots Q D A H0 nL ws (pc + 1) lv (vI z :: st)) : GG p l e R s m args below meth c cells slots Q D A H0 nL ws pc lv (.long b :: .long a :: st) := fun H locs ls hP hD hS hl => by
  obtain ⟨z, h1, h2⟩ := lg_cmp_r a b
  refine W.lcmp X.1.1 X.1.2.1 hdg ?_
  rw [h1]
  exact kk z h2 H locs ls hP hD hS hl
theorem g_lcmpI (X : CX p m c cc nL s args own D tys A H0) {a b : Int} (ha : -4611686018427387904 ≤ a ∧ a ≤ 4611686018427387904) (hb : -4611686018427387904 ≤ b ∧ b ≤ 4611686018427387904) (hdg : decode cc pc = .ok (.lcmp, 1)) (kk : ∀ z : Int, -1 ≤ z ∧ z ≤ 1 → (z = 0 ∧ a = b) ∨ (z ≠ 0 ∧ a ≠ b) → GG p l e R s m args below meth c cells slots Q D A H0 nL ws (pc + 1) lv (vI z :: st)) : GG p l e R s m args below meth c cells slots Q D A H0 nL ws pc lv (vL b :: vL a :: st) := fun H locs ls hP hD hS hl => by
  obtain ⟨z, h1, h2, h3⟩ := lg_cmp_i ha hb
  refine W.lcmp X.1.1 X.1.2.1 hdg ?_
  rw [h1]
  exact kk z h2 h3 H locs ls hP hD hS hl
theorem g_lcmpS (X : CX p m c cc nL s args own D tys A H0) {a : Int64} (hdg : decode cc pc = .ok (.lcmp, 1)) (kk : GG p l e R s m args below meth c cells slots Q D A H0 nL ws (pc + 1) lv (vI 0 :: st)) : GG p l e R s m args below meth c cells slots Q D A H0 nL ws pc lv (.long a :: .long a :: st) := fun H locs ls hP hD hS hl => by
  refine W.lcmp X.1.1 X.1.2.1 hdg ?_
  rw [show lg_cmp a a = zI 0 from by unfold lg_cmp; simp; rfl]
  exact kk H locs ls hP hD hS hl
theorem g_laldd (X : CX p m c cc nL s args own D tys A H0) {a n : Nat} {cA : ClassId} {f : Nat → Int} {i : Int} (q0 t0 : Nat) (he : ws[q0]? = some (a, eL cA n f)) (ht : tys[t0]? = some (cA, .long)) (hin : 0 ≤ i ∧ i < n) (hn : n ≤ 2147483647) (hdg : decode cc pc = .ok (.laload, 1)) (kk : ∀ z, z = f i.toNat → GG p l e R s m args below meth c cells slots Q D A H0 nL ws (pc + 1) lv (vL z :: st)) : GG p l e R s m args below meth c cells slots Q D A H0 nL ws pc lv (vI i :: .ref a :: st) := fun H locs ls hP hD hS hl => va_lald X.1.1 X.1.2.1 X.2.1 hP q0 t0 he ht (zI_in hin.1 hin.2 hn) hdg (by rw [zI_cl hin.1 (by omega)]; exact kk _ rfl H locs ls hP hD hS hl)
theorem g_lastt (X : CX p m c cc nL s args own D tys A H0) {a n : Nat} {cA : ClassId} {f : Nat → Int} {i z : Int} (q0 t0 : Nat) (he : ws[q0]? = some (a, eL cA n f)) (ht : tys[t0]? = some (cA, .long)) (hin : 0 ≤ i ∧ i < n) (hn : n ≤ 2147483647) (hdg : decode cc pc = .ok (.lastore, 1)) (kk : ∀ f', f' = updZ f i.toNat z → GG p l e R s m args below meth c cells slots Q D A H0 nL (ws.set q0 (a, eL cA n f')) (pc + 1) lv st) : GG p l e R s m args below meth c cells slots Q D A H0 nL ws pc lv (vL z :: vI i :: .ref a :: st) := fun H locs ls hP hD hS hl => va_last X.1.1 X.1.2.1 X.2.1 hP hD hS q0 t0 he ht (zI_in hin.1 hin.2 hn) hdg (fun H locs hP hD hS => by rw [zAL_up hin.1 (by omega)] at hP hD; exact kk _ rfl H locs ls hP hD hS hl)
end GRL
def CtL (l : Launch) (y : MethodName) (b : ByteArray) (nL : Nat) (ret : Option FieldType) (rm : Room) (D : va_G) (tys : List (ClassId × FieldType)) (ws : va_W) (av : List Value) (post : Int → va_W → Prop) : Prop :=
  ∀ sz : Nat, Met l y (wU y b nL ret) rm (va_Pc av (PreZ D tys ws sz)) (va_Ql (fun (r : Int64) (ws' : va_W) => ∃ z, r = zL z ∧ post z ws') (BZ D tys (va_A ws sz)) (va_A ws sz)) 0 0 (va_A ws sz)
theorem hdrL {l : Launch} {y : MethodName} {cc : ByteArray} {nL : Nat} {rm : Room} {D : va_G} {tys : List (ClassId × FieldType)} {ws : va_W} {av : List Value} {post : Int → va_W → Prop} {own : String} (hown : y.cls = own) (hy : plainName y.cls = true) (hlen : (lg_sl av).length ≤ nL)
    (body : ∀ (p : Program) (e : Env) (s : State) (m : MethodId) (args : Array Value) (below : List Frame) (meth : Method) (c : Code) (Q : State → Prop) (A : Nat → Prop), CX p m c cc nL s args own D tys A s.heap → (∀ (z : Int) (ws' : va_W) (pc : Nat) (lv : List (Nat × Value)), decode cc pc = .ok (.lreturn, 1) → post z ws' → GG p l e rm s m args below meth c 0 0 Q D A s.heap nL ws' pc lv [vL z]) → GG p l e rm s m args below meth c 0 0 Q D A s.heap nL ws 0 (lv_args 0 av) []) : CtL l y cc nL (some .long) rm D tys ws av post := by
  intro sz
  refine Met.ofW (cc := cc) (maxL := nL) (ret := some .long) hy rfl ?_
  intro p e s m args below meth c s₁ B hml hv
  obtain ⟨rfl, hsz, hP, hK, hD0, hN, hZ⟩ := hv
  subst hsz
  have hD := hD0.self (sz := s.heap.size)
  have hl := lv_entry av (n := nL) hlen
  rw [lg_entry_eq]
  exact body p e s m _ below meth c _ (va_A ws s.heap.size) ⟨⟨B.exec, B.bytes, hml, hown ▸ findClass_of_methodNamed B.named, fun w hw => atoms_spec (ws := wU y cc nL (some .long)) B.pre w (List.mem_cons_of_mem _ hw)⟩, hK, fun q h => Or.inr h, hN, hZ⟩ (fun z ws' pc lv hd hp => fun H locs ls hP hD hS hl => W.lret (v := zL z) B.exec B.bytes B.returns (fun t ht hW => ⟨⟨zL z, ws', rfl, ⟨z, rfl, hp⟩, by rw [ht]; exact hP, va_K.moved hW.alike hK, hD⟩, hS.F ht⟩) hS.2.2 hd B.notSynchronized) s.heap [] _ hP hD va_S.rf hl
section GCL
variable {p : Program} {l : Launch} {e : Env} {R : Room} {s : State} {m : MethodId} {args : Array Value} {below : List Frame} {meth : Method} {c : Code} {cells slots : Nat} {Q : State → Prop} {cc : ByteArray} {pc nL : Nat} {D : va_G} {tys : List (ClassId × FieldType)} {ws : va_W} {A : Nat → Prop} {H0 : Heap} {lv : List (Nat × Value)} {st : List Value} {own : String}
variable {y : MethodName} {bytes : ByteArray} {maxL n index : Nat} {ret : Option FieldType} {rm : Room} {C : String} {b : Nat} {As st0 : List Value}
theorem g_callVL0 (X : CX p m c cc nL s args own D tys A H0)  {post : Int → va_W → Prop} (hM : CtL l y bytes maxL ret rm D tys ws (.ref b :: As) post) (cv : CalV C y bytes maxL ret n) (hlk : Cond.methodLink own index y ∈ lw_U) (hrm : rm.cells = 0 ∧ rm.slots = 0 ∧ rm.frames + 1 ≤ R.frames ∧ 8 + (maxL + 11) + rm.locals ≤ R.locals) {ci : Nat} {r : vw_C} {fs : List Value} (q0 : Nat) (he : ws[q0]? = some (b, .inr (ci, fs))) (hc : vwCl[ci]? = some r) (hrC : r.1 = C) (hn : As.length = n) (hst0 : st0 = As.reverse ++ .ref b :: st) (hcat : (st.map fun v => v.category).sum ≤ 8) (hcs : cells ≤ R.cells ∧ slots ≤ R.slots) (hdg : decode cc pc = .ok (.invokevirtual index, 3)) (kk : ∀ (z : Int) (ws1 : va_W), post z ws1 → GG p l e R s m args below meth c cells slots Q D A H0 nL ws1 (pc + 3) lv (vL z :: st)) : GG p l e R s m args below meth c cells slots Q D A H0 nL ws pc lv st0 := by
  intro H locs ls hP hD hS hl
  subst hst0
  have hPc := hP
  have hDc := hD
  have hFc := va_freeA hD hS X.2.2.1
  refine va_calll (va_runV (As := As) (rest := st) X.1 (hM H.size) (CalV_w cv X.1.2.2.2.2 hlk hrm) ⟨fun a U g mk q => by obtain ⟨q0, q1, qP, qK, qD, qN, qZ⟩ := q; exact ⟨q0, q1, qP, va_K.moved (u := U) (U := U.calling g mk a) (Vm.Alike.refl U.vm) qK, qD, NK.same (u := U) (U := U.calling g mk a) rfl qN, SZ.same (u := U) (U := U.calling g mk a) rfl qZ⟩, hrC ▸ va_recv X.2.1 hPc hc he, fun U hU hW => ⟨rfl, by rw [hU], by rw [hU]; exact hPc, va_K.moved hW.alike X.2.1, hDc.weaken (fun _ _ _ _ => trivial), NK.warm hW X.2.2.2.1, by rw [hU]; exact SZ.call X.2.2.2.2 hS hFc hW⟩⟩ rfl hn hl.1 rfl (lv_room hcat) hdg hcs) hS (fun q _ h => hFc q h) hFc (fun r u t H1 locs ht hvm hw hB hz1 hk1 hS => ?_)
  obtain ⟨z, rfl, hz⟩ := hw
  obtain ⟨hP1, hK1, hD1⟩ := hB
  rw [ht] at hP1
  exact kk z u hz H1 locs ls hP1 (hD1.weaken fun _ _ _ h => hFc _ h) hS hl
end GCL
