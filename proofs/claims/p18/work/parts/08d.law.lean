/-! the law's walk: rows -/
def sc (xs : Nat → Int32) (i : Int) : Int := (xs i.toNat).toInt
theorem sc_ir (xs : Nat → Int32) (i : Int) : IR (sc xs i) := z_ir _
theorem StX.mem {cI cB cJ : ClassId} {hx : Nat} {sn sk sd se : Int} {sb : Nat → Int} {wx : va_W} (h : StX cI cB cJ hx sn sk sd se sb wx) : ∃ fs : List Value, (hx, (Sum.inr (8, fs) : va_E)) ∈ wx := by
  obtain ⟨ht, hc1, hc2, hbo, hob, hrs, hlr, hl1, hl2, hmk, htr, hkp, htg, st, b0, b1, b2, b3, b4, b5, b6, b7, b8, b9, b10, b11, b12, b13, hb0, hb1, hb2, hb3, hb4, hb5, hb6, hb7, hb8, hb9, hb10, hb11, hb12, hb13, hperm⟩ := h
  obtain ⟨q, v1, v2, f1, f2, g1, rfl⟩ := hb0
  refine ⟨_, hperm.mem_iff.mpr ((List.mem_append_left _ (List.mem_append_left _ (List.mem_append_left _ (List.mem_append_left _ (List.mem_append_left _ (List.mem_append_left _ (List.mem_append_left _ (List.mem_append_left _ (List.mem_append_left _ (List.mem_append_left _ (List.mem_append_left _ (List.mem_append_left _ (List.mem_append_left _ (List.mem_cons_self : (hx, _) ∈ wX9 cI cB cJ hx q ht hc1 hc2 hbo hob hrs hlr hl1 hl2 hmk htr hkp htg v1 v2)))))))))))))))⟩
theorem BX10.mem {cI cB cJ : ClassId} {hm : Nat} {sn sk sd se : Int} {sb : Nat → Int} {wm : va_W} (h : BX10 cI cB cJ hm sn sk sd se sb wm) : ∃ fs : List Value, (hm, (Sum.inr (9, fs) : va_E)) ∈ wm := by
  refine BX10.elim h (fun q v_stalls v_claimMany v_taped v_place0 v_length0 v_fault v_number0 v_open v_codeMany v_waiting v_saidMany v_clauses v_newMany v_newStalls v_lines v_salesNow v_outNow v_isKept v_keptStalls v_now v_aside v_kept v_oneOf v_otherOf v_signOf v_byOf v_tape v_said v_waitsAt v_saidLetter v_saidFrom v_saidHalf v_saidTo v_codes v_clauseOf v_codeFrom v_codeHalf v_codeTo v_stack v_facts v_newOne v_newOther v_newSign v_newBy v_moreOf v_firstOf v_toldOf v_mostOf v_mostThen v_sumTo v_rowFrom v_ordersOf v_lessOf v_weightOf v_rowNow v_slowRow v_fastRow v_lineNow v_firstLine v_freeBy v_heldBy v_heightOf v_upTo v_downTo v_oftenOf v_newUpper v_newLower F_stalls F_claimMany F_taped F_place0 F_length0 F_fault F_number0 F_open F_codeMany F_waiting F_saidMany F_clauses F_newMany F_newStalls F_lines F_salesNow F_outNow F_isKept F_keptStalls F_now F_aside F_kept F_oneOf F_otherOf F_signOf F_byOf F_tape F_said F_waitsAt F_saidLetter F_saidFrom F_saidHalf F_saidTo F_codes F_clauseOf F_codeFrom F_codeHalf F_codeTo F_stack F_facts F_newOne F_newOther F_newSign F_newBy F_moreOf F_firstOf F_toldOf F_mostOf F_mostThen F_sumTo F_rowFrom F_ordersOf F_lessOf F_weightOf F_slowRow F_fastRow F_lineNow F_firstLine F_freeBy F_heldBy F_heightOf F_upTo F_downTo F_oftenOf F_newUpper F_newLower LI_ E0 E1 E2 E3 EB e => ?_)
  subst e
  exact ⟨_, (List.mem_cons_self : (hm, _) ∈ wX10 cI cB cJ hm q v_stalls v_claimMany v_taped v_place0 v_length0 v_fault v_number0 v_open v_codeMany v_waiting v_saidMany v_clauses v_newMany v_newStalls v_lines v_salesNow v_outNow v_isKept v_keptStalls v_now v_aside v_kept v_oneOf v_otherOf v_signOf v_byOf v_tape v_said v_waitsAt v_saidLetter v_saidFrom v_saidHalf v_saidTo v_codes v_clauseOf v_codeFrom v_codeHalf v_codeTo v_stack v_facts v_newOne v_newOther v_newSign v_newBy v_moreOf v_firstOf v_toldOf v_mostOf v_mostThen v_sumTo v_rowFrom v_ordersOf v_lessOf v_weightOf v_rowNow v_slowRow v_fastRow v_lineNow v_firstLine v_freeBy v_heldBy v_heightOf v_upTo v_downTo v_oftenOf v_newUpper v_newLower)⟩
/-- the world of the law: the class's and the reference's, with the same state -/
def WW (cI cB cJ : ClassId) (hx hm : Nat) (ws : va_W) : Prop := ∃ (sn sk sd se : Int) (sb : Nat → Int) (wx wm : va_W), StX cI cB cJ hx sn sk sd se sb wx ∧ BX10 cI cB cJ hm sn sk sd se sb wm ∧ ws.Perm (wx ++ wm)
section GL
variable {p : Program} {l : Launch} {e : Env} {R : Room} {s : State} {m : MethodId} {args : Array Value} {below : List Frame} {meth : Method} {c : Code} {cells slots : Nat} {Q : State → Prop} {cc : ByteArray} {pc nL : Nat} {D : va_G} {tys : List (ClassId × FieldType)} {ws : va_W} {A : Nat → Prop} {H0 : Heap} {lv : List (Nat × Value)} {st : List Value} {own : String}
variable {y : MethodName} {bytes : ByteArray} {maxL n index mc ms : Nat} {ret : Option FieldType} {rm : Room} {C : String} {b : Nat} {As st0 : List Value}
theorem g_pop2 (X : CX p m c cc nL s args own D tys A H0) {z : Int} (hdg : decode cc pc = .ok (.pop2, 1)) (kk : GG p l e R s m args below meth c cells slots Q D A H0 nL ws (pc + 1) lv st) : GG p l e R s m args below meth c cells slots Q D A H0 nL ws pc lv (vL z :: st) := fun H locs ls hP hD hS hl => lv_pop2_2 X.1.1 X.1.2.1 hdg rfl (kk H locs ls hP hD hS hl)
theorem g_sld (X : CX p m c cc nL s args own D tys A s.heap) {L : Nat} {xs : Nat → Int32} (hX : va_X b L xs s s.heap) (hbl : b < s.heap.size) (hbA : ¬ A b) (hL : L ≤ 3072) {i : Int} (hin : 0 ≤ i ∧ i < L) (hdg : decode cc pc = .ok (.iaload, 1)) (kk : GG p l e R s m args below meth c cells slots Q D A s.heap nL ws (pc + 1) lv (vI (sc xs i) :: st)) : GG p l e R s m args below meth c cells slots Q D A s.heap nL ws pc lv (vI i :: .ref b :: st) := fun H locs ls hP hD hS hl => va_sld X.1.1 X.1.2.1 hX hbl hbA hS (zI_in hin.1 hin.2 (by omega)) hdg (by
  rw [zI_cl hin.1 (by omega)]
  have h1 : (Value.int (xs i.toNat)) = vI (sc xs i) := congrArg Value.int (Int32.ofInt_toInt (xs i.toNat)).symm
  rw [h1]
  exact kk H locs ls hP hD hS hl)
theorem g_slen (X : CX p m c cc nL s args own D tys A s.heap) {L : Nat} {xs : Nat → Int32} (hX : va_X b L xs s s.heap) (hbl : b < s.heap.size) (hbA : ¬ A b) (hdg : decode cc pc = .ok (.arraylength, 1)) (kk : GG p l e R s m args below meth c cells slots Q D A s.heap nL ws (pc + 1) lv (vI (L : Int) :: st)) : GG p l e R s m args below meth c cells slots Q D A s.heap nL ws pc lv (.ref b :: st) := fun H locs ls hP hD hS hl => va_slen X.1.1 X.1.2.1 hX hbl hbA hS hdg (by
  have h1 : (Value.int (Int32.ofNat L)) = vI (L : Int) := congrArg Value.int (Int32.ofInt_eq_ofNat).symm
  rw [h1]
  exact kk H locs ls hP hD hS hl)
theorem g_callVIJ0 (X : CX p m c cc nL s args own D tys A H0)  {post : Int → va_W → Prop} (hM : CtIJ l y bytes maxL ret rm D tys ws (.ref b :: As) post mc ms) (cv : CalV C y bytes maxL ret n) (hlk : Cond.methodLink own index y ∈ lw_U) (hrm : rm.cells = mc ∧ rm.slots = ms ∧ rm.frames + 1 ≤ R.frames ∧ 8 + (maxL + 11) + rm.locals ≤ R.locals) {ci : Nat} {r : vw_C} {fs : List Value} (q0 : Nat) (he : ws[q0]? = some (b, .inr (ci, fs))) (hc : vwCl[ci]? = some r) (hrC : r.1 = C) (hn : As.length = n) (hst0 : st0 = As.reverse ++ .ref b :: st) (hcat : (st.map fun v => v.category).sum ≤ 8) (hcs : cells + mc ≤ R.cells ∧ slots + ms ≤ R.slots) (hdg : decode cc pc = .ok (.invokevirtual index, 3)) (kk : ∀ (z : Int) (ws1 : va_W), post z ws1 → GG p l e R s m args below meth c (cells + mc) (slots + ms) Q D A H0 nL ws1 (pc + 3) lv (vI z :: st)) : GG p l e R s m args below meth c cells slots Q D A H0 nL ws pc lv st0 := by
  intro H locs ls hP hD hS hl
  subst hst0
  have hPc := hP
  have hDc := hD
  have hFc := va_freeA hD hS X.2.2.1
  refine va_calli (va_runV (As := As) (rest := st) X.1 (hM H.size) (CalVJ_w cv X.1.2.2.2.2 hlk hrm) ⟨fun a U g mk q => by obtain ⟨q0, q1, qP, qK, qD, qN, qZ⟩ := q; exact ⟨q0, q1, qP, va_K.moved (u := U) (U := U.calling g mk a) (Vm.Alike.refl U.vm) qK, qD, NK.same (u := U) (U := U.calling g mk a) rfl qN, SZ.same (u := U) (U := U.calling g mk a) rfl qZ⟩, hrC ▸ va_recv X.2.1 hPc hc he, fun U hU hW => ⟨rfl, by rw [hU], by rw [hU]; exact hPc, va_K.moved hW.alike X.2.1, hDc.weaken (fun _ _ _ _ => trivial), NK.warm hW X.2.2.2.1, by rw [hU]; exact SZ.call X.2.2.2.2 hS hFc hW⟩⟩ rfl hn hl.1 rfl (lv_room hcat) hdg hcs) hS (fun q _ h => hFc q h) hFc (fun r u t H1 locs ht hvm hw hB hz1 hk1 hS => ?_)
  obtain ⟨z, rfl, hz⟩ := hw
  obtain ⟨hP1, hK1, hD1⟩ := hB
  rw [ht] at hP1
  exact kk z u hz H1 locs ls hP1 (hD1.weaken fun _ _ _ h => hFc _ h) hS hl
theorem g_fxI {h : Nat} {wx wm : va_W} (X : CX p m c cc nL s args own D tys A H0) (hp : ws.Perm (wx ++ wm)) {post : Int → va_W → Prop} (hM : CtI l y bytes maxL ret rm D tys wx (.ref h :: As) post) (hm : ∃ fs : List Value, (h, (Sum.inr (8, fs) : va_E)) ∈ wx) (cv : CalV RX9 y bytes maxL ret n) (hlk : Cond.methodLink own index y ∈ lw_U) (hrm : rm.cells = 0 ∧ rm.slots = 0 ∧ rm.frames + 1 ≤ R.frames ∧ 8 + (maxL + 11) + rm.locals ≤ R.locals) (hn : As.length = n) (hst0 : st0 = As.reverse ++ .ref h :: st) (hcat : (st.map fun v => v.category).sum ≤ 8) (hcs : cells ≤ R.cells ∧ slots ≤ R.slots) (hdg : decode cc pc = .ok (.invokevirtual index, 3)) (kk : ∀ (z : Int) (w1 : va_W), post z w1 → GG p l e R s m args below meth c cells slots Q D A H0 nL (w1 ++ wm) (pc + 3) lv (vI z :: st)) : GG p l e R s m args below meth c cells slots Q D A H0 nL ws pc lv st0 := by
  obtain ⟨fs, hf⟩ := hm
  obtain ⟨k, hk⟩ := va_memI (hp.mem_iff.mpr (List.mem_append_left _ hf))
  exact g_callVI0 X (CtI.frame hM hp) cv hlk hrm k hk rfl rfl hn hst0 hcat hcs hdg (fun z w h => by
    obtain ⟨w1, hw, rfl⟩ := h
    exact kk z w1 hw)
theorem g_fxL {h : Nat} {wx wm : va_W} (X : CX p m c cc nL s args own D tys A H0) (hp : ws.Perm (wx ++ wm)) {post : Int → va_W → Prop} (hM : CtL l y bytes maxL ret rm D tys wx (.ref h :: As) post) (hm : ∃ fs : List Value, (h, (Sum.inr (8, fs) : va_E)) ∈ wx) (cv : CalV RX9 y bytes maxL ret n) (hlk : Cond.methodLink own index y ∈ lw_U) (hrm : rm.cells = 0 ∧ rm.slots = 0 ∧ rm.frames + 1 ≤ R.frames ∧ 8 + (maxL + 11) + rm.locals ≤ R.locals) (hn : As.length = n) (hst0 : st0 = As.reverse ++ .ref h :: st) (hcat : (st.map fun v => v.category).sum ≤ 8) (hcs : cells ≤ R.cells ∧ slots ≤ R.slots) (hdg : decode cc pc = .ok (.invokevirtual index, 3)) (kk : ∀ (z : Int) (w1 : va_W), post z w1 → GG p l e R s m args below meth c cells slots Q D A H0 nL (w1 ++ wm) (pc + 3) lv (vL z :: st)) : GG p l e R s m args below meth c cells slots Q D A H0 nL ws pc lv st0 := by
  obtain ⟨fs, hf⟩ := hm
  obtain ⟨k, hk⟩ := va_memI (hp.mem_iff.mpr (List.mem_append_left _ hf))
  exact g_callVL0 X (CtL.frame hM hp) cv hlk hrm k hk rfl rfl hn hst0 hcat hcs hdg (fun z w h => by
    obtain ⟨w1, hw, rfl⟩ := h
    exact kk z w1 hw)
theorem g_fxIJ {h : Nat} {wx wm : va_W} (X : CX p m c cc nL s args own D tys A H0) (hp : ws.Perm (wx ++ wm)) {post : Int → va_W → Prop} (hM : CtIJ l y bytes maxL ret rm D tys wx (.ref h :: As) post mc ms) (hm : ∃ fs : List Value, (h, (Sum.inr (8, fs) : va_E)) ∈ wx) (cv : CalV RX9 y bytes maxL ret n) (hlk : Cond.methodLink own index y ∈ lw_U) (hrm : rm.cells = mc ∧ rm.slots = ms ∧ rm.frames + 1 ≤ R.frames ∧ 8 + (maxL + 11) + rm.locals ≤ R.locals) (hn : As.length = n) (hst0 : st0 = As.reverse ++ .ref h :: st) (hcat : (st.map fun v => v.category).sum ≤ 8) (hcs : cells + mc ≤ R.cells ∧ slots + ms ≤ R.slots) (hdg : decode cc pc = .ok (.invokevirtual index, 3)) (kk : ∀ (z : Int) (w1 : va_W), post z w1 → GG p l e R s m args below meth c (cells + mc) (slots + ms) Q D A H0 nL (w1 ++ wm) (pc + 3) lv (vI z :: st)) : GG p l e R s m args below meth c cells slots Q D A H0 nL ws pc lv st0 := by
  obtain ⟨fs, hf⟩ := hm
  obtain ⟨k, hk⟩ := va_memI (hp.mem_iff.mpr (List.mem_append_left _ hf))
  exact g_callVIJ0 X (CtIJ.frame hM hp) cv hlk hrm k hk rfl rfl hn hst0 hcat hcs hdg (fun z w h => by
    obtain ⟨w1, hw, rfl⟩ := h
    exact kk z w1 hw)
theorem g_fmI {h : Nat} {wx wm : va_W} (X : CX p m c cc nL s args own D tys A H0) (hp : ws.Perm (wx ++ wm)) {post : Int → va_W → Prop} (hM : CtI l y bytes maxL ret rm D tys wm (.ref h :: As) post) (hm : ∃ fs : List Value, (h, (Sum.inr (9, fs) : va_E)) ∈ wm) (cv : CalV RX10 y bytes maxL ret n) (hlk : Cond.methodLink own index y ∈ lw_U) (hrm : rm.cells = 0 ∧ rm.slots = 0 ∧ rm.frames + 1 ≤ R.frames ∧ 8 + (maxL + 11) + rm.locals ≤ R.locals) (hn : As.length = n) (hst0 : st0 = As.reverse ++ .ref h :: st) (hcat : (st.map fun v => v.category).sum ≤ 8) (hcs : cells ≤ R.cells ∧ slots ≤ R.slots) (hdg : decode cc pc = .ok (.invokevirtual index, 3)) (kk : ∀ (z : Int) (w1 : va_W), post z w1 → GG p l e R s m args below meth c cells slots Q D A H0 nL (wx ++ w1) (pc + 3) lv (vI z :: st)) : GG p l e R s m args below meth c cells slots Q D A H0 nL ws pc lv st0 := by
  obtain ⟨fs, hf⟩ := hm
  obtain ⟨k, hk⟩ := va_memI (hp.mem_iff.mpr (List.mem_append_right _ hf))
  exact g_callVI0 X (CtI.frame hM (hp.trans List.perm_append_comm)) cv hlk hrm k hk rfl rfl hn hst0 hcat hcs hdg (fun z w h => by
    obtain ⟨w1, hw, rfl⟩ := h
    exact g_permP List.perm_append_comm (kk z w1 hw))
theorem g_fmL {h : Nat} {wx wm : va_W} (X : CX p m c cc nL s args own D tys A H0) (hp : ws.Perm (wx ++ wm)) {post : Int → va_W → Prop} (hM : CtL l y bytes maxL ret rm D tys wm (.ref h :: As) post) (hm : ∃ fs : List Value, (h, (Sum.inr (9, fs) : va_E)) ∈ wm) (cv : CalV RX10 y bytes maxL ret n) (hlk : Cond.methodLink own index y ∈ lw_U) (hrm : rm.cells = 0 ∧ rm.slots = 0 ∧ rm.frames + 1 ≤ R.frames ∧ 8 + (maxL + 11) + rm.locals ≤ R.locals) (hn : As.length = n) (hst0 : st0 = As.reverse ++ .ref h :: st) (hcat : (st.map fun v => v.category).sum ≤ 8) (hcs : cells ≤ R.cells ∧ slots ≤ R.slots) (hdg : decode cc pc = .ok (.invokevirtual index, 3)) (kk : ∀ (z : Int) (w1 : va_W), post z w1 → GG p l e R s m args below meth c cells slots Q D A H0 nL (wx ++ w1) (pc + 3) lv (vL z :: st)) : GG p l e R s m args below meth c cells slots Q D A H0 nL ws pc lv st0 := by
  obtain ⟨fs, hf⟩ := hm
  obtain ⟨k, hk⟩ := va_memI (hp.mem_iff.mpr (List.mem_append_right _ hf))
  exact g_callVL0 X (CtL.frame hM (hp.trans List.perm_append_comm)) cv hlk hrm k hk rfl rfl hn hst0 hcat hcs hdg (fun z w h => by
    obtain ⟨w1, hw, rfl⟩ := h
    exact g_permP List.perm_append_comm (kk z w1 hw))
end GL
set_option maxHeartbeats 1000000 in
theorem law_feed {p : Program} {l : Launch} {e : Env} {R : Room} {s : State} {m : MethodId} {args : Array Value} {below : List Frame} {meth : Method} {c : Code} {cells slots : Nat} {Q : State → Prop} {D : va_G} {cI cB cJ : ClassId} {A : Nat → Prop} {hx hm b L : Nat} {xs : Nat → Int32} {ws : va_W} {i : Int} (X : CX p m c code 4 s args RL D (TY cI cB cJ) A s.heap) (hX : va_X b L xs s s.heap) (hbl : b < s.heap.size) (hbA : ¬ A b) (hL : L ≤ 3072) (hR : (∀ k, k ≤ 1000 → k ≤ R.frames) ∧ ∀ k, k ≤ 20000 → k ≤ R.locals) (hc : cells + 2 ≤ R.cells ∧ slots + 8 ≤ R.slots) (hi : 0 ≤ i ∧ i + 6 ≤ L) (hW : WW cI cB cJ hx hm ws) (kk : ∀ ws1, WW cI cB cJ hx hm ws1 → GG p l e R s m args below meth c (cells + 2) (slots + 8) Q D A s.heap 4 ws1 1295 [(3, vI i), (2, .ref hm), (1, .ref hx), (0, .ref b)] []) : GG p l e R s m args below meth c cells slots Q D A s.heap 4 ws 200 [(3, vI i), (2, .ref hm), (1, .ref hx), (0, .ref b)] [] := by
  obtain ⟨sn, sk, sd, se, sb, wx, wm, h1, h2, hp⟩ := hW
  have hg := h1.rg
  refine g_aload_n X dL_law_200 2 rfl ?_
  refine g_aload_n X dL_law_201 3 rfl ?_
  refine g_iload_n X dL_law_202 0 rfl ?_
  refine g_iconst X dL_law_203 ?_
  refine g_iadd X dL_law_204 ?_
  refine g_sld X hX hbl hbA hL (by omega) dL_law_205 ?_
  refine g_aload_n X dL_law_206 3 rfl ?_
  refine g_iload_n X dL_law_207 0 rfl ?_
  refine g_iconst X dL_law_208 ?_
  refine g_iadd X dL_law_209 ?_
  refine g_sld X hX hbl hbA hL (by omega) dL_law_210 ?_
  refine g_aload_n X dL_law_211 3 rfl ?_
  refine g_iload_n X dL_law_212 0 rfl ?_
  refine g_iconst X dL_law_213 ?_
  refine g_iadd X dL_law_214 ?_
  refine g_sld X hX hbl hbA hL (by omega) dL_law_215 ?_
  refine g_aload_n X dL_law_216 3 rfl ?_
  refine g_iload_n X dL_law_217 0 rfl ?_
  refine g_iconst X dL_law_218 ?_
  refine g_iadd X dL_law_219 ?_
  refine g_sld X hX hbl hbA hL (by omega) dL_law_220 ?_
  refine g_aload_n X dL_law_221 3 rfl ?_
  refine g_iload_n X dL_law_222 0 rfl ?_
  refine g_iconst X dL_law_223 ?_
  refine g_iadd X dL_law_224 ?_
  refine g_sld X hX hbl hbA hL (by omega) dL_law_225 ?_
  refine g_fxI X hp (x_X9_feed l D cI cB cJ hx h1 (p0 := sc xs (i + 1)) (p1 := sc xs (i + 2)) (p2 := sc xs (i + 3)) (p3 := sc xs (i + 4)) (p4 := sc xs (i + 5)) (sc_ir _ _) (sc_ir _ _) (sc_ir _ _) (sc_ir _ _) (sc_ir _ _)) h1.mem cv_X9_feed uw457 ⟨rfl, rfl, hR.1 _ (by decide), hR.2 _ (by decide)⟩ rfl rfl (Nat.le_of_ble_eq_true rfl) ⟨Nat.le_trans (by omega) hc.1, Nat.le_trans (by omega) hc.2⟩ dL_law_226 (fun z226 w226 k226 => ?_)
  obtain ⟨n1, k1, d1, e1, h3, r1⟩ := k226
  refine g_pop X rfl dL_law_229 ?_
  refine g_aload_n X dL_law_230 1 rfl ?_
  refine g_aload_n X dL_law_231 3 rfl ?_
  refine g_iload_n X dL_law_232 0 rfl ?_
  refine g_iconst X dL_law_233 ?_
  refine g_iadd X dL_law_234 ?_
  refine g_sld X hX hbl hbA hL (by omega) dL_law_235 ?_
  refine g_aload_n X dL_law_236 3 rfl ?_
  refine g_iload_n X dL_law_237 0 rfl ?_
  refine g_iconst X dL_law_238 ?_
  refine g_iadd X dL_law_239 ?_
  refine g_sld X hX hbl hbA hL (by omega) dL_law_240 ?_
  refine g_aload_n X dL_law_241 3 rfl ?_
  refine g_iload_n X dL_law_242 0 rfl ?_
  refine g_iconst X dL_law_243 ?_
  refine g_iadd X dL_law_244 ?_
  refine g_sld X hX hbl hbA hL (by omega) dL_law_245 ?_
  refine g_aload_n X dL_law_246 3 rfl ?_
  refine g_iload_n X dL_law_247 0 rfl ?_
  refine g_iconst X dL_law_248 ?_
  refine g_iadd X dL_law_249 ?_
  refine g_sld X hX hbl hbA hL (by omega) dL_law_250 ?_
  refine g_aload_n X dL_law_251 3 rfl ?_
  refine g_iload_n X dL_law_252 0 rfl ?_
  refine g_iconst X dL_law_253 ?_
  refine g_iadd X dL_law_254 ?_
  refine g_sld X hX hbl hbA hL (by omega) dL_law_255 ?_
  refine g_fmI X (List.Perm.refl _) (m_X10_feed l D cI cB cJ hm h2 (p0 := sc xs (i + 1)) (p1 := sc xs (i + 2)) (p2 := sc xs (i + 3)) (p3 := sc xs (i + 4)) (p4 := sc xs (i + 5)) (sc_ir _ _) (sc_ir _ _) (sc_ir _ _) (sc_ir _ _) (sc_ir _ _)) h2.mem cv_X10_feed uw1382 ⟨rfl, rfl, hR.1 _ (by decide), hR.2 _ (by decide)⟩ rfl rfl (Nat.le_of_ble_eq_true rfl) ⟨Nat.le_trans (by omega) hc.1, Nat.le_trans (by omega) hc.2⟩ dL_law_256 (fun z256 w256 k256 => ?_)
  obtain ⟨n2, k2, d2, e2, h4, r2⟩ := k256
  refine g_pop X rfl dL_law_259 ?_
  refine g_goto X (tgt := 1295) dL_law_260 (by decide) ?_
  obtain ⟨rfl, rfl, rfl, rfl⟩ : n2 = n1 ∧ k2 = k1 ∧ d2 = d1 ∧ e2 = e1 := by omega
  exact g_widen (by omega) (by omega) (kk _ ⟨_, _, _, _, _, _, _, h3, h4, List.Perm.refl _⟩)
set_option maxHeartbeats 1000000 in
theorem law_law {p : Program} {l : Launch} {e : Env} {R : Room} {s : State} {m : MethodId} {args : Array Value} {below : List Frame} {meth : Method} {c : Code} {cells slots : Nat} {Q : State → Prop} {D : va_G} {cI cB cJ : ClassId} {A : Nat → Prop} {hx hm b L : Nat} {xs : Nat → Int32} {ws : va_W} {i : Int} (X : CX p m c code 4 s args RL D (TY cI cB cJ) A s.heap) (hX : va_X b L xs s s.heap) (hbl : b < s.heap.size) (hbA : ¬ A b) (hL : L ≤ 3072) (hR : (∀ k, k ≤ 1000 → k ≤ R.frames) ∧ ∀ k, k ≤ 20000 → k ≤ R.locals) (hc : cells + 2 ≤ R.cells ∧ slots + 8 ≤ R.slots) (hi : 0 ≤ i ∧ i + 6 ≤ L) (hW : WW cI cB cJ hx hm ws) (kk : ∀ ws1, WW cI cB cJ hx hm ws1 → GG p l e R s m args below meth c (cells + 2) (slots + 8) Q D A s.heap 4 ws1 1295 [(3, vI i), (2, .ref hm), (1, .ref hx), (0, .ref b)] []) : GG p l e R s m args below meth c cells slots Q D A s.heap 4 ws 263 [(3, vI i), (2, .ref hm), (1, .ref hx), (0, .ref b)] [] := by
  obtain ⟨sn, sk, sd, se, sb, wx, wm, h1, h2, hp⟩ := hW
  have hg := h1.rg
  refine g_aload_n X dL_law_263 2 rfl ?_
  refine g_aload_n X dL_law_264 3 rfl ?_
  refine g_iload_n X dL_law_265 0 rfl ?_
  refine g_iconst X dL_law_266 ?_
  refine g_iadd X dL_law_267 ?_
  refine g_sld X hX hbl hbA hL (by omega) dL_law_268 ?_
  refine g_fxI X hp (x_X9_law l D cI cB cJ hx h1 (p0 := sc xs (i + 1)) (sc_ir _ _)) h1.mem cv_X9_law uw469 ⟨rfl, rfl, hR.1 _ (by decide), hR.2 _ (by decide)⟩ rfl rfl (Nat.le_of_ble_eq_true rfl) ⟨Nat.le_trans (by omega) hc.1, Nat.le_trans (by omega) hc.2⟩ dL_law_269 (fun z269 w269 k269 => ?_)
  obtain ⟨n1, k1, d1, e1, h3, r1⟩ := k269
  refine g_pop X rfl dL_law_272 ?_
  refine g_aload_n X dL_law_273 1 rfl ?_
  refine g_aload_n X dL_law_274 3 rfl ?_
  refine g_iload_n X dL_law_275 0 rfl ?_
  refine g_iconst X dL_law_276 ?_
  refine g_iadd X dL_law_277 ?_
  refine g_sld X hX hbl hbA hL (by omega) dL_law_278 ?_
  refine g_fmI X (List.Perm.refl _) (m_X10_law l D cI cB cJ hm h2 (p0 := sc xs (i + 1)) (sc_ir _ _)) h2.mem cv_X10_law uw1390 ⟨rfl, rfl, hR.1 _ (by decide), hR.2 _ (by decide)⟩ rfl rfl (Nat.le_of_ble_eq_true rfl) ⟨Nat.le_trans (by omega) hc.1, Nat.le_trans (by omega) hc.2⟩ dL_law_279 (fun z279 w279 k279 => ?_)
  obtain ⟨n2, k2, d2, e2, h4, r2⟩ := k279
  refine g_pop X rfl dL_law_282 ?_
  refine g_goto X (tgt := 1295) dL_law_283 (by decide) ?_
  obtain ⟨rfl, rfl, rfl, rfl⟩ : n2 = n1 ∧ k2 = k1 ∧ d2 = d1 ∧ e2 = e1 := by omega
  exact g_widen (by omega) (by omega) (kk _ ⟨_, _, _, _, _, _, _, h3, h4, List.Perm.refl _⟩)
set_option maxHeartbeats 1000000 in
theorem law_claims {p : Program} {l : Launch} {e : Env} {R : Room} {s : State} {m : MethodId} {args : Array Value} {below : List Frame} {meth : Method} {c : Code} {cells slots : Nat} {Q : State → Prop} {D : va_G} {cI cB cJ : ClassId} {A : Nat → Prop} {hx hm b L : Nat} {xs : Nat → Int32} {ws : va_W} {i : Int} (X : CX p m c code 4 s args RL D (TY cI cB cJ) A s.heap) (hX : va_X b L xs s s.heap) (hbl : b < s.heap.size) (hbA : ¬ A b) (hL : L ≤ 3072) (hR : (∀ k, k ≤ 1000 → k ≤ R.frames) ∧ ∀ k, k ≤ 20000 → k ≤ R.locals) (hc : cells + 2 ≤ R.cells ∧ slots + 8 ≤ R.slots) (hi : 0 ≤ i ∧ i + 6 ≤ L) (hW : WW cI cB cJ hx hm ws) (kk : ∀ ws1, WW cI cB cJ hx hm ws1 → GG p l e R s m args below meth c (cells + 2) (slots + 8) Q D A s.heap 4 ws1 1295 [(3, vI i), (2, .ref hm), (1, .ref hx), (0, .ref b)] []) : GG p l e R s m args below meth c cells slots Q D A s.heap 4 ws 286 [(3, vI i), (2, .ref hm), (1, .ref hx), (0, .ref b)] [] := by
  obtain ⟨sn, sk, sd, se, sb, wx, wm, h1, h2, hp⟩ := hW
  have hg := h1.rg
  refine g_aload_n X dL_law_286 2 rfl ?_
  refine g_aload_n X dL_law_287 3 rfl ?_
  refine g_iload_n X dL_law_288 0 rfl ?_
  refine g_iconst X dL_law_289 ?_
  refine g_iadd X dL_law_290 ?_
  refine g_sld X hX hbl hbA hL (by omega) dL_law_291 ?_
  refine g_fxI X hp (x_X9_claims l D cI cB cJ hx h1 (p0 := sc xs (i + 1)) (sc_ir _ _)) h1.mem cv_X9_claims uw629 ⟨rfl, rfl, hR.1 _ (by decide), hR.2 _ (by decide)⟩ rfl rfl (Nat.le_of_ble_eq_true rfl) ⟨Nat.le_trans (by omega) hc.1, Nat.le_trans (by omega) hc.2⟩ dL_law_292 (fun z292 w292 k292 => ?_)
  obtain ⟨n1, k1, d1, e1, h3, r1⟩ := k292
  refine g_pop X rfl dL_law_295 ?_
  refine g_aload_n X dL_law_296 1 rfl ?_
  refine g_aload_n X dL_law_297 3 rfl ?_
  refine g_iload_n X dL_law_298 0 rfl ?_
  refine g_iconst X dL_law_299 ?_
  refine g_iadd X dL_law_300 ?_
  refine g_sld X hX hbl hbA hL (by omega) dL_law_301 ?_
  refine g_fmI X (List.Perm.refl _) (m_X10_claims l D cI cB cJ hm h2 (p0 := sc xs (i + 1)) (sc_ir _ _)) h2.mem cv_X10_claims uw1480 ⟨rfl, rfl, hR.1 _ (by decide), hR.2 _ (by decide)⟩ rfl rfl (Nat.le_of_ble_eq_true rfl) ⟨Nat.le_trans (by omega) hc.1, Nat.le_trans (by omega) hc.2⟩ dL_law_302 (fun z302 w302 k302 => ?_)
  obtain ⟨n2, k2, d2, e2, h4, r2⟩ := k302
  refine g_pop X rfl dL_law_305 ?_
  refine g_goto X (tgt := 1295) dL_law_306 (by decide) ?_
  obtain ⟨rfl, rfl, rfl, rfl⟩ : n2 = n1 ∧ k2 = k1 ∧ d2 = d1 ∧ e2 = e1 := by omega
  exact g_widen (by omega) (by omega) (kk _ ⟨_, _, _, _, _, _, _, h3, h4, List.Perm.refl _⟩)
set_option maxHeartbeats 1000000 in
theorem law_stock {p : Program} {l : Launch} {e : Env} {R : Room} {s : State} {m : MethodId} {args : Array Value} {below : List Frame} {meth : Method} {c : Code} {cells slots : Nat} {Q : State → Prop} {D : va_G} {cI cB cJ : ClassId} {A : Nat → Prop} {hx hm b L : Nat} {xs : Nat → Int32} {ws : va_W} {i : Int} (X : CX p m c code 4 s args RL D (TY cI cB cJ) A s.heap) (hX : va_X b L xs s s.heap) (hbl : b < s.heap.size) (hbA : ¬ A b) (hL : L ≤ 3072) (hR : (∀ k, k ≤ 1000 → k ≤ R.frames) ∧ ∀ k, k ≤ 20000 → k ≤ R.locals) (hc : cells + 2 ≤ R.cells ∧ slots + 8 ≤ R.slots) (hi : 0 ≤ i ∧ i + 6 ≤ L) (hW : WW cI cB cJ hx hm ws) (kk : ∀ ws1, WW cI cB cJ hx hm ws1 → GG p l e R s m args below meth c (cells + 2) (slots + 8) Q D A s.heap 4 ws1 1295 [(3, vI i), (2, .ref hm), (1, .ref hx), (0, .ref b)] []) : GG p l e R s m args below meth c cells slots Q D A s.heap 4 ws 309 [(3, vI i), (2, .ref hm), (1, .ref hx), (0, .ref b)] [] := by
  obtain ⟨sn, sk, sd, se, sb, wx, wm, h1, h2, hp⟩ := hW
  have hg := h1.rg
  refine g_aload_n X dL_law_309 2 rfl ?_
  refine g_aload_n X dL_law_310 3 rfl ?_
  refine g_iload_n X dL_law_311 0 rfl ?_
  refine g_iconst X dL_law_312 ?_
  refine g_iadd X dL_law_313 ?_
  refine g_sld X hX hbl hbA hL (by omega) dL_law_314 ?_
  refine g_fxI X hp (x_X9_stock l D cI cB cJ hx h1 (p0 := sc xs (i + 1)) (sc_ir _ _)) h1.mem cv_X9_stock uw665 ⟨rfl, rfl, hR.1 _ (by decide), hR.2 _ (by decide)⟩ rfl rfl (Nat.le_of_ble_eq_true rfl) ⟨Nat.le_trans (by omega) hc.1, Nat.le_trans (by omega) hc.2⟩ dL_law_315 (fun z315 w315 k315 => ?_)
  obtain ⟨n1, k1, d1, e1, h3, r1⟩ := k315
  refine g_pop X rfl dL_law_318 ?_
  refine g_aload_n X dL_law_319 1 rfl ?_
  refine g_aload_n X dL_law_320 3 rfl ?_
  refine g_iload_n X dL_law_321 0 rfl ?_
  refine g_iconst X dL_law_322 ?_
  refine g_iadd X dL_law_323 ?_
  refine g_sld X hX hbl hbA hL (by omega) dL_law_324 ?_
  refine g_fmI X (List.Perm.refl _) (m_X10_stock l D cI cB cJ hm h2 (p0 := sc xs (i + 1)) (sc_ir _ _)) h2.mem cv_X10_stock uw1745 ⟨rfl, rfl, hR.1 _ (by decide), hR.2 _ (by decide)⟩ rfl rfl (Nat.le_of_ble_eq_true rfl) ⟨Nat.le_trans (by omega) hc.1, Nat.le_trans (by omega) hc.2⟩ dL_law_325 (fun z325 w325 k325 => ?_)
  obtain ⟨n2, k2, d2, e2, h4, r2⟩ := k325
  refine g_pop X rfl dL_law_328 ?_
  refine g_goto X (tgt := 1295) dL_law_329 (by decide) ?_
  obtain ⟨rfl, rfl, rfl, rfl⟩ : n2 = n1 ∧ k2 = k1 ∧ d2 = d1 ∧ e2 = e1 := by omega
  exact g_widen (by omega) (by omega) (kk _ ⟨_, _, _, _, _, _, _, h3, h4, List.Perm.refl _⟩)
set_option maxHeartbeats 1000000 in
theorem law_known {p : Program} {l : Launch} {e : Env} {R : Room} {s : State} {m : MethodId} {args : Array Value} {below : List Frame} {meth : Method} {c : Code} {cells slots : Nat} {Q : State → Prop} {D : va_G} {cI cB cJ : ClassId} {A : Nat → Prop} {hx hm b L : Nat} {xs : Nat → Int32} {ws : va_W} {i : Int} (X : CX p m c code 4 s args RL D (TY cI cB cJ) A s.heap) (hX : va_X b L xs s s.heap) (hbl : b < s.heap.size) (hbA : ¬ A b) (hL : L ≤ 3072) (hR : (∀ k, k ≤ 1000 → k ≤ R.frames) ∧ ∀ k, k ≤ 20000 → k ≤ R.locals) (hc : cells + 2 ≤ R.cells ∧ slots + 8 ≤ R.slots) (hi : 0 ≤ i ∧ i + 6 ≤ L) (hW : WW cI cB cJ hx hm ws) (kk : ∀ ws1, WW cI cB cJ hx hm ws1 → GG p l e R s m args below meth c (cells + 2) (slots + 8) Q D A s.heap 4 ws1 1295 [(3, vI i), (2, .ref hm), (1, .ref hx), (0, .ref b)] []) : GG p l e R s m args below meth c cells slots Q D A s.heap 4 ws 332 [(3, vI i), (2, .ref hm), (1, .ref hx), (0, .ref b)] [] := by
  obtain ⟨sn, sk, sd, se, sb, wx, wm, h1, h2, hp⟩ := hW
  have hg := h1.rg
  refine g_aload_n X dL_law_332 2 rfl ?_
  refine g_aload_n X dL_law_333 3 rfl ?_
  refine g_iload_n X dL_law_334 0 rfl ?_
  refine g_iconst X dL_law_335 ?_
  refine g_iadd X dL_law_336 ?_
  refine g_sld X hX hbl hbA hL (by omega) dL_law_337 ?_
  refine g_aload_n X dL_law_338 3 rfl ?_
  refine g_iload_n X dL_law_339 0 rfl ?_
  refine g_iconst X dL_law_340 ?_
  refine g_iadd X dL_law_341 ?_
  refine g_sld X hX hbl hbA hL (by omega) dL_law_342 ?_
  refine g_fxI X hp (x_X9_known l D cI cB cJ hx h1 (p0 := sc xs (i + 1)) (p1 := sc xs (i + 2)) (sc_ir _ _) (sc_ir _ _)) h1.mem cv_X9_known uw712 ⟨rfl, rfl, hR.1 _ (by decide), hR.2 _ (by decide)⟩ rfl rfl (Nat.le_of_ble_eq_true rfl) ⟨Nat.le_trans (by omega) hc.1, Nat.le_trans (by omega) hc.2⟩ dL_law_343 (fun z343 w343 k343 => ?_)
  obtain ⟨n1, k1, d1, e1, h3, r1⟩ := k343
  refine g_pop X rfl dL_law_346 ?_
  refine g_aload_n X dL_law_347 1 rfl ?_
  refine g_aload_n X dL_law_348 3 rfl ?_
  refine g_iload_n X dL_law_349 0 rfl ?_
  refine g_iconst X dL_law_350 ?_
  refine g_iadd X dL_law_351 ?_
  refine g_sld X hX hbl hbA hL (by omega) dL_law_352 ?_
  refine g_aload_n X dL_law_353 3 rfl ?_
  refine g_iload_n X dL_law_354 0 rfl ?_
  refine g_iconst X dL_law_355 ?_
  refine g_iadd X dL_law_356 ?_
  refine g_sld X hX hbl hbA hL (by omega) dL_law_357 ?_
  refine g_fmI X (List.Perm.refl _) (m_X10_known l D cI cB cJ hm h2 (p0 := sc xs (i + 1)) (p1 := sc xs (i + 2)) (sc_ir _ _) (sc_ir _ _)) h2.mem cv_X10_known uw1515 ⟨rfl, rfl, hR.1 _ (by decide), hR.2 _ (by decide)⟩ rfl rfl (Nat.le_of_ble_eq_true rfl) ⟨Nat.le_trans (by omega) hc.1, Nat.le_trans (by omega) hc.2⟩ dL_law_358 (fun z358 w358 k358 => ?_)
  obtain ⟨n2, k2, d2, e2, h4, r2⟩ := k358
  refine g_pop X rfl dL_law_361 ?_
  refine g_goto X (tgt := 1295) dL_law_362 (by decide) ?_
  obtain ⟨rfl, rfl, rfl, rfl⟩ : n2 = n1 ∧ k2 = k1 ∧ d2 = d1 ∧ e2 = e1 := by omega
  exact g_widen (by omega) (by omega) (kk _ ⟨_, _, _, _, _, _, _, h3, h4, List.Perm.refl _⟩)
set_option maxHeartbeats 1000000 in
theorem law_groups {p : Program} {l : Launch} {e : Env} {R : Room} {s : State} {m : MethodId} {args : Array Value} {below : List Frame} {meth : Method} {c : Code} {cells slots : Nat} {Q : State → Prop} {D : va_G} {cI cB cJ : ClassId} {A : Nat → Prop} {hx hm b L : Nat} {xs : Nat → Int32} {ws : va_W} {i : Int} (X : CX p m c code 4 s args RL D (TY cI cB cJ) A s.heap) (hX : va_X b L xs s s.heap) (hbl : b < s.heap.size) (hbA : ¬ A b) (hL : L ≤ 3072) (hR : (∀ k, k ≤ 1000 → k ≤ R.frames) ∧ ∀ k, k ≤ 20000 → k ≤ R.locals) (hc : cells + 2 ≤ R.cells ∧ slots + 8 ≤ R.slots) (hi : 0 ≤ i ∧ i + 6 ≤ L) (hW : WW cI cB cJ hx hm ws) (kk : ∀ ws1, WW cI cB cJ hx hm ws1 → GG p l e R s m args below meth c (cells + 2) (slots + 8) Q D A s.heap 4 ws1 1295 [(3, vI i), (2, .ref hm), (1, .ref hx), (0, .ref b)] []) : GG p l e R s m args below meth c cells slots Q D A s.heap 4 ws 365 [(3, vI i), (2, .ref hm), (1, .ref hx), (0, .ref b)] [] := by
  obtain ⟨sn, sk, sd, se, sb, wx, wm, h1, h2, hp⟩ := hW
  have hg := h1.rg
  refine g_aload_n X dL_law_365 2 rfl ?_
  refine g_aload_n X dL_law_366 3 rfl ?_
  refine g_iload_n X dL_law_367 0 rfl ?_
  refine g_iconst X dL_law_368 ?_
  refine g_iadd X dL_law_369 ?_
  refine g_sld X hX hbl hbA hL (by omega) dL_law_370 ?_
  refine g_fxI X hp (x_X9_groups l D cI cB cJ hx h1 (p0 := sc xs (i + 1)) (sc_ir _ _)) h1.mem cv_X9_groups uw726 ⟨rfl, rfl, hR.1 _ (by decide), hR.2 _ (by decide)⟩ rfl rfl (Nat.le_of_ble_eq_true rfl) ⟨Nat.le_trans (by omega) hc.1, Nat.le_trans (by omega) hc.2⟩ dL_law_371 (fun z371 w371 k371 => ?_)
  obtain ⟨n1, k1, d1, e1, h3, r1⟩ := k371
  refine g_pop X rfl dL_law_374 ?_
  refine g_aload_n X dL_law_375 1 rfl ?_
  refine g_aload_n X dL_law_376 3 rfl ?_
  refine g_iload_n X dL_law_377 0 rfl ?_
  refine g_iconst X dL_law_378 ?_
  refine g_iadd X dL_law_379 ?_
  refine g_sld X hX hbl hbA hL (by omega) dL_law_380 ?_
  refine g_fmI X (List.Perm.refl _) (m_X10_groups l D cI cB cJ hm h2 (p0 := sc xs (i + 1)) (sc_ir _ _)) h2.mem cv_X10_groups uw1520 ⟨rfl, rfl, hR.1 _ (by decide), hR.2 _ (by decide)⟩ rfl rfl (Nat.le_of_ble_eq_true rfl) ⟨Nat.le_trans (by omega) hc.1, Nat.le_trans (by omega) hc.2⟩ dL_law_381 (fun z381 w381 k381 => ?_)
  obtain ⟨n2, k2, d2, e2, h4, r2⟩ := k381
  refine g_pop X rfl dL_law_384 ?_
  refine g_goto X (tgt := 1295) dL_law_385 (by decide) ?_
  obtain ⟨rfl, rfl, rfl, rfl⟩ : n2 = n1 ∧ k2 = k1 ∧ d2 = d1 ∧ e2 = e1 := by omega
  exact g_widen (by omega) (by omega) (kk _ ⟨_, _, _, _, _, _, _, h3, h4, List.Perm.refl _⟩)
set_option maxHeartbeats 1000000 in
theorem law_bound {p : Program} {l : Launch} {e : Env} {R : Room} {s : State} {m : MethodId} {args : Array Value} {below : List Frame} {meth : Method} {c : Code} {cells slots : Nat} {Q : State → Prop} {D : va_G} {cI cB cJ : ClassId} {A : Nat → Prop} {hx hm b L : Nat} {xs : Nat → Int32} {ws : va_W} {i : Int} (X : CX p m c code 4 s args RL D (TY cI cB cJ) A s.heap) (hX : va_X b L xs s s.heap) (hbl : b < s.heap.size) (hbA : ¬ A b) (hL : L ≤ 3072) (hR : (∀ k, k ≤ 1000 → k ≤ R.frames) ∧ ∀ k, k ≤ 20000 → k ≤ R.locals) (hc : cells + 2 ≤ R.cells ∧ slots + 8 ≤ R.slots) (hi : 0 ≤ i ∧ i + 6 ≤ L) (hW : WW cI cB cJ hx hm ws) (kk : ∀ ws1, WW cI cB cJ hx hm ws1 → GG p l e R s m args below meth c (cells + 2) (slots + 8) Q D A s.heap 4 ws1 1295 [(3, vI i), (2, .ref hm), (1, .ref hx), (0, .ref b)] []) : GG p l e R s m args below meth c cells slots Q D A s.heap 4 ws 388 [(3, vI i), (2, .ref hm), (1, .ref hx), (0, .ref b)] [] := by
  obtain ⟨sn, sk, sd, se, sb, wx, wm, h1, h2, hp⟩ := hW
  have hg := h1.rg
  refine g_aload_n X dL_law_388 2 rfl ?_
  refine g_aload_n X dL_law_389 3 rfl ?_
  refine g_iload_n X dL_law_390 0 rfl ?_
  refine g_iconst X dL_law_391 ?_
  refine g_iadd X dL_law_392 ?_
  refine g_sld X hX hbl hbA hL (by omega) dL_law_393 ?_
  refine g_aload_n X dL_law_394 3 rfl ?_
  refine g_iload_n X dL_law_395 0 rfl ?_
  refine g_iconst X dL_law_396 ?_
  refine g_iadd X dL_law_397 ?_
  refine g_sld X hX hbl hbA hL (by omega) dL_law_398 ?_
  refine g_fxI X hp (x_X9_bound l D cI cB cJ hx h1 (p0 := sc xs (i + 1)) (p1 := sc xs (i + 2)) (sc_ir _ _) (sc_ir _ _)) h1.mem cv_X9_bound uw739 ⟨rfl, rfl, hR.1 _ (by decide), hR.2 _ (by decide)⟩ rfl rfl (Nat.le_of_ble_eq_true rfl) ⟨Nat.le_trans (by omega) hc.1, Nat.le_trans (by omega) hc.2⟩ dL_law_399 (fun z399 w399 k399 => ?_)
  obtain ⟨n1, k1, d1, e1, h3, r1⟩ := k399
  refine g_pop X rfl dL_law_402 ?_
  refine g_aload_n X dL_law_403 1 rfl ?_
  refine g_aload_n X dL_law_404 3 rfl ?_
  refine g_iload_n X dL_law_405 0 rfl ?_
  refine g_iconst X dL_law_406 ?_
  refine g_iadd X dL_law_407 ?_
  refine g_sld X hX hbl hbA hL (by omega) dL_law_408 ?_
  refine g_aload_n X dL_law_409 3 rfl ?_
  refine g_iload_n X dL_law_410 0 rfl ?_
  refine g_iconst X dL_law_411 ?_
  refine g_iadd X dL_law_412 ?_
  refine g_sld X hX hbl hbA hL (by omega) dL_law_413 ?_
  refine g_fmI X (List.Perm.refl _) (m_X10_bound l D cI cB cJ hm h2 (p0 := sc xs (i + 1)) (p1 := sc xs (i + 2)) (sc_ir _ _) (sc_ir _ _)) h2.mem cv_X10_bound uw1534 ⟨rfl, rfl, hR.1 _ (by decide), hR.2 _ (by decide)⟩ rfl rfl (Nat.le_of_ble_eq_true rfl) ⟨Nat.le_trans (by omega) hc.1, Nat.le_trans (by omega) hc.2⟩ dL_law_414 (fun z414 w414 k414 => ?_)
  obtain ⟨n2, k2, d2, e2, h4, r2⟩ := k414
  refine g_pop X rfl dL_law_417 ?_
  refine g_goto X (tgt := 1295) dL_law_418 (by decide) ?_
  obtain ⟨rfl, rfl, rfl, rfl⟩ : n2 = n1 ∧ k2 = k1 ∧ d2 = d1 ∧ e2 = e1 := by omega
  exact g_widen (by omega) (by omega) (kk _ ⟨_, _, _, _, _, _, _, h3, h4, List.Perm.refl _⟩)
set_option maxHeartbeats 1000000 in
theorem law_canBe {p : Program} {l : Launch} {e : Env} {R : Room} {s : State} {m : MethodId} {args : Array Value} {below : List Frame} {meth : Method} {c : Code} {cells slots : Nat} {Q : State → Prop} {D : va_G} {cI cB cJ : ClassId} {A : Nat → Prop} {hx hm b L : Nat} {xs : Nat → Int32} {ws : va_W} {i : Int} (X : CX p m c code 4 s args RL D (TY cI cB cJ) A s.heap) (hX : va_X b L xs s s.heap) (hbl : b < s.heap.size) (hbA : ¬ A b) (hL : L ≤ 3072) (hR : (∀ k, k ≤ 1000 → k ≤ R.frames) ∧ ∀ k, k ≤ 20000 → k ≤ R.locals) (hc : cells + 2 ≤ R.cells ∧ slots + 8 ≤ R.slots) (hi : 0 ≤ i ∧ i + 6 ≤ L) (hW : WW cI cB cJ hx hm ws) (kk : ∀ ws1, WW cI cB cJ hx hm ws1 → GG p l e R s m args below meth c (cells + 2) (slots + 8) Q D A s.heap 4 ws1 1295 [(3, vI i), (2, .ref hm), (1, .ref hx), (0, .ref b)] []) : GG p l e R s m args below meth c cells slots Q D A s.heap 4 ws 421 [(3, vI i), (2, .ref hm), (1, .ref hx), (0, .ref b)] [] := by
  obtain ⟨sn, sk, sd, se, sb, wx, wm, h1, h2, hp⟩ := hW
  have hg := h1.rg
  refine g_aload_n X dL_law_421 2 rfl ?_
  refine g_aload_n X dL_law_422 3 rfl ?_
  refine g_iload_n X dL_law_423 0 rfl ?_
  refine g_iconst X dL_law_424 ?_
  refine g_iadd X dL_law_425 ?_
  refine g_sld X hX hbl hbA hL (by omega) dL_law_426 ?_
  refine g_fxI X hp (x_X9_canBe l D cI cB cJ hx h1 (p0 := sc xs (i + 1)) (sc_ir _ _)) h1.mem cv_X9_canBe uw747 ⟨rfl, rfl, hR.1 _ (by decide), hR.2 _ (by decide)⟩ rfl rfl (Nat.le_of_ble_eq_true rfl) ⟨Nat.le_trans (by omega) hc.1, Nat.le_trans (by omega) hc.2⟩ dL_law_427 (fun z427 w427 k427 => ?_)
  obtain ⟨n1, k1, d1, e1, h3, r1⟩ := k427
  refine g_pop X rfl dL_law_430 ?_
  refine g_aload_n X dL_law_431 1 rfl ?_
  refine g_aload_n X dL_law_432 3 rfl ?_
  refine g_iload_n X dL_law_433 0 rfl ?_
  refine g_iconst X dL_law_434 ?_
  refine g_iadd X dL_law_435 ?_
  refine g_sld X hX hbl hbA hL (by omega) dL_law_436 ?_
  refine g_fmI X (List.Perm.refl _) (m_X10_canBe l D cI cB cJ hm h2 (p0 := sc xs (i + 1)) (sc_ir _ _)) h2.mem cv_X10_canBe uw1565 ⟨rfl, rfl, hR.1 _ (by decide), hR.2 _ (by decide)⟩ rfl rfl (Nat.le_of_ble_eq_true rfl) ⟨Nat.le_trans (by omega) hc.1, Nat.le_trans (by omega) hc.2⟩ dL_law_437 (fun z437 w437 k437 => ?_)
  obtain ⟨n2, k2, d2, e2, h4, r2⟩ := k437
  refine g_pop X rfl dL_law_440 ?_
  refine g_goto X (tgt := 1295) dL_law_441 (by decide) ?_
  obtain ⟨rfl, rfl, rfl, rfl⟩ : n2 = n1 ∧ k2 = k1 ∧ d2 = d1 ∧ e2 = e1 := by omega
  exact g_widen (by omega) (by omega) (kk _ ⟨_, _, _, _, _, _, _, h3, h4, List.Perm.refl _⟩)
set_option maxHeartbeats 1000000 in
theorem law_idle {p : Program} {l : Launch} {e : Env} {R : Room} {s : State} {m : MethodId} {args : Array Value} {below : List Frame} {meth : Method} {c : Code} {cells slots : Nat} {Q : State → Prop} {D : va_G} {cI cB cJ : ClassId} {A : Nat → Prop} {hx hm b L : Nat} {xs : Nat → Int32} {ws : va_W} {i : Int} (X : CX p m c code 4 s args RL D (TY cI cB cJ) A s.heap) (hX : va_X b L xs s s.heap) (hbl : b < s.heap.size) (hbA : ¬ A b) (hL : L ≤ 3072) (hR : (∀ k, k ≤ 1000 → k ≤ R.frames) ∧ ∀ k, k ≤ 20000 → k ≤ R.locals) (hc : cells + 2 ≤ R.cells ∧ slots + 8 ≤ R.slots) (hi : 0 ≤ i ∧ i + 6 ≤ L) (hW : WW cI cB cJ hx hm ws) (kk : ∀ ws1, WW cI cB cJ hx hm ws1 → GG p l e R s m args below meth c (cells + 2) (slots + 8) Q D A s.heap 4 ws1 1295 [(3, vI i), (2, .ref hm), (1, .ref hx), (0, .ref b)] []) : GG p l e R s m args below meth c cells slots Q D A s.heap 4 ws 444 [(3, vI i), (2, .ref hm), (1, .ref hx), (0, .ref b)] [] := by
  obtain ⟨sn, sk, sd, se, sb, wx, wm, h1, h2, hp⟩ := hW
  have hg := h1.rg
  refine g_aload_n X dL_law_444 2 rfl ?_
  refine g_aload_n X dL_law_445 3 rfl ?_
  refine g_iload_n X dL_law_446 0 rfl ?_
  refine g_iconst X dL_law_447 ?_
  refine g_iadd X dL_law_448 ?_
  refine g_sld X hX hbl hbA hL (by omega) dL_law_449 ?_
  refine g_fxI X hp (x_X9_idle l D cI cB cJ hx h1 (p0 := sc xs (i + 1)) (sc_ir _ _)) h1.mem cv_X9_idle uw777 ⟨rfl, rfl, hR.1 _ (by decide), hR.2 _ (by decide)⟩ rfl rfl (Nat.le_of_ble_eq_true rfl) ⟨Nat.le_trans (by omega) hc.1, Nat.le_trans (by omega) hc.2⟩ dL_law_450 (fun z450 w450 k450 => ?_)
  obtain ⟨n1, k1, d1, e1, h3, r1⟩ := k450
  refine g_pop X rfl dL_law_453 ?_
  refine g_aload_n X dL_law_454 1 rfl ?_
  refine g_aload_n X dL_law_455 3 rfl ?_
  refine g_iload_n X dL_law_456 0 rfl ?_
  refine g_iconst X dL_law_457 ?_
  refine g_iadd X dL_law_458 ?_
  refine g_sld X hX hbl hbA hL (by omega) dL_law_459 ?_
  refine g_fmI X (List.Perm.refl _) (m_X10_idle l D cI cB cJ hm h2 (p0 := sc xs (i + 1)) (sc_ir _ _)) h2.mem cv_X10_idle uw1592 ⟨rfl, rfl, hR.1 _ (by decide), hR.2 _ (by decide)⟩ rfl rfl (Nat.le_of_ble_eq_true rfl) ⟨Nat.le_trans (by omega) hc.1, Nat.le_trans (by omega) hc.2⟩ dL_law_460 (fun z460 w460 k460 => ?_)
  obtain ⟨n2, k2, d2, e2, h4, r2⟩ := k460
  refine g_pop X rfl dL_law_463 ?_
  refine g_goto X (tgt := 1295) dL_law_464 (by decide) ?_
  obtain ⟨rfl, rfl, rfl, rfl⟩ : n2 = n1 ∧ k2 = k1 ∧ d2 = d1 ∧ e2 = e1 := by omega
  exact g_widen (by omega) (by omega) (kk _ ⟨_, _, _, _, _, _, _, h3, h4, List.Perm.refl _⟩)
set_option maxHeartbeats 1000000 in
theorem law_surely {p : Program} {l : Launch} {e : Env} {R : Room} {s : State} {m : MethodId} {args : Array Value} {below : List Frame} {meth : Method} {c : Code} {cells slots : Nat} {Q : State → Prop} {D : va_G} {cI cB cJ : ClassId} {A : Nat → Prop} {hx hm b L : Nat} {xs : Nat → Int32} {ws : va_W} {i : Int} (X : CX p m c code 4 s args RL D (TY cI cB cJ) A s.heap) (hX : va_X b L xs s s.heap) (hbl : b < s.heap.size) (hbA : ¬ A b) (hL : L ≤ 3072) (hR : (∀ k, k ≤ 1000 → k ≤ R.frames) ∧ ∀ k, k ≤ 20000 → k ≤ R.locals) (hc : cells + 2 ≤ R.cells ∧ slots + 8 ≤ R.slots) (hi : 0 ≤ i ∧ i + 6 ≤ L) (hW : WW cI cB cJ hx hm ws) (kk : ∀ ws1, WW cI cB cJ hx hm ws1 → GG p l e R s m args below meth c (cells + 2) (slots + 8) Q D A s.heap 4 ws1 1295 [(3, vI i), (2, .ref hm), (1, .ref hx), (0, .ref b)] []) : GG p l e R s m args below meth c cells slots Q D A s.heap 4 ws 467 [(3, vI i), (2, .ref hm), (1, .ref hx), (0, .ref b)] [] := by
  obtain ⟨sn, sk, sd, se, sb, wx, wm, h1, h2, hp⟩ := hW
  have hg := h1.rg
  refine g_aload_n X dL_law_467 2 rfl ?_
  refine g_aload_n X dL_law_468 3 rfl ?_
  refine g_iload_n X dL_law_469 0 rfl ?_
  refine g_iconst X dL_law_470 ?_
  refine g_iadd X dL_law_471 ?_
  refine g_sld X hX hbl hbA hL (by omega) dL_law_472 ?_
  refine g_aload_n X dL_law_473 3 rfl ?_
  refine g_iload_n X dL_law_474 0 rfl ?_
  refine g_iconst X dL_law_475 ?_
  refine g_iadd X dL_law_476 ?_
  refine g_sld X hX hbl hbA hL (by omega) dL_law_477 ?_
  refine g_fxI X hp (x_X9_surely l D cI cB cJ hx h1 (p0 := sc xs (i + 1)) (p1 := sc xs (i + 2)) (sc_ir _ _) (sc_ir _ _)) h1.mem cv_X9_surely uw785 ⟨rfl, rfl, hR.1 _ (by decide), hR.2 _ (by decide)⟩ rfl rfl (Nat.le_of_ble_eq_true rfl) ⟨Nat.le_trans (by omega) hc.1, Nat.le_trans (by omega) hc.2⟩ dL_law_478 (fun z478 w478 k478 => ?_)
  obtain ⟨n1, k1, d1, e1, h3, r1⟩ := k478
  refine g_pop X rfl dL_law_481 ?_
  refine g_aload_n X dL_law_482 1 rfl ?_
  refine g_aload_n X dL_law_483 3 rfl ?_
  refine g_iload_n X dL_law_484 0 rfl ?_
  refine g_iconst X dL_law_485 ?_
  refine g_iadd X dL_law_486 ?_
  refine g_sld X hX hbl hbA hL (by omega) dL_law_487 ?_
  refine g_aload_n X dL_law_488 3 rfl ?_
  refine g_iload_n X dL_law_489 0 rfl ?_
  refine g_iconst X dL_law_490 ?_
  refine g_iadd X dL_law_491 ?_
  refine g_sld X hX hbl hbA hL (by omega) dL_law_492 ?_
  refine g_fmI X (List.Perm.refl _) (m_X10_surely l D cI cB cJ hm h2 (p0 := sc xs (i + 1)) (p1 := sc xs (i + 2)) (sc_ir _ _) (sc_ir _ _)) h2.mem cv_X10_surely uw1600 ⟨rfl, rfl, hR.1 _ (by decide), hR.2 _ (by decide)⟩ rfl rfl (Nat.le_of_ble_eq_true rfl) ⟨Nat.le_trans (by omega) hc.1, Nat.le_trans (by omega) hc.2⟩ dL_law_493 (fun z493 w493 k493 => ?_)
  obtain ⟨n2, k2, d2, e2, h4, r2⟩ := k493
  refine g_pop X rfl dL_law_496 ?_
  refine g_goto X (tgt := 1295) dL_law_497 (by decide) ?_
  obtain ⟨rfl, rfl, rfl, rfl⟩ : n2 = n1 ∧ k2 = k1 ∧ d2 = d1 ∧ e2 = e1 := by omega
  exact g_widen (by omega) (by omega) (kk _ ⟨_, _, _, _, _, _, _, h3, h4, List.Perm.refl _⟩)
set_option maxHeartbeats 1000000 in
theorem law_lightest {p : Program} {l : Launch} {e : Env} {R : Room} {s : State} {m : MethodId} {args : Array Value} {below : List Frame} {meth : Method} {c : Code} {cells slots : Nat} {Q : State → Prop} {D : va_G} {cI cB cJ : ClassId} {A : Nat → Prop} {hx hm b L : Nat} {xs : Nat → Int32} {ws : va_W} {i : Int} (X : CX p m c code 4 s args RL D (TY cI cB cJ) A s.heap) (hX : va_X b L xs s s.heap) (hbl : b < s.heap.size) (hbA : ¬ A b) (hL : L ≤ 3072) (hR : (∀ k, k ≤ 1000 → k ≤ R.frames) ∧ ∀ k, k ≤ 20000 → k ≤ R.locals) (hc : cells + 2 ≤ R.cells ∧ slots + 8 ≤ R.slots) (hi : 0 ≤ i ∧ i + 6 ≤ L) (hW : WW cI cB cJ hx hm ws) (kk : ∀ ws1, WW cI cB cJ hx hm ws1 → GG p l e R s m args below meth c (cells + 2) (slots + 8) Q D A s.heap 4 ws1 1295 [(3, vI i), (2, .ref hm), (1, .ref hx), (0, .ref b)] []) : GG p l e R s m args below meth c cells slots Q D A s.heap 4 ws 500 [(3, vI i), (2, .ref hm), (1, .ref hx), (0, .ref b)] [] := by
  obtain ⟨sn, sk, sd, se, sb, wx, wm, h1, h2, hp⟩ := hW
  have hg := h1.rg
  refine g_aload_n X dL_law_500 2 rfl ?_
  refine g_aload_n X dL_law_501 3 rfl ?_
  refine g_iload_n X dL_law_502 0 rfl ?_
  refine g_iconst X dL_law_503 ?_
  refine g_iadd X dL_law_504 ?_
  refine g_sld X hX hbl hbA hL (by omega) dL_law_505 ?_
  refine g_fxI X hp (x_X9_lightest l D cI cB cJ hx h1 (p0 := sc xs (i + 1)) (sc_ir _ _)) h1.mem cv_X9_lightest uw798 ⟨rfl, rfl, hR.1 _ (by decide), hR.2 _ (by decide)⟩ rfl rfl (Nat.le_of_ble_eq_true rfl) ⟨Nat.le_trans (by omega) hc.1, Nat.le_trans (by omega) hc.2⟩ dL_law_506 (fun z506 w506 k506 => ?_)
  obtain ⟨n1, k1, d1, e1, h3, r1⟩ := k506
  refine g_pop X rfl dL_law_509 ?_
  refine g_aload_n X dL_law_510 1 rfl ?_
  refine g_aload_n X dL_law_511 3 rfl ?_
  refine g_iload_n X dL_law_512 0 rfl ?_
  refine g_iconst X dL_law_513 ?_
  refine g_iadd X dL_law_514 ?_
  refine g_sld X hX hbl hbA hL (by omega) dL_law_515 ?_
  refine g_fmI X (List.Perm.refl _) (m_X10_lightest l D cI cB cJ hm h2 (p0 := sc xs (i + 1)) (sc_ir _ _)) h2.mem cv_X10_lightest uw1612 ⟨rfl, rfl, hR.1 _ (by decide), hR.2 _ (by decide)⟩ rfl rfl (Nat.le_of_ble_eq_true rfl) ⟨Nat.le_trans (by omega) hc.1, Nat.le_trans (by omega) hc.2⟩ dL_law_516 (fun z516 w516 k516 => ?_)
  obtain ⟨n2, k2, d2, e2, h4, r2⟩ := k516
  refine g_pop X rfl dL_law_519 ?_
  refine g_goto X (tgt := 1295) dL_law_520 (by decide) ?_
  obtain ⟨rfl, rfl, rfl, rfl⟩ : n2 = n1 ∧ k2 = k1 ∧ d2 = d1 ∧ e2 = e1 := by omega
  exact g_widen (by omega) (by omega) (kk _ ⟨_, _, _, _, _, _, _, h3, h4, List.Perm.refl _⟩)
set_option maxHeartbeats 1000000 in
theorem law_slack {p : Program} {l : Launch} {e : Env} {R : Room} {s : State} {m : MethodId} {args : Array Value} {below : List Frame} {meth : Method} {c : Code} {cells slots : Nat} {Q : State → Prop} {D : va_G} {cI cB cJ : ClassId} {A : Nat → Prop} {hx hm b L : Nat} {xs : Nat → Int32} {ws : va_W} {i : Int} (X : CX p m c code 4 s args RL D (TY cI cB cJ) A s.heap) (hX : va_X b L xs s s.heap) (hbl : b < s.heap.size) (hbA : ¬ A b) (hL : L ≤ 3072) (hR : (∀ k, k ≤ 1000 → k ≤ R.frames) ∧ ∀ k, k ≤ 20000 → k ≤ R.locals) (hc : cells + 2 ≤ R.cells ∧ slots + 8 ≤ R.slots) (hi : 0 ≤ i ∧ i + 6 ≤ L) (hW : WW cI cB cJ hx hm ws) (kk : ∀ ws1, WW cI cB cJ hx hm ws1 → GG p l e R s m args below meth c (cells + 2) (slots + 8) Q D A s.heap 4 ws1 1295 [(3, vI i), (2, .ref hm), (1, .ref hx), (0, .ref b)] []) : GG p l e R s m args below meth c cells slots Q D A s.heap 4 ws 523 [(3, vI i), (2, .ref hm), (1, .ref hx), (0, .ref b)] [] := by
  obtain ⟨sn, sk, sd, se, sb, wx, wm, h1, h2, hp⟩ := hW
  have hg := h1.rg
  refine g_aload_n X dL_law_523 2 rfl ?_
  refine g_aload_n X dL_law_524 3 rfl ?_
  refine g_iload_n X dL_law_525 0 rfl ?_
  refine g_iconst X dL_law_526 ?_
  refine g_iadd X dL_law_527 ?_
  refine g_sld X hX hbl hbA hL (by omega) dL_law_528 ?_
  refine g_fxI X hp (x_X9_slack l D cI cB cJ hx h1 (p0 := sc xs (i + 1)) (sc_ir _ _)) h1.mem cv_X9_slack uw809 ⟨rfl, rfl, hR.1 _ (by decide), hR.2 _ (by decide)⟩ rfl rfl (Nat.le_of_ble_eq_true rfl) ⟨Nat.le_trans (by omega) hc.1, Nat.le_trans (by omega) hc.2⟩ dL_law_529 (fun z529 w529 k529 => ?_)
  obtain ⟨n1, k1, d1, e1, h3, r1⟩ := k529
  refine g_pop X rfl dL_law_532 ?_
  refine g_aload_n X dL_law_533 1 rfl ?_
  refine g_aload_n X dL_law_534 3 rfl ?_
  refine g_iload_n X dL_law_535 0 rfl ?_
  refine g_iconst X dL_law_536 ?_
  refine g_iadd X dL_law_537 ?_
  refine g_sld X hX hbl hbA hL (by omega) dL_law_538 ?_
  refine g_fmI X (List.Perm.refl _) (m_X10_slack l D cI cB cJ hm h2 (p0 := sc xs (i + 1)) (sc_ir _ _)) h2.mem cv_X10_slack uw1616 ⟨rfl, rfl, hR.1 _ (by decide), hR.2 _ (by decide)⟩ rfl rfl (Nat.le_of_ble_eq_true rfl) ⟨Nat.le_trans (by omega) hc.1, Nat.le_trans (by omega) hc.2⟩ dL_law_539 (fun z539 w539 k539 => ?_)
  obtain ⟨n2, k2, d2, e2, h4, r2⟩ := k539
  refine g_pop X rfl dL_law_542 ?_
  refine g_goto X (tgt := 1295) dL_law_543 (by decide) ?_
  obtain ⟨rfl, rfl, rfl, rfl⟩ : n2 = n1 ∧ k2 = k1 ∧ d2 = d1 ∧ e2 = e1 := by omega
  exact g_widen (by omega) (by omega) (kk _ ⟨_, _, _, _, _, _, _, h3, h4, List.Perm.refl _⟩)
set_option maxHeartbeats 1000000 in
theorem law_chain {p : Program} {l : Launch} {e : Env} {R : Room} {s : State} {m : MethodId} {args : Array Value} {below : List Frame} {meth : Method} {c : Code} {cells slots : Nat} {Q : State → Prop} {D : va_G} {cI cB cJ : ClassId} {A : Nat → Prop} {hx hm b L : Nat} {xs : Nat → Int32} {ws : va_W} {i : Int} (X : CX p m c code 4 s args RL D (TY cI cB cJ) A s.heap) (hX : va_X b L xs s s.heap) (hbl : b < s.heap.size) (hbA : ¬ A b) (hL : L ≤ 3072) (hR : (∀ k, k ≤ 1000 → k ≤ R.frames) ∧ ∀ k, k ≤ 20000 → k ≤ R.locals) (hc : cells + 2 ≤ R.cells ∧ slots + 8 ≤ R.slots) (hi : 0 ≤ i ∧ i + 6 ≤ L) (hW : WW cI cB cJ hx hm ws) (kk : ∀ ws1, WW cI cB cJ hx hm ws1 → GG p l e R s m args below meth c (cells + 2) (slots + 8) Q D A s.heap 4 ws1 1295 [(3, vI i), (2, .ref hm), (1, .ref hx), (0, .ref b)] []) : GG p l e R s m args below meth c cells slots Q D A s.heap 4 ws 546 [(3, vI i), (2, .ref hm), (1, .ref hx), (0, .ref b)] [] := by
  obtain ⟨sn, sk, sd, se, sb, wx, wm, h1, h2, hp⟩ := hW
  have hg := h1.rg
  refine g_aload_n X dL_law_546 2 rfl ?_
  refine g_aload_n X dL_law_547 3 rfl ?_
  refine g_iload_n X dL_law_548 0 rfl ?_
  refine g_iconst X dL_law_549 ?_
  refine g_iadd X dL_law_550 ?_
  refine g_sld X hX hbl hbA hL (by omega) dL_law_551 ?_
  refine g_fxI X hp (x_X9_chain l D cI cB cJ hx h1 (p0 := sc xs (i + 1)) (sc_ir _ _)) h1.mem cv_X9_chain uw818 ⟨rfl, rfl, hR.1 _ (by decide), hR.2 _ (by decide)⟩ rfl rfl (Nat.le_of_ble_eq_true rfl) ⟨Nat.le_trans (by omega) hc.1, Nat.le_trans (by omega) hc.2⟩ dL_law_552 (fun z552 w552 k552 => ?_)
  obtain ⟨n1, k1, d1, e1, h3, r1⟩ := k552
  refine g_pop X rfl dL_law_555 ?_
  refine g_aload_n X dL_law_556 1 rfl ?_
  refine g_aload_n X dL_law_557 3 rfl ?_
  refine g_iload_n X dL_law_558 0 rfl ?_
  refine g_iconst X dL_law_559 ?_
  refine g_iadd X dL_law_560 ?_
  refine g_sld X hX hbl hbA hL (by omega) dL_law_561 ?_
  refine g_fmI X (List.Perm.refl _) (m_X10_chain l D cI cB cJ hm h2 (p0 := sc xs (i + 1)) (sc_ir _ _)) h2.mem cv_X10_chain uw1620 ⟨rfl, rfl, hR.1 _ (by decide), hR.2 _ (by decide)⟩ rfl rfl (Nat.le_of_ble_eq_true rfl) ⟨Nat.le_trans (by omega) hc.1, Nat.le_trans (by omega) hc.2⟩ dL_law_562 (fun z562 w562 k562 => ?_)
  obtain ⟨n2, k2, d2, e2, h4, r2⟩ := k562
  refine g_pop X rfl dL_law_565 ?_
  refine g_goto X (tgt := 1295) dL_law_566 (by decide) ?_
  obtain ⟨rfl, rfl, rfl, rfl⟩ : n2 = n1 ∧ k2 = k1 ∧ d2 = d1 ∧ e2 = e1 := by omega
  exact g_widen (by omega) (by omega) (kk _ ⟨_, _, _, _, _, _, _, h3, h4, List.Perm.refl _⟩)
set_option maxHeartbeats 1000000 in
theorem law_orders {p : Program} {l : Launch} {e : Env} {R : Room} {s : State} {m : MethodId} {args : Array Value} {below : List Frame} {meth : Method} {c : Code} {cells slots : Nat} {Q : State → Prop} {D : va_G} {cI cB cJ : ClassId} {A : Nat → Prop} {hx hm b L : Nat} {xs : Nat → Int32} {ws : va_W} {i : Int} (X : CX p m c code 4 s args RL D (TY cI cB cJ) A s.heap) (hX : va_X b L xs s s.heap) (hbl : b < s.heap.size) (hbA : ¬ A b) (hL : L ≤ 3072) (hR : (∀ k, k ≤ 1000 → k ≤ R.frames) ∧ ∀ k, k ≤ 20000 → k ≤ R.locals) (hc : cells + 2 ≤ R.cells ∧ slots + 8 ≤ R.slots) (hi : 0 ≤ i ∧ i + 6 ≤ L) (hW : WW cI cB cJ hx hm ws) (kk : ∀ ws1, WW cI cB cJ hx hm ws1 → GG p l e R s m args below meth c (cells + 2) (slots + 8) Q D A s.heap 4 ws1 1295 [(3, vI i), (2, .ref hm), (1, .ref hx), (0, .ref b)] []) : GG p l e R s m args below meth c cells slots Q D A s.heap 4 ws 569 [(3, vI i), (2, .ref hm), (1, .ref hx), (0, .ref b)] [] := by
  obtain ⟨sn, sk, sd, se, sb, wx, wm, h1, h2, hp⟩ := hW
  have hg := h1.rg
  refine g_aload_n X dL_law_569 2 rfl ?_
  refine g_aload_n X dL_law_570 3 rfl ?_
  refine g_iload_n X dL_law_571 0 rfl ?_
  refine g_iconst X dL_law_572 ?_
  refine g_iadd X dL_law_573 ?_
  refine g_sld X hX hbl hbA hL (by omega) dL_law_574 ?_
  refine g_fxI X hp (x_X9_orders l D cI cB cJ hx h1 (p0 := sc xs (i + 1)) (sc_ir _ _)) h1.mem cv_X9_orders uw832 ⟨rfl, rfl, hR.1 _ (by decide), hR.2 _ (by decide)⟩ rfl rfl (Nat.le_of_ble_eq_true rfl) ⟨Nat.le_trans (by omega) hc.1, Nat.le_trans (by omega) hc.2⟩ dL_law_575 (fun z575 w575 k575 => ?_)
  obtain ⟨n1, k1, d1, e1, h3, r1⟩ := k575
  refine g_pop X rfl dL_law_578 ?_
  refine g_aload_n X dL_law_579 1 rfl ?_
  refine g_aload_n X dL_law_580 3 rfl ?_
  refine g_iload_n X dL_law_581 0 rfl ?_
  refine g_iconst X dL_law_582 ?_
  refine g_iadd X dL_law_583 ?_
  refine g_sld X hX hbl hbA hL (by omega) dL_law_584 ?_
  refine g_fmI X (List.Perm.refl _) (m_X10_orders l D cI cB cJ hm h2 (p0 := sc xs (i + 1)) (sc_ir _ _)) h2.mem cv_X10_orders uw1624 ⟨rfl, rfl, hR.1 _ (by decide), hR.2 _ (by decide)⟩ rfl rfl (Nat.le_of_ble_eq_true rfl) ⟨Nat.le_trans (by omega) hc.1, Nat.le_trans (by omega) hc.2⟩ dL_law_585 (fun z585 w585 k585 => ?_)
  obtain ⟨n2, k2, d2, e2, h4, r2⟩ := k585
  refine g_pop X rfl dL_law_588 ?_
  refine g_goto X (tgt := 1295) dL_law_589 (by decide) ?_
  obtain ⟨rfl, rfl, rfl, rfl⟩ : n2 = n1 ∧ k2 = k1 ∧ d2 = d1 ∧ e2 = e1 := by omega
  exact g_widen (by omega) (by omega) (kk _ ⟨_, _, _, _, _, _, _, h3, h4, List.Perm.refl _⟩)
set_option maxHeartbeats 1000000 in
theorem law_weighings {p : Program} {l : Launch} {e : Env} {R : Room} {s : State} {m : MethodId} {args : Array Value} {below : List Frame} {meth : Method} {c : Code} {cells slots : Nat} {Q : State → Prop} {D : va_G} {cI cB cJ : ClassId} {A : Nat → Prop} {hx hm b L : Nat} {xs : Nat → Int32} {ws : va_W} {i : Int} (X : CX p m c code 4 s args RL D (TY cI cB cJ) A s.heap) (hX : va_X b L xs s s.heap) (hbl : b < s.heap.size) (hbA : ¬ A b) (hL : L ≤ 3072) (hR : (∀ k, k ≤ 1000 → k ≤ R.frames) ∧ ∀ k, k ≤ 20000 → k ≤ R.locals) (hc : cells + 2 ≤ R.cells ∧ slots + 8 ≤ R.slots) (hi : 0 ≤ i ∧ i + 6 ≤ L) (hW : WW cI cB cJ hx hm ws) (kk : ∀ ws1, WW cI cB cJ hx hm ws1 → GG p l e R s m args below meth c (cells + 2) (slots + 8) Q D A s.heap 4 ws1 1295 [(3, vI i), (2, .ref hm), (1, .ref hx), (0, .ref b)] []) : GG p l e R s m args below meth c cells slots Q D A s.heap 4 ws 592 [(3, vI i), (2, .ref hm), (1, .ref hx), (0, .ref b)] [] := by
  obtain ⟨sn, sk, sd, se, sb, wx, wm, h1, h2, hp⟩ := hW
  have hg := h1.rg
  refine g_aload_n X dL_law_592 2 rfl ?_
  refine g_aload_n X dL_law_593 3 rfl ?_
  refine g_iload_n X dL_law_594 0 rfl ?_
  refine g_iconst X dL_law_595 ?_
  refine g_iadd X dL_law_596 ?_
  refine g_sld X hX hbl hbA hL (by omega) dL_law_597 ?_
  refine g_aload_n X dL_law_598 3 rfl ?_
  refine g_iload_n X dL_law_599 0 rfl ?_
  refine g_iconst X dL_law_600 ?_
  refine g_iadd X dL_law_601 ?_
  refine g_sld X hX hbl hbA hL (by omega) dL_law_602 ?_
  refine g_fxI X hp (x_X9_weighings l D cI cB cJ hx h1 (p0 := sc xs (i + 1)) (p1 := sc xs (i + 2)) (sc_ir _ _) (sc_ir _ _)) h1.mem cv_X9_weighings uw846 ⟨rfl, rfl, hR.1 _ (by decide), hR.2 _ (by decide)⟩ rfl rfl (Nat.le_of_ble_eq_true rfl) ⟨Nat.le_trans (by omega) hc.1, Nat.le_trans (by omega) hc.2⟩ dL_law_603 (fun z603 w603 k603 => ?_)
  obtain ⟨n1, k1, d1, e1, h3, r1⟩ := k603
  refine g_pop X rfl dL_law_606 ?_
  refine g_aload_n X dL_law_607 1 rfl ?_
  refine g_aload_n X dL_law_608 3 rfl ?_
  refine g_iload_n X dL_law_609 0 rfl ?_
  refine g_iconst X dL_law_610 ?_
  refine g_iadd X dL_law_611 ?_
  refine g_sld X hX hbl hbA hL (by omega) dL_law_612 ?_
  refine g_aload_n X dL_law_613 3 rfl ?_
  refine g_iload_n X dL_law_614 0 rfl ?_
  refine g_iconst X dL_law_615 ?_
  refine g_iadd X dL_law_616 ?_
  refine g_sld X hX hbl hbA hL (by omega) dL_law_617 ?_
  refine g_fmI X (List.Perm.refl _) (m_X10_weighings l D cI cB cJ hm h2 (p0 := sc xs (i + 1)) (p1 := sc xs (i + 2)) (sc_ir _ _) (sc_ir _ _)) h2.mem cv_X10_weighings uw1628 ⟨rfl, rfl, hR.1 _ (by decide), hR.2 _ (by decide)⟩ rfl rfl (Nat.le_of_ble_eq_true rfl) ⟨Nat.le_trans (by omega) hc.1, Nat.le_trans (by omega) hc.2⟩ dL_law_618 (fun z618 w618 k618 => ?_)
  obtain ⟨n2, k2, d2, e2, h4, r2⟩ := k618
  refine g_pop X rfl dL_law_621 ?_
  refine g_goto X (tgt := 1295) dL_law_622 (by decide) ?_
  obtain ⟨rfl, rfl, rfl, rfl⟩ : n2 = n1 ∧ k2 = k1 ∧ d2 = d1 ∧ e2 = e1 := by omega
  exact g_widen (by omega) (by omega) (kk _ ⟨_, _, _, _, _, _, _, h3, h4, List.Perm.refl _⟩)
set_option maxHeartbeats 1000000 in
theorem law_claimIs {p : Program} {l : Launch} {e : Env} {R : Room} {s : State} {m : MethodId} {args : Array Value} {below : List Frame} {meth : Method} {c : Code} {cells slots : Nat} {Q : State → Prop} {D : va_G} {cI cB cJ : ClassId} {A : Nat → Prop} {hx hm b L : Nat} {xs : Nat → Int32} {ws : va_W} {i : Int} (X : CX p m c code 4 s args RL D (TY cI cB cJ) A s.heap) (hX : va_X b L xs s s.heap) (hbl : b < s.heap.size) (hbA : ¬ A b) (hL : L ≤ 3072) (hR : (∀ k, k ≤ 1000 → k ≤ R.frames) ∧ ∀ k, k ≤ 20000 → k ≤ R.locals) (hc : cells + 2 ≤ R.cells ∧ slots + 8 ≤ R.slots) (hi : 0 ≤ i ∧ i + 6 ≤ L) (hW : WW cI cB cJ hx hm ws) (kk : ∀ ws1, WW cI cB cJ hx hm ws1 → GG p l e R s m args below meth c (cells + 2) (slots + 8) Q D A s.heap 4 ws1 1295 [(3, vI i), (2, .ref hm), (1, .ref hx), (0, .ref b)] []) : GG p l e R s m args below meth c cells slots Q D A s.heap 4 ws 625 [(3, vI i), (2, .ref hm), (1, .ref hx), (0, .ref b)] [] := by
  obtain ⟨sn, sk, sd, se, sb, wx, wm, h1, h2, hp⟩ := hW
  have hg := h1.rg
  refine g_aload_n X dL_law_625 2 rfl ?_
  refine g_aload_n X dL_law_626 3 rfl ?_
  refine g_iload_n X dL_law_627 0 rfl ?_
  refine g_iconst X dL_law_628 ?_
  refine g_iadd X dL_law_629 ?_
  refine g_sld X hX hbl hbA hL (by omega) dL_law_630 ?_
  refine g_aload_n X dL_law_631 3 rfl ?_
  refine g_iload_n X dL_law_632 0 rfl ?_
  refine g_iconst X dL_law_633 ?_
  refine g_iadd X dL_law_634 ?_
  refine g_sld X hX hbl hbA hL (by omega) dL_law_635 ?_
  refine g_fxI X hp (x_X9_claimIs l D cI cB cJ hx h1 (p0 := sc xs (i + 1)) (p1 := sc xs (i + 2)) (sc_ir _ _) (sc_ir _ _)) h1.mem cv_X9_claimIs uw859 ⟨rfl, rfl, hR.1 _ (by decide), hR.2 _ (by decide)⟩ rfl rfl (Nat.le_of_ble_eq_true rfl) ⟨Nat.le_trans (by omega) hc.1, Nat.le_trans (by omega) hc.2⟩ dL_law_636 (fun z636 w636 k636 => ?_)
  obtain ⟨n1, k1, d1, e1, h3, r1⟩ := k636
  refine g_pop X rfl dL_law_639 ?_
  refine g_aload_n X dL_law_640 1 rfl ?_
  refine g_aload_n X dL_law_641 3 rfl ?_
  refine g_iload_n X dL_law_642 0 rfl ?_
  refine g_iconst X dL_law_643 ?_
  refine g_iadd X dL_law_644 ?_
  refine g_sld X hX hbl hbA hL (by omega) dL_law_645 ?_
  refine g_aload_n X dL_law_646 3 rfl ?_
  refine g_iload_n X dL_law_647 0 rfl ?_
  refine g_iconst X dL_law_648 ?_
  refine g_iadd X dL_law_649 ?_
  refine g_sld X hX hbl hbA hL (by omega) dL_law_650 ?_
  refine g_fmI X (List.Perm.refl _) (m_X10_claimIs l D cI cB cJ hm h2 (p0 := sc xs (i + 1)) (p1 := sc xs (i + 2)) (sc_ir _ _) (sc_ir _ _)) h2.mem cv_X10_claimIs uw1510 ⟨rfl, rfl, hR.1 _ (by decide), hR.2 _ (by decide)⟩ rfl rfl (Nat.le_of_ble_eq_true rfl) ⟨Nat.le_trans (by omega) hc.1, Nat.le_trans (by omega) hc.2⟩ dL_law_651 (fun z651 w651 k651 => ?_)
  obtain ⟨n2, k2, d2, e2, h4, r2⟩ := k651
  refine g_pop X rfl dL_law_654 ?_
  refine g_goto X (tgt := 1295) dL_law_655 (by decide) ?_
  obtain ⟨rfl, rfl, rfl, rfl⟩ : n2 = n1 ∧ k2 = k1 ∧ d2 = d1 ∧ e2 = e1 := by omega
  exact g_widen (by omega) (by omega) (kk _ ⟨_, _, _, _, _, _, _, h3, h4, List.Perm.refl _⟩)
set_option maxHeartbeats 1000000 in
theorem law_row {p : Program} {l : Launch} {e : Env} {R : Room} {s : State} {m : MethodId} {args : Array Value} {below : List Frame} {meth : Method} {c : Code} {cells slots : Nat} {Q : State → Prop} {D : va_G} {cI cB cJ : ClassId} {A : Nat → Prop} {hx hm b L : Nat} {xs : Nat → Int32} {ws : va_W} {i : Int} (X : CX p m c code 4 s args RL D (TY cI cB cJ) A s.heap) (hX : va_X b L xs s s.heap) (hbl : b < s.heap.size) (hbA : ¬ A b) (hL : L ≤ 3072) (hR : (∀ k, k ≤ 1000 → k ≤ R.frames) ∧ ∀ k, k ≤ 20000 → k ≤ R.locals) (hc : cells + 2 ≤ R.cells ∧ slots + 8 ≤ R.slots) (hi : 0 ≤ i ∧ i + 6 ≤ L) (hW : WW cI cB cJ hx hm ws) (kk : ∀ ws1, WW cI cB cJ hx hm ws1 → GG p l e R s m args below meth c (cells + 2) (slots + 8) Q D A s.heap 4 ws1 1295 [(3, vI i), (2, .ref hm), (1, .ref hx), (0, .ref b)] []) : GG p l e R s m args below meth c cells slots Q D A s.heap 4 ws 658 [(3, vI i), (2, .ref hm), (1, .ref hx), (0, .ref b)] [] := by
  obtain ⟨sn, sk, sd, se, sb, wx, wm, h1, h2, hp⟩ := hW
  have hg := h1.rg
  refine g_aload_n X dL_law_658 2 rfl ?_
  refine g_aload_n X dL_law_659 3 rfl ?_
  refine g_iload_n X dL_law_660 0 rfl ?_
  refine g_iconst X dL_law_661 ?_
  refine g_iadd X dL_law_662 ?_
  refine g_sld X hX hbl hbA hL (by omega) dL_law_663 ?_
  refine g_aload_n X dL_law_664 3 rfl ?_
  refine g_iload_n X dL_law_665 0 rfl ?_
  refine g_iconst X dL_law_666 ?_
  refine g_iadd X dL_law_667 ?_
  refine g_sld X hX hbl hbA hL (by omega) dL_law_668 ?_
  refine g_fxL X hp (x_X9_row l D cI cB cJ hx h1 (p0 := sc xs (i + 1)) (p1 := sc xs (i + 2)) (sc_ir _ _) (sc_ir _ _)) h1.mem cv_X9_row uw864 ⟨rfl, rfl, hR.1 _ (by decide), hR.2 _ (by decide)⟩ rfl rfl (Nat.le_of_ble_eq_true rfl) ⟨Nat.le_trans (by omega) hc.1, Nat.le_trans (by omega) hc.2⟩ dL_law_669 (fun z669 w669 k669 => ?_)
  obtain ⟨n1, k1, d1, e1, h3, r1⟩ := k669
  refine g_aload_n X dL_law_672 1 rfl ?_
  refine g_aload_n X dL_law_673 3 rfl ?_
  refine g_iload_n X dL_law_674 0 rfl ?_
  refine g_iconst X dL_law_675 ?_
  refine g_iadd X dL_law_676 ?_
  refine g_sld X hX hbl hbA hL (by omega) dL_law_677 ?_
  refine g_aload_n X dL_law_678 3 rfl ?_
  refine g_iload_n X dL_law_679 0 rfl ?_
  refine g_iconst X dL_law_680 ?_
  refine g_iadd X dL_law_681 ?_
  refine g_sld X hX hbl hbA hL (by omega) dL_law_682 ?_
  refine g_fmL X (List.Perm.refl _) (m_X10_row l D cI cB cJ hm h2 (p0 := sc xs (i + 1)) (p1 := sc xs (i + 2)) (sc_ir _ _) (sc_ir _ _)) h2.mem cv_X10_row uw1636 ⟨rfl, rfl, hR.1 _ (by decide), hR.2 _ (by decide)⟩ rfl rfl (Nat.le_of_ble_eq_true rfl) ⟨Nat.le_trans (by omega) hc.1, Nat.le_trans (by omega) hc.2⟩ dL_law_683 (fun z683 w683 k683 => ?_)
  obtain ⟨n2, k2, d2, e2, h4, r2⟩ := k683
  rw [show z669 = z683 by omega]
  refine g_lcmpS X dL_law_686 ?_
  refine g_if_eq X (tgt := 1295) dL_law_687 (by decide) (by omega) (fun _ => ?_) (fun hne => absurd rfl hne)
  obtain ⟨rfl, rfl, rfl, rfl⟩ : n2 = n1 ∧ k2 = k1 ∧ d2 = d1 ∧ e2 = e1 := by omega
  exact g_widen (by omega) (by omega) (kk _ ⟨_, _, _, _, _, _, _, h3, h4, List.Perm.refl _⟩)
set_option maxHeartbeats 1000000 in
theorem law_walk {p : Program} {l : Launch} {e : Env} {R : Room} {s : State} {m : MethodId} {args : Array Value} {below : List Frame} {meth : Method} {c : Code} {cells slots : Nat} {Q : State → Prop} {D : va_G} {cI cB cJ : ClassId} {A : Nat → Prop} {hx hm b L : Nat} {xs : Nat → Int32} {ws : va_W} {i : Int} (X : CX p m c code 4 s args RL D (TY cI cB cJ) A s.heap) (hX : va_X b L xs s s.heap) (hbl : b < s.heap.size) (hbA : ¬ A b) (hL : L ≤ 3072) (hR : (∀ k, k ≤ 1000 → k ≤ R.frames) ∧ ∀ k, k ≤ 20000 → k ≤ R.locals) (hc : cells + 2 ≤ R.cells ∧ slots + 8 ≤ R.slots) (hi : 0 ≤ i ∧ i + 6 ≤ L) (hW : WW cI cB cJ hx hm ws) (kk : ∀ ws1, WW cI cB cJ hx hm ws1 → GG p l e R s m args below meth c (cells + 2) (slots + 8) Q D A s.heap 4 ws1 1295 [(3, vI i), (2, .ref hm), (1, .ref hx), (0, .ref b)] []) : GG p l e R s m args below meth c cells slots Q D A s.heap 4 ws 692 [(3, vI i), (2, .ref hm), (1, .ref hx), (0, .ref b)] [] := by
  obtain ⟨sn, sk, sd, se, sb, wx, wm, h1, h2, hp⟩ := hW
  have hg := h1.rg
  refine g_aload_n X dL_law_692 2 rfl ?_
  refine g_aload_n X dL_law_693 3 rfl ?_
  refine g_iload_n X dL_law_694 0 rfl ?_
  refine g_iconst X dL_law_695 ?_
  refine g_iadd X dL_law_696 ?_
  refine g_sld X hX hbl hbA hL (by omega) dL_law_697 ?_
  refine g_aload_n X dL_law_698 3 rfl ?_
  refine g_iload_n X dL_law_699 0 rfl ?_
  refine g_iconst X dL_law_700 ?_
  refine g_iadd X dL_law_701 ?_
  refine g_sld X hX hbl hbA hL (by omega) dL_law_702 ?_
  refine g_fxI X hp (x_X9_walk l D cI cB cJ hx h1 (p0 := sc xs (i + 1)) (p1 := sc xs (i + 2)) (sc_ir _ _) (sc_ir _ _)) h1.mem cv_X9_walk uw886 ⟨rfl, rfl, hR.1 _ (by decide), hR.2 _ (by decide)⟩ rfl rfl (Nat.le_of_ble_eq_true rfl) ⟨Nat.le_trans (by omega) hc.1, Nat.le_trans (by omega) hc.2⟩ dL_law_703 (fun z703 w703 k703 => ?_)
  obtain ⟨n1, k1, d1, e1, h3, r1⟩ := k703
  refine g_pop X rfl dL_law_706 ?_
  refine g_aload_n X dL_law_707 1 rfl ?_
  refine g_aload_n X dL_law_708 3 rfl ?_
  refine g_iload_n X dL_law_709 0 rfl ?_
  refine g_iconst X dL_law_710 ?_
  refine g_iadd X dL_law_711 ?_
  refine g_sld X hX hbl hbA hL (by omega) dL_law_712 ?_
  refine g_aload_n X dL_law_713 3 rfl ?_
  refine g_iload_n X dL_law_714 0 rfl ?_
  refine g_iconst X dL_law_715 ?_
  refine g_iadd X dL_law_716 ?_
  refine g_sld X hX hbl hbA hL (by omega) dL_law_717 ?_
  refine g_fmI X (List.Perm.refl _) (m_X10_walk l D cI cB cJ hm h2 (p0 := sc xs (i + 1)) (p1 := sc xs (i + 2)) (sc_ir _ _) (sc_ir _ _)) h2.mem cv_X10_walk uw1649 ⟨rfl, rfl, hR.1 _ (by decide), hR.2 _ (by decide)⟩ rfl rfl (Nat.le_of_ble_eq_true rfl) ⟨Nat.le_trans (by omega) hc.1, Nat.le_trans (by omega) hc.2⟩ dL_law_718 (fun z718 w718 k718 => ?_)
  obtain ⟨n2, k2, d2, e2, h4, r2⟩ := k718
  refine g_pop X rfl dL_law_721 ?_
  refine g_goto X (tgt := 1295) dL_law_722 (by decide) ?_
  obtain ⟨rfl, rfl, rfl, rfl⟩ : n2 = n1 ∧ k2 = k1 ∧ d2 = d1 ∧ e2 = e1 := by omega
  exact g_widen (by omega) (by omega) (kk _ ⟨_, _, _, _, _, _, _, h3, h4, List.Perm.refl _⟩)
set_option maxHeartbeats 1000000 in
theorem law_round {p : Program} {l : Launch} {e : Env} {R : Room} {s : State} {m : MethodId} {args : Array Value} {below : List Frame} {meth : Method} {c : Code} {cells slots : Nat} {Q : State → Prop} {D : va_G} {cI cB cJ : ClassId} {A : Nat → Prop} {hx hm b L : Nat} {xs : Nat → Int32} {ws : va_W} {i : Int} (X : CX p m c code 4 s args RL D (TY cI cB cJ) A s.heap) (hX : va_X b L xs s s.heap) (hbl : b < s.heap.size) (hbA : ¬ A b) (hL : L ≤ 3072) (hR : (∀ k, k ≤ 1000 → k ≤ R.frames) ∧ ∀ k, k ≤ 20000 → k ≤ R.locals) (hc : cells + 2 ≤ R.cells ∧ slots + 8 ≤ R.slots) (hi : 0 ≤ i ∧ i + 6 ≤ L) (hW : WW cI cB cJ hx hm ws) (kk : ∀ ws1, WW cI cB cJ hx hm ws1 → GG p l e R s m args below meth c (cells + 2) (slots + 8) Q D A s.heap 4 ws1 1295 [(3, vI i), (2, .ref hm), (1, .ref hx), (0, .ref b)] []) : GG p l e R s m args below meth c cells slots Q D A s.heap 4 ws 725 [(3, vI i), (2, .ref hm), (1, .ref hx), (0, .ref b)] [] := by
  obtain ⟨sn, sk, sd, se, sb, wx, wm, h1, h2, hp⟩ := hW
  have hg := h1.rg
  refine g_aload_n X dL_law_725 2 rfl ?_
  refine g_aload_n X dL_law_726 3 rfl ?_
  refine g_iload_n X dL_law_727 0 rfl ?_
  refine g_iconst X dL_law_728 ?_
  refine g_iadd X dL_law_729 ?_
  refine g_sld X hX hbl hbA hL (by omega) dL_law_730 ?_
  refine g_aload_n X dL_law_731 3 rfl ?_
  refine g_iload_n X dL_law_732 0 rfl ?_
  refine g_iconst X dL_law_733 ?_
  refine g_iadd X dL_law_734 ?_
  refine g_sld X hX hbl hbA hL (by omega) dL_law_735 ?_
  refine g_fxI X hp (x_X9_round l D cI cB cJ hx h1 (p0 := sc xs (i + 1)) (p1 := sc xs (i + 2)) (sc_ir _ _) (sc_ir _ _)) h1.mem cv_X9_round uw902 ⟨rfl, rfl, hR.1 _ (by decide), hR.2 _ (by decide)⟩ rfl rfl (Nat.le_of_ble_eq_true rfl) ⟨Nat.le_trans (by omega) hc.1, Nat.le_trans (by omega) hc.2⟩ dL_law_736 (fun z736 w736 k736 => ?_)
  obtain ⟨n1, k1, d1, e1, h3, r1⟩ := k736
  refine g_pop X rfl dL_law_739 ?_
  refine g_aload_n X dL_law_740 1 rfl ?_
  refine g_aload_n X dL_law_741 3 rfl ?_
  refine g_iload_n X dL_law_742 0 rfl ?_
  refine g_iconst X dL_law_743 ?_
  refine g_iadd X dL_law_744 ?_
  refine g_sld X hX hbl hbA hL (by omega) dL_law_745 ?_
  refine g_aload_n X dL_law_746 3 rfl ?_
  refine g_iload_n X dL_law_747 0 rfl ?_
  refine g_iconst X dL_law_748 ?_
  refine g_iadd X dL_law_749 ?_
  refine g_sld X hX hbl hbA hL (by omega) dL_law_750 ?_
  refine g_fmI X (List.Perm.refl _) (m_X10_round l D cI cB cJ hm h2 (p0 := sc xs (i + 1)) (p1 := sc xs (i + 2)) (sc_ir _ _) (sc_ir _ _)) h2.mem cv_X10_round uw1657 ⟨rfl, rfl, hR.1 _ (by decide), hR.2 _ (by decide)⟩ rfl rfl (Nat.le_of_ble_eq_true rfl) ⟨Nat.le_trans (by omega) hc.1, Nat.le_trans (by omega) hc.2⟩ dL_law_751 (fun z751 w751 k751 => ?_)
  obtain ⟨n2, k2, d2, e2, h4, r2⟩ := k751
  refine g_pop X rfl dL_law_754 ?_
  refine g_goto X (tgt := 1295) dL_law_755 (by decide) ?_
  obtain ⟨rfl, rfl, rfl, rfl⟩ : n2 = n1 ∧ k2 = k1 ∧ d2 = d1 ∧ e2 = e1 := by omega
  exact g_widen (by omega) (by omega) (kk _ ⟨_, _, _, _, _, _, _, h3, h4, List.Perm.refl _⟩)
set_option maxHeartbeats 1000000 in
theorem law_triangle {p : Program} {l : Launch} {e : Env} {R : Room} {s : State} {m : MethodId} {args : Array Value} {below : List Frame} {meth : Method} {c : Code} {cells slots : Nat} {Q : State → Prop} {D : va_G} {cI cB cJ : ClassId} {A : Nat → Prop} {hx hm b L : Nat} {xs : Nat → Int32} {ws : va_W} {i : Int} (X : CX p m c code 4 s args RL D (TY cI cB cJ) A s.heap) (hX : va_X b L xs s s.heap) (hbl : b < s.heap.size) (hbA : ¬ A b) (hL : L ≤ 3072) (hR : (∀ k, k ≤ 1000 → k ≤ R.frames) ∧ ∀ k, k ≤ 20000 → k ≤ R.locals) (hc : cells + 2 ≤ R.cells ∧ slots + 8 ≤ R.slots) (hi : 0 ≤ i ∧ i + 6 ≤ L) (hW : WW cI cB cJ hx hm ws) (kk : ∀ ws1, WW cI cB cJ hx hm ws1 → GG p l e R s m args below meth c (cells + 2) (slots + 8) Q D A s.heap 4 ws1 1295 [(3, vI i), (2, .ref hm), (1, .ref hx), (0, .ref b)] []) : GG p l e R s m args below meth c cells slots Q D A s.heap 4 ws 758 [(3, vI i), (2, .ref hm), (1, .ref hx), (0, .ref b)] [] := by
  obtain ⟨sn, sk, sd, se, sb, wx, wm, h1, h2, hp⟩ := hW
  have hg := h1.rg
  refine g_aload_n X dL_law_758 2 rfl ?_
  refine g_aload_n X dL_law_759 3 rfl ?_
  refine g_iload_n X dL_law_760 0 rfl ?_
  refine g_iconst X dL_law_761 ?_
  refine g_iadd X dL_law_762 ?_
  refine g_sld X hX hbl hbA hL (by omega) dL_law_763 ?_
  refine g_aload_n X dL_law_764 3 rfl ?_
  refine g_iload_n X dL_law_765 0 rfl ?_
  refine g_iconst X dL_law_766 ?_
  refine g_iadd X dL_law_767 ?_
  refine g_sld X hX hbl hbA hL (by omega) dL_law_768 ?_
  refine g_fxI X hp (x_X9_triangle l D cI cB cJ hx h1 (p0 := sc xs (i + 1)) (p1 := sc xs (i + 2)) (sc_ir _ _) (sc_ir _ _)) h1.mem cv_X9_triangle uw925 ⟨rfl, rfl, hR.1 _ (by decide), hR.2 _ (by decide)⟩ rfl rfl (Nat.le_of_ble_eq_true rfl) ⟨Nat.le_trans (by omega) hc.1, Nat.le_trans (by omega) hc.2⟩ dL_law_769 (fun z769 w769 k769 => ?_)
  obtain ⟨n1, k1, d1, e1, h3, r1⟩ := k769
  refine g_pop X rfl dL_law_772 ?_
  refine g_aload_n X dL_law_773 1 rfl ?_
  refine g_aload_n X dL_law_774 3 rfl ?_
  refine g_iload_n X dL_law_775 0 rfl ?_
  refine g_iconst X dL_law_776 ?_
  refine g_iadd X dL_law_777 ?_
  refine g_sld X hX hbl hbA hL (by omega) dL_law_778 ?_
  refine g_aload_n X dL_law_779 3 rfl ?_
  refine g_iload_n X dL_law_780 0 rfl ?_
  refine g_iconst X dL_law_781 ?_
  refine g_iadd X dL_law_782 ?_
  refine g_sld X hX hbl hbA hL (by omega) dL_law_783 ?_
  refine g_fmI X (List.Perm.refl _) (m_X10_triangle l D cI cB cJ hm h2 (p0 := sc xs (i + 1)) (p1 := sc xs (i + 2)) (sc_ir _ _) (sc_ir _ _)) h2.mem cv_X10_triangle uw1682 ⟨rfl, rfl, hR.1 _ (by decide), hR.2 _ (by decide)⟩ rfl rfl (Nat.le_of_ble_eq_true rfl) ⟨Nat.le_trans (by omega) hc.1, Nat.le_trans (by omega) hc.2⟩ dL_law_784 (fun z784 w784 k784 => ?_)
  obtain ⟨n2, k2, d2, e2, h4, r2⟩ := k784
  refine g_pop X rfl dL_law_787 ?_
  refine g_goto X (tgt := 1295) dL_law_788 (by decide) ?_
  obtain ⟨rfl, rfl, rfl, rfl⟩ : n2 = n1 ∧ k2 = k1 ∧ d2 = d1 ∧ e2 = e1 := by omega
  exact g_widen (by omega) (by omega) (kk _ ⟨_, _, _, _, _, _, _, h3, h4, List.Perm.refl _⟩)
set_option maxHeartbeats 1000000 in
theorem law_bestRise {p : Program} {l : Launch} {e : Env} {R : Room} {s : State} {m : MethodId} {args : Array Value} {below : List Frame} {meth : Method} {c : Code} {cells slots : Nat} {Q : State → Prop} {D : va_G} {cI cB cJ : ClassId} {A : Nat → Prop} {hx hm b L : Nat} {xs : Nat → Int32} {ws : va_W} {i : Int} (X : CX p m c code 4 s args RL D (TY cI cB cJ) A s.heap) (hX : va_X b L xs s s.heap) (hbl : b < s.heap.size) (hbA : ¬ A b) (hL : L ≤ 3072) (hR : (∀ k, k ≤ 1000 → k ≤ R.frames) ∧ ∀ k, k ≤ 20000 → k ≤ R.locals) (hc : cells + 2 ≤ R.cells ∧ slots + 8 ≤ R.slots) (hi : 0 ≤ i ∧ i + 6 ≤ L) (hW : WW cI cB cJ hx hm ws) (kk : ∀ ws1, WW cI cB cJ hx hm ws1 → GG p l e R s m args below meth c (cells + 2) (slots + 8) Q D A s.heap 4 ws1 1295 [(3, vI i), (2, .ref hm), (1, .ref hx), (0, .ref b)] []) : GG p l e R s m args below meth c cells slots Q D A s.heap 4 ws 791 [(3, vI i), (2, .ref hm), (1, .ref hx), (0, .ref b)] [] := by
  obtain ⟨sn, sk, sd, se, sb, wx, wm, h1, h2, hp⟩ := hW
  have hg := h1.rg
  refine g_aload_n X dL_law_791 2 rfl ?_
  refine g_aload_n X dL_law_792 3 rfl ?_
  refine g_iload_n X dL_law_793 0 rfl ?_
  refine g_iconst X dL_law_794 ?_
  refine g_iadd X dL_law_795 ?_
  refine g_sld X hX hbl hbA hL (by omega) dL_law_796 ?_
  refine g_aload_n X dL_law_797 3 rfl ?_
  refine g_iload_n X dL_law_798 0 rfl ?_
  refine g_iconst X dL_law_799 ?_
  refine g_iadd X dL_law_800 ?_
  refine g_sld X hX hbl hbA hL (by omega) dL_law_801 ?_
  refine g_fxIJ X hp (x_X9_bestRise l D cI cB cJ hx h1 (p0 := sc xs (i + 1)) (p1 := sc xs (i + 2)) (sc_ir _ _) (sc_ir _ _)) h1.mem cv_X9_bestRise uw946 ⟨rfl, rfl, hR.1 _ (by decide), hR.2 _ (by decide)⟩ rfl rfl (Nat.le_of_ble_eq_true rfl) ⟨Nat.le_trans (Nat.le_refl _) hc.1, Nat.le_trans (Nat.le_refl _) hc.2⟩ dL_law_802 (fun z802 w802 k802 => ?_)
  obtain ⟨n1, k1, d1, e1, h3, r1⟩ := k802
  refine g_pop X rfl dL_law_805 ?_
  refine g_aload_n X dL_law_806 1 rfl ?_
  refine g_aload_n X dL_law_807 3 rfl ?_
  refine g_iload_n X dL_law_808 0 rfl ?_
  refine g_iconst X dL_law_809 ?_
  refine g_iadd X dL_law_810 ?_
  refine g_sld X hX hbl hbA hL (by omega) dL_law_811 ?_
  refine g_aload_n X dL_law_812 3 rfl ?_
  refine g_iload_n X dL_law_813 0 rfl ?_
  refine g_iconst X dL_law_814 ?_
  refine g_iadd X dL_law_815 ?_
  refine g_sld X hX hbl hbA hL (by omega) dL_law_816 ?_
  refine g_fmI X (List.Perm.refl _) (m_X10_bestRise l D cI cB cJ hm h2 (p0 := sc xs (i + 1)) (p1 := sc xs (i + 2)) (sc_ir _ _) (sc_ir _ _)) h2.mem cv_X10_bestRise uw1690 ⟨rfl, rfl, hR.1 _ (by decide), hR.2 _ (by decide)⟩ rfl rfl (Nat.le_of_ble_eq_true rfl) ⟨Nat.le_trans (by omega) hc.1, Nat.le_trans (by omega) hc.2⟩ dL_law_817 (fun z817 w817 k817 => ?_)
  obtain ⟨n2, k2, d2, e2, h4, r2⟩ := k817
  refine g_pop X rfl dL_law_820 ?_
  refine g_goto X (tgt := 1295) dL_law_821 (by decide) ?_
  obtain ⟨rfl, rfl, rfl, rfl⟩ : n2 = n1 ∧ k2 = k1 ∧ d2 = d1 ∧ e2 = e1 := by omega
  exact kk _ ⟨_, _, _, _, _, _, _, h3, h4, List.Perm.refl _⟩
set_option maxHeartbeats 1000000 in
theorem law_narrowest {p : Program} {l : Launch} {e : Env} {R : Room} {s : State} {m : MethodId} {args : Array Value} {below : List Frame} {meth : Method} {c : Code} {cells slots : Nat} {Q : State → Prop} {D : va_G} {cI cB cJ : ClassId} {A : Nat → Prop} {hx hm b L : Nat} {xs : Nat → Int32} {ws : va_W} {i : Int} (X : CX p m c code 4 s args RL D (TY cI cB cJ) A s.heap) (hX : va_X b L xs s s.heap) (hbl : b < s.heap.size) (hbA : ¬ A b) (hL : L ≤ 3072) (hR : (∀ k, k ≤ 1000 → k ≤ R.frames) ∧ ∀ k, k ≤ 20000 → k ≤ R.locals) (hc : cells + 2 ≤ R.cells ∧ slots + 8 ≤ R.slots) (hi : 0 ≤ i ∧ i + 6 ≤ L) (hW : WW cI cB cJ hx hm ws) (kk : ∀ ws1, WW cI cB cJ hx hm ws1 → GG p l e R s m args below meth c (cells + 2) (slots + 8) Q D A s.heap 4 ws1 1295 [(3, vI i), (2, .ref hm), (1, .ref hx), (0, .ref b)] []) : GG p l e R s m args below meth c cells slots Q D A s.heap 4 ws 824 [(3, vI i), (2, .ref hm), (1, .ref hx), (0, .ref b)] [] := by
  obtain ⟨sn, sk, sd, se, sb, wx, wm, h1, h2, hp⟩ := hW
  have hg := h1.rg
  refine g_aload_n X dL_law_824 2 rfl ?_
  refine g_aload_n X dL_law_825 3 rfl ?_
  refine g_iload_n X dL_law_826 0 rfl ?_
  refine g_iconst X dL_law_827 ?_
  refine g_iadd X dL_law_828 ?_
  refine g_sld X hX hbl hbA hL (by omega) dL_law_829 ?_
  refine g_aload_n X dL_law_830 3 rfl ?_
  refine g_iload_n X dL_law_831 0 rfl ?_
  refine g_iconst X dL_law_832 ?_
  refine g_iadd X dL_law_833 ?_
  refine g_sld X hX hbl hbA hL (by omega) dL_law_834 ?_
  refine g_fxI X hp (x_X9_narrowest l D cI cB cJ hx h1 (p0 := sc xs (i + 1)) (p1 := sc xs (i + 2)) (sc_ir _ _) (sc_ir _ _)) h1.mem cv_X9_narrowest uw954 ⟨rfl, rfl, hR.1 _ (by decide), hR.2 _ (by decide)⟩ rfl rfl (Nat.le_of_ble_eq_true rfl) ⟨Nat.le_trans (by omega) hc.1, Nat.le_trans (by omega) hc.2⟩ dL_law_835 (fun z835 w835 k835 => ?_)
  obtain ⟨n1, k1, d1, e1, h3, r1⟩ := k835
  refine g_pop X rfl dL_law_838 ?_
  refine g_aload_n X dL_law_839 1 rfl ?_
  refine g_aload_n X dL_law_840 3 rfl ?_
  refine g_iload_n X dL_law_841 0 rfl ?_
  refine g_iconst X dL_law_842 ?_
  refine g_iadd X dL_law_843 ?_
  refine g_sld X hX hbl hbA hL (by omega) dL_law_844 ?_
  refine g_aload_n X dL_law_845 3 rfl ?_
  refine g_iload_n X dL_law_846 0 rfl ?_
  refine g_iconst X dL_law_847 ?_
  refine g_iadd X dL_law_848 ?_
  refine g_sld X hX hbl hbA hL (by omega) dL_law_849 ?_
  refine g_fmI X (List.Perm.refl _) (m_X10_narrowest l D cI cB cJ hm h2 (p0 := sc xs (i + 1)) (p1 := sc xs (i + 2)) (sc_ir _ _) (sc_ir _ _)) h2.mem cv_X10_narrowest uw1694 ⟨rfl, rfl, hR.1 _ (by decide), hR.2 _ (by decide)⟩ rfl rfl (Nat.le_of_ble_eq_true rfl) ⟨Nat.le_trans (by omega) hc.1, Nat.le_trans (by omega) hc.2⟩ dL_law_850 (fun z850 w850 k850 => ?_)
  obtain ⟨n2, k2, d2, e2, h4, r2⟩ := k850
  refine g_pop X rfl dL_law_853 ?_
  refine g_goto X (tgt := 1295) dL_law_854 (by decide) ?_
  obtain ⟨rfl, rfl, rfl, rfl⟩ : n2 = n1 ∧ k2 = k1 ∧ d2 = d1 ∧ e2 = e1 := by omega
  exact g_widen (by omega) (by omega) (kk _ ⟨_, _, _, _, _, _, _, h3, h4, List.Perm.refl _⟩)
set_option maxHeartbeats 1000000 in
theorem law_twos {p : Program} {l : Launch} {e : Env} {R : Room} {s : State} {m : MethodId} {args : Array Value} {below : List Frame} {meth : Method} {c : Code} {cells slots : Nat} {Q : State → Prop} {D : va_G} {cI cB cJ : ClassId} {A : Nat → Prop} {hx hm b L : Nat} {xs : Nat → Int32} {ws : va_W} {i : Int} (X : CX p m c code 4 s args RL D (TY cI cB cJ) A s.heap) (hX : va_X b L xs s s.heap) (hbl : b < s.heap.size) (hbA : ¬ A b) (hL : L ≤ 3072) (hR : (∀ k, k ≤ 1000 → k ≤ R.frames) ∧ ∀ k, k ≤ 20000 → k ≤ R.locals) (hc : cells + 2 ≤ R.cells ∧ slots + 8 ≤ R.slots) (hi : 0 ≤ i ∧ i + 6 ≤ L) (hW : WW cI cB cJ hx hm ws) (kk : ∀ ws1, WW cI cB cJ hx hm ws1 → GG p l e R s m args below meth c (cells + 2) (slots + 8) Q D A s.heap 4 ws1 1295 [(3, vI i), (2, .ref hm), (1, .ref hx), (0, .ref b)] []) : GG p l e R s m args below meth c cells slots Q D A s.heap 4 ws 857 [(3, vI i), (2, .ref hm), (1, .ref hx), (0, .ref b)] [] := by
  obtain ⟨sn, sk, sd, se, sb, wx, wm, h1, h2, hp⟩ := hW
  have hg := h1.rg
  refine g_aload_n X dL_law_857 2 rfl ?_
  refine g_aload_n X dL_law_858 3 rfl ?_
  refine g_iload_n X dL_law_859 0 rfl ?_
  refine g_iconst X dL_law_860 ?_
  refine g_iadd X dL_law_861 ?_
  refine g_sld X hX hbl hbA hL (by omega) dL_law_862 ?_
  refine g_aload_n X dL_law_863 3 rfl ?_
  refine g_iload_n X dL_law_864 0 rfl ?_
  refine g_iconst X dL_law_865 ?_
  refine g_iadd X dL_law_866 ?_
  refine g_sld X hX hbl hbA hL (by omega) dL_law_867 ?_
  refine g_fxI X hp (x_X9_twos l D cI cB cJ hx h1 (p0 := sc xs (i + 1)) (p1 := sc xs (i + 2)) (sc_ir _ _) (sc_ir _ _)) h1.mem cv_X9_twos uw964 ⟨rfl, rfl, hR.1 _ (by decide), hR.2 _ (by decide)⟩ rfl rfl (Nat.le_of_ble_eq_true rfl) ⟨Nat.le_trans (by omega) hc.1, Nat.le_trans (by omega) hc.2⟩ dL_law_868 (fun z868 w868 k868 => ?_)
  obtain ⟨n1, k1, d1, e1, h3, r1⟩ := k868
  refine g_pop X rfl dL_law_871 ?_
  refine g_aload_n X dL_law_872 1 rfl ?_
  refine g_aload_n X dL_law_873 3 rfl ?_
  refine g_iload_n X dL_law_874 0 rfl ?_
  refine g_iconst X dL_law_875 ?_
  refine g_iadd X dL_law_876 ?_
  refine g_sld X hX hbl hbA hL (by omega) dL_law_877 ?_
  refine g_aload_n X dL_law_878 3 rfl ?_
  refine g_iload_n X dL_law_879 0 rfl ?_
  refine g_iconst X dL_law_880 ?_
  refine g_iadd X dL_law_881 ?_
  refine g_sld X hX hbl hbA hL (by omega) dL_law_882 ?_
  refine g_fmI X (List.Perm.refl _) (m_X10_twos l D cI cB cJ hm h2 (p0 := sc xs (i + 1)) (p1 := sc xs (i + 2)) (sc_ir _ _) (sc_ir _ _)) h2.mem cv_X10_twos uw1702 ⟨rfl, rfl, hR.1 _ (by decide), hR.2 _ (by decide)⟩ rfl rfl (Nat.le_of_ble_eq_true rfl) ⟨Nat.le_trans (by omega) hc.1, Nat.le_trans (by omega) hc.2⟩ dL_law_883 (fun z883 w883 k883 => ?_)
  obtain ⟨n2, k2, d2, e2, h4, r2⟩ := k883
  refine g_pop X rfl dL_law_886 ?_
  refine g_goto X (tgt := 1295) dL_law_887 (by decide) ?_
  obtain ⟨rfl, rfl, rfl, rfl⟩ : n2 = n1 ∧ k2 = k1 ∧ d2 = d1 ∧ e2 = e1 := by omega
  exact g_widen (by omega) (by omega) (kk _ ⟨_, _, _, _, _, _, _, h3, h4, List.Perm.refl _⟩)
set_option maxHeartbeats 1000000 in
theorem law_paired {p : Program} {l : Launch} {e : Env} {R : Room} {s : State} {m : MethodId} {args : Array Value} {below : List Frame} {meth : Method} {c : Code} {cells slots : Nat} {Q : State → Prop} {D : va_G} {cI cB cJ : ClassId} {A : Nat → Prop} {hx hm b L : Nat} {xs : Nat → Int32} {ws : va_W} {i : Int} (X : CX p m c code 4 s args RL D (TY cI cB cJ) A s.heap) (hX : va_X b L xs s s.heap) (hbl : b < s.heap.size) (hbA : ¬ A b) (hL : L ≤ 3072) (hR : (∀ k, k ≤ 1000 → k ≤ R.frames) ∧ ∀ k, k ≤ 20000 → k ≤ R.locals) (hc : cells + 2 ≤ R.cells ∧ slots + 8 ≤ R.slots) (hi : 0 ≤ i ∧ i + 6 ≤ L) (hW : WW cI cB cJ hx hm ws) (kk : ∀ ws1, WW cI cB cJ hx hm ws1 → GG p l e R s m args below meth c (cells + 2) (slots + 8) Q D A s.heap 4 ws1 1295 [(3, vI i), (2, .ref hm), (1, .ref hx), (0, .ref b)] []) : GG p l e R s m args below meth c cells slots Q D A s.heap 4 ws 890 [(3, vI i), (2, .ref hm), (1, .ref hx), (0, .ref b)] [] := by
  obtain ⟨sn, sk, sd, se, sb, wx, wm, h1, h2, hp⟩ := hW
  have hg := h1.rg
  refine g_aload_n X dL_law_890 2 rfl ?_
  refine g_aload_n X dL_law_891 3 rfl ?_
  refine g_iload_n X dL_law_892 0 rfl ?_
  refine g_iconst X dL_law_893 ?_
  refine g_iadd X dL_law_894 ?_
  refine g_sld X hX hbl hbA hL (by omega) dL_law_895 ?_
  refine g_aload_n X dL_law_896 3 rfl ?_
  refine g_iload_n X dL_law_897 0 rfl ?_
  refine g_iconst X dL_law_898 ?_
  refine g_iadd X dL_law_899 ?_
  refine g_sld X hX hbl hbA hL (by omega) dL_law_900 ?_
  refine g_fxI X hp (x_X9_paired l D cI cB cJ hx h1 (p0 := sc xs (i + 1)) (p1 := sc xs (i + 2)) (sc_ir _ _) (sc_ir _ _)) h1.mem cv_X9_paired uw971 ⟨rfl, rfl, hR.1 _ (by decide), hR.2 _ (by decide)⟩ rfl rfl (Nat.le_of_ble_eq_true rfl) ⟨Nat.le_trans (by omega) hc.1, Nat.le_trans (by omega) hc.2⟩ dL_law_901 (fun z901 w901 k901 => ?_)
  obtain ⟨n1, k1, d1, e1, h3, r1⟩ := k901
  refine g_pop X rfl dL_law_904 ?_
  refine g_aload_n X dL_law_905 1 rfl ?_
  refine g_aload_n X dL_law_906 3 rfl ?_
  refine g_iload_n X dL_law_907 0 rfl ?_
  refine g_iconst X dL_law_908 ?_
  refine g_iadd X dL_law_909 ?_
  refine g_sld X hX hbl hbA hL (by omega) dL_law_910 ?_
  refine g_aload_n X dL_law_911 3 rfl ?_
  refine g_iload_n X dL_law_912 0 rfl ?_
  refine g_iconst X dL_law_913 ?_
  refine g_iadd X dL_law_914 ?_
  refine g_sld X hX hbl hbA hL (by omega) dL_law_915 ?_
  refine g_fmI X (List.Perm.refl _) (m_X10_paired l D cI cB cJ hm h2 (p0 := sc xs (i + 1)) (p1 := sc xs (i + 2)) (sc_ir _ _) (sc_ir _ _)) h2.mem cv_X10_paired uw1706 ⟨rfl, rfl, hR.1 _ (by decide), hR.2 _ (by decide)⟩ rfl rfl (Nat.le_of_ble_eq_true rfl) ⟨Nat.le_trans (by omega) hc.1, Nat.le_trans (by omega) hc.2⟩ dL_law_916 (fun z916 w916 k916 => ?_)
  obtain ⟨n2, k2, d2, e2, h4, r2⟩ := k916
  refine g_pop X rfl dL_law_919 ?_
  refine g_goto X (tgt := 1295) dL_law_920 (by decide) ?_
  obtain ⟨rfl, rfl, rfl, rfl⟩ : n2 = n1 ∧ k2 = k1 ∧ d2 = d1 ∧ e2 = e1 := by omega
  exact g_widen (by omega) (by omega) (kk _ ⟨_, _, _, _, _, _, _, h3, h4, List.Perm.refl _⟩)
set_option maxHeartbeats 1000000 in
theorem law_halves {p : Program} {l : Launch} {e : Env} {R : Room} {s : State} {m : MethodId} {args : Array Value} {below : List Frame} {meth : Method} {c : Code} {cells slots : Nat} {Q : State → Prop} {D : va_G} {cI cB cJ : ClassId} {A : Nat → Prop} {hx hm b L : Nat} {xs : Nat → Int32} {ws : va_W} {i : Int} (X : CX p m c code 4 s args RL D (TY cI cB cJ) A s.heap) (hX : va_X b L xs s s.heap) (hbl : b < s.heap.size) (hbA : ¬ A b) (hL : L ≤ 3072) (hR : (∀ k, k ≤ 1000 → k ≤ R.frames) ∧ ∀ k, k ≤ 20000 → k ≤ R.locals) (hc : cells + 2 ≤ R.cells ∧ slots + 8 ≤ R.slots) (hi : 0 ≤ i ∧ i + 6 ≤ L) (hW : WW cI cB cJ hx hm ws) (kk : ∀ ws1, WW cI cB cJ hx hm ws1 → GG p l e R s m args below meth c (cells + 2) (slots + 8) Q D A s.heap 4 ws1 1295 [(3, vI i), (2, .ref hm), (1, .ref hx), (0, .ref b)] []) : GG p l e R s m args below meth c cells slots Q D A s.heap 4 ws 923 [(3, vI i), (2, .ref hm), (1, .ref hx), (0, .ref b)] [] := by
  obtain ⟨sn, sk, sd, se, sb, wx, wm, h1, h2, hp⟩ := hW
  have hg := h1.rg
  refine g_aload_n X dL_law_923 2 rfl ?_
  refine g_aload_n X dL_law_924 3 rfl ?_
  refine g_iload_n X dL_law_925 0 rfl ?_
  refine g_iconst X dL_law_926 ?_
  refine g_iadd X dL_law_927 ?_
  refine g_sld X hX hbl hbA hL (by omega) dL_law_928 ?_
  refine g_aload_n X dL_law_929 3 rfl ?_
  refine g_iload_n X dL_law_930 0 rfl ?_
  refine g_iconst X dL_law_931 ?_
  refine g_iadd X dL_law_932 ?_
  refine g_sld X hX hbl hbA hL (by omega) dL_law_933 ?_
  refine g_fxI X hp (x_X9_halves l D cI cB cJ hx h1 (p0 := sc xs (i + 1)) (p1 := sc xs (i + 2)) (sc_ir _ _) (sc_ir _ _)) h1.mem cv_X9_halves uw978 ⟨rfl, rfl, hR.1 _ (by decide), hR.2 _ (by decide)⟩ rfl rfl (Nat.le_of_ble_eq_true rfl) ⟨Nat.le_trans (by omega) hc.1, Nat.le_trans (by omega) hc.2⟩ dL_law_934 (fun z934 w934 k934 => ?_)
  obtain ⟨n1, k1, d1, e1, h3, r1⟩ := k934
  refine g_pop X rfl dL_law_937 ?_
  refine g_aload_n X dL_law_938 1 rfl ?_
  refine g_aload_n X dL_law_939 3 rfl ?_
  refine g_iload_n X dL_law_940 0 rfl ?_
  refine g_iconst X dL_law_941 ?_
  refine g_iadd X dL_law_942 ?_
  refine g_sld X hX hbl hbA hL (by omega) dL_law_943 ?_
  refine g_aload_n X dL_law_944 3 rfl ?_
  refine g_iload_n X dL_law_945 0 rfl ?_
  refine g_iconst X dL_law_946 ?_
  refine g_iadd X dL_law_947 ?_
  refine g_sld X hX hbl hbA hL (by omega) dL_law_948 ?_
  refine g_fmI X (List.Perm.refl _) (m_X10_halves l D cI cB cJ hm h2 (p0 := sc xs (i + 1)) (p1 := sc xs (i + 2)) (sc_ir _ _) (sc_ir _ _)) h2.mem cv_X10_halves uw1710 ⟨rfl, rfl, hR.1 _ (by decide), hR.2 _ (by decide)⟩ rfl rfl (Nat.le_of_ble_eq_true rfl) ⟨Nat.le_trans (by omega) hc.1, Nat.le_trans (by omega) hc.2⟩ dL_law_949 (fun z949 w949 k949 => ?_)
  obtain ⟨n2, k2, d2, e2, h4, r2⟩ := k949
  refine g_pop X rfl dL_law_952 ?_
  refine g_goto X (tgt := 1295) dL_law_953 (by decide) ?_
  obtain ⟨rfl, rfl, rfl, rfl⟩ : n2 = n1 ∧ k2 = k1 ∧ d2 = d1 ∧ e2 = e1 := by omega
  exact g_widen (by omega) (by omega) (kk _ ⟨_, _, _, _, _, _, _, h3, h4, List.Perm.refl _⟩)
set_option maxHeartbeats 1000000 in
theorem law_steady {p : Program} {l : Launch} {e : Env} {R : Room} {s : State} {m : MethodId} {args : Array Value} {below : List Frame} {meth : Method} {c : Code} {cells slots : Nat} {Q : State → Prop} {D : va_G} {cI cB cJ : ClassId} {A : Nat → Prop} {hx hm b L : Nat} {xs : Nat → Int32} {ws : va_W} {i : Int} (X : CX p m c code 4 s args RL D (TY cI cB cJ) A s.heap) (hX : va_X b L xs s s.heap) (hbl : b < s.heap.size) (hbA : ¬ A b) (hL : L ≤ 3072) (hR : (∀ k, k ≤ 1000 → k ≤ R.frames) ∧ ∀ k, k ≤ 20000 → k ≤ R.locals) (hc : cells + 2 ≤ R.cells ∧ slots + 8 ≤ R.slots) (hi : 0 ≤ i ∧ i + 6 ≤ L) (hW : WW cI cB cJ hx hm ws) (kk : ∀ ws1, WW cI cB cJ hx hm ws1 → GG p l e R s m args below meth c (cells + 2) (slots + 8) Q D A s.heap 4 ws1 1295 [(3, vI i), (2, .ref hm), (1, .ref hx), (0, .ref b)] []) : GG p l e R s m args below meth c cells slots Q D A s.heap 4 ws 956 [(3, vI i), (2, .ref hm), (1, .ref hx), (0, .ref b)] [] := by
  obtain ⟨sn, sk, sd, se, sb, wx, wm, h1, h2, hp⟩ := hW
  have hg := h1.rg
  refine g_aload_n X dL_law_956 2 rfl ?_
  refine g_aload_n X dL_law_957 3 rfl ?_
  refine g_iload_n X dL_law_958 0 rfl ?_
  refine g_iconst X dL_law_959 ?_
  refine g_iadd X dL_law_960 ?_
  refine g_sld X hX hbl hbA hL (by omega) dL_law_961 ?_
  refine g_aload_n X dL_law_962 3 rfl ?_
  refine g_iload_n X dL_law_963 0 rfl ?_
  refine g_iconst X dL_law_964 ?_
  refine g_iadd X dL_law_965 ?_
  refine g_sld X hX hbl hbA hL (by omega) dL_law_966 ?_
  refine g_fxI X hp (x_X9_steady l D cI cB cJ hx h1 (p0 := sc xs (i + 1)) (p1 := sc xs (i + 2)) (sc_ir _ _) (sc_ir _ _)) h1.mem cv_X9_steady uw992 ⟨rfl, rfl, hR.1 _ (by decide), hR.2 _ (by decide)⟩ rfl rfl (Nat.le_of_ble_eq_true rfl) ⟨Nat.le_trans (by omega) hc.1, Nat.le_trans (by omega) hc.2⟩ dL_law_967 (fun z967 w967 k967 => ?_)
  obtain ⟨n1, k1, d1, e1, h3, r1⟩ := k967
  refine g_pop X rfl dL_law_970 ?_
  refine g_aload_n X dL_law_971 1 rfl ?_
  refine g_aload_n X dL_law_972 3 rfl ?_
  refine g_iload_n X dL_law_973 0 rfl ?_
  refine g_iconst X dL_law_974 ?_
  refine g_iadd X dL_law_975 ?_
  refine g_sld X hX hbl hbA hL (by omega) dL_law_976 ?_
  refine g_aload_n X dL_law_977 3 rfl ?_
  refine g_iload_n X dL_law_978 0 rfl ?_
  refine g_iconst X dL_law_979 ?_
  refine g_iadd X dL_law_980 ?_
  refine g_sld X hX hbl hbA hL (by omega) dL_law_981 ?_
  refine g_fmI X (List.Perm.refl _) (m_X10_steady l D cI cB cJ hm h2 (p0 := sc xs (i + 1)) (p1 := sc xs (i + 2)) (sc_ir _ _) (sc_ir _ _)) h2.mem cv_X10_steady uw1718 ⟨rfl, rfl, hR.1 _ (by decide), hR.2 _ (by decide)⟩ rfl rfl (Nat.le_of_ble_eq_true rfl) ⟨Nat.le_trans (by omega) hc.1, Nat.le_trans (by omega) hc.2⟩ dL_law_982 (fun z982 w982 k982 => ?_)
  obtain ⟨n2, k2, d2, e2, h4, r2⟩ := k982
  refine g_pop X rfl dL_law_985 ?_
  refine g_goto X (tgt := 1295) dL_law_986 (by decide) ?_
  obtain ⟨rfl, rfl, rfl, rfl⟩ : n2 = n1 ∧ k2 = k1 ∧ d2 = d1 ∧ e2 = e1 := by omega
  exact g_widen (by omega) (by omega) (kk _ ⟨_, _, _, _, _, _, _, h3, h4, List.Perm.refl _⟩)
set_option maxHeartbeats 1000000 in
theorem law_comes {p : Program} {l : Launch} {e : Env} {R : Room} {s : State} {m : MethodId} {args : Array Value} {below : List Frame} {meth : Method} {c : Code} {cells slots : Nat} {Q : State → Prop} {D : va_G} {cI cB cJ : ClassId} {A : Nat → Prop} {hx hm b L : Nat} {xs : Nat → Int32} {ws : va_W} {i : Int} (X : CX p m c code 4 s args RL D (TY cI cB cJ) A s.heap) (hX : va_X b L xs s s.heap) (hbl : b < s.heap.size) (hbA : ¬ A b) (hL : L ≤ 3072) (hR : (∀ k, k ≤ 1000 → k ≤ R.frames) ∧ ∀ k, k ≤ 20000 → k ≤ R.locals) (hc : cells + 2 ≤ R.cells ∧ slots + 8 ≤ R.slots) (hi : 0 ≤ i ∧ i + 6 ≤ L) (hW : WW cI cB cJ hx hm ws) (kk : ∀ ws1, WW cI cB cJ hx hm ws1 → GG p l e R s m args below meth c (cells + 2) (slots + 8) Q D A s.heap 4 ws1 1295 [(3, vI i), (2, .ref hm), (1, .ref hx), (0, .ref b)] []) : GG p l e R s m args below meth c cells slots Q D A s.heap 4 ws 989 [(3, vI i), (2, .ref hm), (1, .ref hx), (0, .ref b)] [] := by
  obtain ⟨sn, sk, sd, se, sb, wx, wm, h1, h2, hp⟩ := hW
  have hg := h1.rg
  refine g_aload_n X dL_law_989 2 rfl ?_
  refine g_aload_n X dL_law_990 3 rfl ?_
  refine g_iload_n X dL_law_991 0 rfl ?_
  refine g_iconst X dL_law_992 ?_
  refine g_iadd X dL_law_993 ?_
  refine g_sld X hX hbl hbA hL (by omega) dL_law_994 ?_
  refine g_aload_n X dL_law_995 3 rfl ?_
  refine g_iload_n X dL_law_996 0 rfl ?_
  refine g_iconst X dL_law_997 ?_
  refine g_iadd X dL_law_998 ?_
  refine g_sld X hX hbl hbA hL (by omega) dL_law_999 ?_
  refine g_fxI X hp (x_X9_comes l D cI cB cJ hx h1 (p0 := sc xs (i + 1)) (p1 := sc xs (i + 2)) (sc_ir _ _) (sc_ir _ _)) h1.mem cv_X9_comes uw1005 ⟨rfl, rfl, hR.1 _ (by decide), hR.2 _ (by decide)⟩ rfl rfl (Nat.le_of_ble_eq_true rfl) ⟨Nat.le_trans (by omega) hc.1, Nat.le_trans (by omega) hc.2⟩ dL_law_1000 (fun z1000 w1000 k1000 => ?_)
  obtain ⟨n1, k1, d1, e1, h3, r1⟩ := k1000
  refine g_pop X rfl dL_law_1003 ?_
  refine g_aload_n X dL_law_1004 1 rfl ?_
  refine g_aload_n X dL_law_1005 3 rfl ?_
  refine g_iload_n X dL_law_1006 0 rfl ?_
  refine g_iconst X dL_law_1007 ?_
  refine g_iadd X dL_law_1008 ?_
  refine g_sld X hX hbl hbA hL (by omega) dL_law_1009 ?_
  refine g_aload_n X dL_law_1010 3 rfl ?_
  refine g_iload_n X dL_law_1011 0 rfl ?_
  refine g_iconst X dL_law_1012 ?_
  refine g_iadd X dL_law_1013 ?_
  refine g_sld X hX hbl hbA hL (by omega) dL_law_1014 ?_
  refine g_fmI X (List.Perm.refl _) (m_X10_comes l D cI cB cJ hm h2 (p0 := sc xs (i + 1)) (p1 := sc xs (i + 2)) (sc_ir _ _) (sc_ir _ _)) h2.mem cv_X10_comes uw1730 ⟨rfl, rfl, hR.1 _ (by decide), hR.2 _ (by decide)⟩ rfl rfl (Nat.le_of_ble_eq_true rfl) ⟨Nat.le_trans (by omega) hc.1, Nat.le_trans (by omega) hc.2⟩ dL_law_1015 (fun z1015 w1015 k1015 => ?_)
  obtain ⟨n2, k2, d2, e2, h4, r2⟩ := k1015
  refine g_pop X rfl dL_law_1018 ?_
  refine g_goto X (tgt := 1295) dL_law_1019 (by decide) ?_
  obtain ⟨rfl, rfl, rfl, rfl⟩ : n2 = n1 ∧ k2 = k1 ∧ d2 = d1 ∧ e2 = e1 := by omega
  exact g_widen (by omega) (by omega) (kk _ ⟨_, _, _, _, _, _, _, h3, h4, List.Perm.refl _⟩)
set_option maxHeartbeats 1000000 in
theorem law_rests {p : Program} {l : Launch} {e : Env} {R : Room} {s : State} {m : MethodId} {args : Array Value} {below : List Frame} {meth : Method} {c : Code} {cells slots : Nat} {Q : State → Prop} {D : va_G} {cI cB cJ : ClassId} {A : Nat → Prop} {hx hm b L : Nat} {xs : Nat → Int32} {ws : va_W} {i : Int} (X : CX p m c code 4 s args RL D (TY cI cB cJ) A s.heap) (hX : va_X b L xs s s.heap) (hbl : b < s.heap.size) (hbA : ¬ A b) (hL : L ≤ 3072) (hR : (∀ k, k ≤ 1000 → k ≤ R.frames) ∧ ∀ k, k ≤ 20000 → k ≤ R.locals) (hc : cells + 2 ≤ R.cells ∧ slots + 8 ≤ R.slots) (hi : 0 ≤ i ∧ i + 6 ≤ L) (hW : WW cI cB cJ hx hm ws) (kk : ∀ ws1, WW cI cB cJ hx hm ws1 → GG p l e R s m args below meth c (cells + 2) (slots + 8) Q D A s.heap 4 ws1 1295 [(3, vI i), (2, .ref hm), (1, .ref hx), (0, .ref b)] []) : GG p l e R s m args below meth c cells slots Q D A s.heap 4 ws 1022 [(3, vI i), (2, .ref hm), (1, .ref hx), (0, .ref b)] [] := by
  obtain ⟨sn, sk, sd, se, sb, wx, wm, h1, h2, hp⟩ := hW
  have hg := h1.rg
  refine g_aload_n X dL_law_1022 2 rfl ?_
  refine g_aload_n X dL_law_1023 3 rfl ?_
  refine g_iload_n X dL_law_1024 0 rfl ?_
  refine g_iconst X dL_law_1025 ?_
  refine g_iadd X dL_law_1026 ?_
  refine g_sld X hX hbl hbA hL (by omega) dL_law_1027 ?_
  refine g_aload_n X dL_law_1028 3 rfl ?_
  refine g_iload_n X dL_law_1029 0 rfl ?_
  refine g_iconst X dL_law_1030 ?_
  refine g_iadd X dL_law_1031 ?_
  refine g_sld X hX hbl hbA hL (by omega) dL_law_1032 ?_
  refine g_aload_n X dL_law_1033 3 rfl ?_
  refine g_iload_n X dL_law_1034 0 rfl ?_
  refine g_iconst X dL_law_1035 ?_
  refine g_iadd X dL_law_1036 ?_
  refine g_sld X hX hbl hbA hL (by omega) dL_law_1037 ?_
  refine g_fxI X hp (x_X9_rests l D cI cB cJ hx h1 (p0 := sc xs (i + 1)) (p1 := sc xs (i + 2)) (p2 := sc xs (i + 3)) (sc_ir _ _) (sc_ir _ _) (sc_ir _ _)) h1.mem cv_X9_rests uw1025 ⟨rfl, rfl, hR.1 _ (by decide), hR.2 _ (by decide)⟩ rfl rfl (Nat.le_of_ble_eq_true rfl) ⟨Nat.le_trans (by omega) hc.1, Nat.le_trans (by omega) hc.2⟩ dL_law_1038 (fun z1038 w1038 k1038 => ?_)
  obtain ⟨n1, k1, d1, e1, h3, r1⟩ := k1038
  refine g_pop X rfl dL_law_1041 ?_
  refine g_aload_n X dL_law_1042 1 rfl ?_
  refine g_aload_n X dL_law_1043 3 rfl ?_
  refine g_iload_n X dL_law_1044 0 rfl ?_
  refine g_iconst X dL_law_1045 ?_
  refine g_iadd X dL_law_1046 ?_
  refine g_sld X hX hbl hbA hL (by omega) dL_law_1047 ?_
  refine g_aload_n X dL_law_1048 3 rfl ?_
  refine g_iload_n X dL_law_1049 0 rfl ?_
  refine g_iconst X dL_law_1050 ?_
  refine g_iadd X dL_law_1051 ?_
  refine g_sld X hX hbl hbA hL (by omega) dL_law_1052 ?_
  refine g_aload_n X dL_law_1053 3 rfl ?_
  refine g_iload_n X dL_law_1054 0 rfl ?_
  refine g_iconst X dL_law_1055 ?_
  refine g_iadd X dL_law_1056 ?_
  refine g_sld X hX hbl hbA hL (by omega) dL_law_1057 ?_
  refine g_fmI X (List.Perm.refl _) (m_X10_rests l D cI cB cJ hm h2 (p0 := sc xs (i + 1)) (p1 := sc xs (i + 2)) (p2 := sc xs (i + 3)) (sc_ir _ _) (sc_ir _ _) (sc_ir _ _)) h2.mem cv_X10_rests uw1741 ⟨rfl, rfl, hR.1 _ (by decide), hR.2 _ (by decide)⟩ rfl rfl (Nat.le_of_ble_eq_true rfl) ⟨Nat.le_trans (by omega) hc.1, Nat.le_trans (by omega) hc.2⟩ dL_law_1058 (fun z1058 w1058 k1058 => ?_)
  obtain ⟨n2, k2, d2, e2, h4, r2⟩ := k1058
  refine g_pop X rfl dL_law_1061 ?_
  refine g_goto X (tgt := 1295) dL_law_1062 (by decide) ?_
  obtain ⟨rfl, rfl, rfl, rfl⟩ : n2 = n1 ∧ k2 = k1 ∧ d2 = d1 ∧ e2 = e1 := by omega
  exact g_widen (by omega) (by omega) (kk _ ⟨_, _, _, _, _, _, _, h3, h4, List.Perm.refl _⟩)
set_option maxHeartbeats 1000000 in
theorem law_days {p : Program} {l : Launch} {e : Env} {R : Room} {s : State} {m : MethodId} {args : Array Value} {below : List Frame} {meth : Method} {c : Code} {cells slots : Nat} {Q : State → Prop} {D : va_G} {cI cB cJ : ClassId} {A : Nat → Prop} {hx hm b L : Nat} {xs : Nat → Int32} {ws : va_W} {i : Int} (X : CX p m c code 4 s args RL D (TY cI cB cJ) A s.heap) (hX : va_X b L xs s s.heap) (hbl : b < s.heap.size) (hbA : ¬ A b) (hL : L ≤ 3072) (hR : (∀ k, k ≤ 1000 → k ≤ R.frames) ∧ ∀ k, k ≤ 20000 → k ≤ R.locals) (hc : cells + 2 ≤ R.cells ∧ slots + 8 ≤ R.slots) (hi : 0 ≤ i ∧ i + 6 ≤ L) (hW : WW cI cB cJ hx hm ws) (kk : ∀ ws1, WW cI cB cJ hx hm ws1 → GG p l e R s m args below meth c (cells + 2) (slots + 8) Q D A s.heap 4 ws1 1295 [(3, vI i), (2, .ref hm), (1, .ref hx), (0, .ref b)] []) : GG p l e R s m args below meth c cells slots Q D A s.heap 4 ws 1065 [(3, vI i), (2, .ref hm), (1, .ref hx), (0, .ref b)] [] := by
  obtain ⟨sn, sk, sd, se, sb, wx, wm, h1, h2, hp⟩ := hW
  have hg := h1.rg
  refine g_aload_n X dL_law_1065 2 rfl ?_
  refine g_aload_n X dL_law_1066 3 rfl ?_
  refine g_iload_n X dL_law_1067 0 rfl ?_
  refine g_iconst X dL_law_1068 ?_
  refine g_iadd X dL_law_1069 ?_
  refine g_sld X hX hbl hbA hL (by omega) dL_law_1070 ?_
  refine g_fxI X hp (x_X9_days l D cI cB cJ hx h1 (p0 := sc xs (i + 1)) (sc_ir _ _)) h1.mem cv_X9_days uw1040 ⟨rfl, rfl, hR.1 _ (by decide), hR.2 _ (by decide)⟩ rfl rfl (Nat.le_of_ble_eq_true rfl) ⟨Nat.le_trans (by omega) hc.1, Nat.le_trans (by omega) hc.2⟩ dL_law_1071 (fun z1071 w1071 k1071 => ?_)
  obtain ⟨n1, k1, d1, e1, h3, r1⟩ := k1071
  refine g_pop X rfl dL_law_1074 ?_
  refine g_aload_n X dL_law_1075 1 rfl ?_
  refine g_aload_n X dL_law_1076 3 rfl ?_
  refine g_iload_n X dL_law_1077 0 rfl ?_
  refine g_iconst X dL_law_1078 ?_
  refine g_iadd X dL_law_1079 ?_
  refine g_sld X hX hbl hbA hL (by omega) dL_law_1080 ?_
  refine g_fmI X (List.Perm.refl _) (m_X10_days l D cI cB cJ hm h2 (by omega) (p0 := sc xs (i + 1)) (sc_ir _ _)) h2.mem cv_X10_days uw1753 ⟨rfl, rfl, hR.1 _ (by decide), hR.2 _ (by decide)⟩ rfl rfl (Nat.le_of_ble_eq_true rfl) ⟨Nat.le_trans (by omega) hc.1, Nat.le_trans (by omega) hc.2⟩ dL_law_1081 (fun z1081 w1081 k1081 => ?_)
  obtain ⟨n2, k2, d2, e2, h4, r2⟩ := k1081
  refine g_pop X rfl dL_law_1084 ?_
  refine g_goto X (tgt := 1295) dL_law_1085 (by decide) ?_
  obtain ⟨rfl, rfl, rfl, rfl⟩ : n2 = n1 ∧ k2 = k1 ∧ d2 = d1 ∧ e2 = e1 := by omega
  exact g_widen (by omega) (by omega) (kk _ ⟨_, _, _, _, _, _, _, h3, h4, List.Perm.refl _⟩)
set_option maxHeartbeats 1000000 in
theorem law_tried {p : Program} {l : Launch} {e : Env} {R : Room} {s : State} {m : MethodId} {args : Array Value} {below : List Frame} {meth : Method} {c : Code} {cells slots : Nat} {Q : State → Prop} {D : va_G} {cI cB cJ : ClassId} {A : Nat → Prop} {hx hm b L : Nat} {xs : Nat → Int32} {ws : va_W} {i : Int} (X : CX p m c code 4 s args RL D (TY cI cB cJ) A s.heap) (hX : va_X b L xs s s.heap) (hbl : b < s.heap.size) (hbA : ¬ A b) (hL : L ≤ 3072) (hR : (∀ k, k ≤ 1000 → k ≤ R.frames) ∧ ∀ k, k ≤ 20000 → k ≤ R.locals) (hc : cells + 2 ≤ R.cells ∧ slots + 8 ≤ R.slots) (hi : 0 ≤ i ∧ i + 6 ≤ L) (hW : WW cI cB cJ hx hm ws) (kk : ∀ ws1, WW cI cB cJ hx hm ws1 → GG p l e R s m args below meth c (cells + 2) (slots + 8) Q D A s.heap 4 ws1 1295 [(3, vI i), (2, .ref hm), (1, .ref hx), (0, .ref b)] []) : GG p l e R s m args below meth c cells slots Q D A s.heap 4 ws 1088 [(3, vI i), (2, .ref hm), (1, .ref hx), (0, .ref b)] [] := by
  obtain ⟨sn, sk, sd, se, sb, wx, wm, h1, h2, hp⟩ := hW
  have hg := h1.rg
  refine g_aload_n X dL_law_1088 2 rfl ?_
  refine g_aload_n X dL_law_1089 3 rfl ?_
  refine g_iload_n X dL_law_1090 0 rfl ?_
  refine g_iconst X dL_law_1091 ?_
  refine g_iadd X dL_law_1092 ?_
  refine g_sld X hX hbl hbA hL (by omega) dL_law_1093 ?_
  refine g_aload_n X dL_law_1094 3 rfl ?_
  refine g_iload_n X dL_law_1095 0 rfl ?_
  refine g_iconst X dL_law_1096 ?_
  refine g_iadd X dL_law_1097 ?_
  refine g_sld X hX hbl hbA hL (by omega) dL_law_1098 ?_
  refine g_fxI X hp (x_X9_tried l D cI cB cJ hx h1 (p0 := sc xs (i + 1)) (p1 := sc xs (i + 2)) (sc_ir _ _) (sc_ir _ _)) h1.mem cv_X9_tried uw1108 ⟨rfl, rfl, hR.1 _ (by decide), hR.2 _ (by decide)⟩ rfl rfl (Nat.le_of_ble_eq_true rfl) ⟨Nat.le_trans (by omega) hc.1, Nat.le_trans (by omega) hc.2⟩ dL_law_1099 (fun z1099 w1099 k1099 => ?_)
  obtain ⟨n1, k1, d1, e1, h3, r1⟩ := k1099
  refine g_pop X rfl dL_law_1102 ?_
  refine g_aload_n X dL_law_1103 1 rfl ?_
  refine g_aload_n X dL_law_1104 3 rfl ?_
  refine g_iload_n X dL_law_1105 0 rfl ?_
  refine g_iconst X dL_law_1106 ?_
  refine g_iadd X dL_law_1107 ?_
  refine g_sld X hX hbl hbA hL (by omega) dL_law_1108 ?_
  refine g_aload_n X dL_law_1109 3 rfl ?_
  refine g_iload_n X dL_law_1110 0 rfl ?_
  refine g_iconst X dL_law_1111 ?_
  refine g_iadd X dL_law_1112 ?_
  refine g_sld X hX hbl hbA hL (by omega) dL_law_1113 ?_
  refine g_fmI X (List.Perm.refl _) (m_X10_tried l D cI cB cJ hm h2 (by omega) (p0 := sc xs (i + 1)) (p1 := sc xs (i + 2)) (sc_ir _ _) (sc_ir _ _)) h2.mem cv_X10_tried uw1802 ⟨rfl, rfl, hR.1 _ (by decide), hR.2 _ (by decide)⟩ rfl rfl (Nat.le_of_ble_eq_true rfl) ⟨Nat.le_trans (by omega) hc.1, Nat.le_trans (by omega) hc.2⟩ dL_law_1114 (fun z1114 w1114 k1114 => ?_)
  obtain ⟨n2, k2, d2, e2, h4, r2⟩ := k1114
  refine g_pop X rfl dL_law_1117 ?_
  refine g_goto X (tgt := 1295) dL_law_1118 (by decide) ?_
  obtain ⟨rfl, rfl, rfl, rfl⟩ : n2 = n1 ∧ k2 = k1 ∧ d2 = d1 ∧ e2 = e1 := by omega
  exact g_widen (by omega) (by omega) (kk _ ⟨_, _, _, _, _, _, _, h3, h4, List.Perm.refl _⟩)
set_option maxHeartbeats 1000000 in
theorem law_stallIs {p : Program} {l : Launch} {e : Env} {R : Room} {s : State} {m : MethodId} {args : Array Value} {below : List Frame} {meth : Method} {c : Code} {cells slots : Nat} {Q : State → Prop} {D : va_G} {cI cB cJ : ClassId} {A : Nat → Prop} {hx hm b L : Nat} {xs : Nat → Int32} {ws : va_W} {i : Int} (X : CX p m c code 4 s args RL D (TY cI cB cJ) A s.heap) (hX : va_X b L xs s s.heap) (hbl : b < s.heap.size) (hbA : ¬ A b) (hL : L ≤ 3072) (hR : (∀ k, k ≤ 1000 → k ≤ R.frames) ∧ ∀ k, k ≤ 20000 → k ≤ R.locals) (hc : cells + 2 ≤ R.cells ∧ slots + 8 ≤ R.slots) (hi : 0 ≤ i ∧ i + 6 ≤ L) (hW : WW cI cB cJ hx hm ws) (kk : ∀ ws1, WW cI cB cJ hx hm ws1 → GG p l e R s m args below meth c (cells + 2) (slots + 8) Q D A s.heap 4 ws1 1295 [(3, vI i), (2, .ref hm), (1, .ref hx), (0, .ref b)] []) : GG p l e R s m args below meth c cells slots Q D A s.heap 4 ws 1121 [(3, vI i), (2, .ref hm), (1, .ref hx), (0, .ref b)] [] := by
  obtain ⟨sn, sk, sd, se, sb, wx, wm, h1, h2, hp⟩ := hW
  have hg := h1.rg
  refine g_aload_n X dL_law_1121 2 rfl ?_
  refine g_aload_n X dL_law_1122 3 rfl ?_
  refine g_iload_n X dL_law_1123 0 rfl ?_
  refine g_iconst X dL_law_1124 ?_
  refine g_iadd X dL_law_1125 ?_
  refine g_sld X hX hbl hbA hL (by omega) dL_law_1126 ?_
  refine g_aload_n X dL_law_1127 3 rfl ?_
  refine g_iload_n X dL_law_1128 0 rfl ?_
  refine g_iconst X dL_law_1129 ?_
  refine g_iadd X dL_law_1130 ?_
  refine g_sld X hX hbl hbA hL (by omega) dL_law_1131 ?_
  refine g_fxI X hp (x_X9_stallIs l D cI cB cJ hx h1 (p0 := sc xs (i + 1)) (p1 := sc xs (i + 2)) (sc_ir _ _) (sc_ir _ _)) h1.mem cv_X9_stallIs uw1130 ⟨rfl, rfl, hR.1 _ (by decide), hR.2 _ (by decide)⟩ rfl rfl (Nat.le_of_ble_eq_true rfl) ⟨Nat.le_trans (by omega) hc.1, Nat.le_trans (by omega) hc.2⟩ dL_law_1132 (fun z1132 w1132 k1132 => ?_)
  obtain ⟨n1, k1, d1, e1, h3, r1⟩ := k1132
  refine g_pop X rfl dL_law_1135 ?_
  refine g_aload_n X dL_law_1136 1 rfl ?_
  refine g_aload_n X dL_law_1137 3 rfl ?_
  refine g_iload_n X dL_law_1138 0 rfl ?_
  refine g_iconst X dL_law_1139 ?_
  refine g_iadd X dL_law_1140 ?_
  refine g_sld X hX hbl hbA hL (by omega) dL_law_1141 ?_
  refine g_aload_n X dL_law_1142 3 rfl ?_
  refine g_iload_n X dL_law_1143 0 rfl ?_
  refine g_iconst X dL_law_1144 ?_
  refine g_iadd X dL_law_1145 ?_
  refine g_sld X hX hbl hbA hL (by omega) dL_law_1146 ?_
  refine g_fmI X (List.Perm.refl _) (m_X10_stallIs l D cI cB cJ hm h2 (p0 := sc xs (i + 1)) (p1 := sc xs (i + 2)) (sc_ir _ _) (sc_ir _ _)) h2.mem cv_X10_stallIs uw1813 ⟨rfl, rfl, hR.1 _ (by decide), hR.2 _ (by decide)⟩ rfl rfl (Nat.le_of_ble_eq_true rfl) ⟨Nat.le_trans (by omega) hc.1, Nat.le_trans (by omega) hc.2⟩ dL_law_1147 (fun z1147 w1147 k1147 => ?_)
  obtain ⟨n2, k2, d2, e2, h4, r2⟩ := k1147
  refine g_pop X rfl dL_law_1150 ?_
  refine g_goto X (tgt := 1295) dL_law_1151 (by decide) ?_
  obtain ⟨rfl, rfl, rfl, rfl⟩ : n2 = n1 ∧ k2 = k1 ∧ d2 = d1 ∧ e2 = e1 := by omega
  exact g_widen (by omega) (by omega) (kk _ ⟨_, _, _, _, _, _, _, h3, h4, List.Perm.refl _⟩)
set_option maxHeartbeats 1000000 in
theorem law_soonest {p : Program} {l : Launch} {e : Env} {R : Room} {s : State} {m : MethodId} {args : Array Value} {below : List Frame} {meth : Method} {c : Code} {cells slots : Nat} {Q : State → Prop} {D : va_G} {cI cB cJ : ClassId} {A : Nat → Prop} {hx hm b L : Nat} {xs : Nat → Int32} {ws : va_W} {i : Int} (X : CX p m c code 4 s args RL D (TY cI cB cJ) A s.heap) (hX : va_X b L xs s s.heap) (hbl : b < s.heap.size) (hbA : ¬ A b) (hL : L ≤ 3072) (hR : (∀ k, k ≤ 1000 → k ≤ R.frames) ∧ ∀ k, k ≤ 20000 → k ≤ R.locals) (hc : cells + 2 ≤ R.cells ∧ slots + 8 ≤ R.slots) (hi : 0 ≤ i ∧ i + 6 ≤ L) (hW : WW cI cB cJ hx hm ws) (kk : ∀ ws1, WW cI cB cJ hx hm ws1 → GG p l e R s m args below meth c (cells + 2) (slots + 8) Q D A s.heap 4 ws1 1295 [(3, vI i), (2, .ref hm), (1, .ref hx), (0, .ref b)] []) : GG p l e R s m args below meth c cells slots Q D A s.heap 4 ws 1154 [(3, vI i), (2, .ref hm), (1, .ref hx), (0, .ref b)] [] := by
  obtain ⟨sn, sk, sd, se, sb, wx, wm, h1, h2, hp⟩ := hW
  have hg := h1.rg
  refine g_aload_n X dL_law_1154 2 rfl ?_
  refine g_aload_n X dL_law_1155 3 rfl ?_
  refine g_iload_n X dL_law_1156 0 rfl ?_
  refine g_iconst X dL_law_1157 ?_
  refine g_iadd X dL_law_1158 ?_
  refine g_sld X hX hbl hbA hL (by omega) dL_law_1159 ?_
  refine g_aload_n X dL_law_1160 3 rfl ?_
  refine g_iload_n X dL_law_1161 0 rfl ?_
  refine g_iconst X dL_law_1162 ?_
  refine g_iadd X dL_law_1163 ?_
  refine g_sld X hX hbl hbA hL (by omega) dL_law_1164 ?_
  refine g_fxI X hp (x_X9_soonest l D cI cB cJ hx h1 (p0 := sc xs (i + 1)) (p1 := sc xs (i + 2)) (sc_ir _ _) (sc_ir _ _)) h1.mem cv_X9_soonest uw1134 ⟨rfl, rfl, hR.1 _ (by decide), hR.2 _ (by decide)⟩ rfl rfl (Nat.le_of_ble_eq_true rfl) ⟨Nat.le_trans (by omega) hc.1, Nat.le_trans (by omega) hc.2⟩ dL_law_1165 (fun z1165 w1165 k1165 => ?_)
  obtain ⟨n1, k1, d1, e1, h3, r1⟩ := k1165
  refine g_pop X rfl dL_law_1168 ?_
  refine g_aload_n X dL_law_1169 1 rfl ?_
  refine g_aload_n X dL_law_1170 3 rfl ?_
  refine g_iload_n X dL_law_1171 0 rfl ?_
  refine g_iconst X dL_law_1172 ?_
  refine g_iadd X dL_law_1173 ?_
  refine g_sld X hX hbl hbA hL (by omega) dL_law_1174 ?_
  refine g_aload_n X dL_law_1175 3 rfl ?_
  refine g_iload_n X dL_law_1176 0 rfl ?_
  refine g_iconst X dL_law_1177 ?_
  refine g_iadd X dL_law_1178 ?_
  refine g_sld X hX hbl hbA hL (by omega) dL_law_1179 ?_
  refine g_fmI X (List.Perm.refl _) (m_X10_soonest l D cI cB cJ hm h2 (p0 := sc xs (i + 1)) (p1 := sc xs (i + 2)) (sc_ir _ _) (sc_ir _ _)) h2.mem cv_X10_soonest uw1817 ⟨rfl, rfl, hR.1 _ (by decide), hR.2 _ (by decide)⟩ rfl rfl (Nat.le_of_ble_eq_true rfl) ⟨Nat.le_trans (by omega) hc.1, Nat.le_trans (by omega) hc.2⟩ dL_law_1180 (fun z1180 w1180 k1180 => ?_)
  obtain ⟨n2, k2, d2, e2, h4, r2⟩ := k1180
  refine g_pop X rfl dL_law_1183 ?_
  refine g_goto X (tgt := 1295) dL_law_1184 (by decide) ?_
  obtain ⟨rfl, rfl, rfl, rfl⟩ : n2 = n1 ∧ k2 = k1 ∧ d2 = d1 ∧ e2 = e1 := by omega
  exact g_widen (by omega) (by omega) (kk _ ⟨_, _, _, _, _, _, _, h3, h4, List.Perm.refl _⟩)
set_option maxHeartbeats 1000000 in
theorem law_richest {p : Program} {l : Launch} {e : Env} {R : Room} {s : State} {m : MethodId} {args : Array Value} {below : List Frame} {meth : Method} {c : Code} {cells slots : Nat} {Q : State → Prop} {D : va_G} {cI cB cJ : ClassId} {A : Nat → Prop} {hx hm b L : Nat} {xs : Nat → Int32} {ws : va_W} {i : Int} (X : CX p m c code 4 s args RL D (TY cI cB cJ) A s.heap) (hX : va_X b L xs s s.heap) (hbl : b < s.heap.size) (hbA : ¬ A b) (hL : L ≤ 3072) (hR : (∀ k, k ≤ 1000 → k ≤ R.frames) ∧ ∀ k, k ≤ 20000 → k ≤ R.locals) (hc : cells + 2 ≤ R.cells ∧ slots + 8 ≤ R.slots) (hi : 0 ≤ i ∧ i + 6 ≤ L) (hW : WW cI cB cJ hx hm ws) (kk : ∀ ws1, WW cI cB cJ hx hm ws1 → GG p l e R s m args below meth c (cells + 2) (slots + 8) Q D A s.heap 4 ws1 1295 [(3, vI i), (2, .ref hm), (1, .ref hx), (0, .ref b)] []) : GG p l e R s m args below meth c cells slots Q D A s.heap 4 ws 1187 [(3, vI i), (2, .ref hm), (1, .ref hx), (0, .ref b)] [] := by
  obtain ⟨sn, sk, sd, se, sb, wx, wm, h1, h2, hp⟩ := hW
  have hg := h1.rg
  refine g_aload_n X dL_law_1187 2 rfl ?_
  refine g_fxI X hp (x_X9_richest l D cI cB cJ hx h1) h1.mem cv_X9_richest uw1138 ⟨rfl, rfl, hR.1 _ (by decide), hR.2 _ (by decide)⟩ rfl rfl (Nat.le_of_ble_eq_true rfl) ⟨Nat.le_trans (by omega) hc.1, Nat.le_trans (by omega) hc.2⟩ dL_law_1188 (fun z1188 w1188 k1188 => ?_)
  obtain ⟨n1, k1, d1, e1, h3, r1⟩ := k1188
  refine g_pop X rfl dL_law_1191 ?_
  refine g_aload_n X dL_law_1192 1 rfl ?_
  refine g_fmI X (List.Perm.refl _) (m_X10_richest l D cI cB cJ hm h2) h2.mem cv_X10_richest uw1821 ⟨rfl, rfl, hR.1 _ (by decide), hR.2 _ (by decide)⟩ rfl rfl (Nat.le_of_ble_eq_true rfl) ⟨Nat.le_trans (by omega) hc.1, Nat.le_trans (by omega) hc.2⟩ dL_law_1193 (fun z1193 w1193 k1193 => ?_)
  obtain ⟨n2, k2, d2, e2, h4, r2⟩ := k1193
  refine g_pop X rfl dL_law_1196 ?_
  refine g_goto X (tgt := 1295) dL_law_1197 (by decide) ?_
  obtain ⟨rfl, rfl, rfl, rfl⟩ : n2 = n1 ∧ k2 = k1 ∧ d2 = d1 ∧ e2 = e1 := by omega
  exact g_widen (by omega) (by omega) (kk _ ⟨_, _, _, _, _, _, _, h3, h4, List.Perm.refl _⟩)
set_option maxHeartbeats 1000000 in
theorem law_seed {p : Program} {l : Launch} {e : Env} {R : Room} {s : State} {m : MethodId} {args : Array Value} {below : List Frame} {meth : Method} {c : Code} {cells slots : Nat} {Q : State → Prop} {D : va_G} {cI cB cJ : ClassId} {A : Nat → Prop} {hx hm b L : Nat} {xs : Nat → Int32} {ws : va_W} {i : Int} (X : CX p m c code 4 s args RL D (TY cI cB cJ) A s.heap) (hX : va_X b L xs s s.heap) (hbl : b < s.heap.size) (hbA : ¬ A b) (hL : L ≤ 3072) (hR : (∀ k, k ≤ 1000 → k ≤ R.frames) ∧ ∀ k, k ≤ 20000 → k ≤ R.locals) (hc : cells + 2 ≤ R.cells ∧ slots + 8 ≤ R.slots) (hi : 0 ≤ i ∧ i + 6 ≤ L) (hW : WW cI cB cJ hx hm ws) (kk : ∀ ws1, WW cI cB cJ hx hm ws1 → GG p l e R s m args below meth c (cells + 2) (slots + 8) Q D A s.heap 4 ws1 1295 [(3, vI i), (2, .ref hm), (1, .ref hx), (0, .ref b)] []) : GG p l e R s m args below meth c cells slots Q D A s.heap 4 ws 1200 [(3, vI i), (2, .ref hm), (1, .ref hx), (0, .ref b)] [] := by
  obtain ⟨sn, sk, sd, se, sb, wx, wm, h1, h2, hp⟩ := hW
  have hg := h1.rg
  refine g_aload_n X dL_law_1200 2 rfl ?_
  refine g_aload_n X dL_law_1201 3 rfl ?_
  refine g_iload_n X dL_law_1202 0 rfl ?_
  refine g_iconst X dL_law_1203 ?_
  refine g_iadd X dL_law_1204 ?_
  refine g_sld X hX hbl hbA hL (by omega) dL_law_1205 ?_
  refine g_fxI X hp (x_X9_seed l D cI cB cJ hx h1 (p0 := sc xs (i + 1)) (sc_ir _ _)) h1.mem cv_X9_seed uw1142 ⟨rfl, rfl, hR.1 _ (by decide), hR.2 _ (by decide)⟩ rfl rfl (Nat.le_of_ble_eq_true rfl) ⟨Nat.le_trans (by omega) hc.1, Nat.le_trans (by omega) hc.2⟩ dL_law_1206 (fun z1206 w1206 k1206 => ?_)
  obtain ⟨n1, k1, d1, e1, h3, r1⟩ := k1206
  refine g_pop X rfl dL_law_1209 ?_
  refine g_aload_n X dL_law_1210 1 rfl ?_
  refine g_aload_n X dL_law_1211 3 rfl ?_
  refine g_iload_n X dL_law_1212 0 rfl ?_
  refine g_iconst X dL_law_1213 ?_
  refine g_iadd X dL_law_1214 ?_
  refine g_sld X hX hbl hbA hL (by omega) dL_law_1215 ?_
  refine g_fmI X (List.Perm.refl _) (m_X10_seed l D cI cB cJ hm h2 (p0 := sc xs (i + 1)) (sc_ir _ _)) h2.mem cv_X10_seed uw1825 ⟨rfl, rfl, hR.1 _ (by decide), hR.2 _ (by decide)⟩ rfl rfl (Nat.le_of_ble_eq_true rfl) ⟨Nat.le_trans (by omega) hc.1, Nat.le_trans (by omega) hc.2⟩ dL_law_1216 (fun z1216 w1216 k1216 => ?_)
  obtain ⟨n2, k2, d2, e2, h4, r2⟩ := k1216
  refine g_pop X rfl dL_law_1219 ?_
  refine g_goto X (tgt := 1295) dL_law_1220 (by decide) ?_
  obtain ⟨rfl, rfl, rfl, rfl⟩ : n2 = n1 ∧ k2 = k1 ∧ d2 = d1 ∧ e2 = e1 := by omega
  exact g_widen (by omega) (by omega) (kk _ ⟨_, _, _, _, _, _, _, h3, h4, List.Perm.refl _⟩)
set_option maxHeartbeats 1000000 in
theorem law_keep {p : Program} {l : Launch} {e : Env} {R : Room} {s : State} {m : MethodId} {args : Array Value} {below : List Frame} {meth : Method} {c : Code} {cells slots : Nat} {Q : State → Prop} {D : va_G} {cI cB cJ : ClassId} {A : Nat → Prop} {hx hm b L : Nat} {xs : Nat → Int32} {ws : va_W} {i : Int} (X : CX p m c code 4 s args RL D (TY cI cB cJ) A s.heap) (hX : va_X b L xs s s.heap) (hbl : b < s.heap.size) (hbA : ¬ A b) (hL : L ≤ 3072) (hR : (∀ k, k ≤ 1000 → k ≤ R.frames) ∧ ∀ k, k ≤ 20000 → k ≤ R.locals) (hc : cells + 2 ≤ R.cells ∧ slots + 8 ≤ R.slots) (hi : 0 ≤ i ∧ i + 6 ≤ L) (hW : WW cI cB cJ hx hm ws) (kk : ∀ ws1, WW cI cB cJ hx hm ws1 → GG p l e R s m args below meth c (cells + 2) (slots + 8) Q D A s.heap 4 ws1 1295 [(3, vI i), (2, .ref hm), (1, .ref hx), (0, .ref b)] []) : GG p l e R s m args below meth c cells slots Q D A s.heap 4 ws 1223 [(3, vI i), (2, .ref hm), (1, .ref hx), (0, .ref b)] [] := by
  obtain ⟨sn, sk, sd, se, sb, wx, wm, h1, h2, hp⟩ := hW
  have hg := h1.rg
  refine g_aload_n X dL_law_1223 2 rfl ?_
  refine g_fxI X hp (x_X9_keep l D cI cB cJ hx h1) h1.mem cv_X9_keep uw1147 ⟨rfl, rfl, hR.1 _ (by decide), hR.2 _ (by decide)⟩ rfl rfl (Nat.le_of_ble_eq_true rfl) ⟨Nat.le_trans (by omega) hc.1, Nat.le_trans (by omega) hc.2⟩ dL_law_1224 (fun z1224 w1224 k1224 => ?_)
  obtain ⟨n1, k1, d1, e1, h3, r1⟩ := k1224
  refine g_pop X rfl dL_law_1227 ?_
  refine g_aload_n X dL_law_1228 1 rfl ?_
  refine g_fmI X (List.Perm.refl _) (m_X10_keep l D cI cB cJ hm h2) h2.mem cv_X10_keep uw1830 ⟨rfl, rfl, hR.1 _ (by decide), hR.2 _ (by decide)⟩ rfl rfl (Nat.le_of_ble_eq_true rfl) ⟨Nat.le_trans (by omega) hc.1, Nat.le_trans (by omega) hc.2⟩ dL_law_1229 (fun z1229 w1229 k1229 => ?_)
  obtain ⟨n2, k2, d2, e2, h4, r2⟩ := k1229
  refine g_pop X rfl dL_law_1232 ?_
  refine g_goto X (tgt := 1295) dL_law_1233 (by decide) ?_
  obtain ⟨rfl, rfl, rfl, rfl⟩ : n2 = n1 ∧ k2 = k1 ∧ d2 = d1 ∧ e2 = e1 := by omega
  exact g_widen (by omega) (by omega) (kk _ ⟨_, _, _, _, _, _, _, h3, h4, List.Perm.refl _⟩)
set_option maxHeartbeats 1000000 in
theorem law_undo {p : Program} {l : Launch} {e : Env} {R : Room} {s : State} {m : MethodId} {args : Array Value} {below : List Frame} {meth : Method} {c : Code} {cells slots : Nat} {Q : State → Prop} {D : va_G} {cI cB cJ : ClassId} {A : Nat → Prop} {hx hm b L : Nat} {xs : Nat → Int32} {ws : va_W} {i : Int} (X : CX p m c code 4 s args RL D (TY cI cB cJ) A s.heap) (hX : va_X b L xs s s.heap) (hbl : b < s.heap.size) (hbA : ¬ A b) (hL : L ≤ 3072) (hR : (∀ k, k ≤ 1000 → k ≤ R.frames) ∧ ∀ k, k ≤ 20000 → k ≤ R.locals) (hc : cells + 2 ≤ R.cells ∧ slots + 8 ≤ R.slots) (hi : 0 ≤ i ∧ i + 6 ≤ L) (hW : WW cI cB cJ hx hm ws) (kk : ∀ ws1, WW cI cB cJ hx hm ws1 → GG p l e R s m args below meth c (cells + 2) (slots + 8) Q D A s.heap 4 ws1 1295 [(3, vI i), (2, .ref hm), (1, .ref hx), (0, .ref b)] []) : GG p l e R s m args below meth c cells slots Q D A s.heap 4 ws 1236 [(3, vI i), (2, .ref hm), (1, .ref hx), (0, .ref b)] [] := by
  obtain ⟨sn, sk, sd, se, sb, wx, wm, h1, h2, hp⟩ := hW
  have hg := h1.rg
  refine g_aload_n X dL_law_1236 2 rfl ?_
  refine g_fxI X hp (x_X9_undo l D cI cB cJ hx h1) h1.mem cv_X9_undo uw1151 ⟨rfl, rfl, hR.1 _ (by decide), hR.2 _ (by decide)⟩ rfl rfl (Nat.le_of_ble_eq_true rfl) ⟨Nat.le_trans (by omega) hc.1, Nat.le_trans (by omega) hc.2⟩ dL_law_1237 (fun z1237 w1237 k1237 => ?_)
  obtain ⟨n1, k1, d1, e1, h3, r1⟩ := k1237
  refine g_pop X rfl dL_law_1240 ?_
  refine g_aload_n X dL_law_1241 1 rfl ?_
  refine g_fmI X (List.Perm.refl _) (m_X10_undo l D cI cB cJ hm h2) h2.mem cv_X10_undo uw1834 ⟨rfl, rfl, hR.1 _ (by decide), hR.2 _ (by decide)⟩ rfl rfl (Nat.le_of_ble_eq_true rfl) ⟨Nat.le_trans (by omega) hc.1, Nat.le_trans (by omega) hc.2⟩ dL_law_1242 (fun z1242 w1242 k1242 => ?_)
  obtain ⟨n2, k2, d2, e2, h4, r2⟩ := k1242
  refine g_pop X rfl dL_law_1245 ?_
  refine g_goto X (tgt := 1295) dL_law_1246 (by decide) ?_
  obtain ⟨rfl, rfl, rfl, rfl⟩ : n2 = n1 ∧ k2 = k1 ∧ d2 = d1 ∧ e2 = e1 := by omega
  exact g_widen (by omega) (by omega) (kk _ ⟨_, _, _, _, _, _, _, h3, h4, List.Perm.refl _⟩)
set_option maxHeartbeats 1000000 in
theorem law_check {p : Program} {l : Launch} {e : Env} {R : Room} {s : State} {m : MethodId} {args : Array Value} {below : List Frame} {meth : Method} {c : Code} {cells slots : Nat} {Q : State → Prop} {D : va_G} {cI cB cJ : ClassId} {A : Nat → Prop} {hx hm b L : Nat} {xs : Nat → Int32} {ws : va_W} {i : Int} (X : CX p m c code 4 s args RL D (TY cI cB cJ) A s.heap) (hX : va_X b L xs s s.heap) (hbl : b < s.heap.size) (hbA : ¬ A b) (hL : L ≤ 3072) (hR : (∀ k, k ≤ 1000 → k ≤ R.frames) ∧ ∀ k, k ≤ 20000 → k ≤ R.locals) (hc : cells + 2 ≤ R.cells ∧ slots + 8 ≤ R.slots) (hi : 0 ≤ i ∧ i + 6 ≤ L) (hW : WW cI cB cJ hx hm ws) (kk : ∀ ws1, WW cI cB cJ hx hm ws1 → GG p l e R s m args below meth c (cells + 2) (slots + 8) Q D A s.heap 4 ws1 1295 [(3, vI i), (2, .ref hm), (1, .ref hx), (0, .ref b)] []) : GG p l e R s m args below meth c cells slots Q D A s.heap 4 ws 1249 [(3, vI i), (2, .ref hm), (1, .ref hx), (0, .ref b)] [] := by
  obtain ⟨sn, sk, sd, se, sb, wx, wm, h1, h2, hp⟩ := hW
  have hg := h1.rg
  refine g_aload_n X dL_law_1249 2 rfl ?_
  refine g_aload_n X dL_law_1250 3 rfl ?_
  refine g_iload_n X dL_law_1251 0 rfl ?_
  refine g_iconst X dL_law_1252 ?_
  refine g_iadd X dL_law_1253 ?_
  refine g_sld X hX hbl hbA hL (by omega) dL_law_1254 ?_
  refine g_fxI X hp (x_X9_check l D cI cB cJ hx h1 (p0 := sc xs (i + 1)) (sc_ir _ _)) h1.mem cv_X9_check uw1156 ⟨rfl, rfl, hR.1 _ (by decide), hR.2 _ (by decide)⟩ rfl rfl (Nat.le_of_ble_eq_true rfl) ⟨Nat.le_trans (by omega) hc.1, Nat.le_trans (by omega) hc.2⟩ dL_law_1255 (fun z1255 w1255 k1255 => ?_)
  obtain ⟨n1, k1, d1, e1, h3, r1⟩ := k1255
  refine g_pop X rfl dL_law_1258 ?_
  refine g_aload_n X dL_law_1259 1 rfl ?_
  refine g_aload_n X dL_law_1260 3 rfl ?_
  refine g_iload_n X dL_law_1261 0 rfl ?_
  refine g_iconst X dL_law_1262 ?_
  refine g_iadd X dL_law_1263 ?_
  refine g_sld X hX hbl hbA hL (by omega) dL_law_1264 ?_
  refine g_fmI X (List.Perm.refl _) (m_X10_check l D cI cB cJ hm h2 (p0 := sc xs (i + 1)) (sc_ir _ _)) h2.mem cv_X10_check uw1838 ⟨rfl, rfl, hR.1 _ (by decide), hR.2 _ (by decide)⟩ rfl rfl (Nat.le_of_ble_eq_true rfl) ⟨Nat.le_trans (by omega) hc.1, Nat.le_trans (by omega) hc.2⟩ dL_law_1265 (fun z1265 w1265 k1265 => ?_)
  obtain ⟨n2, k2, d2, e2, h4, r2⟩ := k1265
  refine g_pop X rfl dL_law_1268 ?_
  refine g_goto X (tgt := 1295) dL_law_1269 (by decide) ?_
  obtain ⟨rfl, rfl, rfl, rfl⟩ : n2 = n1 ∧ k2 = k1 ∧ d2 = d1 ∧ e2 = e1 := by omega
  exact g_widen (by omega) (by omega) (kk _ ⟨_, _, _, _, _, _, _, h3, h4, List.Perm.refl _⟩)
set_option maxHeartbeats 1000000 in
theorem law_count {p : Program} {l : Launch} {e : Env} {R : Room} {s : State} {m : MethodId} {args : Array Value} {below : List Frame} {meth : Method} {c : Code} {cells slots : Nat} {Q : State → Prop} {D : va_G} {cI cB cJ : ClassId} {A : Nat → Prop} {hx hm b L : Nat} {xs : Nat → Int32} {ws : va_W} {i : Int} (X : CX p m c code 4 s args RL D (TY cI cB cJ) A s.heap) (hX : va_X b L xs s s.heap) (hbl : b < s.heap.size) (hbA : ¬ A b) (hL : L ≤ 3072) (hR : (∀ k, k ≤ 1000 → k ≤ R.frames) ∧ ∀ k, k ≤ 20000 → k ≤ R.locals) (hc : cells + 2 ≤ R.cells ∧ slots + 8 ≤ R.slots) (hi : 0 ≤ i ∧ i + 6 ≤ L) (hW : WW cI cB cJ hx hm ws) (kk : ∀ ws1, WW cI cB cJ hx hm ws1 → GG p l e R s m args below meth c (cells + 2) (slots + 8) Q D A s.heap 4 ws1 1295 [(3, vI i), (2, .ref hm), (1, .ref hx), (0, .ref b)] []) : GG p l e R s m args below meth c cells slots Q D A s.heap 4 ws 1272 [(3, vI i), (2, .ref hm), (1, .ref hx), (0, .ref b)] [] := by
  obtain ⟨sn, sk, sd, se, sb, wx, wm, h1, h2, hp⟩ := hW
  have hg := h1.rg
  refine g_aload_n X dL_law_1272 2 rfl ?_
  refine g_aload_n X dL_law_1273 3 rfl ?_
  refine g_iload_n X dL_law_1274 0 rfl ?_
  refine g_iconst X dL_law_1275 ?_
  refine g_iadd X dL_law_1276 ?_
  refine g_sld X hX hbl hbA hL (by omega) dL_law_1277 ?_
  refine g_fxI X hp (x_X9_count l D cI cB cJ hx h1 (p0 := sc xs (i + 1)) (sc_ir _ _)) h1.mem cv_X9_count uw1160 ⟨rfl, rfl, hR.1 _ (by decide), hR.2 _ (by decide)⟩ rfl rfl (Nat.le_of_ble_eq_true rfl) ⟨Nat.le_trans (by omega) hc.1, Nat.le_trans (by omega) hc.2⟩ dL_law_1278 (fun z1278 w1278 k1278 => ?_)
  obtain ⟨n1, k1, d1, e1, h3, r1⟩ := k1278
  refine g_pop X rfl dL_law_1281 ?_
  refine g_aload_n X dL_law_1282 1 rfl ?_
  refine g_aload_n X dL_law_1283 3 rfl ?_
  refine g_iload_n X dL_law_1284 0 rfl ?_
  refine g_iconst X dL_law_1285 ?_
  refine g_iadd X dL_law_1286 ?_
  refine g_sld X hX hbl hbA hL (by omega) dL_law_1287 ?_
  refine g_fmI X (List.Perm.refl _) (m_X10_count l D cI cB cJ hm h2 (p0 := sc xs (i + 1)) (sc_ir _ _)) h2.mem cv_X10_count uw1842 ⟨rfl, rfl, hR.1 _ (by decide), hR.2 _ (by decide)⟩ rfl rfl (Nat.le_of_ble_eq_true rfl) ⟨Nat.le_trans (by omega) hc.1, Nat.le_trans (by omega) hc.2⟩ dL_law_1288 (fun z1288 w1288 k1288 => ?_)
  obtain ⟨n2, k2, d2, e2, h4, r2⟩ := k1288
  refine g_pop X rfl dL_law_1291 ?_
  refine g_goto X (tgt := 1295) dL_law_1292 (by decide) ?_
  obtain ⟨rfl, rfl, rfl, rfl⟩ : n2 = n1 ∧ k2 = k1 ∧ d2 = d1 ∧ e2 = e1 := by omega
  exact g_widen (by omega) (by omega) (kk _ ⟨_, _, _, _, _, _, _, h3, h4, List.Perm.refl _⟩)
