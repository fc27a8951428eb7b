/-! the law's walk: rows -/
def sc (xs : Nat → Int32) (i : Int) : Int := (xs i.toNat).toInt
theorem sc_ir (xs : Nat → Int32) (i : Int) : IR (sc xs i) := z_ir _
theorem StX.mem {cI cB cJ : ClassId} {hx : Nat} {sn sk sd se su : Int} {sb : Nat → Int} {sP : Int → Int} {wx : va_W} (h : StX cI cB cJ hx sn sk sd se su sb sP wx) : ∃ fs : List Value, (hx, (Sum.inr (8, fs) : va_E)) ∈ wx := by
  obtain ⟨ht, hc1, hc2, hbo, hob, hrs, hlr, hl1, hl2, hmk, htr, hkp, htg, st, uc, ut, uP, vc, vt, vP, b0, b1, b2, b3, b4, b5, b6, b7, b8, b9, b10, b11, b12, b13, hb0, hb1, hb2, hb3, hb4, hb5, hb6, hb7, hb8, hb9, hb10, hb11, hb12, hb13, hperm⟩ := h
  obtain ⟨q, v1, v2, f1, f2, g1, rfl⟩ := hb0
  refine ⟨_, hperm.mem_iff.mpr ((List.mem_append_left _ (List.mem_append_left _ (List.mem_append_left _ (List.mem_append_left _ (List.mem_append_left _ (List.mem_append_left _ (List.mem_append_left _ (List.mem_append_left _ (List.mem_append_left _ (List.mem_append_left _ (List.mem_append_left _ (List.mem_append_left _ (List.mem_append_left _ (List.mem_cons_self : (hx, _) ∈ wX9 cI cB cJ hx q ht hc1 hc2 hbo hob hrs hlr hl1 hl2 hmk htr hkp htg v1 v2)))))))))))))))⟩
theorem BX10.mem {cI cB cJ : ClassId} {hm : Nat} {sn sk sd se su : Int} {sb : Nat → Int} {sP : Int → Int} {wm : va_W} (h : BX10 cI cB cJ hm sn sk sd se su sb sP wm) : ∃ fs : List Value, (hm, (Sum.inr (9, fs) : va_E)) ∈ wm := by
  refine BX10.elim h (fun q v_stalls v_claimMany v_taped v_place0 v_length0 v_fault v_number0 v_open v_codeMany v_waiting v_saidMany v_clauses v_newMany v_newStalls v_lines v_salesNow v_outNow v_isKept v_keptStalls v_now v_aside v_kept v_oneOf v_otherOf v_signOf v_byOf v_tape v_said v_waitsAt v_saidLetter v_saidFrom v_saidHalf v_saidTo v_codes v_clauseOf v_codeFrom v_codeHalf v_codeTo v_stack v_facts v_newOne v_newOther v_newSign v_newBy v_moreOf v_firstOf v_toldOf v_mostOf v_mostThen v_sumTo v_rowFrom v_ordersOf v_lessOf v_weightOf v_rowNow v_slowRow v_fastRow v_lineNow v_firstLine v_freeBy v_heldBy v_heightOf v_upTo v_downTo v_oftenOf v_newUpper v_newLower F_stalls F_claimMany F_taped F_place0 F_length0 F_fault F_number0 F_open F_codeMany F_waiting F_saidMany F_clauses F_newMany F_newStalls F_lines F_salesNow F_outNow F_isKept F_keptStalls F_now F_aside F_kept F_oneOf F_otherOf F_signOf F_byOf F_tape F_said F_waitsAt F_saidLetter F_saidFrom F_saidHalf F_saidTo F_codes F_clauseOf F_codeFrom F_codeHalf F_codeTo F_stack F_facts F_newOne F_newOther F_newSign F_newBy F_moreOf F_firstOf F_toldOf F_mostOf F_mostThen F_sumTo F_rowFrom F_ordersOf F_lessOf F_weightOf F_slowRow F_fastRow F_lineNow F_firstLine F_freeBy F_heldBy F_heightOf F_upTo F_downTo F_oftenOf F_newUpper F_newLower LA_ LI_ E0 E1 E2 E3 E4 EB e => ?_)
  subst e
  exact ⟨_, (List.mem_cons_self : (hm, _) ∈ wX10 cI cB cJ hm q v_stalls v_claimMany v_taped v_place0 v_length0 v_fault v_number0 v_open v_codeMany v_waiting v_saidMany v_clauses v_newMany v_newStalls v_lines v_salesNow v_outNow v_isKept v_keptStalls v_now v_aside v_kept v_oneOf v_otherOf v_signOf v_byOf v_tape v_said v_waitsAt v_saidLetter v_saidFrom v_saidHalf v_saidTo v_codes v_clauseOf v_codeFrom v_codeHalf v_codeTo v_stack v_facts v_newOne v_newOther v_newSign v_newBy v_moreOf v_firstOf v_toldOf v_mostOf v_mostThen v_sumTo v_rowFrom v_ordersOf v_lessOf v_weightOf v_rowNow v_slowRow v_fastRow v_lineNow v_firstLine v_freeBy v_heldBy v_heightOf v_upTo v_downTo v_oftenOf v_newUpper v_newLower)⟩
/-- the world of the law: the class's and the reference's, with the same state -/
def WW (cI cB cJ : ClassId) (hx hm : Nat) (ws : va_W) : Prop := ∃ (sn sk sd se su : Int) (sb : Nat → Int) (sP : Int → Int) (wx wm : va_W), StX cI cB cJ hx sn sk sd se su sb sP wx ∧ BX10 cI cB cJ hm sn sk sd se su sb sP wm ∧ ws.Perm (wx ++ wm)
section GL
variable {p : Program} {l : Launch} {e : Env} {R : Room} {s : State} {m : MethodId} {args : Array Value} {below : List Frame} {meth : Method} {c : Code} {cells slots : Nat} {Q : State → Prop} {cc : ByteArray} {pc nL : Nat} {D : va_G} {tys : List (ClassId × FieldType)} {ws : va_W} {A : Nat → Prop} {H0 : Heap} {lv : List (Nat × Value)} {st : List Value} {own : String}
variable {y : MethodName} {bytes : ByteArray} {maxL n index mc ms : Nat} {ret : Option FieldType} {rm : Room} {C : String} {b : Nat} {As st0 : List Value}
theorem g_pop2 (X : CX p m c cc nL s args own D tys A H0) {z : Int} (hdg : decode cc pc = .ok (.pop2, 1)) (kk : GG p l e R s m args below meth c cells slots Q D A H0 nL ws (pc + 1) lv st) : GG p l e R s m args below meth c cells slots Q D A H0 nL ws pc lv (vL z :: st) := fun H locs ls hP hD hS hl => lv_pop2_2 X.1.1 X.1.2.1 hdg rfl (kk H locs ls hP hD hS hl)
theorem g_sld (X : CX p m c cc nL s args own D tys A s.heap) {L : Nat} {xs : Nat → Int32} (hX : va_X b L xs s s.heap) (hbl : b < s.heap.size) (hbA : ¬ A b) (hL : L ≤ 3072) {i : Int} (hin : 0 ≤ i ∧ i < L) (hdg : decode cc pc = .ok (.iaload, 1)) (kk : GG p l e R s m args below meth c cells slots Q D A s.heap nL ws (pc + 1) lv (vI (sc xs i) :: st)) : GG p l e R s m args below meth c cells slots Q D A s.heap nL ws pc lv (vI i :: .ref b :: st) := fun H locs ls hP hD hS hl => va_sld X.1.1 X.1.2.1 hX hbl hbA hS (zI_in hin.1 hin.2 (by omega)) hdg (by
  rw [zI_cl hin.1 (by omega)]
  have h1 : (Value.int (xs i.toNat)) = vI (sc xs i) := congrArg Value.int (Int32.ofInt_toInt (xs i.toNat)).symm
  rw [h1]
  exact kk H locs ls hP hD hS hl)
theorem g_slen (X : CX p m c cc nL s args own D tys A s.heap) {L : Nat} {xs : Nat → Int32} (hX : va_X b L xs s s.heap) (hbl : b < s.heap.size) (hbA : ¬ A b) (hdg : decode cc pc = .ok (.arraylength, 1)) (kk : GG p l e R s m args below meth c cells slots Q D A s.heap nL ws (pc + 1) lv (vI (L : Int) :: st)) : GG p l e R s m args below meth c cells slots Q D A s.heap nL ws pc lv (.ref b :: st) := fun H locs ls hP hD hS hl => va_slen X.1.1 X.1.2.1 hX hbl hbA hS hdg (by
  have h1 : (Value.int (Int32.ofNat L)) = vI (L : Int) := congrArg Value.int (Int32.ofInt_eq_ofNat).symm
  rw [h1]
  exact kk H locs ls hP hD hS hl)
theorem g_callVIJ0 (X : CX p m c cc nL s args own D tys A H0)  {post : Int → va_W → Prop} (hM : CtIJ l y bytes maxL ret rm D tys ws (.ref b :: As) post mc ms) (cv : CalV C y bytes maxL ret n) (hlk : Cond.methodLink own index y ∈ lw_U) (hrm : rm.cells = mc ∧ rm.slots = ms ∧ rm.frames + 1 ≤ R.frames ∧ 8 + (maxL + 11) + rm.locals ≤ R.locals) {ci : Nat} {r : vw_C} {fs : List Value} (q0 : Nat) (he : ws[q0]? = some (b, .inr (ci, fs))) (hc : vwCl[ci]? = some r) (hrC : r.1 = C) (hn : As.length = n) (hst0 : st0 = As.reverse ++ .ref b :: st) (hcat : (st.map fun v => v.category).sum ≤ 8) (hcs : cells + mc ≤ R.cells ∧ slots + ms ≤ R.slots) (hdg : decode cc pc = .ok (.invokevirtual index, 3)) (kk : ∀ (z : Int) (ws1 : va_W), post z ws1 → GG p l e R s m args below meth c (cells + mc) (slots + ms) Q D A H0 nL ws1 (pc + 3) lv (vI z :: st)) : GG p l e R s m args below meth c cells slots Q D A H0 nL ws pc lv st0 := by
  intro H locs ls hP hD hS hl
  subst hst0
  have hPc := hP
  have hDc := hD
  have hFc := va_freeA hD hS X.2.2.1
  refine va_calli (va_runV (As := As) (rest := st) X.1 (hM H.size) (CalVJ_w cv X.1.2.2.2.2 hlk hrm) ⟨fun a U g mk q => by obtain ⟨q0, q1, qP, qK, qD, qN, qZ⟩ := q; exact ⟨q0, q1, qP, va_K.moved (u := U) (U := U.calling g mk a) (Vm.Alike.refl U.vm) qK, qD, NK.same (u := U) (U := U.calling g mk a) rfl qN, SZ.same (u := U) (U := U.calling g mk a) rfl qZ⟩, hrC ▸ va_recv X.2.1 hPc hc he, fun U hU hW => ⟨rfl, by rw [hU], by rw [hU]; exact hPc, va_K.moved hW.alike X.2.1, hDc.weaken (fun _ _ _ _ => trivial), NK.warm hW X.2.2.2.1, by rw [hU]; exact SZ.call X.2.2.2.2 hS hFc hW⟩⟩ rfl hn hl.1 rfl (lv_room hcat) hdg hcs) hS (fun q _ h => hFc q h) hFc (fun r u t H1 locs ht hvm hw hB hz1 hk1 hS => ?_)
  obtain ⟨z, rfl, hz⟩ := hw
  obtain ⟨hP1, hK1, hD1⟩ := hB
  rw [ht] at hP1
  exact kk z u hz H1 locs ls hP1 (hD1.weaken fun _ _ _ h => hFc _ h) hS hl
theorem g_fxI {h : Nat} {wx wm : va_W} (X : CX p m c cc nL s args own D tys A H0) (hp : ws.Perm (wx ++ wm)) {post : Int → va_W → Prop} (hM : CtI l y bytes maxL ret rm D tys wx (.ref h :: As) post) (hm : ∃ fs : List Value, (h, (Sum.inr (8, fs) : va_E)) ∈ wx) (cv : CalV RX9 y bytes maxL ret n) (hlk : Cond.methodLink own index y ∈ lw_U) (hrm : rm.cells = 0 ∧ rm.slots = 0 ∧ rm.frames + 1 ≤ R.frames ∧ 8 + (maxL + 11) + rm.locals ≤ R.locals) (hn : As.length = n) (hst0 : st0 = As.reverse ++ .ref h :: st) (hcat : (st.map fun v => v.category).sum ≤ 8) (hcs : cells ≤ R.cells ∧ slots ≤ R.slots) (hdg : decode cc pc = .ok (.invokevirtual index, 3)) (kk : ∀ (z : Int) (w1 : va_W), post z w1 → GG p l e R s m args below meth c cells slots Q D A H0 nL (w1 ++ wm) (pc + 3) lv (vI z :: st)) : GG p l e R s m args below meth c cells slots Q D A H0 nL ws pc lv st0 := by
  obtain ⟨fs, hf⟩ := hm
  obtain ⟨k, hk⟩ := va_memI (hp.mem_iff.mpr (List.mem_append_left _ hf))
  exact g_callVI0 X (CtI.frame hM hp) cv hlk hrm k hk rfl rfl hn hst0 hcat hcs hdg (fun z w h => by
    obtain ⟨w1, hw, rfl⟩ := h
    exact kk z w1 hw)
theorem g_fxL {h : Nat} {wx wm : va_W} (X : CX p m c cc nL s args own D tys A H0) (hp : ws.Perm (wx ++ wm)) {post : Int → va_W → Prop} (hM : CtL l y bytes maxL ret rm D tys wx (.ref h :: As) post) (hm : ∃ fs : List Value, (h, (Sum.inr (8, fs) : va_E)) ∈ wx) (cv : CalV RX9 y bytes maxL ret n) (hlk : Cond.methodLink own index y ∈ lw_U) (hrm : rm.cells = 0 ∧ rm.slots = 0 ∧ rm.frames + 1 ≤ R.frames ∧ 8 + (maxL + 11) + rm.locals ≤ R.locals) (hn : As.length = n) (hst0 : st0 = As.reverse ++ .ref h :: st) (hcat : (st.map fun v => v.category).sum ≤ 8) (hcs : cells ≤ R.cells ∧ slots ≤ R.slots) (hdg : decode cc pc = .ok (.invokevirtual index, 3)) (kk : ∀ (z : Int) (w1 : va_W), post z w1 → GG p l e R s m args below meth c cells slots Q D A H0 nL (w1 ++ wm) (pc + 3) lv (vL z :: st)) : GG p l e R s m args below meth c cells slots Q D A H0 nL ws pc lv st0 := by
  obtain ⟨fs, hf⟩ := hm
  obtain ⟨k, hk⟩ := va_memI (hp.mem_iff.mpr (List.mem_append_left _ hf))
  exact g_callVL0 X (CtL.frame hM hp) cv hlk hrm k hk rfl rfl hn hst0 hcat hcs hdg (fun z w h => by
    obtain ⟨w1, hw, rfl⟩ := h
    exact kk z w1 hw)
theorem g_fxIJ {h : Nat} {wx wm : va_W} (X : CX p m c cc nL s args own D tys A H0) (hp : ws.Perm (wx ++ wm)) {post : Int → va_W → Prop} (hM : CtIJ l y bytes maxL ret rm D tys wx (.ref h :: As) post mc ms) (hm : ∃ fs : List Value, (h, (Sum.inr (8, fs) : va_E)) ∈ wx) (cv : CalV RX9 y bytes maxL ret n) (hlk : Cond.methodLink own index y ∈ lw_U) (hrm : rm.cells = mc ∧ rm.slots = ms ∧ rm.frames + 1 ≤ R.frames ∧ 8 + (maxL + 11) + rm.locals ≤ R.locals) (hn : As.length = n) (hst0 : st0 = As.reverse ++ .ref h :: st) (hcat : (st.map fun v => v.category).sum ≤ 8) (hcs : cells + mc ≤ R.cells ∧ slots + ms ≤ R.slots) (hdg : decode cc pc = .ok (.invokevirtual index, 3)) (kk : ∀ (z : Int) (w1 : va_W), post z w1 → GG p l e R s m args below meth c (cells + mc) (slots + ms) Q D A H0 nL (w1 ++ wm) (pc + 3) lv (vI z :: st)) : GG p l e R s m args below meth c cells slots Q D A H0 nL ws pc lv st0 := by
  obtain ⟨fs, hf⟩ := hm
  obtain ⟨k, hk⟩ := va_memI (hp.mem_iff.mpr (List.mem_append_left _ hf))
  exact g_callVIJ0 X (CtIJ.frame hM hp) cv hlk hrm k hk rfl rfl hn hst0 hcat hcs hdg (fun z w h => by
    obtain ⟨w1, hw, rfl⟩ := h
    exact kk z w1 hw)
theorem g_fmI {h : Nat} {wx wm : va_W} (X : CX p m c cc nL s args own D tys A H0) (hp : ws.Perm (wx ++ wm)) {post : Int → va_W → Prop} (hM : CtI l y bytes maxL ret rm D tys wm (.ref h :: As) post) (hm : ∃ fs : List Value, (h, (Sum.inr (9, fs) : va_E)) ∈ wm) (cv : CalV RX10 y bytes maxL ret n) (hlk : Cond.methodLink own index y ∈ lw_U) (hrm : rm.cells = 0 ∧ rm.slots = 0 ∧ rm.frames + 1 ≤ R.frames ∧ 8 + (maxL + 11) + rm.locals ≤ R.locals) (hn : As.length = n) (hst0 : st0 = As.reverse ++ .ref h :: st) (hcat : (st.map fun v => v.category).sum ≤ 8) (hcs : cells ≤ R.cells ∧ slots ≤ R.slots) (hdg : decode cc pc = .ok (.invokevirtual index, 3)) (kk : ∀ (z : Int) (w1 : va_W), post z w1 → GG p l e R s m args below meth c cells slots Q D A H0 nL (wx ++ w1) (pc + 3) lv (vI z :: st)) : GG p l e R s m args below meth c cells slots Q D A H0 nL ws pc lv st0 := by
  obtain ⟨fs, hf⟩ := hm
  obtain ⟨k, hk⟩ := va_memI (hp.mem_iff.mpr (List.mem_append_right _ hf))
  exact g_callVI0 X (CtI.frame hM (hp.trans List.perm_append_comm)) cv hlk hrm k hk rfl rfl hn hst0 hcat hcs hdg (fun z w h => by
    obtain ⟨w1, hw, rfl⟩ := h
    exact g_permP List.perm_append_comm (kk z w1 hw))
theorem g_fmL {h : Nat} {wx wm : va_W} (X : CX p m c cc nL s args own D tys A H0) (hp : ws.Perm (wx ++ wm)) {post : Int → va_W → Prop} (hM : CtL l y bytes maxL ret rm D tys wm (.ref h :: As) post) (hm : ∃ fs : List Value, (h, (Sum.inr (9, fs) : va_E)) ∈ wm) (cv : CalV RX10 y bytes maxL ret n) (hlk : Cond.methodLink own index y ∈ lw_U) (hrm : rm.cells = 0 ∧ rm.slots = 0 ∧ rm.frames + 1 ≤ R.frames ∧ 8 + (maxL + 11) + rm.locals ≤ R.locals) (hn : As.length = n) (hst0 : st0 = As.reverse ++ .ref h :: st) (hcat : (st.map fun v => v.category).sum ≤ 8) (hcs : cells ≤ R.cells ∧ slots ≤ R.slots) (hdg : decode cc pc = .ok (.invokevirtual index, 3)) (kk : ∀ (z : Int) (w1 : va_W), post z w1 → GG p l e R s m args below meth c cells slots Q D A H0 nL (wx ++ w1) (pc + 3) lv (vL z :: st)) : GG p l e R s m args below meth c cells slots Q D A H0 nL ws pc lv st0 := by
  obtain ⟨fs, hf⟩ := hm
  obtain ⟨k, hk⟩ := va_memI (hp.mem_iff.mpr (List.mem_append_right _ hf))
  exact g_callVL0 X (CtL.frame hM (hp.trans List.perm_append_comm)) cv hlk hrm k hk rfl rfl hn hst0 hcat hcs hdg (fun z w h => by
    obtain ⟨w1, hw, rfl⟩ := h
    exact g_permP List.perm_append_comm (kk z w1 hw))
end GL
set_option maxHeartbeats 1000000 in
theorem law_feed {p : Program} {l : Launch} {e : Env} {R : Room} {s : State} {m : MethodId} {args : Array Value} {below : List Frame} {meth : Method} {c : Code} {cells slots : Nat} {Q : State → Prop} {D : va_G} {cI cB cJ : ClassId} {A : Nat → Prop} {hx hm b L : Nat} {xs : Nat → Int32} {ws : va_W} {i : Int} (X : CX p m c code 4 s args RL D (TY cI cB cJ) A s.heap) (hX : va_X b L xs s s.heap) (hbl : b < s.heap.size) (hbA : ¬ A b) (hL : L ≤ 3072) (hR : (∀ k, k ≤ 1000 → k ≤ R.frames) ∧ ∀ k, k ≤ 20000 → k ≤ R.locals) (hc : cells + 2 ≤ R.cells ∧ slots + 8 ≤ R.slots) (hi : 0 ≤ i ∧ i + 6 ≤ L) (hW : WW cI cB cJ hx hm ws) (kk : ∀ ws1, WW cI cB cJ hx hm ws1 → GG p l e R s m args below meth c (cells + 2) (slots + 8) Q D A s.heap 4 ws1 1294 [(3, vI i), (2, .ref hm), (1, .ref hx), (0, .ref b)] []) : GG p l e R s m args below meth c cells slots Q D A s.heap 4 ws 200 [(3, vI i), (2, .ref hm), (1, .ref hx), (0, .ref b)] [] := by
  obtain ⟨sn, sk, sd, se, su, sb, sP, wx, wm, h1, h2, hp⟩ := hW
  have hg := h1.rg
  refine g_aload_n X dL_law_200 2 rfl ?_
  refine g_aload_n X dL_law_201 3 rfl ?_
  refine g_iload_n X dL_law_202 0 rfl ?_
  refine g_iconst X dL_law_203 ?_
  refine g_iadd X dL_law_204 ?_
  refine g_sld X hX hbl hbA hL (by omega) dL_law_205 ?_
  refine g_aload_n X dL_law_206 3 rfl ?_
  refine g_iload_n X dL_law_207 0 rfl ?_
  refine g_iconst X dL_law_208 ?_
  refine g_iadd X dL_law_209 ?_
  refine g_sld X hX hbl hbA hL (by omega) dL_law_210 ?_
  refine g_aload_n X dL_law_211 3 rfl ?_
  refine g_iload_n X dL_law_212 0 rfl ?_
  refine g_iconst X dL_law_213 ?_
  refine g_iadd X dL_law_214 ?_
  refine g_sld X hX hbl hbA hL (by omega) dL_law_215 ?_
  refine g_aload_n X dL_law_216 3 rfl ?_
  refine g_iload_n X dL_law_217 0 rfl ?_
  refine g_iconst X dL_law_218 ?_
  refine g_iadd X dL_law_219 ?_
  refine g_sld X hX hbl hbA hL (by omega) dL_law_220 ?_
  refine g_aload_n X dL_law_221 3 rfl ?_
  refine g_iload_n X dL_law_222 0 rfl ?_
  refine g_iconst X dL_law_223 ?_
  refine g_iadd X dL_law_224 ?_
  refine g_sld X hX hbl hbA hL (by omega) dL_law_225 ?_
  refine g_fxI X hp (x_X9_feed l D cI cB cJ hx h1 (p0 := sc xs (i + 1)) (p1 := sc xs (i + 2)) (p2 := sc xs (i + 3)) (p3 := sc xs (i + 4)) (p4 := sc xs (i + 5)) (sc_ir _ _) (sc_ir _ _) (sc_ir _ _) (sc_ir _ _) (sc_ir _ _)) h1.mem cv_X9_feed uw457 ⟨rfl, rfl, hR.1 _ (by decide), hR.2 _ (by decide)⟩ rfl rfl (Nat.le_of_ble_eq_true rfl) ⟨Nat.le_trans (by omega) hc.1, Nat.le_trans (by omega) hc.2⟩ dL_law_226 (fun z226 w226 k226 => ?_)
  obtain ⟨n1, k1, d1, e1, c1, h3, r1⟩ := k226
  refine g_pop X rfl dL_law_229 ?_
  refine g_aload_n X dL_law_230 1 rfl ?_
  refine g_aload_n X dL_law_231 3 rfl ?_
  refine g_iload_n X dL_law_232 0 rfl ?_
  refine g_iconst X dL_law_233 ?_
  refine g_iadd X dL_law_234 ?_
  refine g_sld X hX hbl hbA hL (by omega) dL_law_235 ?_
  refine g_aload_n X dL_law_236 3 rfl ?_
  refine g_iload_n X dL_law_237 0 rfl ?_
  refine g_iconst X dL_law_238 ?_
  refine g_iadd X dL_law_239 ?_
  refine g_sld X hX hbl hbA hL (by omega) dL_law_240 ?_
  refine g_aload_n X dL_law_241 3 rfl ?_
  refine g_iload_n X dL_law_242 0 rfl ?_
  refine g_iconst X dL_law_243 ?_
  refine g_iadd X dL_law_244 ?_
  refine g_sld X hX hbl hbA hL (by omega) dL_law_245 ?_
  refine g_aload_n X dL_law_246 3 rfl ?_
  refine g_iload_n X dL_law_247 0 rfl ?_
  refine g_iconst X dL_law_248 ?_
  refine g_iadd X dL_law_249 ?_
  refine g_sld X hX hbl hbA hL (by omega) dL_law_250 ?_
  refine g_aload_n X dL_law_251 3 rfl ?_
  refine g_iload_n X dL_law_252 0 rfl ?_
  refine g_iconst X dL_law_253 ?_
  refine g_iadd X dL_law_254 ?_
  refine g_sld X hX hbl hbA hL (by omega) dL_law_255 ?_
  refine g_fmI X (List.Perm.refl _) (m_X10_feed l D cI cB cJ hm h2 (p0 := sc xs (i + 1)) (p1 := sc xs (i + 2)) (p2 := sc xs (i + 3)) (p3 := sc xs (i + 4)) (p4 := sc xs (i + 5)) (sc_ir _ _) (sc_ir _ _) (sc_ir _ _) (sc_ir _ _) (sc_ir _ _)) h2.mem cv_X10_feed uw1382 ⟨rfl, rfl, hR.1 _ (by decide), hR.2 _ (by decide)⟩ rfl rfl (Nat.le_of_ble_eq_true rfl) ⟨Nat.le_trans (by omega) hc.1, Nat.le_trans (by omega) hc.2⟩ dL_law_256 (fun z256 w256 k256 => ?_)
  obtain ⟨n2, k2, d2, e2, c2, h4, r2⟩ := k256
  refine g_pop X rfl dL_law_259 ?_
  refine g_goto X (tgt := 1294) dL_law_260 (by decide) ?_
  obtain ⟨rfl, rfl, rfl, rfl, rfl⟩ : n2 = n1 ∧ k2 = k1 ∧ d2 = d1 ∧ e2 = e1 ∧ c2 = c1 := by omega
  exact g_widen (by omega) (by omega) (kk _ ⟨_, _, _, _, _, _, _, _, _, h3, h4, List.Perm.refl _⟩)
set_option maxHeartbeats 1000000 in
theorem law_law {p : Program} {l : Launch} {e : Env} {R : Room} {s : State} {m : MethodId} {args : Array Value} {below : List Frame} {meth : Method} {c : Code} {cells slots : Nat} {Q : State → Prop} {D : va_G} {cI cB cJ : ClassId} {A : Nat → Prop} {hx hm b L : Nat} {xs : Nat → Int32} {ws : va_W} {i : Int} (X : CX p m c code 4 s args RL D (TY cI cB cJ) A s.heap) (hX : va_X b L xs s s.heap) (hbl : b < s.heap.size) (hbA : ¬ A b) (hL : L ≤ 3072) (hR : (∀ k, k ≤ 1000 → k ≤ R.frames) ∧ ∀ k, k ≤ 20000 → k ≤ R.locals) (hc : cells + 2 ≤ R.cells ∧ slots + 8 ≤ R.slots) (hi : 0 ≤ i ∧ i + 6 ≤ L) (hW : WW cI cB cJ hx hm ws) (kk : ∀ ws1, WW cI cB cJ hx hm ws1 → GG p l e R s m args below meth c (cells + 2) (slots + 8) Q D A s.heap 4 ws1 1294 [(3, vI i), (2, .ref hm), (1, .ref hx), (0, .ref b)] []) : GG p l e R s m args below meth c cells slots Q D A s.heap 4 ws 263 [(3, vI i), (2, .ref hm), (1, .ref hx), (0, .ref b)] [] := by
  obtain ⟨sn, sk, sd, se, su, sb, sP, wx, wm, h1, h2, hp⟩ := hW
  have hg := h1.rg
  refine g_aload_n X dL_law_263 2 rfl ?_
  refine g_aload_n X dL_law_264 3 rfl ?_
  refine g_iload_n X dL_law_265 0 rfl ?_
  refine g_iconst X dL_law_266 ?_
  refine g_iadd X dL_law_267 ?_
  refine g_sld X hX hbl hbA hL (by omega) dL_law_268 ?_
  refine g_fxI X hp (x_X9_law l D cI cB cJ hx h1 (p0 := sc xs (i + 1)) (sc_ir _ _)) h1.mem cv_X9_law uw469 ⟨rfl, rfl, hR.1 _ (by decide), hR.2 _ (by decide)⟩ rfl rfl (Nat.le_of_ble_eq_true rfl) ⟨Nat.le_trans (by omega) hc.1, Nat.le_trans (by omega) hc.2⟩ dL_law_269 (fun z269 w269 k269 => ?_)
  obtain ⟨n1, k1, d1, e1, c1, h3, r1⟩ := k269
  refine g_pop X rfl dL_law_272 ?_
  refine g_aload_n X dL_law_273 1 rfl ?_
  refine g_aload_n X dL_law_274 3 rfl ?_
  refine g_iload_n X dL_law_275 0 rfl ?_
  refine g_iconst X dL_law_276 ?_
  refine g_iadd X dL_law_277 ?_
  refine g_sld X hX hbl hbA hL (by omega) dL_law_278 ?_
  refine g_fmI X (List.Perm.refl _) (m_X10_law l D cI cB cJ hm h2 (p0 := sc xs (i + 1)) (sc_ir _ _)) h2.mem cv_X10_law uw1390 ⟨rfl, rfl, hR.1 _ (by decide), hR.2 _ (by decide)⟩ rfl rfl (Nat.le_of_ble_eq_true rfl) ⟨Nat.le_trans (by omega) hc.1, Nat.le_trans (by omega) hc.2⟩ dL_law_279 (fun z279 w279 k279 => ?_)
  obtain ⟨n2, k2, d2, e2, c2, h4, r2⟩ := k279
  refine g_pop X rfl dL_law_282 ?_
  refine g_goto X (tgt := 1294) dL_law_283 (by decide) ?_
  obtain ⟨rfl, rfl, rfl, rfl, rfl⟩ : n2 = n1 ∧ k2 = k1 ∧ d2 = d1 ∧ e2 = e1 ∧ c2 = c1 := by omega
  exact g_widen (by omega) (by omega) (kk _ ⟨_, _, _, _, _, _, _, _, _, h3, h4, List.Perm.refl _⟩)
set_option maxHeartbeats 1000000 in
theorem law_claims {p : Program} {l : Launch} {e : Env} {R : Room} {s : State} {m : MethodId} {args : Array Value} {below : List Frame} {meth : Method} {c : Code} {cells slots : Nat} {Q : State → Prop} {D : va_G} {cI cB cJ : ClassId} {A : Nat → Prop} {hx hm b L : Nat} {xs : Nat → Int32} {ws : va_W} {i : Int} (X : CX p m c code 4 s args RL D (TY cI cB cJ) A s.heap) (hX : va_X b L xs s s.heap) (hbl : b < s.heap.size) (hbA : ¬ A b) (hL : L ≤ 3072) (hR : (∀ k, k ≤ 1000 → k ≤ R.frames) ∧ ∀ k, k ≤ 20000 → k ≤ R.locals) (hc : cells + 2 ≤ R.cells ∧ slots + 8 ≤ R.slots) (hi : 0 ≤ i ∧ i + 6 ≤ L) (hW : WW cI cB cJ hx hm ws) (kk : ∀ ws1, WW cI cB cJ hx hm ws1 → GG p l e R s m args below meth c (cells + 2) (slots + 8) Q D A s.heap 4 ws1 1294 [(3, vI i), (2, .ref hm), (1, .ref hx), (0, .ref b)] []) : GG p l e R s m args below meth c cells slots Q D A s.heap 4 ws 286 [(3, vI i), (2, .ref hm), (1, .ref hx), (0, .ref b)] [] := by
  obtain ⟨sn, sk, sd, se, su, sb, sP, wx, wm, h1, h2, hp⟩ := hW
  have hg := h1.rg
  refine g_aload_n X dL_law_286 2 rfl ?_
  refine g_aload_n X dL_law_287 3 rfl ?_
  refine g_iload_n X dL_law_288 0 rfl ?_
  refine g_iconst X dL_law_289 ?_
  refine g_iadd X dL_law_290 ?_
  refine g_sld X hX hbl hbA hL (by omega) dL_law_291 ?_
  refine g_fxI X hp (x_X9_claims l D cI cB cJ hx h1 (p0 := sc xs (i + 1)) (sc_ir _ _)) h1.mem cv_X9_claims uw629 ⟨rfl, rfl, hR.1 _ (by decide), hR.2 _ (by decide)⟩ rfl rfl (Nat.le_of_ble_eq_true rfl) ⟨Nat.le_trans (by omega) hc.1, Nat.le_trans (by omega) hc.2⟩ dL_law_292 (fun z292 w292 k292 => ?_)
  obtain ⟨n1, k1, d1, e1, c1, h3, r1⟩ := k292
  refine g_pop X rfl dL_law_295 ?_
  refine g_aload_n X dL_law_296 1 rfl ?_
  refine g_aload_n X dL_law_297 3 rfl ?_
  refine g_iload_n X dL_law_298 0 rfl ?_
  refine g_iconst X dL_law_299 ?_
  refine g_iadd X dL_law_300 ?_
  refine g_sld X hX hbl hbA hL (by omega) dL_law_301 ?_
  refine g_fmI X (List.Perm.refl _) (m_X10_claims l D cI cB cJ hm h2 (p0 := sc xs (i + 1)) (sc_ir _ _)) h2.mem cv_X10_claims uw1480 ⟨rfl, rfl, hR.1 _ (by decide), hR.2 _ (by decide)⟩ rfl rfl (Nat.le_of_ble_eq_true rfl) ⟨Nat.le_trans (by omega) hc.1, Nat.le_trans (by omega) hc.2⟩ dL_law_302 (fun z302 w302 k302 => ?_)
  obtain ⟨n2, k2, d2, e2, c2, h4, r2⟩ := k302
  refine g_pop X rfl dL_law_305 ?_
  refine g_goto X (tgt := 1294) dL_law_306 (by decide) ?_
  obtain ⟨rfl, rfl, rfl, rfl, rfl⟩ : n2 = n1 ∧ k2 = k1 ∧ d2 = d1 ∧ e2 = e1 ∧ c2 = c1 := by omega
  exact g_widen (by omega) (by omega) (kk _ ⟨_, _, _, _, _, _, _, _, _, h3, h4, List.Perm.refl _⟩)
set_option maxHeartbeats 1000000 in
theorem law_stock {p : Program} {l : Launch} {e : Env} {R : Room} {s : State} {m : MethodId} {args : Array Value} {below : List Frame} {meth : Method} {c : Code} {cells slots : Nat} {Q : State → Prop} {D : va_G} {cI cB cJ : ClassId} {A : Nat → Prop} {hx hm b L : Nat} {xs : Nat → Int32} {ws : va_W} {i : Int} (X : CX p m c code 4 s args RL D (TY cI cB cJ) A s.heap) (hX : va_X b L xs s s.heap) (hbl : b < s.heap.size) (hbA : ¬ A b) (hL : L ≤ 3072) (hR : (∀ k, k ≤ 1000 → k ≤ R.frames) ∧ ∀ k, k ≤ 20000 → k ≤ R.locals) (hc : cells + 2 ≤ R.cells ∧ slots + 8 ≤ R.slots) (hi : 0 ≤ i ∧ i + 6 ≤ L) (hW : WW cI cB cJ hx hm ws) (kk : ∀ ws1, WW cI cB cJ hx hm ws1 → GG p l e R s m args below meth c (cells + 2) (slots + 8) Q D A s.heap 4 ws1 1294 [(3, vI i), (2, .ref hm), (1, .ref hx), (0, .ref b)] []) : GG p l e R s m args below meth c cells slots Q D A s.heap 4 ws 309 [(3, vI i), (2, .ref hm), (1, .ref hx), (0, .ref b)] [] := by
  obtain ⟨sn, sk, sd, se, su, sb, sP, wx, wm, h1, h2, hp⟩ := hW
  have hg := h1.rg
  refine g_aload_n X dL_law_309 2 rfl ?_
  refine g_aload_n X dL_law_310 3 rfl ?_
  refine g_iload_n X dL_law_311 0 rfl ?_
  refine g_iconst X dL_law_312 ?_
  refine g_iadd X dL_law_313 ?_
  refine g_sld X hX hbl hbA hL (by omega) dL_law_314 ?_
  refine g_fxI X hp (x_X9_stock l D cI cB cJ hx h1 (p0 := sc xs (i + 1)) (sc_ir _ _)) h1.mem cv_X9_stock uw665 ⟨rfl, rfl, hR.1 _ (by decide), hR.2 _ (by decide)⟩ rfl rfl (Nat.le_of_ble_eq_true rfl) ⟨Nat.le_trans (by omega) hc.1, Nat.le_trans (by omega) hc.2⟩ dL_law_315 (fun z315 w315 k315 => ?_)
  obtain ⟨n1, k1, d1, e1, c1, h3, r1⟩ := k315
  refine g_pop X rfl dL_law_318 ?_
  refine g_aload_n X dL_law_319 1 rfl ?_
  refine g_aload_n X dL_law_320 3 rfl ?_
  refine g_iload_n X dL_law_321 0 rfl ?_
  refine g_iconst X dL_law_322 ?_
  refine g_iadd X dL_law_323 ?_
  refine g_sld X hX hbl hbA hL (by omega) dL_law_324 ?_
  refine g_fmI X (List.Perm.refl _) (m_X10_stock l D cI cB cJ hm h2 (p0 := sc xs (i + 1)) (sc_ir _ _)) h2.mem cv_X10_stock uw1745 ⟨rfl, rfl, hR.1 _ (by decide), hR.2 _ (by decide)⟩ rfl rfl (Nat.le_of_ble_eq_true rfl) ⟨Nat.le_trans (by omega) hc.1, Nat.le_trans (by omega) hc.2⟩ dL_law_325 (fun z325 w325 k325 => ?_)
  obtain ⟨n2, k2, d2, e2, c2, h4, r2⟩ := k325
  refine g_pop X rfl dL_law_328 ?_
  refine g_goto X (tgt := 1294) dL_law_329 (by decide) ?_
  obtain ⟨rfl, rfl, rfl, rfl, rfl⟩ : n2 = n1 ∧ k2 = k1 ∧ d2 = d1 ∧ e2 = e1 ∧ c2 = c1 := by omega
  exact g_widen (by omega) (by omega) (kk _ ⟨_, _, _, _, _, _, _, _, _, h3, h4, List.Perm.refl _⟩)
set_option maxHeartbeats 1000000 in
theorem law_known {p : Program} {l : Launch} {e : Env} {R : Room} {s : State} {m : MethodId} {args : Array Value} {below : List Frame} {meth : Method} {c : Code} {cells slots : Nat} {Q : State → Prop} {D : va_G} {cI cB cJ : ClassId} {A : Nat → Prop} {hx hm b L : Nat} {xs : Nat → Int32} {ws : va_W} {i : Int} (X : CX p m c code 4 s args RL D (TY cI cB cJ) A s.heap) (hX : va_X b L xs s s.heap) (hbl : b < s.heap.size) (hbA : ¬ A b) (hL : L ≤ 3072) (hR : (∀ k, k ≤ 1000 → k ≤ R.frames) ∧ ∀ k, k ≤ 20000 → k ≤ R.locals) (hc : cells + 2 ≤ R.cells ∧ slots + 8 ≤ R.slots) (hi : 0 ≤ i ∧ i + 6 ≤ L) (hW : WW cI cB cJ hx hm ws) (kk : ∀ ws1, WW cI cB cJ hx hm ws1 → GG p l e R s m args below meth c (cells + 2) (slots + 8) Q D A s.heap 4 ws1 1294 [(3, vI i), (2, .ref hm), (1, .ref hx), (0, .ref b)] []) : GG p l e R s m args below meth c cells slots Q D A s.heap 4 ws 332 [(3, vI i), (2, .ref hm), (1, .ref hx), (0, .ref b)] [] := by
  obtain ⟨sn, sk, sd, se, su, sb, sP, wx, wm, h1, h2, hp⟩ := hW
  have hg := h1.rg
  refine g_aload_n X dL_law_332 2 rfl ?_
  refine g_aload_n X dL_law_333 3 rfl ?_
  refine g_iload_n X dL_law_334 0 rfl ?_
  refine g_iconst X dL_law_335 ?_
  refine g_iadd X dL_law_336 ?_
  refine g_sld X hX hbl hbA hL (by omega) dL_law_337 ?_
  refine g_aload_n X dL_law_338 3 rfl ?_
  refine g_iload_n X dL_law_339 0 rfl ?_
  refine g_iconst X dL_law_340 ?_
  refine g_iadd X dL_law_341 ?_
  refine g_sld X hX hbl hbA hL (by omega) dL_law_342 ?_
  refine g_fxI X hp (x_X9_known l D cI cB cJ hx h1 (p0 := sc xs (i + 1)) (p1 := sc xs (i + 2)) (sc_ir _ _) (sc_ir _ _)) h1.mem cv_X9_known uw712 ⟨rfl, rfl, hR.1 _ (by decide), hR.2 _ (by decide)⟩ rfl rfl (Nat.le_of_ble_eq_true rfl) ⟨Nat.le_trans (by omega) hc.1, Nat.le_trans (by omega) hc.2⟩ dL_law_343 (fun z343 w343 k343 => ?_)
  obtain ⟨n1, k1, d1, e1, c1, h3, r1⟩ := k343
  refine g_pop X rfl dL_law_346 ?_
  refine g_aload_n X dL_law_347 1 rfl ?_
  refine g_aload_n X dL_law_348 3 rfl ?_
  refine g_iload_n X dL_law_349 0 rfl ?_
  refine g_iconst X dL_law_350 ?_
  refine g_iadd X dL_law_351 ?_
  refine g_sld X hX hbl hbA hL (by omega) dL_law_352 ?_
  refine g_aload_n X dL_law_353 3 rfl ?_
  refine g_iload_n X dL_law_354 0 rfl ?_
  refine g_iconst X dL_law_355 ?_
  refine g_iadd X dL_law_356 ?_
  refine g_sld X hX hbl hbA hL (by omega) dL_law_357 ?_
  refine g_fmI X (List.Perm.refl _) (m_X10_known l D cI cB cJ hm h2 (p0 := sc xs (i + 1)) (p1 := sc xs (i + 2)) (sc_ir _ _) (sc_ir _ _)) h2.mem cv_X10_known uw1515 ⟨rfl, rfl, hR.1 _ (by decide), hR.2 _ (by decide)⟩ rfl rfl (Nat.le_of_ble_eq_true rfl) ⟨Nat.le_trans (by omega) hc.1, Nat.le_trans (by omega) hc.2⟩ dL_law_358 (fun z358 w358 k358 => ?_)
  obtain ⟨n2, k2, d2, e2, c2, h4, r2⟩ := k358
  refine g_pop X rfl dL_law_361 ?_
  refine g_goto X (tgt := 1294) dL_law_362 (by decide) ?_
  obtain ⟨rfl, rfl, rfl, rfl, rfl⟩ : n2 = n1 ∧ k2 = k1 ∧ d2 = d1 ∧ e2 = e1 ∧ c2 = c1 := by omega
  exact g_widen (by omega) (by omega) (kk _ ⟨_, _, _, _, _, _, _, _, _, h3, h4, List.Perm.refl _⟩)
set_option maxHeartbeats 1000000 in
theorem law_groups {p : Program} {l : Launch} {e : Env} {R : Room} {s : State} {m : MethodId} {args : Array Value} {below : List Frame} {meth : Method} {c : Code} {cells slots : Nat} {Q : State → Prop} {D : va_G} {cI cB cJ : ClassId} {A : Nat → Prop} {hx hm b L : Nat} {xs : Nat → Int32} {ws : va_W} {i : Int} (X : CX p m c code 4 s args RL D (TY cI cB cJ) A s.heap) (hX : va_X b L xs s s.heap) (hbl : b < s.heap.size) (hbA : ¬ A b) (hL : L ≤ 3072) (hR : (∀ k, k ≤ 1000 → k ≤ R.frames) ∧ ∀ k, k ≤ 20000 → k ≤ R.locals) (hc : cells + 2 ≤ R.cells ∧ slots + 8 ≤ R.slots) (hi : 0 ≤ i ∧ i + 6 ≤ L) (hW : WW cI cB cJ hx hm ws) (kk : ∀ ws1, WW cI cB cJ hx hm ws1 → GG p l e R s m args below meth c (cells + 2) (slots + 8) Q D A s.heap 4 ws1 1294 [(3, vI i), (2, .ref hm), (1, .ref hx), (0, .ref b)] []) : GG p l e R s m args below meth c cells slots Q D A s.heap 4 ws 365 [(3, vI i), (2, .ref hm), (1, .ref hx), (0, .ref b)] [] := by
  obtain ⟨sn, sk, sd, se, su, sb, sP, wx, wm, h1, h2, hp⟩ := hW
  have hg := h1.rg
  refine g_aload_n X dL_law_365 2 rfl ?_
  refine g_aload_n X dL_law_366 3 rfl ?_
  refine g_iload_n X dL_law_367 0 rfl ?_
  refine g_iconst X dL_law_368 ?_
  refine g_iadd X dL_law_369 ?_
  refine g_sld X hX hbl hbA hL (by omega) dL_law_370 ?_
  refine g_fxI X hp (x_X9_groups l D cI cB cJ hx h1 (p0 := sc xs (i + 1)) (sc_ir _ _)) h1.mem cv_X9_groups uw726 ⟨rfl, rfl, hR.1 _ (by decide), hR.2 _ (by decide)⟩ rfl rfl (Nat.le_of_ble_eq_true rfl) ⟨Nat.le_trans (by omega) hc.1, Nat.le_trans (by omega) hc.2⟩ dL_law_371 (fun z371 w371 k371 => ?_)
  obtain ⟨n1, k1, d1, e1, c1, h3, r1⟩ := k371
  refine g_pop X rfl dL_law_374 ?_
  refine g_aload_n X dL_law_375 1 rfl ?_
  refine g_aload_n X dL_law_376 3 rfl ?_
  refine g_iload_n X dL_law_377 0 rfl ?_
  refine g_iconst X dL_law_378 ?_
  refine g_iadd X dL_law_379 ?_
  refine g_sld X hX hbl hbA hL (by omega) dL_law_380 ?_
  refine g_fmI X (List.Perm.refl _) (m_X10_groups l D cI cB cJ hm h2 (p0 := sc xs (i + 1)) (sc_ir _ _)) h2.mem cv_X10_groups uw1520 ⟨rfl, rfl, hR.1 _ (by decide), hR.2 _ (by decide)⟩ rfl rfl (Nat.le_of_ble_eq_true rfl) ⟨Nat.le_trans (by omega) hc.1, Nat.le_trans (by omega) hc.2⟩ dL_law_381 (fun z381 w381 k381 => ?_)
  obtain ⟨n2, k2, d2, e2, c2, h4, r2⟩ := k381
  refine g_pop X rfl dL_law_384 ?_
  refine g_goto X (tgt := 1294) dL_law_385 (by decide) ?_
  obtain ⟨rfl, rfl, rfl, rfl, rfl⟩ : n2 = n1 ∧ k2 = k1 ∧ d2 = d1 ∧ e2 = e1 ∧ c2 = c1 := by omega
  exact g_widen (by omega) (by omega) (kk _ ⟨_, _, _, _, _, _, _, _, _, h3, h4, List.Perm.refl _⟩)
set_option maxHeartbeats 1000000 in
theorem law_bound {p : Program} {l : Launch} {e : Env} {R : Room} {s : State} {m : MethodId} {args : Array Value} {below : List Frame} {meth : Method} {c : Code} {cells slots : Nat} {Q : State → Prop} {D : va_G} {cI cB cJ : ClassId} {A : Nat → Prop} {hx hm b L : Nat} {xs : Nat → Int32} {ws : va_W} {i : Int} (X : CX p m c code 4 s args RL D (TY cI cB cJ) A s.heap) (hX : va_X b L xs s s.heap) (hbl : b < s.heap.size) (hbA : ¬ A b) (hL : L ≤ 3072) (hR : (∀ k, k ≤ 1000 → k ≤ R.frames) ∧ ∀ k, k ≤ 20000 → k ≤ R.locals) (hc : cells + 2 ≤ R.cells ∧ slots + 8 ≤ R.slots) (hi : 0 ≤ i ∧ i + 6 ≤ L) (hW : WW cI cB cJ hx hm ws) (kk : ∀ ws1, WW cI cB cJ hx hm ws1 → GG p l e R s m args below meth c (cells + 2) (slots + 8) Q D A s.heap 4 ws1 1294 [(3, vI i), (2, .ref hm), (1, .ref hx), (0, .ref b)] []) : GG p l e R s m args below meth c cells slots Q D A s.heap 4 ws 388 [(3, vI i), (2, .ref hm), (1, .ref hx), (0, .ref b)] [] := by
  obtain ⟨sn, sk, sd, se, su, sb, sP, wx, wm, h1, h2, hp⟩ := hW
  have hg := h1.rg
  refine g_aload_n X dL_law_388 2 rfl ?_
  refine g_aload_n X dL_law_389 3 rfl ?_
  refine g_iload_n X dL_law_390 0 rfl ?_
  refine g_iconst X dL_law_391 ?_
  refine g_iadd X dL_law_392 ?_
  refine g_sld X hX hbl hbA hL (by omega) dL_law_393 ?_
  refine g_aload_n X dL_law_394 3 rfl ?_
  refine g_iload_n X dL_law_395 0 rfl ?_
  refine g_iconst X dL_law_396 ?_
  refine g_iadd X dL_law_397 ?_
  refine g_sld X hX hbl hbA hL (by omega) dL_law_398 ?_
  refine g_fxI X hp (x_X9_bound l D cI cB cJ hx h1 (p0 := sc xs (i + 1)) (p1 := sc xs (i + 2)) (sc_ir _ _) (sc_ir _ _)) h1.mem cv_X9_bound uw739 ⟨rfl, rfl, hR.1 _ (by decide), hR.2 _ (by decide)⟩ rfl rfl (Nat.le_of_ble_eq_true rfl) ⟨Nat.le_trans (by omega) hc.1, Nat.le_trans (by omega) hc.2⟩ dL_law_399 (fun z399 w399 k399 => ?_)
  obtain ⟨n1, k1, d1, e1, c1, h3, r1⟩ := k399
  refine g_pop X rfl dL_law_402 ?_
  refine g_aload_n X dL_law_403 1 rfl ?_
  refine g_aload_n X dL_law_404 3 rfl ?_
  refine g_iload_n X dL_law_405 0 rfl ?_
  refine g_iconst X dL_law_406 ?_
  refine g_iadd X dL_law_407 ?_
  refine g_sld X hX hbl hbA hL (by omega) dL_law_408 ?_
  refine g_aload_n X dL_law_409 3 rfl ?_
  refine g_iload_n X dL_law_410 0 rfl ?_
  refine g_iconst X dL_law_411 ?_
  refine g_iadd X dL_law_412 ?_
  refine g_sld X hX hbl hbA hL (by omega) dL_law_413 ?_
  refine g_fmI X (List.Perm.refl _) (m_X10_bound l D cI cB cJ hm h2 (p0 := sc xs (i + 1)) (p1 := sc xs (i + 2)) (sc_ir _ _) (sc_ir _ _)) h2.mem cv_X10_bound uw1534 ⟨rfl, rfl, hR.1 _ (by decide), hR.2 _ (by decide)⟩ rfl rfl (Nat.le_of_ble_eq_true rfl) ⟨Nat.le_trans (by omega) hc.1, Nat.le_trans (by omega) hc.2⟩ dL_law_414 (fun z414 w414 k414 => ?_)
  obtain ⟨n2, k2, d2, e2, c2, h4, r2⟩ := k414
  refine g_pop X rfl dL_law_417 ?_
  refine g_goto X (tgt := 1294) dL_law_418 (by decide) ?_
  obtain ⟨rfl, rfl, rfl, rfl, rfl⟩ : n2 = n1 ∧ k2 = k1 ∧ d2 = d1 ∧ e2 = e1 ∧ c2 = c1 := by omega
  exact g_widen (by omega) (by omega) (kk _ ⟨_, _, _, _, _, _, _, _, _, h3, h4, List.Perm.refl _⟩)
set_option maxHeartbeats 1000000 in
theorem law_canBe {p : Program} {l : Launch} {e : Env} {R : Room} {s : State} {m : MethodId} {args : Array Value} {below : List Frame} {meth : Method} {c : Code} {cells slots : Nat} {Q : State → Prop} {D : va_G} {cI cB cJ : ClassId} {A : Nat → Prop} {hx hm b L : Nat} {xs : Nat → Int32} {ws : va_W} {i : Int} (X : CX p m c code 4 s args RL D (TY cI cB cJ) A s.heap) (hX : va_X b L xs s s.heap) (hbl : b < s.heap.size) (hbA : ¬ A b) (hL : L ≤ 3072) (hR : (∀ k, k ≤ 1000 → k ≤ R.frames) ∧ ∀ k, k ≤ 20000 → k ≤ R.locals) (hc : cells + 2 ≤ R.cells ∧ slots + 8 ≤ R.slots) (hi : 0 ≤ i ∧ i + 6 ≤ L) (hW : WW cI cB cJ hx hm ws) (kk : ∀ ws1, WW cI cB cJ hx hm ws1 → GG p l e R s m args below meth c (cells + 2) (slots + 8) Q D A s.heap 4 ws1 1294 [(3, vI i), (2, .ref hm), (1, .ref hx), (0, .ref b)] []) : GG p l e R s m args below meth c cells slots Q D A s.heap 4 ws 421 [(3, vI i), (2, .ref hm), (1, .ref hx), (0, .ref b)] [] := by
  obtain ⟨sn, sk, sd, se, su, sb, sP, wx, wm, h1, h2, hp⟩ := hW
  have hg := h1.rg
  refine g_aload_n X dL_law_421 2 rfl ?_
  refine g_aload_n X dL_law_422 3 rfl ?_
  refine g_iload_n X dL_law_423 0 rfl ?_
  refine g_iconst X dL_law_424 ?_
  refine g_iadd X dL_law_425 ?_
  refine g_sld X hX hbl hbA hL (by omega) dL_law_426 ?_
  refine g_fxI X hp (x_X9_canBe l D cI cB cJ hx h1 (p0 := sc xs (i + 1)) (sc_ir _ _)) h1.mem cv_X9_canBe uw747 ⟨rfl, rfl, hR.1 _ (by decide), hR.2 _ (by decide)⟩ rfl rfl (Nat.le_of_ble_eq_true rfl) ⟨Nat.le_trans (by omega) hc.1, Nat.le_trans (by omega) hc.2⟩ dL_law_427 (fun z427 w427 k427 => ?_)
  obtain ⟨n1, k1, d1, e1, c1, h3, r1⟩ := k427
  refine g_pop X rfl dL_law_430 ?_
  refine g_aload_n X dL_law_431 1 rfl ?_
  refine g_aload_n X dL_law_432 3 rfl ?_
  refine g_iload_n X dL_law_433 0 rfl ?_
  refine g_iconst X dL_law_434 ?_
  refine g_iadd X dL_law_435 ?_
  refine g_sld X hX hbl hbA hL (by omega) dL_law_436 ?_
  refine g_fmI X (List.Perm.refl _) (m_X10_canBe l D cI cB cJ hm h2 (p0 := sc xs (i + 1)) (sc_ir _ _)) h2.mem cv_X10_canBe uw1565 ⟨rfl, rfl, hR.1 _ (by decide), hR.2 _ (by decide)⟩ rfl rfl (Nat.le_of_ble_eq_true rfl) ⟨Nat.le_trans (by omega) hc.1, Nat.le_trans (by omega) hc.2⟩ dL_law_437 (fun z437 w437 k437 => ?_)
  obtain ⟨n2, k2, d2, e2, c2, h4, r2⟩ := k437
  refine g_pop X rfl dL_law_440 ?_
  refine g_goto X (tgt := 1294) dL_law_441 (by decide) ?_
  obtain ⟨rfl, rfl, rfl, rfl, rfl⟩ : n2 = n1 ∧ k2 = k1 ∧ d2 = d1 ∧ e2 = e1 ∧ c2 = c1 := by omega
  exact g_widen (by omega) (by omega) (kk _ ⟨_, _, _, _, _, _, _, _, _, h3, h4, List.Perm.refl _⟩)
set_option maxHeartbeats 1000000 in
theorem law_idle {p : Program} {l : Launch} {e : Env} {R : Room} {s : State} {m : MethodId} {args : Array Value} {below : List Frame} {meth : Method} {c : Code} {cells slots : Nat} {Q : State → Prop} {D : va_G} {cI cB cJ : ClassId} {A : Nat → Prop} {hx hm b L : Nat} {xs : Nat → Int32} {ws : va_W} {i : Int} (X : CX p m c code 4 s args RL D (TY cI cB cJ) A s.heap) (hX : va_X b L xs s s.heap) (hbl : b < s.heap.size) (hbA : ¬ A b) (hL : L ≤ 3072) (hR : (∀ k, k ≤ 1000 → k ≤ R.frames) ∧ ∀ k, k ≤ 20000 → k ≤ R.locals) (hc : cells + 2 ≤ R.cells ∧ slots + 8 ≤ R.slots) (hi : 0 ≤ i ∧ i + 6 ≤ L) (hW : WW cI cB cJ hx hm ws) (kk : ∀ ws1, WW cI cB cJ hx hm ws1 → GG p l e R s m args below meth c (cells + 2) (slots + 8) Q D A s.heap 4 ws1 1294 [(3, vI i), (2, .ref hm), (1, .ref hx), (0, .ref b)] []) : GG p l e R s m args below meth c cells slots Q D A s.heap 4 ws 444 [(3, vI i), (2, .ref hm), (1, .ref hx), (0, .ref b)] [] := by
  obtain ⟨sn, sk, sd, se, su, sb, sP, wx, wm, h1, h2, hp⟩ := hW
  have hg := h1.rg
  refine g_aload_n X dL_law_444 2 rfl ?_
  refine g_aload_n X dL_law_445 3 rfl ?_
  refine g_iload_n X dL_law_446 0 rfl ?_
  refine g_iconst X dL_law_447 ?_
  refine g_iadd X dL_law_448 ?_
  refine g_sld X hX hbl hbA hL (by omega) dL_law_449 ?_
  refine g_fxI X hp (x_X9_idle l D cI cB cJ hx h1 (p0 := sc xs (i + 1)) (sc_ir _ _)) h1.mem cv_X9_idle uw777 ⟨rfl, rfl, hR.1 _ (by decide), hR.2 _ (by decide)⟩ rfl rfl (Nat.le_of_ble_eq_true rfl) ⟨Nat.le_trans (by omega) hc.1, Nat.le_trans (by omega) hc.2⟩ dL_law_450 (fun z450 w450 k450 => ?_)
  obtain ⟨n1, k1, d1, e1, c1, h3, r1⟩ := k450
  refine g_pop X rfl dL_law_453 ?_
  refine g_aload_n X dL_law_454 1 rfl ?_
  refine g_aload_n X dL_law_455 3 rfl ?_
  refine g_iload_n X dL_law_456 0 rfl ?_
  refine g_iconst X dL_law_457 ?_
  refine g_iadd X dL_law_458 ?_
  refine g_sld X hX hbl hbA hL (by omega) dL_law_459 ?_
  refine g_fmI X (List.Perm.refl _) (m_X10_idle l D cI cB cJ hm h2 (p0 := sc xs (i + 1)) (sc_ir _ _)) h2.mem cv_X10_idle uw1592 ⟨rfl, rfl, hR.1 _ (by decide), hR.2 _ (by decide)⟩ rfl rfl (Nat.le_of_ble_eq_true rfl) ⟨Nat.le_trans (by omega) hc.1, Nat.le_trans (by omega) hc.2⟩ dL_law_460 (fun z460 w460 k460 => ?_)
  obtain ⟨n2, k2, d2, e2, c2, h4, r2⟩ := k460
  refine g_pop X rfl dL_law_463 ?_
  refine g_goto X (tgt := 1294) dL_law_464 (by decide) ?_
  obtain ⟨rfl, rfl, rfl, rfl, rfl⟩ : n2 = n1 ∧ k2 = k1 ∧ d2 = d1 ∧ e2 = e1 ∧ c2 = c1 := by omega
  exact g_widen (by omega) (by omega) (kk _ ⟨_, _, _, _, _, _, _, _, _, h3, h4, List.Perm.refl _⟩)
set_option maxHeartbeats 1000000 in
theorem law_surely {p : Program} {l : Launch} {e : Env} {R : Room} {s : State} {m : MethodId} {args : Array Value} {below : List Frame} {meth : Method} {c : Code} {cells slots : Nat} {Q : State → Prop} {D : va_G} {cI cB cJ : ClassId} {A : Nat → Prop} {hx hm b L : Nat} {xs : Nat → Int32} {ws : va_W} {i : Int} (X : CX p m c code 4 s args RL D (TY cI cB cJ) A s.heap) (hX : va_X b L xs s s.heap) (hbl : b < s.heap.size) (hbA : ¬ A b) (hL : L ≤ 3072) (hR : (∀ k, k ≤ 1000 → k ≤ R.frames) ∧ ∀ k, k ≤ 20000 → k ≤ R.locals) (hc : cells + 2 ≤ R.cells ∧ slots + 8 ≤ R.slots) (hi : 0 ≤ i ∧ i + 6 ≤ L) (hW : WW cI cB cJ hx hm ws) (kk : ∀ ws1, WW cI cB cJ hx hm ws1 → GG p l e R s m args below meth c (cells + 2) (slots + 8) Q D A s.heap 4 ws1 1294 [(3, vI i), (2, .ref hm), (1, .ref hx), (0, .ref b)] []) : GG p l e R s m args below meth c cells slots Q D A s.heap 4 ws 467 [(3, vI i), (2, .ref hm), (1, .ref hx), (0, .ref b)] [] := by
  obtain ⟨sn, sk, sd, se, su, sb, sP, wx, wm, h1, h2, hp⟩ := hW
  have hg := h1.rg
  refine g_aload_n X dL_law_467 2 rfl ?_
  refine g_aload_n X dL_law_468 3 rfl ?_
  refine g_iload_n X dL_law_469 0 rfl ?_
  refine g_iconst X dL_law_470 ?_
  refine g_iadd X dL_law_471 ?_
  refine g_sld X hX hbl hbA hL (by omega) dL_law_472 ?_
  refine g_aload_n X dL_law_473 3 rfl ?_
  refine g_iload_n X dL_law_474 0 rfl ?_
  refine g_iconst X dL_law_475 ?_
  refine g_iadd X dL_law_476 ?_
  refine g_sld X hX hbl hbA hL (by omega) dL_law_477 ?_
  refine g_fxI X hp (x_X9_surely l D cI cB cJ hx h1 (p0 := sc xs (i + 1)) (p1 := sc xs (i + 2)) (sc_ir _ _) (sc_ir _ _)) h1.mem cv_X9_surely uw785 ⟨rfl, rfl, hR.1 _ (by decide), hR.2 _ (by decide)⟩ rfl rfl (Nat.le_of_ble_eq_true rfl) ⟨Nat.le_trans (by omega) hc.1, Nat.le_trans (by omega) hc.2⟩ dL_law_478 (fun z478 w478 k478 => ?_)
  obtain ⟨n1, k1, d1, e1, c1, h3, r1⟩ := k478
  refine g_pop X rfl dL_law_481 ?_
  refine g_aload_n X dL_law_482 1 rfl ?_
  refine g_aload_n X dL_law_483 3 rfl ?_
  refine g_iload_n X dL_law_484 0 rfl ?_
  refine g_iconst X dL_law_485 ?_
  refine g_iadd X dL_law_486 ?_
  refine g_sld X hX hbl hbA hL (by omega) dL_law_487 ?_
  refine g_aload_n X dL_law_488 3 rfl ?_
  refine g_iload_n X dL_law_489 0 rfl ?_
  refine g_iconst X dL_law_490 ?_
  refine g_iadd X dL_law_491 ?_
  refine g_sld X hX hbl hbA hL (by omega) dL_law_492 ?_
  refine g_fmI X (List.Perm.refl _) (m_X10_surely l D cI cB cJ hm h2 (p0 := sc xs (i + 1)) (p1 := sc xs (i + 2)) (sc_ir _ _) (sc_ir _ _)) h2.mem cv_X10_surely uw1600 ⟨rfl, rfl, hR.1 _ (by decide), hR.2 _ (by decide)⟩ rfl rfl (Nat.le_of_ble_eq_true rfl) ⟨Nat.le_trans (by omega) hc.1, Nat.le_trans (by omega) hc.2⟩ dL_law_493 (fun z493 w493 k493 => ?_)
  obtain ⟨n2, k2, d2, e2, c2, h4, r2⟩ := k493
  refine g_pop X rfl dL_law_496 ?_
  refine g_goto X (tgt := 1294) dL_law_497 (by decide) ?_
  obtain ⟨rfl, rfl, rfl, rfl, rfl⟩ : n2 = n1 ∧ k2 = k1 ∧ d2 = d1 ∧ e2 = e1 ∧ c2 = c1 := by omega
  exact g_widen (by omega) (by omega) (kk _ ⟨_, _, _, _, _, _, _, _, _, h3, h4, List.Perm.refl _⟩)
set_option maxHeartbeats 1000000 in
theorem law_lightest {p : Program} {l : Launch} {e : Env} {R : Room} {s : State} {m : MethodId} {args : Array Value} {below : List Frame} {meth : Method} {c : Code} {cells slots : Nat} {Q : State → Prop} {D : va_G} {cI cB cJ : ClassId} {A : Nat → Prop} {hx hm b L : Nat} {xs : Nat → Int32} {ws : va_W} {i : Int} (X : CX p m c code 4 s args RL D (TY cI cB cJ) A s.heap) (hX : va_X b L xs s s.heap) (hbl : b < s.heap.size) (hbA : ¬ A b) (hL : L ≤ 3072) (hR : (∀ k, k ≤ 1000 → k ≤ R.frames) ∧ ∀ k, k ≤ 20000 → k ≤ R.locals) (hc : cells + 2 ≤ R.cells ∧ slots + 8 ≤ R.slots) (hi : 0 ≤ i ∧ i + 6 ≤ L) (hW : WW cI cB cJ hx hm ws) (kk : ∀ ws1, WW cI cB cJ hx hm ws1 → GG p l e R s m args below meth c (cells + 2) (slots + 8) Q D A s.heap 4 ws1 1294 [(3, vI i), (2, .ref hm), (1, .ref hx), (0, .ref b)] []) : GG p l e R s m args below meth c cells slots Q D A s.heap 4 ws 500 [(3, vI i), (2, .ref hm), (1, .ref hx), (0, .ref b)] [] := by
  obtain ⟨sn, sk, sd, se, su, sb, sP, wx, wm, h1, h2, hp⟩ := hW
  have hg := h1.rg
  refine g_aload_n X dL_law_500 2 rfl ?_
  refine g_aload_n X dL_law_501 3 rfl ?_
  refine g_iload_n X dL_law_502 0 rfl ?_
  refine g_iconst X dL_law_503 ?_
  refine g_iadd X dL_law_504 ?_
  refine g_sld X hX hbl hbA hL (by omega) dL_law_505 ?_
  refine g_fxI X hp (x_X9_lightest l D cI cB cJ hx h1 (p0 := sc xs (i + 1)) (sc_ir _ _)) h1.mem cv_X9_lightest uw798 ⟨rfl, rfl, hR.1 _ (by decide), hR.2 _ (by decide)⟩ rfl rfl (Nat.le_of_ble_eq_true rfl) ⟨Nat.le_trans (by omega) hc.1, Nat.le_trans (by omega) hc.2⟩ dL_law_506 (fun z506 w506 k506 => ?_)
  obtain ⟨n1, k1, d1, e1, c1, h3, r1⟩ := k506
  refine g_pop X rfl dL_law_509 ?_
  refine g_aload_n X dL_law_510 1 rfl ?_
  refine g_aload_n X dL_law_511 3 rfl ?_
  refine g_iload_n X dL_law_512 0 rfl ?_
  refine g_iconst X dL_law_513 ?_
  refine g_iadd X dL_law_514 ?_
  refine g_sld X hX hbl hbA hL (by omega) dL_law_515 ?_
  refine g_fmI X (List.Perm.refl _) (m_X10_lightest l D cI cB cJ hm h2 (p0 := sc xs (i + 1)) (sc_ir _ _)) h2.mem cv_X10_lightest uw1612 ⟨rfl, rfl, hR.1 _ (by decide), hR.2 _ (by decide)⟩ rfl rfl (Nat.le_of_ble_eq_true rfl) ⟨Nat.le_trans (by omega) hc.1, Nat.le_trans (by omega) hc.2⟩ dL_law_516 (fun z516 w516 k516 => ?_)
  obtain ⟨n2, k2, d2, e2, c2, h4, r2⟩ := k516
  refine g_pop X rfl dL_law_519 ?_
  refine g_goto X (tgt := 1294) dL_law_520 (by decide) ?_
  obtain ⟨rfl, rfl, rfl, rfl, rfl⟩ : n2 = n1 ∧ k2 = k1 ∧ d2 = d1 ∧ e2 = e1 ∧ c2 = c1 := by omega
  exact g_widen (by omega) (by omega) (kk _ ⟨_, _, _, _, _, _, _, _, _, h3, h4, List.Perm.refl _⟩)
set_option maxHeartbeats 1000000 in
theorem law_slack {p : Program} {l : Launch} {e : Env} {R : Room} {s : State} {m : MethodId} {args : Array Value} {below : List Frame} {meth : Method} {c : Code} {cells slots : Nat} {Q : State → Prop} {D : va_G} {cI cB cJ : ClassId} {A : Nat → Prop} {hx hm b L : Nat} {xs : Nat → Int32} {ws : va_W} {i : Int} (X : CX p m c code 4 s args RL D (TY cI cB cJ) A s.heap) (hX : va_X b L xs s s.heap) (hbl : b < s.heap.size) (hbA : ¬ A b) (hL : L ≤ 3072) (hR : (∀ k, k ≤ 1000 → k ≤ R.frames) ∧ ∀ k, k ≤ 20000 → k ≤ R.locals) (hc : cells + 2 ≤ R.cells ∧ slots + 8 ≤ R.slots) (hi : 0 ≤ i ∧ i + 6 ≤ L) (hW : WW cI cB cJ hx hm ws) (kk : ∀ ws1, WW cI cB cJ hx hm ws1 → GG p l e R s m args below meth c (cells + 2) (slots + 8) Q D A s.heap 4 ws1 1294 [(3, vI i), (2, .ref hm), (1, .ref hx), (0, .ref b)] []) : GG p l e R s m args below meth c cells slots Q D A s.heap 4 ws 523 [(3, vI i), (2, .ref hm), (1, .ref hx), (0, .ref b)] [] := by
  obtain ⟨sn, sk, sd, se, su, sb, sP, wx, wm, h1, h2, hp⟩ := hW
  have hg := h1.rg
  refine g_aload_n X dL_law_523 2 rfl ?_
  refine g_aload_n X dL_law_524 3 rfl ?_
  refine g_iload_n X dL_law_525 0 rfl ?_
  refine g_iconst X dL_law_526 ?_
  refine g_iadd X dL_law_527 ?_
  refine g_sld X hX hbl hbA hL (by omega) dL_law_528 ?_
  refine g_fxI X hp (x_X9_slack l D cI cB cJ hx h1 (p0 := sc xs (i + 1)) (sc_ir _ _)) h1.mem cv_X9_slack uw809 ⟨rfl, rfl, hR.1 _ (by decide), hR.2 _ (by decide)⟩ rfl rfl (Nat.le_of_ble_eq_true rfl) ⟨Nat.le_trans (by omega) hc.1, Nat.le_trans (by omega) hc.2⟩ dL_law_529 (fun z529 w529 k529 => ?_)
  obtain ⟨n1, k1, d1, e1, c1, h3, r1⟩ := k529
  refine g_pop X rfl dL_law_532 ?_
  refine g_aload_n X dL_law_533 1 rfl ?_
  refine g_aload_n X dL_law_534 3 rfl ?_
  refine g_iload_n X dL_law_535 0 rfl ?_
  refine g_iconst X dL_law_536 ?_
  refine g_iadd X dL_law_537 ?_
  refine g_sld X hX hbl hbA hL (by omega) dL_law_538 ?_
  refine g_fmI X (List.Perm.refl _) (m_X10_slack l D cI cB cJ hm h2 (p0 := sc xs (i + 1)) (sc_ir _ _)) h2.mem cv_X10_slack uw1616 ⟨rfl, rfl, hR.1 _ (by decide), hR.2 _ (by decide)⟩ rfl rfl (Nat.le_of_ble_eq_true rfl) ⟨Nat.le_trans (by omega) hc.1, Nat.le_trans (by omega) hc.2⟩ dL_law_539 (fun z539 w539 k539 => ?_)
  obtain ⟨n2, k2, d2, e2, c2, h4, r2⟩ := k539
  refine g_pop X rfl dL_law_542 ?_
  refine g_goto X (tgt := 1294) dL_law_543 (by decide) ?_
  obtain ⟨rfl, rfl, rfl, rfl, rfl⟩ : n2 = n1 ∧ k2 = k1 ∧ d2 = d1 ∧ e2 = e1 ∧ c2 = c1 := by omega
  exact g_widen (by omega) (by omega) (kk _ ⟨_, _, _, _, _, _, _, _, _, h3, h4, List.Perm.refl _⟩)
set_option maxHeartbeats 1000000 in
theorem law_chain {p : Program} {l : Launch} {e : Env} {R : Room} {s : State} {m : MethodId} {args : Array Value} {below : List Frame} {meth : Method} {c : Code} {cells slots : Nat} {Q : State → Prop} {D : va_G} {cI cB cJ : ClassId} {A : Nat → Prop} {hx hm b L : Nat} {xs : Nat → Int32} {ws : va_W} {i : Int} (X : CX p m c code 4 s args RL D (TY cI cB cJ) A s.heap) (hX : va_X b L xs s s.heap) (hbl : b < s.heap.size) (hbA : ¬ A b) (hL : L ≤ 3072) (hR : (∀ k, k ≤ 1000 → k ≤ R.frames) ∧ ∀ k, k ≤ 20000 → k ≤ R.locals) (hc : cells + 2 ≤ R.cells ∧ slots + 8 ≤ R.slots) (hi : 0 ≤ i ∧ i + 6 ≤ L) (hW : WW cI cB cJ hx hm ws) (kk : ∀ ws1, WW cI cB cJ hx hm ws1 → GG p l e R s m args below meth c (cells + 2) (slots + 8) Q D A s.heap 4 ws1 1294 [(3, vI i), (2, .ref hm), (1, .ref hx), (0, .ref b)] []) : GG p l e R s m args below meth c cells slots Q D A s.heap 4 ws 546 [(3, vI i), (2, .ref hm), (1, .ref hx), (0, .ref b)] [] := by
  obtain ⟨sn, sk, sd, se, su, sb, sP, wx, wm, h1, h2, hp⟩ := hW
  have hg := h1.rg
  refine g_aload_n X dL_law_546 2 rfl ?_
  refine g_aload_n X dL_law_547 3 rfl ?_
  refine g_iload_n X dL_law_548 0 rfl ?_
  refine g_iconst X dL_law_549 ?_
  refine g_iadd X dL_law_550 ?_
  refine g_sld X hX hbl hbA hL (by omega) dL_law_551 ?_
  refine g_fxI X hp (x_X9_chain l D cI cB cJ hx h1 (p0 := sc xs (i + 1)) (sc_ir _ _)) h1.mem cv_X9_chain uw818 ⟨rfl, rfl, hR.1 _ (by decide), hR.2 _ (by decide)⟩ rfl rfl (Nat.le_of_ble_eq_true rfl) ⟨Nat.le_trans (by omega) hc.1, Nat.le_trans (by omega) hc.2⟩ dL_law_552 (fun z552 w552 k552 => ?_)
  obtain ⟨n1, k1, d1, e1, c1, h3, r1⟩ := k552
  refine g_pop X rfl dL_law_555 ?_
  refine g_aload_n X dL_law_556 1 rfl ?_
  refine g_aload_n X dL_law_557 3 rfl ?_
  refine g_iload_n X dL_law_558 0 rfl ?_
  refine g_iconst X dL_law_559 ?_
  refine g_iadd X dL_law_560 ?_
  refine g_sld X hX hbl hbA hL (by omega) dL_law_561 ?_
  refine g_fmI X (List.Perm.refl _) (m_X10_chain l D cI cB cJ hm h2 (p0 := sc xs (i + 1)) (sc_ir _ _)) h2.mem cv_X10_chain uw1620 ⟨rfl, rfl, hR.1 _ (by decide), hR.2 _ (by decide)⟩ rfl rfl (Nat.le_of_ble_eq_true rfl) ⟨Nat.le_trans (by omega) hc.1, Nat.le_trans (by omega) hc.2⟩ dL_law_562 (fun z562 w562 k562 => ?_)
  obtain ⟨n2, k2, d2, e2, c2, h4, r2⟩ := k562
  refine g_pop X rfl dL_law_565 ?_
  refine g_goto X (tgt := 1294) dL_law_566 (by decide) ?_
  obtain ⟨rfl, rfl, rfl, rfl, rfl⟩ : n2 = n1 ∧ k2 = k1 ∧ d2 = d1 ∧ e2 = e1 ∧ c2 = c1 := by omega
  exact g_widen (by omega) (by omega) (kk _ ⟨_, _, _, _, _, _, _, _, _, h3, h4, List.Perm.refl _⟩)
set_option maxHeartbeats 1000000 in
theorem law_orders {p : Program} {l : Launch} {e : Env} {R : Room} {s : State} {m : MethodId} {args : Array Value} {below : List Frame} {meth : Method} {c : Code} {cells slots : Nat} {Q : State → Prop} {D : va_G} {cI cB cJ : ClassId} {A : Nat → Prop} {hx hm b L : Nat} {xs : Nat → Int32} {ws : va_W} {i : Int} (X : CX p m c code 4 s args RL D (TY cI cB cJ) A s.heap) (hX : va_X b L xs s s.heap) (hbl : b < s.heap.size) (hbA : ¬ A b) (hL : L ≤ 3072) (hR : (∀ k, k ≤ 1000 → k ≤ R.frames) ∧ ∀ k, k ≤ 20000 → k ≤ R.locals) (hc : cells + 2 ≤ R.cells ∧ slots + 8 ≤ R.slots) (hi : 0 ≤ i ∧ i + 6 ≤ L) (hW : WW cI cB cJ hx hm ws) (kk : ∀ ws1, WW cI cB cJ hx hm ws1 → GG p l e R s m args below meth c (cells + 2) (slots + 8) Q D A s.heap 4 ws1 1294 [(3, vI i), (2, .ref hm), (1, .ref hx), (0, .ref b)] []) : GG p l e R s m args below meth c cells slots Q D A s.heap 4 ws 569 [(3, vI i), (2, .ref hm), (1, .ref hx), (0, .ref b)] [] := by
  obtain ⟨sn, sk, sd, se, su, sb, sP, wx, wm, h1, h2, hp⟩ := hW
  have hg := h1.rg
  refine g_aload_n X dL_law_569 2 rfl ?_
  refine g_aload_n X dL_law_570 3 rfl ?_
  refine g_iload_n X dL_law_571 0 rfl ?_
  refine g_iconst X dL_law_572 ?_
  refine g_iadd X dL_law_573 ?_
  refine g_sld X hX hbl hbA hL (by omega) dL_law_574 ?_
  refine g_fxI X hp (x_X9_orders l D cI cB cJ hx h1 (p0 := sc xs (i + 1)) (sc_ir _ _)) h1.mem cv_X9_orders uw832 ⟨rfl, rfl, hR.1 _ (by decide), hR.2 _ (by decide)⟩ rfl rfl (Nat.le_of_ble_eq_true rfl) ⟨Nat.le_trans (by omega) hc.1, Nat.le_trans (by omega) hc.2⟩ dL_law_575 (fun z575 w575 k575 => ?_)
  obtain ⟨n1, k1, d1, e1, c1, h3, r1⟩ := k575
  refine g_pop X rfl dL_law_578 ?_
  refine g_aload_n X dL_law_579 1 rfl ?_
  refine g_aload_n X dL_law_580 3 rfl ?_
  refine g_iload_n X dL_law_581 0 rfl ?_
  refine g_iconst X dL_law_582 ?_
  refine g_iadd X dL_law_583 ?_
  refine g_sld X hX hbl hbA hL (by omega) dL_law_584 ?_
  refine g_fmI X (List.Perm.refl _) (m_X10_orders l D cI cB cJ hm h2 (p0 := sc xs (i + 1)) (sc_ir _ _)) h2.mem cv_X10_orders uw1624 ⟨rfl, rfl, hR.1 _ (by decide), hR.2 _ (by decide)⟩ rfl rfl (Nat.le_of_ble_eq_true rfl) ⟨Nat.le_trans (by omega) hc.1, Nat.le_trans (by omega) hc.2⟩ dL_law_585 (fun z585 w585 k585 => ?_)
  obtain ⟨n2, k2, d2, e2, c2, h4, r2⟩ := k585
  refine g_pop X rfl dL_law_588 ?_
  refine g_goto X (tgt := 1294) dL_law_589 (by decide) ?_
  obtain ⟨rfl, rfl, rfl, rfl, rfl⟩ : n2 = n1 ∧ k2 = k1 ∧ d2 = d1 ∧ e2 = e1 ∧ c2 = c1 := by omega
  exact g_widen (by omega) (by omega) (kk _ ⟨_, _, _, _, _, _, _, _, _, h3, h4, List.Perm.refl _⟩)
set_option maxHeartbeats 1000000 in
theorem law_weighings {p : Program} {l : Launch} {e : Env} {R : Room} {s : State} {m : MethodId} {args : Array Value} {below : List Frame} {meth : Method} {c : Code} {cells slots : Nat} {Q : State → Prop} {D : va_G} {cI cB cJ : ClassId} {A : Nat → Prop} {hx hm b L : Nat} {xs : Nat → Int32} {ws : va_W} {i : Int} (X : CX p m c code 4 s args RL D (TY cI cB cJ) A s.heap) (hX : va_X b L xs s s.heap) (hbl : b < s.heap.size) (hbA : ¬ A b) (hL : L ≤ 3072) (hR : (∀ k, k ≤ 1000 → k ≤ R.frames) ∧ ∀ k, k ≤ 20000 → k ≤ R.locals) (hc : cells + 2 ≤ R.cells ∧ slots + 8 ≤ R.slots) (hi : 0 ≤ i ∧ i + 6 ≤ L) (hW : WW cI cB cJ hx hm ws) (kk : ∀ ws1, WW cI cB cJ hx hm ws1 → GG p l e R s m args below meth c (cells + 2) (slots + 8) Q D A s.heap 4 ws1 1294 [(3, vI i), (2, .ref hm), (1, .ref hx), (0, .ref b)] []) : GG p l e R s m args below meth c cells slots Q D A s.heap 4 ws 592 [(3, vI i), (2, .ref hm), (1, .ref hx), (0, .ref b)] [] := by
  obtain ⟨sn, sk, sd, se, su, sb, sP, wx, wm, h1, h2, hp⟩ := hW
  have hg := h1.rg
  refine g_aload_n X dL_law_592 2 rfl ?_
  refine g_aload_n X dL_law_593 3 rfl ?_
  refine g_iload_n X dL_law_594 0 rfl ?_
  refine g_iconst X dL_law_595 ?_
  refine g_iadd X dL_law_596 ?_
  refine g_sld X hX hbl hbA hL (by omega) dL_law_597 ?_
  refine g_aload_n X dL_law_598 3 rfl ?_
  refine g_iload_n X dL_law_599 0 rfl ?_
  refine g_iconst X dL_law_600 ?_
  refine g_iadd X dL_law_601 ?_
  refine g_sld X hX hbl hbA hL (by omega) dL_law_602 ?_
  refine g_fxI X hp (x_X9_weighings l D cI cB cJ hx h1 (p0 := sc xs (i + 1)) (p1 := sc xs (i + 2)) (sc_ir _ _) (sc_ir _ _)) h1.mem cv_X9_weighings uw846 ⟨rfl, rfl, hR.1 _ (by decide), hR.2 _ (by decide)⟩ rfl rfl (Nat.le_of_ble_eq_true rfl) ⟨Nat.le_trans (by omega) hc.1, Nat.le_trans (by omega) hc.2⟩ dL_law_603 (fun z603 w603 k603 => ?_)
  obtain ⟨n1, k1, d1, e1, c1, h3, r1⟩ := k603
  refine g_pop X rfl dL_law_606 ?_
  refine g_aload_n X dL_law_607 1 rfl ?_
  refine g_aload_n X dL_law_608 3 rfl ?_
  refine g_iload_n X dL_law_609 0 rfl ?_
  refine g_iconst X dL_law_610 ?_
  refine g_iadd X dL_law_611 ?_
  refine g_sld X hX hbl hbA hL (by omega) dL_law_612 ?_
  refine g_aload_n X dL_law_613 3 rfl ?_
  refine g_iload_n X dL_law_614 0 rfl ?_
  refine g_iconst X dL_law_615 ?_
  refine g_iadd X dL_law_616 ?_
  refine g_sld X hX hbl hbA hL (by omega) dL_law_617 ?_
  refine g_fmI X (List.Perm.refl _) (m_X10_weighings l D cI cB cJ hm h2 (p0 := sc xs (i + 1)) (p1 := sc xs (i + 2)) (sc_ir _ _) (sc_ir _ _)) h2.mem cv_X10_weighings uw1628 ⟨rfl, rfl, hR.1 _ (by decide), hR.2 _ (by decide)⟩ rfl rfl (Nat.le_of_ble_eq_true rfl) ⟨Nat.le_trans (by omega) hc.1, Nat.le_trans (by omega) hc.2⟩ dL_law_618 (fun z618 w618 k618 => ?_)
  obtain ⟨n2, k2, d2, e2, c2, h4, r2⟩ := k618
  refine g_pop X rfl dL_law_621 ?_
  refine g_goto X (tgt := 1294) dL_law_622 (by decide) ?_
  obtain ⟨rfl, rfl, rfl, rfl, rfl⟩ : n2 = n1 ∧ k2 = k1 ∧ d2 = d1 ∧ e2 = e1 ∧ c2 = c1 := by omega
  exact g_widen (by omega) (by omega) (kk _ ⟨_, _, _, _, _, _, _, _, _, h3, h4, List.Perm.refl _⟩)
set_option maxHeartbeats 1000000 in
theorem law_claimIs {p : Program} {l : Launch} {e : Env} {R : Room} {s : State} {m : MethodId} {args : Array Value} {below : List Frame} {meth : Method} {c : Code} {cells slots : Nat} {Q : State → Prop} {D : va_G} {cI cB cJ : ClassId} {A : Nat → Prop} {hx hm b L : Nat} {xs : Nat → Int32} {ws : va_W} {i : Int} (X : CX p m c code 4 s args RL D (TY cI cB cJ) A s.heap) (hX : va_X b L xs s s.heap) (hbl : b < s.heap.size) (hbA : ¬ A b) (hL : L ≤ 3072) (hR : (∀ k, k ≤ 1000 → k ≤ R.frames) ∧ ∀ k, k ≤ 20000 → k ≤ R.locals) (hc : cells + 2 ≤ R.cells ∧ slots + 8 ≤ R.slots) (hi : 0 ≤ i ∧ i + 6 ≤ L) (hW : WW cI cB cJ hx hm ws) (kk : ∀ ws1, WW cI cB cJ hx hm ws1 → GG p l e R s m args below meth c (cells + 2) (slots + 8) Q D A s.heap 4 ws1 1294 [(3, vI i), (2, .ref hm), (1, .ref hx), (0, .ref b)] []) : GG p l e R s m args below meth c cells slots Q D A s.heap 4 ws 625 [(3, vI i), (2, .ref hm), (1, .ref hx), (0, .ref b)] [] := by
  obtain ⟨sn, sk, sd, se, su, sb, sP, wx, wm, h1, h2, hp⟩ := hW
  have hg := h1.rg
  refine g_aload_n X dL_law_625 2 rfl ?_
  refine g_aload_n X dL_law_626 3 rfl ?_
  refine g_iload_n X dL_law_627 0 rfl ?_
  refine g_iconst X dL_law_628 ?_
  refine g_iadd X dL_law_629 ?_
  refine g_sld X hX hbl hbA hL (by omega) dL_law_630 ?_
  refine g_aload_n X dL_law_631 3 rfl ?_
  refine g_iload_n X dL_law_632 0 rfl ?_
  refine g_iconst X dL_law_633 ?_
  refine g_iadd X dL_law_634 ?_
  refine g_sld X hX hbl hbA hL (by omega) dL_law_635 ?_
  refine g_fxI X hp (x_X9_claimIs l D cI cB cJ hx h1 (p0 := sc xs (i + 1)) (p1 := sc xs (i + 2)) (sc_ir _ _) (sc_ir _ _)) h1.mem cv_X9_claimIs uw859 ⟨rfl, rfl, hR.1 _ (by decide), hR.2 _ (by decide)⟩ rfl rfl (Nat.le_of_ble_eq_true rfl) ⟨Nat.le_trans (by omega) hc.1, Nat.le_trans (by omega) hc.2⟩ dL_law_636 (fun z636 w636 k636 => ?_)
  obtain ⟨n1, k1, d1, e1, c1, h3, r1⟩ := k636
  refine g_pop X rfl dL_law_639 ?_
  refine g_aload_n X dL_law_640 1 rfl ?_
  refine g_aload_n X dL_law_641 3 rfl ?_
  refine g_iload_n X dL_law_642 0 rfl ?_
  refine g_iconst X dL_law_643 ?_
  refine g_iadd X dL_law_644 ?_
  refine g_sld X hX hbl hbA hL (by omega) dL_law_645 ?_
  refine g_aload_n X dL_law_646 3 rfl ?_
  refine g_iload_n X dL_law_647 0 rfl ?_
  refine g_iconst X dL_law_648 ?_
  refine g_iadd X dL_law_649 ?_
  refine g_sld X hX hbl hbA hL (by omega) dL_law_650 ?_
  refine g_fmI X (List.Perm.refl _) (m_X10_claimIs l D cI cB cJ hm h2 (p0 := sc xs (i + 1)) (p1 := sc xs (i + 2)) (sc_ir _ _) (sc_ir _ _)) h2.mem cv_X10_claimIs uw1510 ⟨rfl, rfl, hR.1 _ (by decide), hR.2 _ (by decide)⟩ rfl rfl (Nat.le_of_ble_eq_true rfl) ⟨Nat.le_trans (by omega) hc.1, Nat.le_trans (by omega) hc.2⟩ dL_law_651 (fun z651 w651 k651 => ?_)
  obtain ⟨n2, k2, d2, e2, c2, h4, r2⟩ := k651
  refine g_pop X rfl dL_law_654 ?_
  refine g_goto X (tgt := 1294) dL_law_655 (by decide) ?_
  obtain ⟨rfl, rfl, rfl, rfl, rfl⟩ : n2 = n1 ∧ k2 = k1 ∧ d2 = d1 ∧ e2 = e1 ∧ c2 = c1 := by omega
  exact g_widen (by omega) (by omega) (kk _ ⟨_, _, _, _, _, _, _, _, _, h3, h4, List.Perm.refl _⟩)
set_option maxHeartbeats 1000000 in
theorem law_row {p : Program} {l : Launch} {e : Env} {R : Room} {s : State} {m : MethodId} {args : Array Value} {below : List Frame} {meth : Method} {c : Code} {cells slots : Nat} {Q : State → Prop} {D : va_G} {cI cB cJ : ClassId} {A : Nat → Prop} {hx hm b L : Nat} {xs : Nat → Int32} {ws : va_W} {i : Int} (X : CX p m c code 4 s args RL D (TY cI cB cJ) A s.heap) (hX : va_X b L xs s s.heap) (hbl : b < s.heap.size) (hbA : ¬ A b) (hL : L ≤ 3072) (hR : (∀ k, k ≤ 1000 → k ≤ R.frames) ∧ ∀ k, k ≤ 20000 → k ≤ R.locals) (hc : cells + 2 ≤ R.cells ∧ slots + 8 ≤ R.slots) (hi : 0 ≤ i ∧ i + 6 ≤ L) (hW : WW cI cB cJ hx hm ws) (kk : ∀ ws1, WW cI cB cJ hx hm ws1 → GG p l e R s m args below meth c (cells + 2) (slots + 8) Q D A s.heap 4 ws1 1294 [(3, vI i), (2, .ref hm), (1, .ref hx), (0, .ref b)] []) : GG p l e R s m args below meth c cells slots Q D A s.heap 4 ws 658 [(3, vI i), (2, .ref hm), (1, .ref hx), (0, .ref b)] [] := by
  obtain ⟨sn, sk, sd, se, su, sb, sP, wx, wm, h1, h2, hp⟩ := hW
  have hg := h1.rg
  refine g_aload_n X dL_law_658 2 rfl ?_
  refine g_aload_n X dL_law_659 3 rfl ?_
  refine g_iload_n X dL_law_660 0 rfl ?_
  refine g_iconst X dL_law_661 ?_
  refine g_iadd X dL_law_662 ?_
  refine g_sld X hX hbl hbA hL (by omega) dL_law_663 ?_
  refine g_aload_n X dL_law_664 3 rfl ?_
  refine g_iload_n X dL_law_665 0 rfl ?_
  refine g_iconst X dL_law_666 ?_
  refine g_iadd X dL_law_667 ?_
  refine g_sld X hX hbl hbA hL (by omega) dL_law_668 ?_
  refine g_fxL X hp (x_X9_row l D cI cB cJ hx h1 (p0 := sc xs (i + 1)) (p1 := sc xs (i + 2)) (sc_ir _ _) (sc_ir _ _)) h1.mem cv_X9_row uw864 ⟨rfl, rfl, hR.1 _ (by decide), hR.2 _ (by decide)⟩ rfl rfl (Nat.le_of_ble_eq_true rfl) ⟨Nat.le_trans (by omega) hc.1, Nat.le_trans (by omega) hc.2⟩ dL_law_669 (fun z669 w669 k669 => ?_)
  obtain ⟨n1, k1, d1, e1, c1, h3, r1⟩ := k669
  refine g_pop2 X dL_law_672 ?_
  refine g_aload_n X dL_law_673 1 rfl ?_
  refine g_aload_n X dL_law_674 3 rfl ?_
  refine g_iload_n X dL_law_675 0 rfl ?_
  refine g_iconst X dL_law_676 ?_
  refine g_iadd X dL_law_677 ?_
  refine g_sld X hX hbl hbA hL (by omega) dL_law_678 ?_
  refine g_aload_n X dL_law_679 3 rfl ?_
  refine g_iload_n X dL_law_680 0 rfl ?_
  refine g_iconst X dL_law_681 ?_
  refine g_iadd X dL_law_682 ?_
  refine g_sld X hX hbl hbA hL (by omega) dL_law_683 ?_
  refine g_fmL X (List.Perm.refl _) (m_X10_row l D cI cB cJ hm h2 (p0 := sc xs (i + 1)) (p1 := sc xs (i + 2)) (sc_ir _ _) (sc_ir _ _)) h2.mem cv_X10_row uw1636 ⟨rfl, rfl, hR.1 _ (by decide), hR.2 _ (by decide)⟩ rfl rfl (Nat.le_of_ble_eq_true rfl) ⟨Nat.le_trans (by omega) hc.1, Nat.le_trans (by omega) hc.2⟩ dL_law_684 (fun z684 w684 k684 => ?_)
  obtain ⟨n2, k2, d2, e2, c2, h4, r2⟩ := k684
  refine g_pop2 X dL_law_687 ?_
  refine g_goto X (tgt := 1294) dL_law_688 (by decide) ?_
  obtain ⟨rfl, rfl, rfl, rfl, rfl⟩ : n2 = n1 ∧ k2 = k1 ∧ d2 = d1 ∧ e2 = e1 ∧ c2 = c1 := by omega
  exact g_widen (by omega) (by omega) (kk _ ⟨_, _, _, _, _, _, _, _, _, h3, h4, List.Perm.refl _⟩)
set_option maxHeartbeats 1000000 in
theorem law_walk {p : Program} {l : Launch} {e : Env} {R : Room} {s : State} {m : MethodId} {args : Array Value} {below : List Frame} {meth : Method} {c : Code} {cells slots : Nat} {Q : State → Prop} {D : va_G} {cI cB cJ : ClassId} {A : Nat → Prop} {hx hm b L : Nat} {xs : Nat → Int32} {ws : va_W} {i : Int} (X : CX p m c code 4 s args RL D (TY cI cB cJ) A s.heap) (hX : va_X b L xs s s.heap) (hbl : b < s.heap.size) (hbA : ¬ A b) (hL : L ≤ 3072) (hR : (∀ k, k ≤ 1000 → k ≤ R.frames) ∧ ∀ k, k ≤ 20000 → k ≤ R.locals) (hc : cells + 2 ≤ R.cells ∧ slots + 8 ≤ R.slots) (hi : 0 ≤ i ∧ i + 6 ≤ L) (hW : WW cI cB cJ hx hm ws) (kk : ∀ ws1, WW cI cB cJ hx hm ws1 → GG p l e R s m args below meth c (cells + 2) (slots + 8) Q D A s.heap 4 ws1 1294 [(3, vI i), (2, .ref hm), (1, .ref hx), (0, .ref b)] []) : GG p l e R s m args below meth c cells slots Q D A s.heap 4 ws 691 [(3, vI i), (2, .ref hm), (1, .ref hx), (0, .ref b)] [] := by
  obtain ⟨sn, sk, sd, se, su, sb, sP, wx, wm, h1, h2, hp⟩ := hW
  have hg := h1.rg
  refine g_aload_n X dL_law_691 2 rfl ?_
  refine g_aload_n X dL_law_692 3 rfl ?_
  refine g_iload_n X dL_law_693 0 rfl ?_
  refine g_iconst X dL_law_694 ?_
  refine g_iadd X dL_law_695 ?_
  refine g_sld X hX hbl hbA hL (by omega) dL_law_696 ?_
  refine g_aload_n X dL_law_697 3 rfl ?_
  refine g_iload_n X dL_law_698 0 rfl ?_
  refine g_iconst X dL_law_699 ?_
  refine g_iadd X dL_law_700 ?_
  refine g_sld X hX hbl hbA hL (by omega) dL_law_701 ?_
  refine g_fxI X hp (x_X9_walk l D cI cB cJ hx h1 (p0 := sc xs (i + 1)) (p1 := sc xs (i + 2)) (sc_ir _ _) (sc_ir _ _)) h1.mem cv_X9_walk uw886 ⟨rfl, rfl, hR.1 _ (by decide), hR.2 _ (by decide)⟩ rfl rfl (Nat.le_of_ble_eq_true rfl) ⟨Nat.le_trans (by omega) hc.1, Nat.le_trans (by omega) hc.2⟩ dL_law_702 (fun z702 w702 k702 => ?_)
  obtain ⟨n1, k1, d1, e1, c1, h3, r1⟩ := k702
  refine g_pop X rfl dL_law_705 ?_
  refine g_aload_n X dL_law_706 1 rfl ?_
  refine g_aload_n X dL_law_707 3 rfl ?_
  refine g_iload_n X dL_law_708 0 rfl ?_
  refine g_iconst X dL_law_709 ?_
  refine g_iadd X dL_law_710 ?_
  refine g_sld X hX hbl hbA hL (by omega) dL_law_711 ?_
  refine g_aload_n X dL_law_712 3 rfl ?_
  refine g_iload_n X dL_law_713 0 rfl ?_
  refine g_iconst X dL_law_714 ?_
  refine g_iadd X dL_law_715 ?_
  refine g_sld X hX hbl hbA hL (by omega) dL_law_716 ?_
  refine g_fmI X (List.Perm.refl _) (m_X10_walk l D cI cB cJ hm h2 (p0 := sc xs (i + 1)) (p1 := sc xs (i + 2)) (sc_ir _ _) (sc_ir _ _)) h2.mem cv_X10_walk uw1649 ⟨rfl, rfl, hR.1 _ (by decide), hR.2 _ (by decide)⟩ rfl rfl (Nat.le_of_ble_eq_true rfl) ⟨Nat.le_trans (by omega) hc.1, Nat.le_trans (by omega) hc.2⟩ dL_law_717 (fun z717 w717 k717 => ?_)
  obtain ⟨n2, k2, d2, e2, c2, h4, r2⟩ := k717
  refine g_pop X rfl dL_law_720 ?_
  refine g_goto X (tgt := 1294) dL_law_721 (by decide) ?_
  obtain ⟨rfl, rfl, rfl, rfl, rfl⟩ : n2 = n1 ∧ k2 = k1 ∧ d2 = d1 ∧ e2 = e1 ∧ c2 = c1 := by omega
  exact g_widen (by omega) (by omega) (kk _ ⟨_, _, _, _, _, _, _, _, _, h3, h4, List.Perm.refl _⟩)
set_option maxHeartbeats 1000000 in
theorem law_round {p : Program} {l : Launch} {e : Env} {R : Room} {s : State} {m : MethodId} {args : Array Value} {below : List Frame} {meth : Method} {c : Code} {cells slots : Nat} {Q : State → Prop} {D : va_G} {cI cB cJ : ClassId} {A : Nat → Prop} {hx hm b L : Nat} {xs : Nat → Int32} {ws : va_W} {i : Int} (X : CX p m c code 4 s args RL D (TY cI cB cJ) A s.heap) (hX : va_X b L xs s s.heap) (hbl : b < s.heap.size) (hbA : ¬ A b) (hL : L ≤ 3072) (hR : (∀ k, k ≤ 1000 → k ≤ R.frames) ∧ ∀ k, k ≤ 20000 → k ≤ R.locals) (hc : cells + 2 ≤ R.cells ∧ slots + 8 ≤ R.slots) (hi : 0 ≤ i ∧ i + 6 ≤ L) (hW : WW cI cB cJ hx hm ws) (kk : ∀ ws1, WW cI cB cJ hx hm ws1 → GG p l e R s m args below meth c (cells + 2) (slots + 8) Q D A s.heap 4 ws1 1294 [(3, vI i), (2, .ref hm), (1, .ref hx), (0, .ref b)] []) : GG p l e R s m args below meth c cells slots Q D A s.heap 4 ws 724 [(3, vI i), (2, .ref hm), (1, .ref hx), (0, .ref b)] [] := by
  obtain ⟨sn, sk, sd, se, su, sb, sP, wx, wm, h1, h2, hp⟩ := hW
  have hg := h1.rg
  refine g_aload_n X dL_law_724 2 rfl ?_
  refine g_aload_n X dL_law_725 3 rfl ?_
  refine g_iload_n X dL_law_726 0 rfl ?_
  refine g_iconst X dL_law_727 ?_
  refine g_iadd X dL_law_728 ?_
  refine g_sld X hX hbl hbA hL (by omega) dL_law_729 ?_
  refine g_aload_n X dL_law_730 3 rfl ?_
  refine g_iload_n X dL_law_731 0 rfl ?_
  refine g_iconst X dL_law_732 ?_
  refine g_iadd X dL_law_733 ?_
  refine g_sld X hX hbl hbA hL (by omega) dL_law_734 ?_
  refine g_fxI X hp (x_X9_round l D cI cB cJ hx h1 (p0 := sc xs (i + 1)) (p1 := sc xs (i + 2)) (sc_ir _ _) (sc_ir _ _)) h1.mem cv_X9_round uw902 ⟨rfl, rfl, hR.1 _ (by decide), hR.2 _ (by decide)⟩ rfl rfl (Nat.le_of_ble_eq_true rfl) ⟨Nat.le_trans (by omega) hc.1, Nat.le_trans (by omega) hc.2⟩ dL_law_735 (fun z735 w735 k735 => ?_)
  obtain ⟨n1, k1, d1, e1, c1, h3, r1⟩ := k735
  refine g_pop X rfl dL_law_738 ?_
  refine g_aload_n X dL_law_739 1 rfl ?_
  refine g_aload_n X dL_law_740 3 rfl ?_
  refine g_iload_n X dL_law_741 0 rfl ?_
  refine g_iconst X dL_law_742 ?_
  refine g_iadd X dL_law_743 ?_
  refine g_sld X hX hbl hbA hL (by omega) dL_law_744 ?_
  refine g_aload_n X dL_law_745 3 rfl ?_
  refine g_iload_n X dL_law_746 0 rfl ?_
  refine g_iconst X dL_law_747 ?_
  refine g_iadd X dL_law_748 ?_
  refine g_sld X hX hbl hbA hL (by omega) dL_law_749 ?_
  refine g_fmI X (List.Perm.refl _) (m_X10_round l D cI cB cJ hm h2 (p0 := sc xs (i + 1)) (p1 := sc xs (i + 2)) (sc_ir _ _) (sc_ir _ _)) h2.mem cv_X10_round uw1657 ⟨rfl, rfl, hR.1 _ (by decide), hR.2 _ (by decide)⟩ rfl rfl (Nat.le_of_ble_eq_true rfl) ⟨Nat.le_trans (by omega) hc.1, Nat.le_trans (by omega) hc.2⟩ dL_law_750 (fun z750 w750 k750 => ?_)
  obtain ⟨n2, k2, d2, e2, c2, h4, r2⟩ := k750
  refine g_pop X rfl dL_law_753 ?_
  refine g_goto X (tgt := 1294) dL_law_754 (by decide) ?_
  obtain ⟨rfl, rfl, rfl, rfl, rfl⟩ : n2 = n1 ∧ k2 = k1 ∧ d2 = d1 ∧ e2 = e1 ∧ c2 = c1 := by omega
  exact g_widen (by omega) (by omega) (kk _ ⟨_, _, _, _, _, _, _, _, _, h3, h4, List.Perm.refl _⟩)
set_option maxHeartbeats 1000000 in
theorem law_triangle {p : Program} {l : Launch} {e : Env} {R : Room} {s : State} {m : MethodId} {args : Array Value} {below : List Frame} {meth : Method} {c : Code} {cells slots : Nat} {Q : State → Prop} {D : va_G} {cI cB cJ : ClassId} {A : Nat → Prop} {hx hm b L : Nat} {xs : Nat → Int32} {ws : va_W} {i : Int} (X : CX p m c code 4 s args RL D (TY cI cB cJ) A s.heap) (hX : va_X b L xs s s.heap) (hbl : b < s.heap.size) (hbA : ¬ A b) (hL : L ≤ 3072) (hR : (∀ k, k ≤ 1000 → k ≤ R.frames) ∧ ∀ k, k ≤ 20000 → k ≤ R.locals) (hc : cells + 2 ≤ R.cells ∧ slots + 8 ≤ R.slots) (hi : 0 ≤ i ∧ i + 6 ≤ L) (hW : WW cI cB cJ hx hm ws) (kk : ∀ ws1, WW cI cB cJ hx hm ws1 → GG p l e R s m args below meth c (cells + 2) (slots + 8) Q D A s.heap 4 ws1 1294 [(3, vI i), (2, .ref hm), (1, .ref hx), (0, .ref b)] []) : GG p l e R s m args below meth c cells slots Q D A s.heap 4 ws 757 [(3, vI i), (2, .ref hm), (1, .ref hx), (0, .ref b)] [] := by
  obtain ⟨sn, sk, sd, se, su, sb, sP, wx, wm, h1, h2, hp⟩ := hW
  have hg := h1.rg
  refine g_aload_n X dL_law_757 2 rfl ?_
  refine g_aload_n X dL_law_758 3 rfl ?_
  refine g_iload_n X dL_law_759 0 rfl ?_
  refine g_iconst X dL_law_760 ?_
  refine g_iadd X dL_law_761 ?_
  refine g_sld X hX hbl hbA hL (by omega) dL_law_762 ?_
  refine g_aload_n X dL_law_763 3 rfl ?_
  refine g_iload_n X dL_law_764 0 rfl ?_
  refine g_iconst X dL_law_765 ?_
  refine g_iadd X dL_law_766 ?_
  refine g_sld X hX hbl hbA hL (by omega) dL_law_767 ?_
  refine g_fxI X hp (x_X9_triangle l D cI cB cJ hx h1 (p0 := sc xs (i + 1)) (p1 := sc xs (i + 2)) (sc_ir _ _) (sc_ir _ _)) h1.mem cv_X9_triangle uw925 ⟨rfl, rfl, hR.1 _ (by decide), hR.2 _ (by decide)⟩ rfl rfl (Nat.le_of_ble_eq_true rfl) ⟨Nat.le_trans (by omega) hc.1, Nat.le_trans (by omega) hc.2⟩ dL_law_768 (fun z768 w768 k768 => ?_)
  obtain ⟨n1, k1, d1, e1, c1, h3, r1⟩ := k768
  refine g_pop X rfl dL_law_771 ?_
  refine g_aload_n X dL_law_772 1 rfl ?_
  refine g_aload_n X dL_law_773 3 rfl ?_
  refine g_iload_n X dL_law_774 0 rfl ?_
  refine g_iconst X dL_law_775 ?_
  refine g_iadd X dL_law_776 ?_
  refine g_sld X hX hbl hbA hL (by omega) dL_law_777 ?_
  refine g_aload_n X dL_law_778 3 rfl ?_
  refine g_iload_n X dL_law_779 0 rfl ?_
  refine g_iconst X dL_law_780 ?_
  refine g_iadd X dL_law_781 ?_
  refine g_sld X hX hbl hbA hL (by omega) dL_law_782 ?_
  refine g_fmI X (List.Perm.refl _) (m_X10_triangle l D cI cB cJ hm h2 (p0 := sc xs (i + 1)) (p1 := sc xs (i + 2)) (sc_ir _ _) (sc_ir _ _)) h2.mem cv_X10_triangle uw1682 ⟨rfl, rfl, hR.1 _ (by decide), hR.2 _ (by decide)⟩ rfl rfl (Nat.le_of_ble_eq_true rfl) ⟨Nat.le_trans (by omega) hc.1, Nat.le_trans (by omega) hc.2⟩ dL_law_783 (fun z783 w783 k783 => ?_)
  obtain ⟨n2, k2, d2, e2, c2, h4, r2⟩ := k783
  refine g_pop X rfl dL_law_786 ?_
  refine g_goto X (tgt := 1294) dL_law_787 (by decide) ?_
  obtain ⟨rfl, rfl, rfl, rfl, rfl⟩ : n2 = n1 ∧ k2 = k1 ∧ d2 = d1 ∧ e2 = e1 ∧ c2 = c1 := by omega
  exact g_widen (by omega) (by omega) (kk _ ⟨_, _, _, _, _, _, _, _, _, h3, h4, List.Perm.refl _⟩)
set_option maxHeartbeats 1000000 in
theorem law_bestRise {p : Program} {l : Launch} {e : Env} {R : Room} {s : State} {m : MethodId} {args : Array Value} {below : List Frame} {meth : Method} {c : Code} {cells slots : Nat} {Q : State → Prop} {D : va_G} {cI cB cJ : ClassId} {A : Nat → Prop} {hx hm b L : Nat} {xs : Nat → Int32} {ws : va_W} {i : Int} (X : CX p m c code 4 s args RL D (TY cI cB cJ) A s.heap) (hX : va_X b L xs s s.heap) (hbl : b < s.heap.size) (hbA : ¬ A b) (hL : L ≤ 3072) (hR : (∀ k, k ≤ 1000 → k ≤ R.frames) ∧ ∀ k, k ≤ 20000 → k ≤ R.locals) (hc : cells + 2 ≤ R.cells ∧ slots + 8 ≤ R.slots) (hi : 0 ≤ i ∧ i + 6 ≤ L) (hW : WW cI cB cJ hx hm ws) (kk : ∀ ws1, WW cI cB cJ hx hm ws1 → GG p l e R s m args below meth c (cells + 2) (slots + 8) Q D A s.heap 4 ws1 1294 [(3, vI i), (2, .ref hm), (1, .ref hx), (0, .ref b)] []) : GG p l e R s m args below meth c cells slots Q D A s.heap 4 ws 790 [(3, vI i), (2, .ref hm), (1, .ref hx), (0, .ref b)] [] := by
  obtain ⟨sn, sk, sd, se, su, sb, sP, wx, wm, h1, h2, hp⟩ := hW
  have hg := h1.rg
  refine g_aload_n X dL_law_790 2 rfl ?_
  refine g_aload_n X dL_law_791 3 rfl ?_
  refine g_iload_n X dL_law_792 0 rfl ?_
  refine g_iconst X dL_law_793 ?_
  refine g_iadd X dL_law_794 ?_
  refine g_sld X hX hbl hbA hL (by omega) dL_law_795 ?_
  refine g_aload_n X dL_law_796 3 rfl ?_
  refine g_iload_n X dL_law_797 0 rfl ?_
  refine g_iconst X dL_law_798 ?_
  refine g_iadd X dL_law_799 ?_
  refine g_sld X hX hbl hbA hL (by omega) dL_law_800 ?_
  refine g_fxIJ X hp (x_X9_bestRise l D cI cB cJ hx h1 (p0 := sc xs (i + 1)) (p1 := sc xs (i + 2)) (sc_ir _ _) (sc_ir _ _)) h1.mem cv_X9_bestRise uw946 ⟨rfl, rfl, hR.1 _ (by decide), hR.2 _ (by decide)⟩ rfl rfl (Nat.le_of_ble_eq_true rfl) ⟨Nat.le_trans (Nat.le_refl _) hc.1, Nat.le_trans (Nat.le_refl _) hc.2⟩ dL_law_801 (fun z801 w801 k801 => ?_)
  obtain ⟨n1, k1, d1, e1, c1, h3, r1⟩ := k801
  refine g_pop X rfl dL_law_804 ?_
  refine g_aload_n X dL_law_805 1 rfl ?_
  refine g_aload_n X dL_law_806 3 rfl ?_
  refine g_iload_n X dL_law_807 0 rfl ?_
  refine g_iconst X dL_law_808 ?_
  refine g_iadd X dL_law_809 ?_
  refine g_sld X hX hbl hbA hL (by omega) dL_law_810 ?_
  refine g_aload_n X dL_law_811 3 rfl ?_
  refine g_iload_n X dL_law_812 0 rfl ?_
  refine g_iconst X dL_law_813 ?_
  refine g_iadd X dL_law_814 ?_
  refine g_sld X hX hbl hbA hL (by omega) dL_law_815 ?_
  refine g_fmI X (List.Perm.refl _) (m_X10_bestRise l D cI cB cJ hm h2 (p0 := sc xs (i + 1)) (p1 := sc xs (i + 2)) (sc_ir _ _) (sc_ir _ _)) h2.mem cv_X10_bestRise uw1690 ⟨rfl, rfl, hR.1 _ (by decide), hR.2 _ (by decide)⟩ rfl rfl (Nat.le_of_ble_eq_true rfl) ⟨Nat.le_trans (by omega) hc.1, Nat.le_trans (by omega) hc.2⟩ dL_law_816 (fun z816 w816 k816 => ?_)
  obtain ⟨n2, k2, d2, e2, c2, h4, r2⟩ := k816
  refine g_pop X rfl dL_law_819 ?_
  refine g_goto X (tgt := 1294) dL_law_820 (by decide) ?_
  obtain ⟨rfl, rfl, rfl, rfl, rfl⟩ : n2 = n1 ∧ k2 = k1 ∧ d2 = d1 ∧ e2 = e1 ∧ c2 = c1 := by omega
  exact kk _ ⟨_, _, _, _, _, _, _, _, _, h3, h4, List.Perm.refl _⟩
set_option maxHeartbeats 1000000 in
theorem law_narrowest {p : Program} {l : Launch} {e : Env} {R : Room} {s : State} {m : MethodId} {args : Array Value} {below : List Frame} {meth : Method} {c : Code} {cells slots : Nat} {Q : State → Prop} {D : va_G} {cI cB cJ : ClassId} {A : Nat → Prop} {hx hm b L : Nat} {xs : Nat → Int32} {ws : va_W} {i : Int} (X : CX p m c code 4 s args RL D (TY cI cB cJ) A s.heap) (hX : va_X b L xs s s.heap) (hbl : b < s.heap.size) (hbA : ¬ A b) (hL : L ≤ 3072) (hR : (∀ k, k ≤ 1000 → k ≤ R.frames) ∧ ∀ k, k ≤ 20000 → k ≤ R.locals) (hc : cells + 2 ≤ R.cells ∧ slots + 8 ≤ R.slots) (hi : 0 ≤ i ∧ i + 6 ≤ L) (hW : WW cI cB cJ hx hm ws) (kk : ∀ ws1, WW cI cB cJ hx hm ws1 → GG p l e R s m args below meth c (cells + 2) (slots + 8) Q D A s.heap 4 ws1 1294 [(3, vI i), (2, .ref hm), (1, .ref hx), (0, .ref b)] []) : GG p l e R s m args below meth c cells slots Q D A s.heap 4 ws 823 [(3, vI i), (2, .ref hm), (1, .ref hx), (0, .ref b)] [] := by
  obtain ⟨sn, sk, sd, se, su, sb, sP, wx, wm, h1, h2, hp⟩ := hW
  have hg := h1.rg
  refine g_aload_n X dL_law_823 2 rfl ?_
  refine g_aload_n X dL_law_824 3 rfl ?_
  refine g_iload_n X dL_law_825 0 rfl ?_
  refine g_iconst X dL_law_826 ?_
  refine g_iadd X dL_law_827 ?_
  refine g_sld X hX hbl hbA hL (by omega) dL_law_828 ?_
  refine g_aload_n X dL_law_829 3 rfl ?_
  refine g_iload_n X dL_law_830 0 rfl ?_
  refine g_iconst X dL_law_831 ?_
  refine g_iadd X dL_law_832 ?_
  refine g_sld X hX hbl hbA hL (by omega) dL_law_833 ?_
  refine g_fxI X hp (x_X9_narrowest l D cI cB cJ hx h1 (p0 := sc xs (i + 1)) (p1 := sc xs (i + 2)) (sc_ir _ _) (sc_ir _ _)) h1.mem cv_X9_narrowest uw954 ⟨rfl, rfl, hR.1 _ (by decide), hR.2 _ (by decide)⟩ rfl rfl (Nat.le_of_ble_eq_true rfl) ⟨Nat.le_trans (by omega) hc.1, Nat.le_trans (by omega) hc.2⟩ dL_law_834 (fun z834 w834 k834 => ?_)
  obtain ⟨n1, k1, d1, e1, c1, h3, r1⟩ := k834
  refine g_pop X rfl dL_law_837 ?_
  refine g_aload_n X dL_law_838 1 rfl ?_
  refine g_aload_n X dL_law_839 3 rfl ?_
  refine g_iload_n X dL_law_840 0 rfl ?_
  refine g_iconst X dL_law_841 ?_
  refine g_iadd X dL_law_842 ?_
  refine g_sld X hX hbl hbA hL (by omega) dL_law_843 ?_
  refine g_aload_n X dL_law_844 3 rfl ?_
  refine g_iload_n X dL_law_845 0 rfl ?_
  refine g_iconst X dL_law_846 ?_
  refine g_iadd X dL_law_847 ?_
  refine g_sld X hX hbl hbA hL (by omega) dL_law_848 ?_
  refine g_fmI X (List.Perm.refl _) (m_X10_narrowest l D cI cB cJ hm h2 (p0 := sc xs (i + 1)) (p1 := sc xs (i + 2)) (sc_ir _ _) (sc_ir _ _)) h2.mem cv_X10_narrowest uw1694 ⟨rfl, rfl, hR.1 _ (by decide), hR.2 _ (by decide)⟩ rfl rfl (Nat.le_of_ble_eq_true rfl) ⟨Nat.le_trans (by omega) hc.1, Nat.le_trans (by omega) hc.2⟩ dL_law_849 (fun z849 w849 k849 => ?_)
  obtain ⟨n2, k2, d2, e2, c2, h4, r2⟩ := k849
  refine g_pop X rfl dL_law_852 ?_
  refine g_goto X (tgt := 1294) dL_law_853 (by decide) ?_
  obtain ⟨rfl, rfl, rfl, rfl, rfl⟩ : n2 = n1 ∧ k2 = k1 ∧ d2 = d1 ∧ e2 = e1 ∧ c2 = c1 := by omega
  exact g_widen (by omega) (by omega) (kk _ ⟨_, _, _, _, _, _, _, _, _, h3, h4, List.Perm.refl _⟩)
set_option maxHeartbeats 1000000 in
theorem law_twos {p : Program} {l : Launch} {e : Env} {R : Room} {s : State} {m : MethodId} {args : Array Value} {below : List Frame} {meth : Method} {c : Code} {cells slots : Nat} {Q : State → Prop} {D : va_G} {cI cB cJ : ClassId} {A : Nat → Prop} {hx hm b L : Nat} {xs : Nat → Int32} {ws : va_W} {i : Int} (X : CX p m c code 4 s args RL D (TY cI cB cJ) A s.heap) (hX : va_X b L xs s s.heap) (hbl : b < s.heap.size) (hbA : ¬ A b) (hL : L ≤ 3072) (hR : (∀ k, k ≤ 1000 → k ≤ R.frames) ∧ ∀ k, k ≤ 20000 → k ≤ R.locals) (hc : cells + 2 ≤ R.cells ∧ slots + 8 ≤ R.slots) (hi : 0 ≤ i ∧ i + 6 ≤ L) (hW : WW cI cB cJ hx hm ws) (kk : ∀ ws1, WW cI cB cJ hx hm ws1 → GG p l e R s m args below meth c (cells + 2) (slots + 8) Q D A s.heap 4 ws1 1294 [(3, vI i), (2, .ref hm), (1, .ref hx), (0, .ref b)] []) : GG p l e R s m args below meth c cells slots Q D A s.heap 4 ws 856 [(3, vI i), (2, .ref hm), (1, .ref hx), (0, .ref b)] [] := by
  obtain ⟨sn, sk, sd, se, su, sb, sP, wx, wm, h1, h2, hp⟩ := hW
  have hg := h1.rg
  refine g_aload_n X dL_law_856 2 rfl ?_
  refine g_aload_n X dL_law_857 3 rfl ?_
  refine g_iload_n X dL_law_858 0 rfl ?_
  refine g_iconst X dL_law_859 ?_
  refine g_iadd X dL_law_860 ?_
  refine g_sld X hX hbl hbA hL (by omega) dL_law_861 ?_
  refine g_aload_n X dL_law_862 3 rfl ?_
  refine g_iload_n X dL_law_863 0 rfl ?_
  refine g_iconst X dL_law_864 ?_
  refine g_iadd X dL_law_865 ?_
  refine g_sld X hX hbl hbA hL (by omega) dL_law_866 ?_
  refine g_fxI X hp (x_X9_twos l D cI cB cJ hx h1 (p0 := sc xs (i + 1)) (p1 := sc xs (i + 2)) (sc_ir _ _) (sc_ir _ _)) h1.mem cv_X9_twos uw964 ⟨rfl, rfl, hR.1 _ (by decide), hR.2 _ (by decide)⟩ rfl rfl (Nat.le_of_ble_eq_true rfl) ⟨Nat.le_trans (by omega) hc.1, Nat.le_trans (by omega) hc.2⟩ dL_law_867 (fun z867 w867 k867 => ?_)
  obtain ⟨n1, k1, d1, e1, c1, h3, r1⟩ := k867
  refine g_pop X rfl dL_law_870 ?_
  refine g_aload_n X dL_law_871 1 rfl ?_
  refine g_aload_n X dL_law_872 3 rfl ?_
  refine g_iload_n X dL_law_873 0 rfl ?_
  refine g_iconst X dL_law_874 ?_
  refine g_iadd X dL_law_875 ?_
  refine g_sld X hX hbl hbA hL (by omega) dL_law_876 ?_
  refine g_aload_n X dL_law_877 3 rfl ?_
  refine g_iload_n X dL_law_878 0 rfl ?_
  refine g_iconst X dL_law_879 ?_
  refine g_iadd X dL_law_880 ?_
  refine g_sld X hX hbl hbA hL (by omega) dL_law_881 ?_
  refine g_fmI X (List.Perm.refl _) (m_X10_twos l D cI cB cJ hm h2 (p0 := sc xs (i + 1)) (p1 := sc xs (i + 2)) (sc_ir _ _) (sc_ir _ _)) h2.mem cv_X10_twos uw1702 ⟨rfl, rfl, hR.1 _ (by decide), hR.2 _ (by decide)⟩ rfl rfl (Nat.le_of_ble_eq_true rfl) ⟨Nat.le_trans (by omega) hc.1, Nat.le_trans (by omega) hc.2⟩ dL_law_882 (fun z882 w882 k882 => ?_)
  obtain ⟨n2, k2, d2, e2, c2, h4, r2⟩ := k882
  refine g_pop X rfl dL_law_885 ?_
  refine g_goto X (tgt := 1294) dL_law_886 (by decide) ?_
  obtain ⟨rfl, rfl, rfl, rfl, rfl⟩ : n2 = n1 ∧ k2 = k1 ∧ d2 = d1 ∧ e2 = e1 ∧ c2 = c1 := by omega
  exact g_widen (by omega) (by omega) (kk _ ⟨_, _, _, _, _, _, _, _, _, h3, h4, List.Perm.refl _⟩)
set_option maxHeartbeats 1000000 in
theorem law_paired {p : Program} {l : Launch} {e : Env} {R : Room} {s : State} {m : MethodId} {args : Array Value} {below : List Frame} {meth : Method} {c : Code} {cells slots : Nat} {Q : State → Prop} {D : va_G} {cI cB cJ : ClassId} {A : Nat → Prop} {hx hm b L : Nat} {xs : Nat → Int32} {ws : va_W} {i : Int} (X : CX p m c code 4 s args RL D (TY cI cB cJ) A s.heap) (hX : va_X b L xs s s.heap) (hbl : b < s.heap.size) (hbA : ¬ A b) (hL : L ≤ 3072) (hR : (∀ k, k ≤ 1000 → k ≤ R.frames) ∧ ∀ k, k ≤ 20000 → k ≤ R.locals) (hc : cells + 2 ≤ R.cells ∧ slots + 8 ≤ R.slots) (hi : 0 ≤ i ∧ i + 6 ≤ L) (hW : WW cI cB cJ hx hm ws) (kk : ∀ ws1, WW cI cB cJ hx hm ws1 → GG p l e R s m args below meth c (cells + 2) (slots + 8) Q D A s.heap 4 ws1 1294 [(3, vI i), (2, .ref hm), (1, .ref hx), (0, .ref b)] []) : GG p l e R s m args below meth c cells slots Q D A s.heap 4 ws 889 [(3, vI i), (2, .ref hm), (1, .ref hx), (0, .ref b)] [] := by
  obtain ⟨sn, sk, sd, se, su, sb, sP, wx, wm, h1, h2, hp⟩ := hW
  have hg := h1.rg
  refine g_aload_n X dL_law_889 2 rfl ?_
  refine g_aload_n X dL_law_890 3 rfl ?_
  refine g_iload_n X dL_law_891 0 rfl ?_
  refine g_iconst X dL_law_892 ?_
  refine g_iadd X dL_law_893 ?_
  refine g_sld X hX hbl hbA hL (by omega) dL_law_894 ?_
  refine g_aload_n X dL_law_895 3 rfl ?_
  refine g_iload_n X dL_law_896 0 rfl ?_
  refine g_iconst X dL_law_897 ?_
  refine g_iadd X dL_law_898 ?_
  refine g_sld X hX hbl hbA hL (by omega) dL_law_899 ?_
  refine g_fxI X hp (x_X9_paired l D cI cB cJ hx h1 (p0 := sc xs (i + 1)) (p1 := sc xs (i + 2)) (sc_ir _ _) (sc_ir _ _)) h1.mem cv_X9_paired uw971 ⟨rfl, rfl, hR.1 _ (by decide), hR.2 _ (by decide)⟩ rfl rfl (Nat.le_of_ble_eq_true rfl) ⟨Nat.le_trans (by omega) hc.1, Nat.le_trans (by omega) hc.2⟩ dL_law_900 (fun z900 w900 k900 => ?_)
  obtain ⟨n1, k1, d1, e1, c1, h3, r1⟩ := k900
  refine g_pop X rfl dL_law_903 ?_
  refine g_aload_n X dL_law_904 1 rfl ?_
  refine g_aload_n X dL_law_905 3 rfl ?_
  refine g_iload_n X dL_law_906 0 rfl ?_
  refine g_iconst X dL_law_907 ?_
  refine g_iadd X dL_law_908 ?_
  refine g_sld X hX hbl hbA hL (by omega) dL_law_909 ?_
  refine g_aload_n X dL_law_910 3 rfl ?_
  refine g_iload_n X dL_law_911 0 rfl ?_
  refine g_iconst X dL_law_912 ?_
  refine g_iadd X dL_law_913 ?_
  refine g_sld X hX hbl hbA hL (by omega) dL_law_914 ?_
  refine g_fmI X (List.Perm.refl _) (m_X10_paired l D cI cB cJ hm h2 (p0 := sc xs (i + 1)) (p1 := sc xs (i + 2)) (sc_ir _ _) (sc_ir _ _)) h2.mem cv_X10_paired uw1706 ⟨rfl, rfl, hR.1 _ (by decide), hR.2 _ (by decide)⟩ rfl rfl (Nat.le_of_ble_eq_true rfl) ⟨Nat.le_trans (by omega) hc.1, Nat.le_trans (by omega) hc.2⟩ dL_law_915 (fun z915 w915 k915 => ?_)
  obtain ⟨n2, k2, d2, e2, c2, h4, r2⟩ := k915
  refine g_pop X rfl dL_law_918 ?_
  refine g_goto X (tgt := 1294) dL_law_919 (by decide) ?_
  obtain ⟨rfl, rfl, rfl, rfl, rfl⟩ : n2 = n1 ∧ k2 = k1 ∧ d2 = d1 ∧ e2 = e1 ∧ c2 = c1 := by omega
  exact g_widen (by omega) (by omega) (kk _ ⟨_, _, _, _, _, _, _, _, _, h3, h4, List.Perm.refl _⟩)
set_option maxHeartbeats 1000000 in
theorem law_halves {p : Program} {l : Launch} {e : Env} {R : Room} {s : State} {m : MethodId} {args : Array Value} {below : List Frame} {meth : Method} {c : Code} {cells slots : Nat} {Q : State → Prop} {D : va_G} {cI cB cJ : ClassId} {A : Nat → Prop} {hx hm b L : Nat} {xs : Nat → Int32} {ws : va_W} {i : Int} (X : CX p m c code 4 s args RL D (TY cI cB cJ) A s.heap) (hX : va_X b L xs s s.heap) (hbl : b < s.heap.size) (hbA : ¬ A b) (hL : L ≤ 3072) (hR : (∀ k, k ≤ 1000 → k ≤ R.frames) ∧ ∀ k, k ≤ 20000 → k ≤ R.locals) (hc : cells + 2 ≤ R.cells ∧ slots + 8 ≤ R.slots) (hi : 0 ≤ i ∧ i + 6 ≤ L) (hW : WW cI cB cJ hx hm ws) (kk : ∀ ws1, WW cI cB cJ hx hm ws1 → GG p l e R s m args below meth c (cells + 2) (slots + 8) Q D A s.heap 4 ws1 1294 [(3, vI i), (2, .ref hm), (1, .ref hx), (0, .ref b)] []) : GG p l e R s m args below meth c cells slots Q D A s.heap 4 ws 922 [(3, vI i), (2, .ref hm), (1, .ref hx), (0, .ref b)] [] := by
  obtain ⟨sn, sk, sd, se, su, sb, sP, wx, wm, h1, h2, hp⟩ := hW
  have hg := h1.rg
  refine g_aload_n X dL_law_922 2 rfl ?_
  refine g_aload_n X dL_law_923 3 rfl ?_
  refine g_iload_n X dL_law_924 0 rfl ?_
  refine g_iconst X dL_law_925 ?_
  refine g_iadd X dL_law_926 ?_
  refine g_sld X hX hbl hbA hL (by omega) dL_law_927 ?_
  refine g_aload_n X dL_law_928 3 rfl ?_
  refine g_iload_n X dL_law_929 0 rfl ?_
  refine g_iconst X dL_law_930 ?_
  refine g_iadd X dL_law_931 ?_
  refine g_sld X hX hbl hbA hL (by omega) dL_law_932 ?_
  refine g_fxI X hp (x_X9_halves l D cI cB cJ hx h1 (p0 := sc xs (i + 1)) (p1 := sc xs (i + 2)) (sc_ir _ _) (sc_ir _ _)) h1.mem cv_X9_halves uw978 ⟨rfl, rfl, hR.1 _ (by decide), hR.2 _ (by decide)⟩ rfl rfl (Nat.le_of_ble_eq_true rfl) ⟨Nat.le_trans (by omega) hc.1, Nat.le_trans (by omega) hc.2⟩ dL_law_933 (fun z933 w933 k933 => ?_)
  obtain ⟨n1, k1, d1, e1, c1, h3, r1⟩ := k933
  refine g_pop X rfl dL_law_936 ?_
  refine g_aload_n X dL_law_937 1 rfl ?_
  refine g_aload_n X dL_law_938 3 rfl ?_
  refine g_iload_n X dL_law_939 0 rfl ?_
  refine g_iconst X dL_law_940 ?_
  refine g_iadd X dL_law_941 ?_
  refine g_sld X hX hbl hbA hL (by omega) dL_law_942 ?_
  refine g_aload_n X dL_law_943 3 rfl ?_
  refine g_iload_n X dL_law_944 0 rfl ?_
  refine g_iconst X dL_law_945 ?_
  refine g_iadd X dL_law_946 ?_
  refine g_sld X hX hbl hbA hL (by omega) dL_law_947 ?_
  refine g_fmI X (List.Perm.refl _) (m_X10_halves l D cI cB cJ hm h2 (p0 := sc xs (i + 1)) (p1 := sc xs (i + 2)) (sc_ir _ _) (sc_ir _ _)) h2.mem cv_X10_halves uw1710 ⟨rfl, rfl, hR.1 _ (by decide), hR.2 _ (by decide)⟩ rfl rfl (Nat.le_of_ble_eq_true rfl) ⟨Nat.le_trans (by omega) hc.1, Nat.le_trans (by omega) hc.2⟩ dL_law_948 (fun z948 w948 k948 => ?_)
  obtain ⟨n2, k2, d2, e2, c2, h4, r2⟩ := k948
  refine g_pop X rfl dL_law_951 ?_
  refine g_goto X (tgt := 1294) dL_law_952 (by decide) ?_
  obtain ⟨rfl, rfl, rfl, rfl, rfl⟩ : n2 = n1 ∧ k2 = k1 ∧ d2 = d1 ∧ e2 = e1 ∧ c2 = c1 := by omega
  exact g_widen (by omega) (by omega) (kk _ ⟨_, _, _, _, _, _, _, _, _, h3, h4, List.Perm.refl _⟩)
set_option maxHeartbeats 1000000 in
theorem law_steady {p : Program} {l : Launch} {e : Env} {R : Room} {s : State} {m : MethodId} {args : Array Value} {below : List Frame} {meth : Method} {c : Code} {cells slots : Nat} {Q : State → Prop} {D : va_G} {cI cB cJ : ClassId} {A : Nat → Prop} {hx hm b L : Nat} {xs : Nat → Int32} {ws : va_W} {i : Int} (X : CX p m c code 4 s args RL D (TY cI cB cJ) A s.heap) (hX : va_X b L xs s s.heap) (hbl : b < s.heap.size) (hbA : ¬ A b) (hL : L ≤ 3072) (hR : (∀ k, k ≤ 1000 → k ≤ R.frames) ∧ ∀ k, k ≤ 20000 → k ≤ R.locals) (hc : cells + 2 ≤ R.cells ∧ slots + 8 ≤ R.slots) (hi : 0 ≤ i ∧ i + 6 ≤ L) (hW : WW cI cB cJ hx hm ws) (kk : ∀ ws1, WW cI cB cJ hx hm ws1 → GG p l e R s m args below meth c (cells + 2) (slots + 8) Q D A s.heap 4 ws1 1294 [(3, vI i), (2, .ref hm), (1, .ref hx), (0, .ref b)] []) : GG p l e R s m args below meth c cells slots Q D A s.heap 4 ws 955 [(3, vI i), (2, .ref hm), (1, .ref hx), (0, .ref b)] [] := by
  obtain ⟨sn, sk, sd, se, su, sb, sP, wx, wm, h1, h2, hp⟩ := hW
  have hg := h1.rg
  refine g_aload_n X dL_law_955 2 rfl ?_
  refine g_aload_n X dL_law_956 3 rfl ?_
  refine g_iload_n X dL_law_957 0 rfl ?_
  refine g_iconst X dL_law_958 ?_
  refine g_iadd X dL_law_959 ?_
  refine g_sld X hX hbl hbA hL (by omega) dL_law_960 ?_
  refine g_aload_n X dL_law_961 3 rfl ?_
  refine g_iload_n X dL_law_962 0 rfl ?_
  refine g_iconst X dL_law_963 ?_
  refine g_iadd X dL_law_964 ?_
  refine g_sld X hX hbl hbA hL (by omega) dL_law_965 ?_
  refine g_fxI X hp (x_X9_steady l D cI cB cJ hx h1 (p0 := sc xs (i + 1)) (p1 := sc xs (i + 2)) (sc_ir _ _) (sc_ir _ _)) h1.mem cv_X9_steady uw992 ⟨rfl, rfl, hR.1 _ (by decide), hR.2 _ (by decide)⟩ rfl rfl (Nat.le_of_ble_eq_true rfl) ⟨Nat.le_trans (by omega) hc.1, Nat.le_trans (by omega) hc.2⟩ dL_law_966 (fun z966 w966 k966 => ?_)
  obtain ⟨n1, k1, d1, e1, c1, h3, r1⟩ := k966
  refine g_aload_n X dL_law_969 1 rfl ?_
  refine g_aload_n X dL_law_970 3 rfl ?_
  refine g_iload_n X dL_law_971 0 rfl ?_
  refine g_iconst X dL_law_972 ?_
  refine g_iadd X dL_law_973 ?_
  refine g_sld X hX hbl hbA hL (by omega) dL_law_974 ?_
  refine g_aload_n X dL_law_975 3 rfl ?_
  refine g_iload_n X dL_law_976 0 rfl ?_
  refine g_iconst X dL_law_977 ?_
  refine g_iadd X dL_law_978 ?_
  refine g_sld X hX hbl hbA hL (by omega) dL_law_979 ?_
  refine g_fmI X (List.Perm.refl _) (m_X10_steady l D cI cB cJ hm h2 (p0 := sc xs (i + 1)) (p1 := sc xs (i + 2)) (sc_ir _ _) (sc_ir _ _)) h2.mem cv_X10_steady uw1718 ⟨rfl, rfl, hR.1 _ (by decide), hR.2 _ (by decide)⟩ rfl rfl (Nat.le_of_ble_eq_true rfl) ⟨Nat.le_trans (by omega) hc.1, Nat.le_trans (by omega) hc.2⟩ dL_law_980 (fun z980 w980 k980 => ?_)
  obtain ⟨n2, k2, d2, e2, c2, h4, r2⟩ := k980
  refine g_icmp_eq X (tgt := 1294) dL_law_983 (by decide) (by omega) (by omega) (fun _ => ?_) (fun hne => absurd (show z966 = z980 by omega) hne)
  obtain ⟨rfl, rfl, rfl, rfl, rfl⟩ : n2 = n1 ∧ k2 = k1 ∧ d2 = d1 ∧ e2 = e1 ∧ c2 = c1 := by omega
  exact g_widen (by omega) (by omega) (kk _ ⟨_, _, _, _, _, _, _, _, _, h3, h4, List.Perm.refl _⟩)
set_option maxHeartbeats 1000000 in
theorem law_comes {p : Program} {l : Launch} {e : Env} {R : Room} {s : State} {m : MethodId} {args : Array Value} {below : List Frame} {meth : Method} {c : Code} {cells slots : Nat} {Q : State → Prop} {D : va_G} {cI cB cJ : ClassId} {A : Nat → Prop} {hx hm b L : Nat} {xs : Nat → Int32} {ws : va_W} {i : Int} (X : CX p m c code 4 s args RL D (TY cI cB cJ) A s.heap) (hX : va_X b L xs s s.heap) (hbl : b < s.heap.size) (hbA : ¬ A b) (hL : L ≤ 3072) (hR : (∀ k, k ≤ 1000 → k ≤ R.frames) ∧ ∀ k, k ≤ 20000 → k ≤ R.locals) (hc : cells + 2 ≤ R.cells ∧ slots + 8 ≤ R.slots) (hi : 0 ≤ i ∧ i + 6 ≤ L) (hW : WW cI cB cJ hx hm ws) (kk : ∀ ws1, WW cI cB cJ hx hm ws1 → GG p l e R s m args below meth c (cells + 2) (slots + 8) Q D A s.heap 4 ws1 1294 [(3, vI i), (2, .ref hm), (1, .ref hx), (0, .ref b)] []) : GG p l e R s m args below meth c cells slots Q D A s.heap 4 ws 988 [(3, vI i), (2, .ref hm), (1, .ref hx), (0, .ref b)] [] := by
  obtain ⟨sn, sk, sd, se, su, sb, sP, wx, wm, h1, h2, hp⟩ := hW
  have hg := h1.rg
  refine g_aload_n X dL_law_988 2 rfl ?_
  refine g_aload_n X dL_law_989 3 rfl ?_
  refine g_iload_n X dL_law_990 0 rfl ?_
  refine g_iconst X dL_law_991 ?_
  refine g_iadd X dL_law_992 ?_
  refine g_sld X hX hbl hbA hL (by omega) dL_law_993 ?_
  refine g_aload_n X dL_law_994 3 rfl ?_
  refine g_iload_n X dL_law_995 0 rfl ?_
  refine g_iconst X dL_law_996 ?_
  refine g_iadd X dL_law_997 ?_
  refine g_sld X hX hbl hbA hL (by omega) dL_law_998 ?_
  refine g_fxI X hp (x_X9_comes l D cI cB cJ hx h1 (p0 := sc xs (i + 1)) (p1 := sc xs (i + 2)) (sc_ir _ _) (sc_ir _ _)) h1.mem cv_X9_comes uw1005 ⟨rfl, rfl, hR.1 _ (by decide), hR.2 _ (by decide)⟩ rfl rfl (Nat.le_of_ble_eq_true rfl) ⟨Nat.le_trans (by omega) hc.1, Nat.le_trans (by omega) hc.2⟩ dL_law_999 (fun z999 w999 k999 => ?_)
  obtain ⟨n1, k1, d1, e1, c1, h3, r1⟩ := k999
  refine g_pop X rfl dL_law_1002 ?_
  refine g_aload_n X dL_law_1003 1 rfl ?_
  refine g_aload_n X dL_law_1004 3 rfl ?_
  refine g_iload_n X dL_law_1005 0 rfl ?_
  refine g_iconst X dL_law_1006 ?_
  refine g_iadd X dL_law_1007 ?_
  refine g_sld X hX hbl hbA hL (by omega) dL_law_1008 ?_
  refine g_aload_n X dL_law_1009 3 rfl ?_
  refine g_iload_n X dL_law_1010 0 rfl ?_
  refine g_iconst X dL_law_1011 ?_
  refine g_iadd X dL_law_1012 ?_
  refine g_sld X hX hbl hbA hL (by omega) dL_law_1013 ?_
  refine g_fmI X (List.Perm.refl _) (m_X10_comes l D cI cB cJ hm h2 (p0 := sc xs (i + 1)) (p1 := sc xs (i + 2)) (sc_ir _ _) (sc_ir _ _)) h2.mem cv_X10_comes uw1730 ⟨rfl, rfl, hR.1 _ (by decide), hR.2 _ (by decide)⟩ rfl rfl (Nat.le_of_ble_eq_true rfl) ⟨Nat.le_trans (by omega) hc.1, Nat.le_trans (by omega) hc.2⟩ dL_law_1014 (fun z1014 w1014 k1014 => ?_)
  obtain ⟨n2, k2, d2, e2, c2, h4, r2⟩ := k1014
  refine g_pop X rfl dL_law_1017 ?_
  refine g_goto X (tgt := 1294) dL_law_1018 (by decide) ?_
  obtain ⟨rfl, rfl, rfl, rfl, rfl⟩ : n2 = n1 ∧ k2 = k1 ∧ d2 = d1 ∧ e2 = e1 ∧ c2 = c1 := by omega
  exact g_widen (by omega) (by omega) (kk _ ⟨_, _, _, _, _, _, _, _, _, h3, h4, List.Perm.refl _⟩)
set_option maxHeartbeats 1000000 in
theorem law_rests {p : Program} {l : Launch} {e : Env} {R : Room} {s : State} {m : MethodId} {args : Array Value} {below : List Frame} {meth : Method} {c : Code} {cells slots : Nat} {Q : State → Prop} {D : va_G} {cI cB cJ : ClassId} {A : Nat → Prop} {hx hm b L : Nat} {xs : Nat → Int32} {ws : va_W} {i : Int} (X : CX p m c code 4 s args RL D (TY cI cB cJ) A s.heap) (hX : va_X b L xs s s.heap) (hbl : b < s.heap.size) (hbA : ¬ A b) (hL : L ≤ 3072) (hR : (∀ k, k ≤ 1000 → k ≤ R.frames) ∧ ∀ k, k ≤ 20000 → k ≤ R.locals) (hc : cells + 2 ≤ R.cells ∧ slots + 8 ≤ R.slots) (hi : 0 ≤ i ∧ i + 6 ≤ L) (hW : WW cI cB cJ hx hm ws) (kk : ∀ ws1, WW cI cB cJ hx hm ws1 → GG p l e R s m args below meth c (cells + 2) (slots + 8) Q D A s.heap 4 ws1 1294 [(3, vI i), (2, .ref hm), (1, .ref hx), (0, .ref b)] []) : GG p l e R s m args below meth c cells slots Q D A s.heap 4 ws 1021 [(3, vI i), (2, .ref hm), (1, .ref hx), (0, .ref b)] [] := by
  obtain ⟨sn, sk, sd, se, su, sb, sP, wx, wm, h1, h2, hp⟩ := hW
  have hg := h1.rg
  refine g_aload_n X dL_law_1021 2 rfl ?_
  refine g_aload_n X dL_law_1022 3 rfl ?_
  refine g_iload_n X dL_law_1023 0 rfl ?_
  refine g_iconst X dL_law_1024 ?_
  refine g_iadd X dL_law_1025 ?_
  refine g_sld X hX hbl hbA hL (by omega) dL_law_1026 ?_
  refine g_aload_n X dL_law_1027 3 rfl ?_
  refine g_iload_n X dL_law_1028 0 rfl ?_
  refine g_iconst X dL_law_1029 ?_
  refine g_iadd X dL_law_1030 ?_
  refine g_sld X hX hbl hbA hL (by omega) dL_law_1031 ?_
  refine g_aload_n X dL_law_1032 3 rfl ?_
  refine g_iload_n X dL_law_1033 0 rfl ?_
  refine g_iconst X dL_law_1034 ?_
  refine g_iadd X dL_law_1035 ?_
  refine g_sld X hX hbl hbA hL (by omega) dL_law_1036 ?_
  refine g_fxI X hp (x_X9_rests l D cI cB cJ hx h1 (p0 := sc xs (i + 1)) (p1 := sc xs (i + 2)) (p2 := sc xs (i + 3)) (sc_ir _ _) (sc_ir _ _) (sc_ir _ _)) h1.mem cv_X9_rests uw1025 ⟨rfl, rfl, hR.1 _ (by decide), hR.2 _ (by decide)⟩ rfl rfl (Nat.le_of_ble_eq_true rfl) ⟨Nat.le_trans (by omega) hc.1, Nat.le_trans (by omega) hc.2⟩ dL_law_1037 (fun z1037 w1037 k1037 => ?_)
  obtain ⟨n1, k1, d1, e1, c1, h3, r1⟩ := k1037
  refine g_pop X rfl dL_law_1040 ?_
  refine g_aload_n X dL_law_1041 1 rfl ?_
  refine g_aload_n X dL_law_1042 3 rfl ?_
  refine g_iload_n X dL_law_1043 0 rfl ?_
  refine g_iconst X dL_law_1044 ?_
  refine g_iadd X dL_law_1045 ?_
  refine g_sld X hX hbl hbA hL (by omega) dL_law_1046 ?_
  refine g_aload_n X dL_law_1047 3 rfl ?_
  refine g_iload_n X dL_law_1048 0 rfl ?_
  refine g_iconst X dL_law_1049 ?_
  refine g_iadd X dL_law_1050 ?_
  refine g_sld X hX hbl hbA hL (by omega) dL_law_1051 ?_
  refine g_aload_n X dL_law_1052 3 rfl ?_
  refine g_iload_n X dL_law_1053 0 rfl ?_
  refine g_iconst X dL_law_1054 ?_
  refine g_iadd X dL_law_1055 ?_
  refine g_sld X hX hbl hbA hL (by omega) dL_law_1056 ?_
  refine g_fmI X (List.Perm.refl _) (m_X10_rests l D cI cB cJ hm h2 (p0 := sc xs (i + 1)) (p1 := sc xs (i + 2)) (p2 := sc xs (i + 3)) (sc_ir _ _) (sc_ir _ _) (sc_ir _ _)) h2.mem cv_X10_rests uw1741 ⟨rfl, rfl, hR.1 _ (by decide), hR.2 _ (by decide)⟩ rfl rfl (Nat.le_of_ble_eq_true rfl) ⟨Nat.le_trans (by omega) hc.1, Nat.le_trans (by omega) hc.2⟩ dL_law_1057 (fun z1057 w1057 k1057 => ?_)
  obtain ⟨n2, k2, d2, e2, c2, h4, r2⟩ := k1057
  refine g_pop X rfl dL_law_1060 ?_
  refine g_goto X (tgt := 1294) dL_law_1061 (by decide) ?_
  obtain ⟨rfl, rfl, rfl, rfl, rfl⟩ : n2 = n1 ∧ k2 = k1 ∧ d2 = d1 ∧ e2 = e1 ∧ c2 = c1 := by omega
  exact g_widen (by omega) (by omega) (kk _ ⟨_, _, _, _, _, _, _, _, _, h3, h4, List.Perm.refl _⟩)
set_option maxHeartbeats 1000000 in
theorem law_days {p : Program} {l : Launch} {e : Env} {R : Room} {s : State} {m : MethodId} {args : Array Value} {below : List Frame} {meth : Method} {c : Code} {cells slots : Nat} {Q : State → Prop} {D : va_G} {cI cB cJ : ClassId} {A : Nat → Prop} {hx hm b L : Nat} {xs : Nat → Int32} {ws : va_W} {i : Int} (X : CX p m c code 4 s args RL D (TY cI cB cJ) A s.heap) (hX : va_X b L xs s s.heap) (hbl : b < s.heap.size) (hbA : ¬ A b) (hL : L ≤ 3072) (hR : (∀ k, k ≤ 1000 → k ≤ R.frames) ∧ ∀ k, k ≤ 20000 → k ≤ R.locals) (hc : cells + 2 ≤ R.cells ∧ slots + 8 ≤ R.slots) (hi : 0 ≤ i ∧ i + 6 ≤ L) (hW : WW cI cB cJ hx hm ws) (kk : ∀ ws1, WW cI cB cJ hx hm ws1 → GG p l e R s m args below meth c (cells + 2) (slots + 8) Q D A s.heap 4 ws1 1294 [(3, vI i), (2, .ref hm), (1, .ref hx), (0, .ref b)] []) : GG p l e R s m args below meth c cells slots Q D A s.heap 4 ws 1064 [(3, vI i), (2, .ref hm), (1, .ref hx), (0, .ref b)] [] := by
  obtain ⟨sn, sk, sd, se, su, sb, sP, wx, wm, h1, h2, hp⟩ := hW
  have hg := h1.rg
  refine g_aload_n X dL_law_1064 2 rfl ?_
  refine g_aload_n X dL_law_1065 3 rfl ?_
  refine g_iload_n X dL_law_1066 0 rfl ?_
  refine g_iconst X dL_law_1067 ?_
  refine g_iadd X dL_law_1068 ?_
  refine g_sld X hX hbl hbA hL (by omega) dL_law_1069 ?_
  refine g_fxI X hp (x_X9_days l D cI cB cJ hx h1 (p0 := sc xs (i + 1)) (sc_ir _ _)) h1.mem cv_X9_days uw1040 ⟨rfl, rfl, hR.1 _ (by decide), hR.2 _ (by decide)⟩ rfl rfl (Nat.le_of_ble_eq_true rfl) ⟨Nat.le_trans (by omega) hc.1, Nat.le_trans (by omega) hc.2⟩ dL_law_1070 (fun z1070 w1070 k1070 => ?_)
  obtain ⟨n1, k1, d1, e1, c1, h3, r1⟩ := k1070
  refine g_pop X rfl dL_law_1073 ?_
  refine g_aload_n X dL_law_1074 1 rfl ?_
  refine g_aload_n X dL_law_1075 3 rfl ?_
  refine g_iload_n X dL_law_1076 0 rfl ?_
  refine g_iconst X dL_law_1077 ?_
  refine g_iadd X dL_law_1078 ?_
  refine g_sld X hX hbl hbA hL (by omega) dL_law_1079 ?_
  refine g_fmI X (List.Perm.refl _) (m_X10_days l D cI cB cJ hm h2 (by omega) (p0 := sc xs (i + 1)) (sc_ir _ _)) h2.mem cv_X10_days uw1753 ⟨rfl, rfl, hR.1 _ (by decide), hR.2 _ (by decide)⟩ rfl rfl (Nat.le_of_ble_eq_true rfl) ⟨Nat.le_trans (by omega) hc.1, Nat.le_trans (by omega) hc.2⟩ dL_law_1080 (fun z1080 w1080 k1080 => ?_)
  obtain ⟨n2, k2, d2, e2, c2, h4, r2⟩ := k1080
  refine g_pop X rfl dL_law_1083 ?_
  refine g_goto X (tgt := 1294) dL_law_1084 (by decide) ?_
  obtain ⟨rfl, rfl, rfl, rfl, rfl⟩ : n2 = n1 ∧ k2 = k1 ∧ d2 = d1 ∧ e2 = e1 ∧ c2 = c1 := by omega
  exact g_widen (by omega) (by omega) (kk _ ⟨_, _, _, _, _, _, _, _, _, h3, h4, List.Perm.refl _⟩)
set_option maxHeartbeats 1000000 in
theorem law_tried {p : Program} {l : Launch} {e : Env} {R : Room} {s : State} {m : MethodId} {args : Array Value} {below : List Frame} {meth : Method} {c : Code} {cells slots : Nat} {Q : State → Prop} {D : va_G} {cI cB cJ : ClassId} {A : Nat → Prop} {hx hm b L : Nat} {xs : Nat → Int32} {ws : va_W} {i : Int} (X : CX p m c code 4 s args RL D (TY cI cB cJ) A s.heap) (hX : va_X b L xs s s.heap) (hbl : b < s.heap.size) (hbA : ¬ A b) (hL : L ≤ 3072) (hR : (∀ k, k ≤ 1000 → k ≤ R.frames) ∧ ∀ k, k ≤ 20000 → k ≤ R.locals) (hc : cells + 2 ≤ R.cells ∧ slots + 8 ≤ R.slots) (hi : 0 ≤ i ∧ i + 6 ≤ L) (hW : WW cI cB cJ hx hm ws) (kk : ∀ ws1, WW cI cB cJ hx hm ws1 → GG p l e R s m args below meth c (cells + 2) (slots + 8) Q D A s.heap 4 ws1 1294 [(3, vI i), (2, .ref hm), (1, .ref hx), (0, .ref b)] []) : GG p l e R s m args below meth c cells slots Q D A s.heap 4 ws 1087 [(3, vI i), (2, .ref hm), (1, .ref hx), (0, .ref b)] [] := by
  obtain ⟨sn, sk, sd, se, su, sb, sP, wx, wm, h1, h2, hp⟩ := hW
  have hg := h1.rg
  refine g_aload_n X dL_law_1087 2 rfl ?_
  refine g_aload_n X dL_law_1088 3 rfl ?_
  refine g_iload_n X dL_law_1089 0 rfl ?_
  refine g_iconst X dL_law_1090 ?_
  refine g_iadd X dL_law_1091 ?_
  refine g_sld X hX hbl hbA hL (by omega) dL_law_1092 ?_
  refine g_aload_n X dL_law_1093 3 rfl ?_
  refine g_iload_n X dL_law_1094 0 rfl ?_
  refine g_iconst X dL_law_1095 ?_
  refine g_iadd X dL_law_1096 ?_
  refine g_sld X hX hbl hbA hL (by omega) dL_law_1097 ?_
  refine g_fxI X hp (x_X9_tried l D cI cB cJ hx h1 (p0 := sc xs (i + 1)) (p1 := sc xs (i + 2)) (sc_ir _ _) (sc_ir _ _)) h1.mem cv_X9_tried uw1108 ⟨rfl, rfl, hR.1 _ (by decide), hR.2 _ (by decide)⟩ rfl rfl (Nat.le_of_ble_eq_true rfl) ⟨Nat.le_trans (by omega) hc.1, Nat.le_trans (by omega) hc.2⟩ dL_law_1098 (fun z1098 w1098 k1098 => ?_)
  obtain ⟨n1, k1, d1, e1, c1, h3, r1⟩ := k1098
  refine g_pop X rfl dL_law_1101 ?_
  refine g_aload_n X dL_law_1102 1 rfl ?_
  refine g_aload_n X dL_law_1103 3 rfl ?_
  refine g_iload_n X dL_law_1104 0 rfl ?_
  refine g_iconst X dL_law_1105 ?_
  refine g_iadd X dL_law_1106 ?_
  refine g_sld X hX hbl hbA hL (by omega) dL_law_1107 ?_
  refine g_aload_n X dL_law_1108 3 rfl ?_
  refine g_iload_n X dL_law_1109 0 rfl ?_
  refine g_iconst X dL_law_1110 ?_
  refine g_iadd X dL_law_1111 ?_
  refine g_sld X hX hbl hbA hL (by omega) dL_law_1112 ?_
  refine g_fmI X (List.Perm.refl _) (m_X10_tried l D cI cB cJ hm h2 (by omega) (p0 := sc xs (i + 1)) (p1 := sc xs (i + 2)) (sc_ir _ _) (sc_ir _ _)) h2.mem cv_X10_tried uw1802 ⟨rfl, rfl, hR.1 _ (by decide), hR.2 _ (by decide)⟩ rfl rfl (Nat.le_of_ble_eq_true rfl) ⟨Nat.le_trans (by omega) hc.1, Nat.le_trans (by omega) hc.2⟩ dL_law_1113 (fun z1113 w1113 k1113 => ?_)
  obtain ⟨n2, k2, d2, e2, c2, h4, r2⟩ := k1113
  refine g_pop X rfl dL_law_1116 ?_
  refine g_goto X (tgt := 1294) dL_law_1117 (by decide) ?_
  obtain ⟨rfl, rfl, rfl, rfl, rfl⟩ : n2 = n1 ∧ k2 = k1 ∧ d2 = d1 ∧ e2 = e1 ∧ c2 = c1 := by omega
  exact g_widen (by omega) (by omega) (kk _ ⟨_, _, _, _, _, _, _, _, _, h3, h4, List.Perm.refl _⟩)
set_option maxHeartbeats 1000000 in
theorem law_stallIs {p : Program} {l : Launch} {e : Env} {R : Room} {s : State} {m : MethodId} {args : Array Value} {below : List Frame} {meth : Method} {c : Code} {cells slots : Nat} {Q : State → Prop} {D : va_G} {cI cB cJ : ClassId} {A : Nat → Prop} {hx hm b L : Nat} {xs : Nat → Int32} {ws : va_W} {i : Int} (X : CX p m c code 4 s args RL D (TY cI cB cJ) A s.heap) (hX : va_X b L xs s s.heap) (hbl : b < s.heap.size) (hbA : ¬ A b) (hL : L ≤ 3072) (hR : (∀ k, k ≤ 1000 → k ≤ R.frames) ∧ ∀ k, k ≤ 20000 → k ≤ R.locals) (hc : cells + 2 ≤ R.cells ∧ slots + 8 ≤ R.slots) (hi : 0 ≤ i ∧ i + 6 ≤ L) (hW : WW cI cB cJ hx hm ws) (kk : ∀ ws1, WW cI cB cJ hx hm ws1 → GG p l e R s m args below meth c (cells + 2) (slots + 8) Q D A s.heap 4 ws1 1294 [(3, vI i), (2, .ref hm), (1, .ref hx), (0, .ref b)] []) : GG p l e R s m args below meth c cells slots Q D A s.heap 4 ws 1120 [(3, vI i), (2, .ref hm), (1, .ref hx), (0, .ref b)] [] := by
  obtain ⟨sn, sk, sd, se, su, sb, sP, wx, wm, h1, h2, hp⟩ := hW
  have hg := h1.rg
  refine g_aload_n X dL_law_1120 2 rfl ?_
  refine g_aload_n X dL_law_1121 3 rfl ?_
  refine g_iload_n X dL_law_1122 0 rfl ?_
  refine g_iconst X dL_law_1123 ?_
  refine g_iadd X dL_law_1124 ?_
  refine g_sld X hX hbl hbA hL (by omega) dL_law_1125 ?_
  refine g_aload_n X dL_law_1126 3 rfl ?_
  refine g_iload_n X dL_law_1127 0 rfl ?_
  refine g_iconst X dL_law_1128 ?_
  refine g_iadd X dL_law_1129 ?_
  refine g_sld X hX hbl hbA hL (by omega) dL_law_1130 ?_
  refine g_fxI X hp (x_X9_stallIs l D cI cB cJ hx h1 (p0 := sc xs (i + 1)) (p1 := sc xs (i + 2)) (sc_ir _ _) (sc_ir _ _)) h1.mem cv_X9_stallIs uw1130 ⟨rfl, rfl, hR.1 _ (by decide), hR.2 _ (by decide)⟩ rfl rfl (Nat.le_of_ble_eq_true rfl) ⟨Nat.le_trans (by omega) hc.1, Nat.le_trans (by omega) hc.2⟩ dL_law_1131 (fun z1131 w1131 k1131 => ?_)
  obtain ⟨n1, k1, d1, e1, c1, h3, r1⟩ := k1131
  refine g_pop X rfl dL_law_1134 ?_
  refine g_aload_n X dL_law_1135 1 rfl ?_
  refine g_aload_n X dL_law_1136 3 rfl ?_
  refine g_iload_n X dL_law_1137 0 rfl ?_
  refine g_iconst X dL_law_1138 ?_
  refine g_iadd X dL_law_1139 ?_
  refine g_sld X hX hbl hbA hL (by omega) dL_law_1140 ?_
  refine g_aload_n X dL_law_1141 3 rfl ?_
  refine g_iload_n X dL_law_1142 0 rfl ?_
  refine g_iconst X dL_law_1143 ?_
  refine g_iadd X dL_law_1144 ?_
  refine g_sld X hX hbl hbA hL (by omega) dL_law_1145 ?_
  refine g_fmI X (List.Perm.refl _) (m_X10_stallIs l D cI cB cJ hm h2 (p0 := sc xs (i + 1)) (p1 := sc xs (i + 2)) (sc_ir _ _) (sc_ir _ _)) h2.mem cv_X10_stallIs uw1813 ⟨rfl, rfl, hR.1 _ (by decide), hR.2 _ (by decide)⟩ rfl rfl (Nat.le_of_ble_eq_true rfl) ⟨Nat.le_trans (by omega) hc.1, Nat.le_trans (by omega) hc.2⟩ dL_law_1146 (fun z1146 w1146 k1146 => ?_)
  obtain ⟨n2, k2, d2, e2, c2, h4, r2⟩ := k1146
  refine g_pop X rfl dL_law_1149 ?_
  refine g_goto X (tgt := 1294) dL_law_1150 (by decide) ?_
  obtain ⟨rfl, rfl, rfl, rfl, rfl⟩ : n2 = n1 ∧ k2 = k1 ∧ d2 = d1 ∧ e2 = e1 ∧ c2 = c1 := by omega
  exact g_widen (by omega) (by omega) (kk _ ⟨_, _, _, _, _, _, _, _, _, h3, h4, List.Perm.refl _⟩)
set_option maxHeartbeats 1000000 in
theorem law_soonest {p : Program} {l : Launch} {e : Env} {R : Room} {s : State} {m : MethodId} {args : Array Value} {below : List Frame} {meth : Method} {c : Code} {cells slots : Nat} {Q : State → Prop} {D : va_G} {cI cB cJ : ClassId} {A : Nat → Prop} {hx hm b L : Nat} {xs : Nat → Int32} {ws : va_W} {i : Int} (X : CX p m c code 4 s args RL D (TY cI cB cJ) A s.heap) (hX : va_X b L xs s s.heap) (hbl : b < s.heap.size) (hbA : ¬ A b) (hL : L ≤ 3072) (hR : (∀ k, k ≤ 1000 → k ≤ R.frames) ∧ ∀ k, k ≤ 20000 → k ≤ R.locals) (hc : cells + 2 ≤ R.cells ∧ slots + 8 ≤ R.slots) (hi : 0 ≤ i ∧ i + 6 ≤ L) (hW : WW cI cB cJ hx hm ws) (kk : ∀ ws1, WW cI cB cJ hx hm ws1 → GG p l e R s m args below meth c (cells + 2) (slots + 8) Q D A s.heap 4 ws1 1294 [(3, vI i), (2, .ref hm), (1, .ref hx), (0, .ref b)] []) : GG p l e R s m args below meth c cells slots Q D A s.heap 4 ws 1153 [(3, vI i), (2, .ref hm), (1, .ref hx), (0, .ref b)] [] := by
  obtain ⟨sn, sk, sd, se, su, sb, sP, wx, wm, h1, h2, hp⟩ := hW
  have hg := h1.rg
  refine g_aload_n X dL_law_1153 2 rfl ?_
  refine g_aload_n X dL_law_1154 3 rfl ?_
  refine g_iload_n X dL_law_1155 0 rfl ?_
  refine g_iconst X dL_law_1156 ?_
  refine g_iadd X dL_law_1157 ?_
  refine g_sld X hX hbl hbA hL (by omega) dL_law_1158 ?_
  refine g_aload_n X dL_law_1159 3 rfl ?_
  refine g_iload_n X dL_law_1160 0 rfl ?_
  refine g_iconst X dL_law_1161 ?_
  refine g_iadd X dL_law_1162 ?_
  refine g_sld X hX hbl hbA hL (by omega) dL_law_1163 ?_
  refine g_fxI X hp (x_X9_soonest l D cI cB cJ hx h1 (p0 := sc xs (i + 1)) (p1 := sc xs (i + 2)) (sc_ir _ _) (sc_ir _ _)) h1.mem cv_X9_soonest uw1134 ⟨rfl, rfl, hR.1 _ (by decide), hR.2 _ (by decide)⟩ rfl rfl (Nat.le_of_ble_eq_true rfl) ⟨Nat.le_trans (by omega) hc.1, Nat.le_trans (by omega) hc.2⟩ dL_law_1164 (fun z1164 w1164 k1164 => ?_)
  obtain ⟨n1, k1, d1, e1, c1, h3, r1⟩ := k1164
  refine g_pop X rfl dL_law_1167 ?_
  refine g_aload_n X dL_law_1168 1 rfl ?_
  refine g_aload_n X dL_law_1169 3 rfl ?_
  refine g_iload_n X dL_law_1170 0 rfl ?_
  refine g_iconst X dL_law_1171 ?_
  refine g_iadd X dL_law_1172 ?_
  refine g_sld X hX hbl hbA hL (by omega) dL_law_1173 ?_
  refine g_aload_n X dL_law_1174 3 rfl ?_
  refine g_iload_n X dL_law_1175 0 rfl ?_
  refine g_iconst X dL_law_1176 ?_
  refine g_iadd X dL_law_1177 ?_
  refine g_sld X hX hbl hbA hL (by omega) dL_law_1178 ?_
  refine g_fmI X (List.Perm.refl _) (m_X10_soonest l D cI cB cJ hm h2 (p0 := sc xs (i + 1)) (p1 := sc xs (i + 2)) (sc_ir _ _) (sc_ir _ _)) h2.mem cv_X10_soonest uw1817 ⟨rfl, rfl, hR.1 _ (by decide), hR.2 _ (by decide)⟩ rfl rfl (Nat.le_of_ble_eq_true rfl) ⟨Nat.le_trans (by omega) hc.1, Nat.le_trans (by omega) hc.2⟩ dL_law_1179 (fun z1179 w1179 k1179 => ?_)
  obtain ⟨n2, k2, d2, e2, c2, h4, r2⟩ := k1179
  refine g_pop X rfl dL_law_1182 ?_
  refine g_goto X (tgt := 1294) dL_law_1183 (by decide) ?_
  obtain ⟨rfl, rfl, rfl, rfl, rfl⟩ : n2 = n1 ∧ k2 = k1 ∧ d2 = d1 ∧ e2 = e1 ∧ c2 = c1 := by omega
  exact g_widen (by omega) (by omega) (kk _ ⟨_, _, _, _, _, _, _, _, _, h3, h4, List.Perm.refl _⟩)
set_option maxHeartbeats 1000000 in
theorem law_richest {p : Program} {l : Launch} {e : Env} {R : Room} {s : State} {m : MethodId} {args : Array Value} {below : List Frame} {meth : Method} {c : Code} {cells slots : Nat} {Q : State → Prop} {D : va_G} {cI cB cJ : ClassId} {A : Nat → Prop} {hx hm b L : Nat} {xs : Nat → Int32} {ws : va_W} {i : Int} (X : CX p m c code 4 s args RL D (TY cI cB cJ) A s.heap) (hX : va_X b L xs s s.heap) (hbl : b < s.heap.size) (hbA : ¬ A b) (hL : L ≤ 3072) (hR : (∀ k, k ≤ 1000 → k ≤ R.frames) ∧ ∀ k, k ≤ 20000 → k ≤ R.locals) (hc : cells + 2 ≤ R.cells ∧ slots + 8 ≤ R.slots) (hi : 0 ≤ i ∧ i + 6 ≤ L) (hW : WW cI cB cJ hx hm ws) (kk : ∀ ws1, WW cI cB cJ hx hm ws1 → GG p l e R s m args below meth c (cells + 2) (slots + 8) Q D A s.heap 4 ws1 1294 [(3, vI i), (2, .ref hm), (1, .ref hx), (0, .ref b)] []) : GG p l e R s m args below meth c cells slots Q D A s.heap 4 ws 1186 [(3, vI i), (2, .ref hm), (1, .ref hx), (0, .ref b)] [] := by
  obtain ⟨sn, sk, sd, se, su, sb, sP, wx, wm, h1, h2, hp⟩ := hW
  have hg := h1.rg
  refine g_aload_n X dL_law_1186 2 rfl ?_
  refine g_fxI X hp (x_X9_richest l D cI cB cJ hx h1) h1.mem cv_X9_richest uw1138 ⟨rfl, rfl, hR.1 _ (by decide), hR.2 _ (by decide)⟩ rfl rfl (Nat.le_of_ble_eq_true rfl) ⟨Nat.le_trans (by omega) hc.1, Nat.le_trans (by omega) hc.2⟩ dL_law_1187 (fun z1187 w1187 k1187 => ?_)
  obtain ⟨n1, k1, d1, e1, c1, h3, r1⟩ := k1187
  refine g_pop X rfl dL_law_1190 ?_
  refine g_aload_n X dL_law_1191 1 rfl ?_
  refine g_fmI X (List.Perm.refl _) (m_X10_richest l D cI cB cJ hm h2) h2.mem cv_X10_richest uw1821 ⟨rfl, rfl, hR.1 _ (by decide), hR.2 _ (by decide)⟩ rfl rfl (Nat.le_of_ble_eq_true rfl) ⟨Nat.le_trans (by omega) hc.1, Nat.le_trans (by omega) hc.2⟩ dL_law_1192 (fun z1192 w1192 k1192 => ?_)
  obtain ⟨n2, k2, d2, e2, c2, h4, r2⟩ := k1192
  refine g_pop X rfl dL_law_1195 ?_
  refine g_goto X (tgt := 1294) dL_law_1196 (by decide) ?_
  obtain ⟨rfl, rfl, rfl, rfl, rfl⟩ : n2 = n1 ∧ k2 = k1 ∧ d2 = d1 ∧ e2 = e1 ∧ c2 = c1 := by omega
  exact g_widen (by omega) (by omega) (kk _ ⟨_, _, _, _, _, _, _, _, _, h3, h4, List.Perm.refl _⟩)
set_option maxHeartbeats 1000000 in
theorem law_seed {p : Program} {l : Launch} {e : Env} {R : Room} {s : State} {m : MethodId} {args : Array Value} {below : List Frame} {meth : Method} {c : Code} {cells slots : Nat} {Q : State → Prop} {D : va_G} {cI cB cJ : ClassId} {A : Nat → Prop} {hx hm b L : Nat} {xs : Nat → Int32} {ws : va_W} {i : Int} (X : CX p m c code 4 s args RL D (TY cI cB cJ) A s.heap) (hX : va_X b L xs s s.heap) (hbl : b < s.heap.size) (hbA : ¬ A b) (hL : L ≤ 3072) (hR : (∀ k, k ≤ 1000 → k ≤ R.frames) ∧ ∀ k, k ≤ 20000 → k ≤ R.locals) (hc : cells + 2 ≤ R.cells ∧ slots + 8 ≤ R.slots) (hi : 0 ≤ i ∧ i + 6 ≤ L) (hW : WW cI cB cJ hx hm ws) (kk : ∀ ws1, WW cI cB cJ hx hm ws1 → GG p l e R s m args below meth c (cells + 2) (slots + 8) Q D A s.heap 4 ws1 1294 [(3, vI i), (2, .ref hm), (1, .ref hx), (0, .ref b)] []) : GG p l e R s m args below meth c cells slots Q D A s.heap 4 ws 1199 [(3, vI i), (2, .ref hm), (1, .ref hx), (0, .ref b)] [] := by
  obtain ⟨sn, sk, sd, se, su, sb, sP, wx, wm, h1, h2, hp⟩ := hW
  have hg := h1.rg
  refine g_aload_n X dL_law_1199 2 rfl ?_
  refine g_aload_n X dL_law_1200 3 rfl ?_
  refine g_iload_n X dL_law_1201 0 rfl ?_
  refine g_iconst X dL_law_1202 ?_
  refine g_iadd X dL_law_1203 ?_
  refine g_sld X hX hbl hbA hL (by omega) dL_law_1204 ?_
  refine g_fxI X hp (x_X9_seed l D cI cB cJ hx h1 (p0 := sc xs (i + 1)) (sc_ir _ _)) h1.mem cv_X9_seed uw1142 ⟨rfl, rfl, hR.1 _ (by decide), hR.2 _ (by decide)⟩ rfl rfl (Nat.le_of_ble_eq_true rfl) ⟨Nat.le_trans (by omega) hc.1, Nat.le_trans (by omega) hc.2⟩ dL_law_1205 (fun z1205 w1205 k1205 => ?_)
  obtain ⟨n1, k1, d1, e1, c1, h3, r1⟩ := k1205
  refine g_pop X rfl dL_law_1208 ?_
  refine g_aload_n X dL_law_1209 1 rfl ?_
  refine g_aload_n X dL_law_1210 3 rfl ?_
  refine g_iload_n X dL_law_1211 0 rfl ?_
  refine g_iconst X dL_law_1212 ?_
  refine g_iadd X dL_law_1213 ?_
  refine g_sld X hX hbl hbA hL (by omega) dL_law_1214 ?_
  refine g_fmI X (List.Perm.refl _) (m_X10_seed l D cI cB cJ hm h2 (p0 := sc xs (i + 1)) (sc_ir _ _)) h2.mem cv_X10_seed uw1825 ⟨rfl, rfl, hR.1 _ (by decide), hR.2 _ (by decide)⟩ rfl rfl (Nat.le_of_ble_eq_true rfl) ⟨Nat.le_trans (by omega) hc.1, Nat.le_trans (by omega) hc.2⟩ dL_law_1215 (fun z1215 w1215 k1215 => ?_)
  obtain ⟨n2, k2, d2, e2, c2, h4, r2⟩ := k1215
  refine g_pop X rfl dL_law_1218 ?_
  refine g_goto X (tgt := 1294) dL_law_1219 (by decide) ?_
  obtain ⟨rfl, rfl, rfl, rfl, rfl⟩ : n2 = n1 ∧ k2 = k1 ∧ d2 = d1 ∧ e2 = e1 ∧ c2 = c1 := by omega
  exact g_widen (by omega) (by omega) (kk _ ⟨_, _, _, _, _, _, _, _, _, h3, h4, List.Perm.refl _⟩)
set_option maxHeartbeats 1000000 in
theorem law_keep {p : Program} {l : Launch} {e : Env} {R : Room} {s : State} {m : MethodId} {args : Array Value} {below : List Frame} {meth : Method} {c : Code} {cells slots : Nat} {Q : State → Prop} {D : va_G} {cI cB cJ : ClassId} {A : Nat → Prop} {hx hm b L : Nat} {xs : Nat → Int32} {ws : va_W} {i : Int} (X : CX p m c code 4 s args RL D (TY cI cB cJ) A s.heap) (hX : va_X b L xs s s.heap) (hbl : b < s.heap.size) (hbA : ¬ A b) (hL : L ≤ 3072) (hR : (∀ k, k ≤ 1000 → k ≤ R.frames) ∧ ∀ k, k ≤ 20000 → k ≤ R.locals) (hc : cells + 2 ≤ R.cells ∧ slots + 8 ≤ R.slots) (hi : 0 ≤ i ∧ i + 6 ≤ L) (hW : WW cI cB cJ hx hm ws) (kk : ∀ ws1, WW cI cB cJ hx hm ws1 → GG p l e R s m args below meth c (cells + 2) (slots + 8) Q D A s.heap 4 ws1 1294 [(3, vI i), (2, .ref hm), (1, .ref hx), (0, .ref b)] []) : GG p l e R s m args below meth c cells slots Q D A s.heap 4 ws 1222 [(3, vI i), (2, .ref hm), (1, .ref hx), (0, .ref b)] [] := by
  obtain ⟨sn, sk, sd, se, su, sb, sP, wx, wm, h1, h2, hp⟩ := hW
  have hg := h1.rg
  refine g_aload_n X dL_law_1222 2 rfl ?_
  refine g_fxI X hp (x_X9_keep l D cI cB cJ hx h1) h1.mem cv_X9_keep uw1147 ⟨rfl, rfl, hR.1 _ (by decide), hR.2 _ (by decide)⟩ rfl rfl (Nat.le_of_ble_eq_true rfl) ⟨Nat.le_trans (by omega) hc.1, Nat.le_trans (by omega) hc.2⟩ dL_law_1223 (fun z1223 w1223 k1223 => ?_)
  obtain ⟨n1, k1, d1, e1, c1, h3, r1⟩ := k1223
  refine g_pop X rfl dL_law_1226 ?_
  refine g_aload_n X dL_law_1227 1 rfl ?_
  refine g_fmI X (List.Perm.refl _) (m_X10_keep l D cI cB cJ hm h2) h2.mem cv_X10_keep uw1830 ⟨rfl, rfl, hR.1 _ (by decide), hR.2 _ (by decide)⟩ rfl rfl (Nat.le_of_ble_eq_true rfl) ⟨Nat.le_trans (by omega) hc.1, Nat.le_trans (by omega) hc.2⟩ dL_law_1228 (fun z1228 w1228 k1228 => ?_)
  obtain ⟨n2, k2, d2, e2, c2, h4, r2⟩ := k1228
  refine g_pop X rfl dL_law_1231 ?_
  refine g_goto X (tgt := 1294) dL_law_1232 (by decide) ?_
  obtain ⟨rfl, rfl, rfl, rfl, rfl⟩ : n2 = n1 ∧ k2 = k1 ∧ d2 = d1 ∧ e2 = e1 ∧ c2 = c1 := by omega
  exact g_widen (by omega) (by omega) (kk _ ⟨_, _, _, _, _, _, _, _, _, h3, h4, List.Perm.refl _⟩)
set_option maxHeartbeats 1000000 in
theorem law_undo {p : Program} {l : Launch} {e : Env} {R : Room} {s : State} {m : MethodId} {args : Array Value} {below : List Frame} {meth : Method} {c : Code} {cells slots : Nat} {Q : State → Prop} {D : va_G} {cI cB cJ : ClassId} {A : Nat → Prop} {hx hm b L : Nat} {xs : Nat → Int32} {ws : va_W} {i : Int} (X : CX p m c code 4 s args RL D (TY cI cB cJ) A s.heap) (hX : va_X b L xs s s.heap) (hbl : b < s.heap.size) (hbA : ¬ A b) (hL : L ≤ 3072) (hR : (∀ k, k ≤ 1000 → k ≤ R.frames) ∧ ∀ k, k ≤ 20000 → k ≤ R.locals) (hc : cells + 2 ≤ R.cells ∧ slots + 8 ≤ R.slots) (hi : 0 ≤ i ∧ i + 6 ≤ L) (hW : WW cI cB cJ hx hm ws) (kk : ∀ ws1, WW cI cB cJ hx hm ws1 → GG p l e R s m args below meth c (cells + 2) (slots + 8) Q D A s.heap 4 ws1 1294 [(3, vI i), (2, .ref hm), (1, .ref hx), (0, .ref b)] []) : GG p l e R s m args below meth c cells slots Q D A s.heap 4 ws 1235 [(3, vI i), (2, .ref hm), (1, .ref hx), (0, .ref b)] [] := by
  obtain ⟨sn, sk, sd, se, su, sb, sP, wx, wm, h1, h2, hp⟩ := hW
  have hg := h1.rg
  refine g_aload_n X dL_law_1235 2 rfl ?_
  refine g_fxI X hp (x_X9_undo l D cI cB cJ hx h1) h1.mem cv_X9_undo uw1151 ⟨rfl, rfl, hR.1 _ (by decide), hR.2 _ (by decide)⟩ rfl rfl (Nat.le_of_ble_eq_true rfl) ⟨Nat.le_trans (by omega) hc.1, Nat.le_trans (by omega) hc.2⟩ dL_law_1236 (fun z1236 w1236 k1236 => ?_)
  obtain ⟨n1, k1, d1, e1, c1, h3, r1⟩ := k1236
  refine g_pop X rfl dL_law_1239 ?_
  refine g_aload_n X dL_law_1240 1 rfl ?_
  refine g_fmI X (List.Perm.refl _) (m_X10_undo l D cI cB cJ hm h2) h2.mem cv_X10_undo uw1834 ⟨rfl, rfl, hR.1 _ (by decide), hR.2 _ (by decide)⟩ rfl rfl (Nat.le_of_ble_eq_true rfl) ⟨Nat.le_trans (by omega) hc.1, Nat.le_trans (by omega) hc.2⟩ dL_law_1241 (fun z1241 w1241 k1241 => ?_)
  obtain ⟨n2, k2, d2, e2, c2, h4, r2⟩ := k1241
  refine g_pop X rfl dL_law_1244 ?_
  refine g_goto X (tgt := 1294) dL_law_1245 (by decide) ?_
  obtain ⟨rfl, rfl, rfl, rfl, rfl⟩ : n2 = n1 ∧ k2 = k1 ∧ d2 = d1 ∧ e2 = e1 ∧ c2 = c1 := by omega
  exact g_widen (by omega) (by omega) (kk _ ⟨_, _, _, _, _, _, _, _, _, h3, h4, List.Perm.refl _⟩)
set_option maxHeartbeats 1000000 in
theorem law_check {p : Program} {l : Launch} {e : Env} {R : Room} {s : State} {m : MethodId} {args : Array Value} {below : List Frame} {meth : Method} {c : Code} {cells slots : Nat} {Q : State → Prop} {D : va_G} {cI cB cJ : ClassId} {A : Nat → Prop} {hx hm b L : Nat} {xs : Nat → Int32} {ws : va_W} {i : Int} (X : CX p m c code 4 s args RL D (TY cI cB cJ) A s.heap) (hX : va_X b L xs s s.heap) (hbl : b < s.heap.size) (hbA : ¬ A b) (hL : L ≤ 3072) (hR : (∀ k, k ≤ 1000 → k ≤ R.frames) ∧ ∀ k, k ≤ 20000 → k ≤ R.locals) (hc : cells + 2 ≤ R.cells ∧ slots + 8 ≤ R.slots) (hi : 0 ≤ i ∧ i + 6 ≤ L) (hW : WW cI cB cJ hx hm ws) (kk : ∀ ws1, WW cI cB cJ hx hm ws1 → GG p l e R s m args below meth c (cells + 2) (slots + 8) Q D A s.heap 4 ws1 1294 [(3, vI i), (2, .ref hm), (1, .ref hx), (0, .ref b)] []) : GG p l e R s m args below meth c cells slots Q D A s.heap 4 ws 1248 [(3, vI i), (2, .ref hm), (1, .ref hx), (0, .ref b)] [] := by
  obtain ⟨sn, sk, sd, se, su, sb, sP, wx, wm, h1, h2, hp⟩ := hW
  have hg := h1.rg
  refine g_aload_n X dL_law_1248 2 rfl ?_
  refine g_aload_n X dL_law_1249 3 rfl ?_
  refine g_iload_n X dL_law_1250 0 rfl ?_
  refine g_iconst X dL_law_1251 ?_
  refine g_iadd X dL_law_1252 ?_
  refine g_sld X hX hbl hbA hL (by omega) dL_law_1253 ?_
  refine g_fxI X hp (x_X9_check l D cI cB cJ hx h1 (p0 := sc xs (i + 1)) (sc_ir _ _)) h1.mem cv_X9_check uw1156 ⟨rfl, rfl, hR.1 _ (by decide), hR.2 _ (by decide)⟩ rfl rfl (Nat.le_of_ble_eq_true rfl) ⟨Nat.le_trans (by omega) hc.1, Nat.le_trans (by omega) hc.2⟩ dL_law_1254 (fun z1254 w1254 k1254 => ?_)
  obtain ⟨n1, k1, d1, e1, c1, h3, r1⟩ := k1254
  refine g_pop X rfl dL_law_1257 ?_
  refine g_aload_n X dL_law_1258 1 rfl ?_
  refine g_aload_n X dL_law_1259 3 rfl ?_
  refine g_iload_n X dL_law_1260 0 rfl ?_
  refine g_iconst X dL_law_1261 ?_
  refine g_iadd X dL_law_1262 ?_
  refine g_sld X hX hbl hbA hL (by omega) dL_law_1263 ?_
  refine g_fmI X (List.Perm.refl _) (m_X10_check l D cI cB cJ hm h2 (p0 := sc xs (i + 1)) (sc_ir _ _)) h2.mem cv_X10_check uw1838 ⟨rfl, rfl, hR.1 _ (by decide), hR.2 _ (by decide)⟩ rfl rfl (Nat.le_of_ble_eq_true rfl) ⟨Nat.le_trans (by omega) hc.1, Nat.le_trans (by omega) hc.2⟩ dL_law_1264 (fun z1264 w1264 k1264 => ?_)
  obtain ⟨n2, k2, d2, e2, c2, h4, r2⟩ := k1264
  refine g_pop X rfl dL_law_1267 ?_
  refine g_goto X (tgt := 1294) dL_law_1268 (by decide) ?_
  obtain ⟨rfl, rfl, rfl, rfl, rfl⟩ : n2 = n1 ∧ k2 = k1 ∧ d2 = d1 ∧ e2 = e1 ∧ c2 = c1 := by omega
  exact g_widen (by omega) (by omega) (kk _ ⟨_, _, _, _, _, _, _, _, _, h3, h4, List.Perm.refl _⟩)
set_option maxHeartbeats 1000000 in
theorem law_count {p : Program} {l : Launch} {e : Env} {R : Room} {s : State} {m : MethodId} {args : Array Value} {below : List Frame} {meth : Method} {c : Code} {cells slots : Nat} {Q : State → Prop} {D : va_G} {cI cB cJ : ClassId} {A : Nat → Prop} {hx hm b L : Nat} {xs : Nat → Int32} {ws : va_W} {i : Int} (X : CX p m c code 4 s args RL D (TY cI cB cJ) A s.heap) (hX : va_X b L xs s s.heap) (hbl : b < s.heap.size) (hbA : ¬ A b) (hL : L ≤ 3072) (hR : (∀ k, k ≤ 1000 → k ≤ R.frames) ∧ ∀ k, k ≤ 20000 → k ≤ R.locals) (hc : cells + 2 ≤ R.cells ∧ slots + 8 ≤ R.slots) (hi : 0 ≤ i ∧ i + 6 ≤ L) (hW : WW cI cB cJ hx hm ws) (kk : ∀ ws1, WW cI cB cJ hx hm ws1 → GG p l e R s m args below meth c (cells + 2) (slots + 8) Q D A s.heap 4 ws1 1294 [(3, vI i), (2, .ref hm), (1, .ref hx), (0, .ref b)] []) : GG p l e R s m args below meth c cells slots Q D A s.heap 4 ws 1271 [(3, vI i), (2, .ref hm), (1, .ref hx), (0, .ref b)] [] := by
  obtain ⟨sn, sk, sd, se, su, sb, sP, wx, wm, h1, h2, hp⟩ := hW
  have hg := h1.rg
  refine g_aload_n X dL_law_1271 2 rfl ?_
  refine g_aload_n X dL_law_1272 3 rfl ?_
  refine g_iload_n X dL_law_1273 0 rfl ?_
  refine g_iconst X dL_law_1274 ?_
  refine g_iadd X dL_law_1275 ?_
  refine g_sld X hX hbl hbA hL (by omega) dL_law_1276 ?_
  refine g_fxI X hp (x_X9_count l D cI cB cJ hx h1 (p0 := sc xs (i + 1)) (sc_ir _ _)) h1.mem cv_X9_count uw1160 ⟨rfl, rfl, hR.1 _ (by decide), hR.2 _ (by decide)⟩ rfl rfl (Nat.le_of_ble_eq_true rfl) ⟨Nat.le_trans (by omega) hc.1, Nat.le_trans (by omega) hc.2⟩ dL_law_1277 (fun z1277 w1277 k1277 => ?_)
  obtain ⟨n1, k1, d1, e1, c1, h3, r1⟩ := k1277
  refine g_pop X rfl dL_law_1280 ?_
  refine g_aload_n X dL_law_1281 1 rfl ?_
  refine g_aload_n X dL_law_1282 3 rfl ?_
  refine g_iload_n X dL_law_1283 0 rfl ?_
  refine g_iconst X dL_law_1284 ?_
  refine g_iadd X dL_law_1285 ?_
  refine g_sld X hX hbl hbA hL (by omega) dL_law_1286 ?_
  refine g_fmI X (List.Perm.refl _) (m_X10_count l D cI cB cJ hm h2 (p0 := sc xs (i + 1)) (sc_ir _ _)) h2.mem cv_X10_count uw1842 ⟨rfl, rfl, hR.1 _ (by decide), hR.2 _ (by decide)⟩ rfl rfl (Nat.le_of_ble_eq_true rfl) ⟨Nat.le_trans (by omega) hc.1, Nat.le_trans (by omega) hc.2⟩ dL_law_1287 (fun z1287 w1287 k1287 => ?_)
  obtain ⟨n2, k2, d2, e2, c2, h4, r2⟩ := k1287
  refine g_pop X rfl dL_law_1290 ?_
  refine g_goto X (tgt := 1294) dL_law_1291 (by decide) ?_
  obtain ⟨rfl, rfl, rfl, rfl, rfl⟩ : n2 = n1 ∧ k2 = k1 ∧ d2 = d1 ∧ e2 = e1 ∧ c2 = c1 := by omega
  exact g_widen (by omega) (by omega) (kk _ ⟨_, _, _, _, _, _, _, _, _, h3, h4, List.Perm.refl _⟩)
