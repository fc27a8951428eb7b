/-! THE CLAIM OUT OF ONE WALK OF THE LAW'S BODY. Your part is whole_start (and what it stands on); all else here is the same for every law, but numbers. -/
def R_lawS : String := "OnlyDifferencesLaw"
def lw_P (b : Addr) (xs : List Int32) (args : Array Value) (s : State) : Prop := args = #[.ref b] ∧ s.IntsAt b xs ∧ xs.length ≤ 3072 ∧ (Jvm.Cond.and given_1 narrow_1).before args s = true
def lw_Q (_ : Array Value) (s : State) (o : Outcome) (t : State) : Prop := o = .returned (some (.int 1)) ∧ Framed s o t [] 600000 7302250
def lw_Z (below : List Frame) (a : Array Value) (s : State) : State → Prop := fun t => ∃ o, t.status = .running ∧ Ended t below o ∧ lw_Q a s o t
/-- the law's own end, with 1 on the stack, nothing written that was there before, its room as the claim has it -/
theorem lw_ret {p : Program} {l : Launch} {e : Env} {s : State} {m : MethodId} {below : List Frame} {meth : Method} {c : Code} {b : Nat} (hx : p.tables.exec = Jvm.exec) (hb : c.code = code) (hr : meth.sig.returnType = ret) (hlocks : meth.locks = false) {pc : Nat} {H : Heap} {ls : Array Slot} (hdg : decode code pc = .ok (.ireturn, 1)) : W p l e room_1 s m #[Value.ref b] below meth c H [] 600000 7302250 (lw_Z below #[Value.ref b] s) (F0 m pc ls [.int 1]) := by
  intro T hT X
  obtain ⟨fs, hret, hrun, hended, hW, hframe⟩ := X.leave (v := some (.int 1)) (hlocks := hlocks) (fun h => by rw [hr] at h; cases h)
  have hmeth' : T.vm.method? m = some meth := X.method'
  refine ⟨T.setFrames fs, ?_, .returned (some (.int 1)), hrun, hended, rfl, ⟨_, rfl⟩, hW, hframe⟩
  jvm_step X.here [X.here.top, hx, hb, hdg, hmeth', hr, ret, narrow_b1]
  (try refine ⟨rfl, ?_⟩); (try refine ⟨rfl, ?_⟩)
  first | (intro acts; rw [hret _ acts rfl rfl rfl]) | rw [hret _ _ rfl rfl rfl]
  exact Steps.refl _
/-- what holds at the law's entry: the machine, the code, the tables' words (any of lw_tbl by 'hts w (by decide +kernel)'), the script of L ints xs at the cell b, what the Statement gives of the start (any of its parts by flat_of_before) -/
def lw_At (p : Program) (s : State) (m : MethodId) (meth : Method) (c : Code) (b L : Nat) (xs : Nat → Int32) : Prop :=
  p.tables.exec = Jvm.exec ∧ c.code = code ∧ meth.sig.returnType = ret ∧ c.maxLocals = 4 ∧ s.vm.findClass R_lawS = some m.cls ∧ (∀ w ∈ lw_tbl, w.before #[Value.ref b] s = true) ∧ va_X b L xs s s.heap ∧ b < s.heap.size ∧ meth.locks = false ∧ (Jvm.Cond.and given_1 narrow_1).before #[Value.ref b] s = true
theorem room_big : (∀ k, k ≤ 1000 → k ≤ room_1.frames) ∧ ∀ k, k ≤ 20000 → k ≤ room_1.locals := ⟨fun k h => Nat.le_trans h (Nat.le_of_ble_eq_true rfl), fun k h => Nat.le_trans h (Nat.le_of_ble_eq_true rfl)⟩
set_option maxHeartbeats 4000000 in
theorem law_loop {p : Program} {l : Launch} {e : Env} {s : State} {m : MethodId} {below : List Frame} {meth : Method} {c : Code} {D : va_G} {cI cB cJ : ClassId} {hx hm b L : Nat} {xs : Nat → Int32} (X : CX p m c code 4 s #[.ref b] RL D (TY cI cB cJ) (fun q => s.heap.size ≤ q) s.heap) (hr : meth.sig.returnType = ret) (hlocks : meth.locks = false) (hX : va_X b L xs s s.heap) (hbl : b < s.heap.size) (hL : L ≤ 3072) : ∀ (n k : Nat) (ws : va_W), WW cI cB cJ hx hm ws → 6 * k ≤ L → L < 6 * k + n → GG p l e room_1 s m #[.ref b] below meth c (116 + 2 * k) (62732 + 8 * k) (lw_Z below #[Value.ref b] s) D (fun q => s.heap.size ≤ q) s.heap 4 ws 18 [(3, vI (6 * (k : Int))), (2, .ref hm), (1, .ref hx), (0, .ref b)] [] := by
  intro n
  have hbA : ¬ (fun q : Nat => s.heap.size ≤ q) b := Nat.not_le.mpr hbl
  induction n with
  | zero => intro k ws hW hk hn; exfalso; omega
  | succ n ih =>
    intro k ws hW hk hn
    have hc : 116 + 2 * k + 2 ≤ room_1.cells ∧ 62732 + 8 * k + 8 ≤ room_1.slots := ⟨Nat.le_trans (show 116 + 2 * k + 2 ≤ 10000 by omega) (Nat.le_of_ble_eq_true rfl), Nat.le_trans (show 62732 + 8 * k + 8 ≤ 1000000 by omega) (Nat.le_of_ble_eq_true rfl)⟩
    refine g_iload_n X dL_law_18 0 rfl ?_
    refine g_aload_n X dL_law_19 3 rfl ?_
    refine g_slen X hX hbl hbA dL_law_20 ?_
    refine g_bipush X (z := 6) dL_law_21 (by decide) ?_
    refine g_isub X dL_law_23 ?_
    refine g_icmp_gt X (tgt := 1300) dL_law_24 (by decide) (by omega) (by omega) (fun c24 => ?_) (fun c24 => ?_)
    · refine g_iconst X dL_law_1300 ?_
      intro H locs ls hP hD hS hl
      refine va_forget (fun q hq => hS.2.2 q hq) ?_
      refine W.widen (k := 600000) (n := 7302250) (by omega) (by omega) ?_
      rw [show (vI 1) = Value.int 1 from congrArg Value.int (by decide)]
      exact lw_ret X.1.1 X.1.2.1 hr hlocks dL_law_1301
    · have back : ∀ ws1 : va_W, WW cI cB cJ hx hm ws1 → GG p l e room_1 s m #[.ref b] below meth c (116 + 2 * k + 2) (62732 + 8 * k + 8) (lw_Z below #[Value.ref b] s) D (fun q => s.heap.size ≤ q) s.heap 4 ws1 1294 [(3, vI (6 * (k : Int))), (2, .ref hm), (1, .ref hx), (0, .ref b)] [] := fun ws1 hW1 => by
        refine g_iinc X (lv' := [(3, vI (6 * (k : Int) + 6)), (2, .ref hm), (1, .ref hx), (0, .ref b)]) dL_law_1294 0 rfl (by decide) rfl ?_
        refine g_goto X (tgt := 18) dL_law_1297 (by decide) ?_
        have h1 := ih (k + 1) ws1 hW1 (by omega) (by omega)
        rw [show (6 * ((k + 1 : Nat) : Int)) = 6 * (k : Int) + 6 by omega, show 116 + 2 * (k + 1) = 116 + 2 * k + 2 by omega, show 62732 + 8 * (k + 1) = 62732 + 8 * k + 8 by omega] at h1
        exact h1
      refine g_aload_n X dL_law_27 3 rfl ?_
      refine g_iload_n X dL_law_28 0 rfl ?_
      refine g_sld X hX hbl hbA hL (by omega) dL_law_29 ?_
      refine g_bipush X (z := 63) dL_law_30 (by decide) ?_
      refine g_iand X dL_law_32 ?_
      refine g_nm (fun t32 e32 => ?_)
      have r32 := z_iand_r (sc xs (6 * (k : Int))) 63 (by omega) (by omega)
      rw [← e32] at r32
      rcases (show t32 = 0 ∨ t32 = 1 ∨ t32 = 2 ∨ t32 = 3 ∨ t32 = 4 ∨ t32 = 5 ∨ t32 = 6 ∨ t32 = 7 ∨ t32 = 8 ∨ t32 = 9 ∨ t32 = 10 ∨ t32 = 11 ∨ t32 = 12 ∨ t32 = 13 ∨ t32 = 14 ∨ t32 = 15 ∨ t32 = 16 ∨ t32 = 17 ∨ t32 = 18 ∨ t32 = 19 ∨ t32 = 20 ∨ t32 = 21 ∨ t32 = 22 ∨ t32 = 23 ∨ t32 = 24 ∨ t32 = 25 ∨ t32 = 26 ∨ t32 = 27 ∨ t32 = 28 ∨ t32 = 29 ∨ t32 = 30 ∨ t32 = 31 ∨ t32 = 32 ∨ t32 = 33 ∨ t32 = 34 ∨ t32 = 35 ∨ t32 = 36 ∨ t32 = 37 ∨ (t32 < 0 ∨ 37 < t32) by omega) with hs | hs | hs | hs | hs | hs | hs | hs | hs | hs | hs | hs | hs | hs | hs | hs | hs | hs | hs | hs | hs | hs | hs | hs | hs | hs | hs | hs | hs | hs | hs | hs | hs | hs | hs | hs | hs | hs | hs
      · rw [hs]
        refine g_tab X (off := 167) (tgt := 200) dL_law_33 (by omega) (by omega) rfl (by decide) ?_
        exact law_feed X hX hbl hbA hL room_big hc ⟨by omega, by omega⟩ hW back
      · rw [hs]
        refine g_tab X (off := 230) (tgt := 263) dL_law_33 (by omega) (by omega) rfl (by decide) ?_
        exact law_law X hX hbl hbA hL room_big hc ⟨by omega, by omega⟩ hW back
      · rw [hs]
        refine g_tab X (off := 253) (tgt := 286) dL_law_33 (by omega) (by omega) rfl (by decide) ?_
        exact law_claims X hX hbl hbA hL room_big hc ⟨by omega, by omega⟩ hW back
      · rw [hs]
        refine g_tab X (off := 276) (tgt := 309) dL_law_33 (by omega) (by omega) rfl (by decide) ?_
        exact law_stock X hX hbl hbA hL room_big hc ⟨by omega, by omega⟩ hW back
      · rw [hs]
        refine g_tab X (off := 299) (tgt := 332) dL_law_33 (by omega) (by omega) rfl (by decide) ?_
        exact law_known X hX hbl hbA hL room_big hc ⟨by omega, by omega⟩ hW back
      · rw [hs]
        refine g_tab X (off := 332) (tgt := 365) dL_law_33 (by omega) (by omega) rfl (by decide) ?_
        exact law_groups X hX hbl hbA hL room_big hc ⟨by omega, by omega⟩ hW back
      · rw [hs]
        refine g_tab X (off := 355) (tgt := 388) dL_law_33 (by omega) (by omega) rfl (by decide) ?_
        exact law_bound X hX hbl hbA hL room_big hc ⟨by omega, by omega⟩ hW back
      · rw [hs]
        refine g_tab X (off := 388) (tgt := 421) dL_law_33 (by omega) (by omega) rfl (by decide) ?_
        exact law_canBe X hX hbl hbA hL room_big hc ⟨by omega, by omega⟩ hW back
      · rw [hs]
        refine g_tab X (off := 411) (tgt := 444) dL_law_33 (by omega) (by omega) rfl (by decide) ?_
        exact law_idle X hX hbl hbA hL room_big hc ⟨by omega, by omega⟩ hW back
      · rw [hs]
        refine g_tab X (off := 434) (tgt := 467) dL_law_33 (by omega) (by omega) rfl (by decide) ?_
        exact law_surely X hX hbl hbA hL room_big hc ⟨by omega, by omega⟩ hW back
      · rw [hs]
        refine g_tab X (off := 467) (tgt := 500) dL_law_33 (by omega) (by omega) rfl (by decide) ?_
        exact law_lightest X hX hbl hbA hL room_big hc ⟨by omega, by omega⟩ hW back
      · rw [hs]
        refine g_tab X (off := 490) (tgt := 523) dL_law_33 (by omega) (by omega) rfl (by decide) ?_
        exact law_slack X hX hbl hbA hL room_big hc ⟨by omega, by omega⟩ hW back
      · rw [hs]
        refine g_tab X (off := 513) (tgt := 546) dL_law_33 (by omega) (by omega) rfl (by decide) ?_
        exact law_chain X hX hbl hbA hL room_big hc ⟨by omega, by omega⟩ hW back
      · rw [hs]
        refine g_tab X (off := 536) (tgt := 569) dL_law_33 (by omega) (by omega) rfl (by decide) ?_
        exact law_orders X hX hbl hbA hL room_big hc ⟨by omega, by omega⟩ hW back
      · rw [hs]
        refine g_tab X (off := 559) (tgt := 592) dL_law_33 (by omega) (by omega) rfl (by decide) ?_
        exact law_weighings X hX hbl hbA hL room_big hc ⟨by omega, by omega⟩ hW back
      · rw [hs]
        refine g_tab X (off := 592) (tgt := 625) dL_law_33 (by omega) (by omega) rfl (by decide) ?_
        exact law_claimIs X hX hbl hbA hL room_big hc ⟨by omega, by omega⟩ hW back
      · rw [hs]
        refine g_tab X (off := 625) (tgt := 658) dL_law_33 (by omega) (by omega) rfl (by decide) ?_
        exact law_row X hX hbl hbA hL room_big hc ⟨by omega, by omega⟩ hW back
      · rw [hs]
        refine g_tab X (off := 658) (tgt := 691) dL_law_33 (by omega) (by omega) rfl (by decide) ?_
        exact law_walk X hX hbl hbA hL room_big hc ⟨by omega, by omega⟩ hW back
      · rw [hs]
        refine g_tab X (off := 691) (tgt := 724) dL_law_33 (by omega) (by omega) rfl (by decide) ?_
        exact law_round X hX hbl hbA hL room_big hc ⟨by omega, by omega⟩ hW back
      · rw [hs]
        refine g_tab X (off := 724) (tgt := 757) dL_law_33 (by omega) (by omega) rfl (by decide) ?_
        exact law_triangle X hX hbl hbA hL room_big hc ⟨by omega, by omega⟩ hW back
      · rw [hs]
        refine g_tab X (off := 757) (tgt := 790) dL_law_33 (by omega) (by omega) rfl (by decide) ?_
        exact law_bestRise X hX hbl hbA hL room_big hc ⟨by omega, by omega⟩ hW back
      · rw [hs]
        refine g_tab X (off := 790) (tgt := 823) dL_law_33 (by omega) (by omega) rfl (by decide) ?_
        exact law_narrowest X hX hbl hbA hL room_big hc ⟨by omega, by omega⟩ hW back
      · rw [hs]
        refine g_tab X (off := 823) (tgt := 856) dL_law_33 (by omega) (by omega) rfl (by decide) ?_
        exact law_twos X hX hbl hbA hL room_big hc ⟨by omega, by omega⟩ hW back
      · rw [hs]
        refine g_tab X (off := 856) (tgt := 889) dL_law_33 (by omega) (by omega) rfl (by decide) ?_
        exact law_paired X hX hbl hbA hL room_big hc ⟨by omega, by omega⟩ hW back
      · rw [hs]
        refine g_tab X (off := 889) (tgt := 922) dL_law_33 (by omega) (by omega) rfl (by decide) ?_
        exact law_halves X hX hbl hbA hL room_big hc ⟨by omega, by omega⟩ hW back
      · rw [hs]
        refine g_tab X (off := 922) (tgt := 955) dL_law_33 (by omega) (by omega) rfl (by decide) ?_
        exact law_steady X hX hbl hbA hL room_big hc ⟨by omega, by omega⟩ hW back
      · rw [hs]
        refine g_tab X (off := 955) (tgt := 988) dL_law_33 (by omega) (by omega) rfl (by decide) ?_
        exact law_comes X hX hbl hbA hL room_big hc ⟨by omega, by omega⟩ hW back
      · rw [hs]
        refine g_tab X (off := 988) (tgt := 1021) dL_law_33 (by omega) (by omega) rfl (by decide) ?_
        exact law_rests X hX hbl hbA hL room_big hc ⟨by omega, by omega⟩ hW back
      · rw [hs]
        refine g_tab X (off := 1031) (tgt := 1064) dL_law_33 (by omega) (by omega) rfl (by decide) ?_
        exact law_days X hX hbl hbA hL room_big hc ⟨by omega, by omega⟩ hW back
      · rw [hs]
        refine g_tab X (off := 1054) (tgt := 1087) dL_law_33 (by omega) (by omega) rfl (by decide) ?_
        exact law_tried X hX hbl hbA hL room_big hc ⟨by omega, by omega⟩ hW back
      · rw [hs]
        refine g_tab X (off := 1087) (tgt := 1120) dL_law_33 (by omega) (by omega) rfl (by decide) ?_
        exact law_stallIs X hX hbl hbA hL room_big hc ⟨by omega, by omega⟩ hW back
      · rw [hs]
        refine g_tab X (off := 1120) (tgt := 1153) dL_law_33 (by omega) (by omega) rfl (by decide) ?_
        exact law_soonest X hX hbl hbA hL room_big hc ⟨by omega, by omega⟩ hW back
      · rw [hs]
        refine g_tab X (off := 1153) (tgt := 1186) dL_law_33 (by omega) (by omega) rfl (by decide) ?_
        exact law_richest X hX hbl hbA hL room_big hc ⟨by omega, by omega⟩ hW back
      · rw [hs]
        refine g_tab X (off := 1166) (tgt := 1199) dL_law_33 (by omega) (by omega) rfl (by decide) ?_
        exact law_seed X hX hbl hbA hL room_big hc ⟨by omega, by omega⟩ hW back
      · rw [hs]
        refine g_tab X (off := 1189) (tgt := 1222) dL_law_33 (by omega) (by omega) rfl (by decide) ?_
        exact law_keep X hX hbl hbA hL room_big hc ⟨by omega, by omega⟩ hW back
      · rw [hs]
        refine g_tab X (off := 1202) (tgt := 1235) dL_law_33 (by omega) (by omega) rfl (by decide) ?_
        exact law_undo X hX hbl hbA hL room_big hc ⟨by omega, by omega⟩ hW back
      · rw [hs]
        refine g_tab X (off := 1215) (tgt := 1248) dL_law_33 (by omega) (by omega) rfl (by decide) ?_
        exact law_check X hX hbl hbA hL room_big hc ⟨by omega, by omega⟩ hW back
      · rw [hs]
        refine g_tab X (off := 1238) (tgt := 1271) dL_law_33 (by omega) (by omega) rfl (by decide) ?_
        exact law_count X hX hbl hbA hL room_big hc ⟨by omega, by omega⟩ hW back
      · refine g_tabD X (tgt := 1294) dL_law_33 (by omega) hs (by decide) ?_
        exact g_widen (by omega) (by omega) (back _ hW)
