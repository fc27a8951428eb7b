set_option maxHeartbeats 4000000 in
set_option maxRecDepth 100000 in
theorem c_X10_soonest (l : Launch) (D : va_G) (cI cB cJ : ClassId) (h : Nat) (q : Nat → Nat) {v_stalls v_claimMany v_taped v_place0 v_length0 v_fault v_number0 v_open v_codeMany v_waiting v_saidMany v_clauses v_newMany v_newStalls v_lines v_salesNow v_outNow v_isKept v_keptStalls : Int} {v_now v_aside v_kept v_oneOf v_otherOf v_signOf v_byOf v_tape v_said v_waitsAt v_saidLetter v_saidFrom v_saidHalf v_saidTo v_codes v_clauseOf v_codeFrom v_codeHalf v_codeTo v_stack v_facts v_newOne v_newOther v_newSign v_newBy v_moreOf v_firstOf v_toldOf v_mostOf v_mostThen v_sumTo v_rowFrom v_ordersOf v_lessOf v_weightOf v_rowNow v_slowRow v_fastRow v_lineNow v_firstLine v_freeBy v_heldBy v_heightOf v_upTo v_downTo v_oftenOf v_newUpper v_newLower : Nat → Int} {p0 p1 : Int} (kr_v_stalls : 0 ≤ v_stalls ∧ v_stalls ≤ 255) (kr_v_clauses : 0 ≤ v_clauses ∧ v_clauses ≤ 16) (kr_v_salesNow : (-2147483648) ≤ v_salesNow ∧ v_salesNow ≤ 2147483647) (kr_v_outNow : (-2147483648) ≤ v_outNow ∧ v_outNow ≤ 2147483647) (r_v_now : RA (-2147483648) 2147483647 v_now) (r_v_aside : RA (-2147483648) 2147483647 v_aside) (r_v_codes : RA 0 16777215 v_codes) (r_v_clauseOf : RA (-2147483648) 2147483647 v_clauseOf) (r_v_codeFrom : RA 0 260 v_codeFrom) (r_v_codeHalf : RA 0 260 v_codeHalf) (r_v_codeTo : RA 0 260 v_codeTo) (r_v_stack : RA (-2147483648) 2147483647 v_stack) (r_v_facts : RA (-2147483648) 2147483647 v_facts) (hp0 : IR p0) (hp1 : IR p1) (hp2 : LawOK v_codes v_clauses v_codeFrom v_codeHalf v_codeTo) : CtI l yX10_soonest cX10_soonest 6 (some .int) ⟨6, 0, 0, 134⟩ D (TY cI cB cJ) (wX10 cI cB cJ h q v_stalls v_claimMany v_taped v_place0 v_length0 v_fault v_number0 v_open v_codeMany v_waiting v_saidMany v_clauses v_newMany v_newStalls v_lines v_salesNow v_outNow v_isKept v_keptStalls v_now v_aside v_kept v_oneOf v_otherOf v_signOf v_byOf v_tape v_said v_waitsAt v_saidLetter v_saidFrom v_saidHalf v_saidTo v_codes v_clauseOf v_codeFrom v_codeHalf v_codeTo v_stack v_facts v_newOne v_newOther v_newSign v_newBy v_moreOf v_firstOf v_toldOf v_mostOf v_mostThen v_sumTo v_rowFrom v_ordersOf v_lessOf v_weightOf v_rowNow v_slowRow v_fastRow v_lineNow v_firstLine v_freeBy v_heldBy v_heightOf v_upTo v_downTo v_oftenOf v_newUpper v_newLower) [.ref h, vI p0, vI p1] (fun z ws' => ∃ n_salesNow : Int, ∃ n_outNow : Int, ∃ n_now : Nat → Int, ∃ n_aside : Nat → Int, ∃ n_stack : Nat → Int, ∃ n_facts : Nat → Int, ((-2147483648) ≤ n_salesNow ∧ n_salesNow ≤ 2147483647) ∧ ((-2147483648) ≤ n_outNow ∧ n_outNow ≤ 2147483647) ∧ (RA (-2147483648) 2147483647 n_now) ∧ (RA (-2147483648) 2147483647 n_aside) ∧ (RA (-2147483648) 2147483647 n_stack) ∧ (RA (-2147483648) 2147483647 n_facts) ∧ (IR z) ∧ (n_now 32 = v_now 32) ∧ (ws' = (wX10 cI cB cJ h q v_stalls v_claimMany v_taped v_place0 v_length0 v_fault v_number0 v_open v_codeMany v_waiting v_saidMany v_clauses v_newMany v_newStalls v_lines n_salesNow n_outNow v_isKept v_keptStalls n_now n_aside v_kept v_oneOf v_otherOf v_signOf v_byOf v_tape v_said v_waitsAt v_saidLetter v_saidFrom v_saidHalf v_saidTo v_codes v_clauseOf v_codeFrom v_codeHalf v_codeTo n_stack n_facts v_newOne v_newOther v_newSign v_newBy v_moreOf v_firstOf v_toldOf v_mostOf v_mostThen v_sumTo v_rowFrom v_ordersOf v_lessOf v_weightOf v_rowNow v_slowRow v_fastRow v_lineNow v_firstLine v_freeBy v_heldBy v_heightOf v_upTo v_downTo v_oftenOf v_newUpper v_newLower))) := by
  refine hdrI (own := RX10) rfl (by decide +kernel) (Nat.le_of_ble_eq_true rfl) ?_
  intro p e s m args below meth c Q A X hQ
  refine g_lvE (lv2 := [(0, .ref h), (1, vI p0), (2, vI p1)]) rfl ?_
  refine g_aload_n X dX10_soonest_0 0 rfl ?_
  refine g_iload_n X dX10_soonest_1 1 rfl ?_
  refine g_callVI0 X (c_X10_isStall l D cI cB cJ h q (p0 := p0) (by omega) (by first | assumption | omega)) cv_X10_isStall uw1765 ⟨rfl, rfl, by decide, by decide⟩ 0 rfl rfl rfl rfl rfl (Nat.le_of_ble_eq_true rfl) ⟨Nat.zero_le _, Nat.zero_le _⟩ dX10_soonest_2 (fun t2 ws2 k2 => ?_)
  obtain ⟨kb_2, ⟨kp0_2, rfl⟩⟩ := k2
  refine g_if_eq X (tgt := 18) dX10_soonest_5 (by decide) (by omega) (fun c5 => ?_) (fun c5 => ?_)
  · clear kb_2
    clear kp0_2
    refine g_iconst X dX10_soonest_18 ?_
    exact hQ _ _ _ _ dX10_soonest_19 ⟨v_salesNow, v_outNow, v_now, v_aside, v_stack, v_facts, (by omega), (by omega), r_v_now, r_v_aside, r_v_stack, r_v_facts, (by first | assumption | omega), (by first | assumption | omega), rfl⟩
  · replace kb_2 := kb_2.resolve_left (fun h => c5 h)
    replace kp0_2 := kp0_2 kb_2
    refine g_iload_n X dX10_soonest_8 2 rfl ?_
    refine g_iconst X dX10_soonest_9 ?_
    refine g_bipush X (z := 100) dX10_soonest_10 (by decide) ?_
    refine g_callSIE X (c_X10_in l D cI cB cJ (p0 := p1) (p1 := 1) (p2 := 100) (by first | assumption | omega) (by first | assumption | omega) (by first | assumption | omega)) cv_X10_in uw1394 ⟨rfl, rfl, by decide, by decide⟩ rfl rfl (Nat.le_of_ble_eq_true rfl) ⟨Nat.zero_le _, Nat.zero_le _⟩ dX10_soonest_12 (fun t12 ws12 k12 => ?_)
    obtain ⟨kb_12, ⟨kp0_12, rfl⟩⟩ := k12
    refine g_if_ne X (tgt := 20) dX10_soonest_15 (by decide) (by omega) (fun c15 => ?_) (fun c15 => ?_)
    · replace kb_12 := kb_12.resolve_left (fun h => c15 h)
      replace kp0_12 := kp0_12.resolve_right (fun h => c15 h.1)
      refine g_aload_n X dX10_soonest_20 0 rfl ?_
      refine gM_get X 0 rfl 0 (by decide) uw1179 rfl dX10_soonest_21 ?_
      refine g_aload_n X dX10_soonest_24 0 rfl ?_
      refine gM_get X 0 rfl 1 (by decide) uw1180 rfl dX10_soonest_25 ?_
      refine g_callSV X (c_X10_copies l D cI cB cJ (q 0) (q 1)  r_v_now r_v_aside) [1, 2] [0, 3, 4, 5, 6, 7, 8, 9, 10, 11, 12, 13, 14, 15, 16, 17, 18, 19, 20, 21, 22, 23, 24, 25, 26, 27, 28, 29, 30, 31, 32, 33, 34, 35, 36, 37, 38, 39, 40, 41, 42, 43, 44, 45, 46, 47, 48] rfl rfl rfl rfl rfl (by decide) cv_X10_copies uw1806 ⟨rfl, rfl, by decide, by decide⟩ rfl rfl (Nat.le_of_ble_eq_true rfl) ⟨Nat.zero_le _, Nat.zero_le _⟩ dX10_soonest_28 (fun ws28 k28 => ?_)
      obtain ⟨aside_28, r_aside_28, kp0_28, rfl⟩ := k28
      refine g_perm (ws2 := (wX10 cI cB cJ h q v_stalls v_claimMany v_taped v_place0 v_length0 v_fault v_number0 v_open v_codeMany v_waiting v_saidMany v_clauses v_newMany v_newStalls v_lines v_salesNow v_outNow v_isKept v_keptStalls v_now aside_28 v_kept v_oneOf v_otherOf v_signOf v_byOf v_tape v_said v_waitsAt v_saidLetter v_saidFrom v_saidHalf v_saidTo v_codes v_clauseOf v_codeFrom v_codeHalf v_codeTo v_stack v_facts v_newOne v_newOther v_newSign v_newBy v_moreOf v_firstOf v_toldOf v_mostOf v_mostThen v_sumTo v_rowFrom v_ordersOf v_lessOf v_weightOf v_rowNow v_slowRow v_fastRow v_lineNow v_firstLine v_freeBy v_heldBy v_heightOf v_upTo v_downTo v_oftenOf v_newUpper v_newLower)) [0, 47, 48, 1, 2, 3, 4, 5, 6, 7, 8, 9, 10, 11, 12, 13, 14, 15, 16, 17, 18, 19, 20, 21, 22, 23, 24, 25, 26, 27, 28, 29, 30, 31, 32, 33, 34, 35, 36, 37, 38, 39, 40, 41, 42, 43, 44, 45, 46] rfl rfl rfl ?_
      refine g_aload_n X dX10_soonest_31 0 rfl ?_
      refine gM_get X 0 rfl 0 (by decide) uw1179 rfl dX10_soonest_32 ?_
      refine g_bipush X (z := 24) dX10_soonest_35 (by decide) ?_
      refine g_iload_n X dX10_soonest_37 1 rfl ?_
      refine g_iadd X dX10_soonest_38 ?_
      refine g_iald X 1 0 rfl rfl (by omega) (by decide) dX10_soonest_39 (fun t39 e39 => ?_)
      have r39 := r_v_now (24 + p0 : Int).toNat; rw [← e39] at r39
      refine g_istore_n X (lv' := [(3, vI t39), (0, .ref h), (1, vI p0), (2, vI p1)]) dX10_soonest_40 (by decide) rfl ?_
      refine g_iconst X dX10_soonest_41 ?_
      refine g_istore X (lv' := [(4, vI 0), (3, vI t39), (0, .ref h), (1, vI p0), (2, vI p1)]) dX10_soonest_42 (by decide) rfl ?_
      have L44 : ∀ (n : Nat) (x4_44 : Int) (salesNow_44 : Int) (outNow_44 : Int) (now_44 : Nat → Int) (stack_44 : Nat → Int) (facts_44 : Nat → Int), ((-2147483648) ≤ salesNow_44 ∧ salesNow_44 ≤ 2147483647) → ((-2147483648) ≤ outNow_44 ∧ outNow_44 ≤ 2147483647) → (RA (-2147483648) 2147483647 now_44) → (RA (-2147483648) 2147483647 stack_44) → (RA (-2147483648) 2147483647 facts_44) → (0 ≤ x4_44 ∧ x4_44 ≤ p1) → (p1 - x4_44).toNat < n → GG p l e ⟨6, 0, 0, 134⟩ s m args below meth c 0 0 Q D A s.heap 6 (wX10 cI cB cJ h q v_stalls v_claimMany v_taped v_place0 v_length0 v_fault v_number0 v_open v_codeMany v_waiting v_saidMany v_clauses v_newMany v_newStalls v_lines salesNow_44 outNow_44 v_isKept v_keptStalls now_44 aside_28 v_kept v_oneOf v_otherOf v_signOf v_byOf v_tape v_said v_waitsAt v_saidLetter v_saidFrom v_saidHalf v_saidTo v_codes v_clauseOf v_codeFrom v_codeHalf v_codeTo stack_44 facts_44 v_newOne v_newOther v_newSign v_newBy v_moreOf v_firstOf v_toldOf v_mostOf v_mostThen v_sumTo v_rowFrom v_ordersOf v_lessOf v_weightOf v_rowNow v_slowRow v_fastRow v_lineNow v_firstLine v_freeBy v_heldBy v_heightOf v_upTo v_downTo v_oftenOf v_newUpper v_newLower) 44 [(0, .ref h), (1, vI p0), (2, vI p1), (3, vI t39), (4, vI x4_44)] [] := by
        intro n
        induction n with
        | zero => intros; exfalso; omega
        | succ n ih44 =>
          intro x4_44 salesNow_44 outNow_44 now_44 stack_44 facts_44 kr_salesNow_44 kr_outNow_44 r_now_44 r_stack_44 r_facts_44 w44_0 wm44
          refine g_aload_n X dX10_soonest_44 0 rfl ?_
          refine gM_get X 0 rfl 0 (by decide) uw1179 rfl dX10_soonest_45 ?_
          refine g_bipush X (z := 24) dX10_soonest_48 (by decide) ?_
          refine g_iload_n X dX10_soonest_50 1 rfl ?_
          refine g_iadd X dX10_soonest_51 ?_
          refine g_iald X 1 0 rfl rfl (by omega) (by decide) dX10_soonest_52 (fun t52 e52 => ?_)
          have r52 := r_now_44 (24 + p0 : Int).toNat; rw [← e52] at r52
          refine g_iload_n X dX10_soonest_53 3 rfl ?_
          refine g_icmp_ne X (tgt := 89) dX10_soonest_54 (by decide) (by omega) (by omega) (fun c54 => ?_) (fun c54 => ?_)
          · refine g_aload_n X dX10_soonest_89 0 rfl ?_
            refine gM_get X 0 rfl 0 (by decide) uw1179 rfl dX10_soonest_90 ?_
            refine g_bipush X (z := 24) dX10_soonest_93 (by decide) ?_
            refine g_iload_n X dX10_soonest_95 1 rfl ?_
            refine g_iadd X dX10_soonest_96 ?_
            refine g_iald X 1 0 rfl rfl (by omega) (by decide) dX10_soonest_97 (fun t97 e97 => ?_)
            have r97 := r_now_44 (24 + p0 : Int).toNat; rw [← e97] at r97
            refine g_iload_n X dX10_soonest_98 3 rfl ?_
            refine g_icmp_le X (tgt := 106) dX10_soonest_99 (by decide) (by omega) (by omega) (fun c99 => ?_) (fun c99 => ?_)
            · refine g_iconst X dX10_soonest_106 ?_
              refine g_istore X (lv' := [(5, vI 0), (0, .ref h), (1, vI p0), (2, vI p1), (3, vI t39), (4, vI x4_44)]) dX10_soonest_107 (by decide) rfl ?_
              refine g_aload_n X dX10_soonest_109 1 rfl ?_
              refine gM_get X 0 rfl 1 (by decide) uw1180 rfl dX10_soonest_110 ?_
              refine g_aload_n X dX10_soonest_113 1 rfl ?_
              refine gM_get X 0 rfl 0 (by decide) uw1179 rfl dX10_soonest_114 ?_
              refine g_callSV X (c_X10_copies l D cI cB cJ (q 1) (q 0)  r_aside_28 r_now_44) [2, 1] [0, 3, 4, 5, 6, 7, 8, 9, 10, 11, 12, 13, 14, 15, 16, 17, 18, 19, 20, 21, 22, 23, 24, 25, 26, 27, 28, 29, 30, 31, 32, 33, 34, 35, 36, 37, 38, 39, 40, 41, 42, 43, 44, 45, 46, 47, 48] rfl rfl rfl rfl rfl (by decide) cv_X10_copies uw1806 ⟨rfl, rfl, by decide, by decide⟩ rfl rfl (Nat.le_of_ble_eq_true rfl) ⟨Nat.zero_le _, Nat.zero_le _⟩ dX10_soonest_117 (fun ws117 k117 => ?_)
              obtain ⟨now_117, r_now_117, kp0_117, rfl⟩ := k117
              refine g_perm (ws2 := (wX10 cI cB cJ h q v_stalls v_claimMany v_taped v_place0 v_length0 v_fault v_number0 v_open v_codeMany v_waiting v_saidMany v_clauses v_newMany v_newStalls v_lines salesNow_44 outNow_44 v_isKept v_keptStalls now_117 aside_28 v_kept v_oneOf v_otherOf v_signOf v_byOf v_tape v_said v_waitsAt v_saidLetter v_saidFrom v_saidHalf v_saidTo v_codes v_clauseOf v_codeFrom v_codeHalf v_codeTo stack_44 facts_44 v_newOne v_newOther v_newSign v_newBy v_moreOf v_firstOf v_toldOf v_mostOf v_mostThen v_sumTo v_rowFrom v_ordersOf v_lessOf v_weightOf v_rowNow v_slowRow v_fastRow v_lineNow v_firstLine v_freeBy v_heldBy v_heightOf v_upTo v_downTo v_oftenOf v_newUpper v_newLower)) [0, 48, 47, 1, 2, 3, 4, 5, 6, 7, 8, 9, 10, 11, 12, 13, 14, 15, 16, 17, 18, 19, 20, 21, 22, 23, 24, 25, 26, 27, 28, 29, 30, 31, 32, 33, 34, 35, 36, 37, 38, 39, 40, 41, 42, 43, 44, 45, 46] rfl rfl rfl ?_
              refine g_iload X dX10_soonest_120 0 rfl ?_
              refine g_if_eq X (tgt := 130) dX10_soonest_122 (by decide) (by omega) (fun c122 => ?_) (fun c122 => ?_)
              · refine g_bipush X (z := (-2)) dX10_soonest_130 (by decide) ?_
                have hz : now_117 32 = v_now 32 := (kp0_117 32 (by decide)).trans (kp0_28 32 (by decide))
                exact hQ _ _ _ _ dX10_soonest_132 ⟨salesNow_44, outNow_44, now_117, aside_28, stack_44, facts_44, (by omega), (by omega), r_now_117, r_aside_28, r_stack_44, r_facts_44, (by first | assumption | omega), (by first | assumption | omega), rfl⟩
              · refine g_iload X dX10_soonest_125 5 rfl ?_
                refine g_goto X (tgt := 132) dX10_soonest_127 (by decide) ?_
                have hz : now_117 32 = v_now 32 := (kp0_117 32 (by decide)).trans (kp0_28 32 (by decide))
                exact hQ _ _ _ _ dX10_soonest_132 ⟨salesNow_44, outNow_44, now_117, aside_28, stack_44, facts_44, (by omega), (by omega), r_now_117, r_aside_28, r_stack_44, r_facts_44, (by first | assumption | omega), (by first | assumption | omega), rfl⟩
            · refine g_iconst X dX10_soonest_102 ?_
              refine g_goto X (tgt := 107) dX10_soonest_103 (by decide) ?_
              refine g_istore X (lv' := [(5, vI 1), (0, .ref h), (1, vI p0), (2, vI p1), (3, vI t39), (4, vI x4_44)]) dX10_soonest_107 (by decide) rfl ?_
              refine g_aload_n X dX10_soonest_109 1 rfl ?_
              refine gM_get X 0 rfl 1 (by decide) uw1180 rfl dX10_soonest_110 ?_
              refine g_aload_n X dX10_soonest_113 1 rfl ?_
              refine gM_get X 0 rfl 0 (by decide) uw1179 rfl dX10_soonest_114 ?_
              refine g_callSV X (c_X10_copies l D cI cB cJ (q 1) (q 0)  r_aside_28 r_now_44) [2, 1] [0, 3, 4, 5, 6, 7, 8, 9, 10, 11, 12, 13, 14, 15, 16, 17, 18, 19, 20, 21, 22, 23, 24, 25, 26, 27, 28, 29, 30, 31, 32, 33, 34, 35, 36, 37, 38, 39, 40, 41, 42, 43, 44, 45, 46, 47, 48] rfl rfl rfl rfl rfl (by decide) cv_X10_copies uw1806 ⟨rfl, rfl, by decide, by decide⟩ rfl rfl (Nat.le_of_ble_eq_true rfl) ⟨Nat.zero_le _, Nat.zero_le _⟩ dX10_soonest_117 (fun ws117 k117 => ?_)
              obtain ⟨now_117, r_now_117, kp0_117, rfl⟩ := k117
              refine g_perm (ws2 := (wX10 cI cB cJ h q v_stalls v_claimMany v_taped v_place0 v_length0 v_fault v_number0 v_open v_codeMany v_waiting v_saidMany v_clauses v_newMany v_newStalls v_lines salesNow_44 outNow_44 v_isKept v_keptStalls now_117 aside_28 v_kept v_oneOf v_otherOf v_signOf v_byOf v_tape v_said v_waitsAt v_saidLetter v_saidFrom v_saidHalf v_saidTo v_codes v_clauseOf v_codeFrom v_codeHalf v_codeTo stack_44 facts_44 v_newOne v_newOther v_newSign v_newBy v_moreOf v_firstOf v_toldOf v_mostOf v_mostThen v_sumTo v_rowFrom v_ordersOf v_lessOf v_weightOf v_rowNow v_slowRow v_fastRow v_lineNow v_firstLine v_freeBy v_heldBy v_heightOf v_upTo v_downTo v_oftenOf v_newUpper v_newLower)) [0, 48, 47, 1, 2, 3, 4, 5, 6, 7, 8, 9, 10, 11, 12, 13, 14, 15, 16, 17, 18, 19, 20, 21, 22, 23, 24, 25, 26, 27, 28, 29, 30, 31, 32, 33, 34, 35, 36, 37, 38, 39, 40, 41, 42, 43, 44, 45, 46] rfl rfl rfl ?_
              refine g_iload X dX10_soonest_120 0 rfl ?_
              refine g_if_eq X (tgt := 130) dX10_soonest_122 (by decide) (by omega) (fun c122 => ?_) (fun c122 => ?_)
              · refine g_bipush X (z := (-2)) dX10_soonest_130 (by decide) ?_
                have hz : now_117 32 = v_now 32 := (kp0_117 32 (by decide)).trans (kp0_28 32 (by decide))
                exact hQ _ _ _ _ dX10_soonest_132 ⟨salesNow_44, outNow_44, now_117, aside_28, stack_44, facts_44, (by omega), (by omega), r_now_117, r_aside_28, r_stack_44, r_facts_44, (by first | assumption | omega), (by first | assumption | omega), rfl⟩
              · refine g_iload X dX10_soonest_125 5 rfl ?_
                refine g_goto X (tgt := 132) dX10_soonest_127 (by decide) ?_
                have hz : now_117 32 = v_now 32 := (kp0_117 32 (by decide)).trans (kp0_28 32 (by decide))
                exact hQ _ _ _ _ dX10_soonest_132 ⟨salesNow_44, outNow_44, now_117, aside_28, stack_44, facts_44, (by omega), (by omega), r_now_117, r_aside_28, r_stack_44, r_facts_44, (by first | assumption | omega), (by first | assumption | omega), rfl⟩
          · refine g_iload X dX10_soonest_57 4 rfl ?_
            refine g_iload_n X dX10_soonest_59 2 rfl ?_
            refine g_icmp_ge X (tgt := 89) dX10_soonest_60 (by decide) (by omega) (by omega) (fun c60 => ?_) (fun c60 => ?_)
            · refine g_aload_n X dX10_soonest_89 0 rfl ?_
              refine gM_get X 0 rfl 0 (by decide) uw1179 rfl dX10_soonest_90 ?_
              refine g_bipush X (z := 24) dX10_soonest_93 (by decide) ?_
              refine g_iload_n X dX10_soonest_95 1 rfl ?_
              refine g_iadd X dX10_soonest_96 ?_
              refine g_iald X 1 0 rfl rfl (by omega) (by decide) dX10_soonest_97 (fun t97 e97 => ?_)
              have r97 := r_now_44 (24 + p0 : Int).toNat; rw [← e97] at r97
              refine g_iload_n X dX10_soonest_98 3 rfl ?_
              refine g_icmp_le X (tgt := 106) dX10_soonest_99 (by decide) (by omega) (by omega) (fun c99 => ?_) (fun c99 => ?_)
              · refine g_iconst X dX10_soonest_106 ?_
                refine g_istore X (lv' := [(5, vI 0), (0, .ref h), (1, vI p0), (2, vI p1), (3, vI t39), (4, vI x4_44)]) dX10_soonest_107 (by decide) rfl ?_
                refine g_aload_n X dX10_soonest_109 1 rfl ?_
                refine gM_get X 0 rfl 1 (by decide) uw1180 rfl dX10_soonest_110 ?_
                refine g_aload_n X dX10_soonest_113 1 rfl ?_
                refine gM_get X 0 rfl 0 (by decide) uw1179 rfl dX10_soonest_114 ?_
                refine g_callSV X (c_X10_copies l D cI cB cJ (q 1) (q 0)  r_aside_28 r_now_44) [2, 1] [0, 3, 4, 5, 6, 7, 8, 9, 10, 11, 12, 13, 14, 15, 16, 17, 18, 19, 20, 21, 22, 23, 24, 25, 26, 27, 28, 29, 30, 31, 32, 33, 34, 35, 36, 37, 38, 39, 40, 41, 42, 43, 44, 45, 46, 47, 48] rfl rfl rfl rfl rfl (by decide) cv_X10_copies uw1806 ⟨rfl, rfl, by decide, by decide⟩ rfl rfl (Nat.le_of_ble_eq_true rfl) ⟨Nat.zero_le _, Nat.zero_le _⟩ dX10_soonest_117 (fun ws117 k117 => ?_)
                obtain ⟨now_117, r_now_117, kp0_117, rfl⟩ := k117
                refine g_perm (ws2 := (wX10 cI cB cJ h q v_stalls v_claimMany v_taped v_place0 v_length0 v_fault v_number0 v_open v_codeMany v_waiting v_saidMany v_clauses v_newMany v_newStalls v_lines salesNow_44 outNow_44 v_isKept v_keptStalls now_117 aside_28 v_kept v_oneOf v_otherOf v_signOf v_byOf v_tape v_said v_waitsAt v_saidLetter v_saidFrom v_saidHalf v_saidTo v_codes v_clauseOf v_codeFrom v_codeHalf v_codeTo stack_44 facts_44 v_newOne v_newOther v_newSign v_newBy v_moreOf v_firstOf v_toldOf v_mostOf v_mostThen v_sumTo v_rowFrom v_ordersOf v_lessOf v_weightOf v_rowNow v_slowRow v_fastRow v_lineNow v_firstLine v_freeBy v_heldBy v_heightOf v_upTo v_downTo v_oftenOf v_newUpper v_newLower)) [0, 48, 47, 1, 2, 3, 4, 5, 6, 7, 8, 9, 10, 11, 12, 13, 14, 15, 16, 17, 18, 19, 20, 21, 22, 23, 24, 25, 26, 27, 28, 29, 30, 31, 32, 33, 34, 35, 36, 37, 38, 39, 40, 41, 42, 43, 44, 45, 46] rfl rfl rfl ?_
                refine g_iload X dX10_soonest_120 0 rfl ?_
                refine g_if_eq X (tgt := 130) dX10_soonest_122 (by decide) (by omega) (fun c122 => ?_) (fun c122 => ?_)
                · refine g_bipush X (z := (-2)) dX10_soonest_130 (by decide) ?_
                  have hz : now_117 32 = v_now 32 := (kp0_117 32 (by decide)).trans (kp0_28 32 (by decide))
                  exact hQ _ _ _ _ dX10_soonest_132 ⟨salesNow_44, outNow_44, now_117, aside_28, stack_44, facts_44, (by omega), (by omega), r_now_117, r_aside_28, r_stack_44, r_facts_44, (by first | assumption | omega), (by first | assumption | omega), rfl⟩
                · refine g_iload X dX10_soonest_125 5 rfl ?_
                  refine g_goto X (tgt := 132) dX10_soonest_127 (by decide) ?_
                  have hz : now_117 32 = v_now 32 := (kp0_117 32 (by decide)).trans (kp0_28 32 (by decide))
                  exact hQ _ _ _ _ dX10_soonest_132 ⟨salesNow_44, outNow_44, now_117, aside_28, stack_44, facts_44, (by omega), (by omega), r_now_117, r_aside_28, r_stack_44, r_facts_44, (by first | assumption | omega), (by first | assumption | omega), rfl⟩
              · refine g_iconst X dX10_soonest_102 ?_
                refine g_goto X (tgt := 107) dX10_soonest_103 (by decide) ?_
                refine g_istore X (lv' := [(5, vI 1), (0, .ref h), (1, vI p0), (2, vI p1), (3, vI t39), (4, vI x4_44)]) dX10_soonest_107 (by decide) rfl ?_
                refine g_aload_n X dX10_soonest_109 1 rfl ?_
                refine gM_get X 0 rfl 1 (by decide) uw1180 rfl dX10_soonest_110 ?_
                refine g_aload_n X dX10_soonest_113 1 rfl ?_
                refine gM_get X 0 rfl 0 (by decide) uw1179 rfl dX10_soonest_114 ?_
                refine g_callSV X (c_X10_copies l D cI cB cJ (q 1) (q 0)  r_aside_28 r_now_44) [2, 1] [0, 3, 4, 5, 6, 7, 8, 9, 10, 11, 12, 13, 14, 15, 16, 17, 18, 19, 20, 21, 22, 23, 24, 25, 26, 27, 28, 29, 30, 31, 32, 33, 34, 35, 36, 37, 38, 39, 40, 41, 42, 43, 44, 45, 46, 47, 48] rfl rfl rfl rfl rfl (by decide) cv_X10_copies uw1806 ⟨rfl, rfl, by decide, by decide⟩ rfl rfl (Nat.le_of_ble_eq_true rfl) ⟨Nat.zero_le _, Nat.zero_le _⟩ dX10_soonest_117 (fun ws117 k117 => ?_)
                obtain ⟨now_117, r_now_117, kp0_117, rfl⟩ := k117
                refine g_perm (ws2 := (wX10 cI cB cJ h q v_stalls v_claimMany v_taped v_place0 v_length0 v_fault v_number0 v_open v_codeMany v_waiting v_saidMany v_clauses v_newMany v_newStalls v_lines salesNow_44 outNow_44 v_isKept v_keptStalls now_117 aside_28 v_kept v_oneOf v_otherOf v_signOf v_byOf v_tape v_said v_waitsAt v_saidLetter v_saidFrom v_saidHalf v_saidTo v_codes v_clauseOf v_codeFrom v_codeHalf v_codeTo stack_44 facts_44 v_newOne v_newOther v_newSign v_newBy v_moreOf v_firstOf v_toldOf v_mostOf v_mostThen v_sumTo v_rowFrom v_ordersOf v_lessOf v_weightOf v_rowNow v_slowRow v_fastRow v_lineNow v_firstLine v_freeBy v_heldBy v_heightOf v_upTo v_downTo v_oftenOf v_newUpper v_newLower)) [0, 48, 47, 1, 2, 3, 4, 5, 6, 7, 8, 9, 10, 11, 12, 13, 14, 15, 16, 17, 18, 19, 20, 21, 22, 23, 24, 25, 26, 27, 28, 29, 30, 31, 32, 33, 34, 35, 36, 37, 38, 39, 40, 41, 42, 43, 44, 45, 46] rfl rfl rfl ?_
                refine g_iload X dX10_soonest_120 0 rfl ?_
                refine g_if_eq X (tgt := 130) dX10_soonest_122 (by decide) (by omega) (fun c122 => ?_) (fun c122 => ?_)
                · refine g_bipush X (z := (-2)) dX10_soonest_130 (by decide) ?_
                  have hz : now_117 32 = v_now 32 := (kp0_117 32 (by decide)).trans (kp0_28 32 (by decide))
                  exact hQ _ _ _ _ dX10_soonest_132 ⟨salesNow_44, outNow_44, now_117, aside_28, stack_44, facts_44, (by omega), (by omega), r_now_117, r_aside_28, r_stack_44, r_facts_44, (by first | assumption | omega), (by first | assumption | omega), rfl⟩
                · refine g_iload X dX10_soonest_125 5 rfl ?_
                  refine g_goto X (tgt := 132) dX10_soonest_127 (by decide) ?_
                  have hz : now_117 32 = v_now 32 := (kp0_117 32 (by decide)).trans (kp0_28 32 (by decide))
                  exact hQ _ _ _ _ dX10_soonest_132 ⟨salesNow_44, outNow_44, now_117, aside_28, stack_44, facts_44, (by omega), (by omega), r_now_117, r_aside_28, r_stack_44, r_facts_44, (by first | assumption | omega), (by first | assumption | omega), rfl⟩
            · refine g_aload_n X dX10_soonest_63 0 rfl ?_
              refine gM_get X 0 rfl 0 (by decide) uw1179 rfl dX10_soonest_64 ?_
              refine g_bipush X (z := 32) dX10_soonest_67 (by decide) ?_
              refine g_iald X 1 0 rfl rfl (by omega) (by decide) dX10_soonest_69 (fun t69 e69 => ?_)
              have r69 := r_now_44 (32 : Int).toNat; rw [← e69] at r69
              refine g_sipush X (z := 9999) dX10_soonest_70 (by decide) ?_
              refine g_icmp_ge X (tgt := 89) dX10_soonest_73 (by decide) (by omega) (by omega) (fun c73 => ?_) (fun c73 => ?_)
              · refine g_aload_n X dX10_soonest_89 0 rfl ?_
                refine gM_get X 0 rfl 0 (by decide) uw1179 rfl dX10_soonest_90 ?_
                refine g_bipush X (z := 24) dX10_soonest_93 (by decide) ?_
                refine g_iload_n X dX10_soonest_95 1 rfl ?_
                refine g_iadd X dX10_soonest_96 ?_
                refine g_iald X 1 0 rfl rfl (by omega) (by decide) dX10_soonest_97 (fun t97 e97 => ?_)
                have r97 := r_now_44 (24 + p0 : Int).toNat; rw [← e97] at r97
                refine g_iload_n X dX10_soonest_98 3 rfl ?_
                refine g_icmp_le X (tgt := 106) dX10_soonest_99 (by decide) (by omega) (by omega) (fun c99 => ?_) (fun c99 => ?_)
                · refine g_iconst X dX10_soonest_106 ?_
                  refine g_istore X (lv' := [(5, vI 0), (0, .ref h), (1, vI p0), (2, vI p1), (3, vI t39), (4, vI x4_44)]) dX10_soonest_107 (by decide) rfl ?_
                  refine g_aload_n X dX10_soonest_109 1 rfl ?_
                  refine gM_get X 0 rfl 1 (by decide) uw1180 rfl dX10_soonest_110 ?_
                  refine g_aload_n X dX10_soonest_113 1 rfl ?_
                  refine gM_get X 0 rfl 0 (by decide) uw1179 rfl dX10_soonest_114 ?_
                  refine g_callSV X (c_X10_copies l D cI cB cJ (q 1) (q 0)  r_aside_28 r_now_44) [2, 1] [0, 3, 4, 5, 6, 7, 8, 9, 10, 11, 12, 13, 14, 15, 16, 17, 18, 19, 20, 21, 22, 23, 24, 25, 26, 27, 28, 29, 30, 31, 32, 33, 34, 35, 36, 37, 38, 39, 40, 41, 42, 43, 44, 45, 46, 47, 48] rfl rfl rfl rfl rfl (by decide) cv_X10_copies uw1806 ⟨rfl, rfl, by decide, by decide⟩ rfl rfl (Nat.le_of_ble_eq_true rfl) ⟨Nat.zero_le _, Nat.zero_le _⟩ dX10_soonest_117 (fun ws117 k117 => ?_)
                  obtain ⟨now_117, r_now_117, kp0_117, rfl⟩ := k117
                  refine g_perm (ws2 := (wX10 cI cB cJ h q v_stalls v_claimMany v_taped v_place0 v_length0 v_fault v_number0 v_open v_codeMany v_waiting v_saidMany v_clauses v_newMany v_newStalls v_lines salesNow_44 outNow_44 v_isKept v_keptStalls now_117 aside_28 v_kept v_oneOf v_otherOf v_signOf v_byOf v_tape v_said v_waitsAt v_saidLetter v_saidFrom v_saidHalf v_saidTo v_codes v_clauseOf v_codeFrom v_codeHalf v_codeTo stack_44 facts_44 v_newOne v_newOther v_newSign v_newBy v_moreOf v_firstOf v_toldOf v_mostOf v_mostThen v_sumTo v_rowFrom v_ordersOf v_lessOf v_weightOf v_rowNow v_slowRow v_fastRow v_lineNow v_firstLine v_freeBy v_heldBy v_heightOf v_upTo v_downTo v_oftenOf v_newUpper v_newLower)) [0, 48, 47, 1, 2, 3, 4, 5, 6, 7, 8, 9, 10, 11, 12, 13, 14, 15, 16, 17, 18, 19, 20, 21, 22, 23, 24, 25, 26, 27, 28, 29, 30, 31, 32, 33, 34, 35, 36, 37, 38, 39, 40, 41, 42, 43, 44, 45, 46] rfl rfl rfl ?_
                  refine g_iload X dX10_soonest_120 0 rfl ?_
                  refine g_if_eq X (tgt := 130) dX10_soonest_122 (by decide) (by omega) (fun c122 => ?_) (fun c122 => ?_)
                  · refine g_bipush X (z := (-2)) dX10_soonest_130 (by decide) ?_
                    have hz : now_117 32 = v_now 32 := (kp0_117 32 (by decide)).trans (kp0_28 32 (by decide))
                    exact hQ _ _ _ _ dX10_soonest_132 ⟨salesNow_44, outNow_44, now_117, aside_28, stack_44, facts_44, (by omega), (by omega), r_now_117, r_aside_28, r_stack_44, r_facts_44, (by first | assumption | omega), (by first | assumption | omega), rfl⟩
                  · refine g_iload X dX10_soonest_125 5 rfl ?_
                    refine g_goto X (tgt := 132) dX10_soonest_127 (by decide) ?_
                    have hz : now_117 32 = v_now 32 := (kp0_117 32 (by decide)).trans (kp0_28 32 (by decide))
                    exact hQ _ _ _ _ dX10_soonest_132 ⟨salesNow_44, outNow_44, now_117, aside_28, stack_44, facts_44, (by omega), (by omega), r_now_117, r_aside_28, r_stack_44, r_facts_44, (by first | assumption | omega), (by first | assumption | omega), rfl⟩
                · refine g_iconst X dX10_soonest_102 ?_
                  refine g_goto X (tgt := 107) dX10_soonest_103 (by decide) ?_
                  refine g_istore X (lv' := [(5, vI 1), (0, .ref h), (1, vI p0), (2, vI p1), (3, vI t39), (4, vI x4_44)]) dX10_soonest_107 (by decide) rfl ?_
                  refine g_aload_n X dX10_soonest_109 1 rfl ?_
                  refine gM_get X 0 rfl 1 (by decide) uw1180 rfl dX10_soonest_110 ?_
                  refine g_aload_n X dX10_soonest_113 1 rfl ?_
                  refine gM_get X 0 rfl 0 (by decide) uw1179 rfl dX10_soonest_114 ?_
                  refine g_callSV X (c_X10_copies l D cI cB cJ (q 1) (q 0)  r_aside_28 r_now_44) [2, 1] [0, 3, 4, 5, 6, 7, 8, 9, 10, 11, 12, 13, 14, 15, 16, 17, 18, 19, 20, 21, 22, 23, 24, 25, 26, 27, 28, 29, 30, 31, 32, 33, 34, 35, 36, 37, 38, 39, 40, 41, 42, 43, 44, 45, 46, 47, 48] rfl rfl rfl rfl rfl (by decide) cv_X10_copies uw1806 ⟨rfl, rfl, by decide, by decide⟩ rfl rfl (Nat.le_of_ble_eq_true rfl) ⟨Nat.zero_le _, Nat.zero_le _⟩ dX10_soonest_117 (fun ws117 k117 => ?_)
                  obtain ⟨now_117, r_now_117, kp0_117, rfl⟩ := k117
                  refine g_perm (ws2 := (wX10 cI cB cJ h q v_stalls v_claimMany v_taped v_place0 v_length0 v_fault v_number0 v_open v_codeMany v_waiting v_saidMany v_clauses v_newMany v_newStalls v_lines salesNow_44 outNow_44 v_isKept v_keptStalls now_117 aside_28 v_kept v_oneOf v_otherOf v_signOf v_byOf v_tape v_said v_waitsAt v_saidLetter v_saidFrom v_saidHalf v_saidTo v_codes v_clauseOf v_codeFrom v_codeHalf v_codeTo stack_44 facts_44 v_newOne v_newOther v_newSign v_newBy v_moreOf v_firstOf v_toldOf v_mostOf v_mostThen v_sumTo v_rowFrom v_ordersOf v_lessOf v_weightOf v_rowNow v_slowRow v_fastRow v_lineNow v_firstLine v_freeBy v_heldBy v_heightOf v_upTo v_downTo v_oftenOf v_newUpper v_newLower)) [0, 48, 47, 1, 2, 3, 4, 5, 6, 7, 8, 9, 10, 11, 12, 13, 14, 15, 16, 17, 18, 19, 20, 21, 22, 23, 24, 25, 26, 27, 28, 29, 30, 31, 32, 33, 34, 35, 36, 37, 38, 39, 40, 41, 42, 43, 44, 45, 46] rfl rfl rfl ?_
                  refine g_iload X dX10_soonest_120 0 rfl ?_
                  refine g_if_eq X (tgt := 130) dX10_soonest_122 (by decide) (by omega) (fun c122 => ?_) (fun c122 => ?_)
                  · refine g_bipush X (z := (-2)) dX10_soonest_130 (by decide) ?_
                    have hz : now_117 32 = v_now 32 := (kp0_117 32 (by decide)).trans (kp0_28 32 (by decide))
                    exact hQ _ _ _ _ dX10_soonest_132 ⟨salesNow_44, outNow_44, now_117, aside_28, stack_44, facts_44, (by omega), (by omega), r_now_117, r_aside_28, r_stack_44, r_facts_44, (by first | assumption | omega), (by first | assumption | omega), rfl⟩
                  · refine g_iload X dX10_soonest_125 5 rfl ?_
                    refine g_goto X (tgt := 132) dX10_soonest_127 (by decide) ?_
                    have hz : now_117 32 = v_now 32 := (kp0_117 32 (by decide)).trans (kp0_28 32 (by decide))
                    exact hQ _ _ _ _ dX10_soonest_132 ⟨salesNow_44, outNow_44, now_117, aside_28, stack_44, facts_44, (by omega), (by omega), r_now_117, r_aside_28, r_stack_44, r_facts_44, (by first | assumption | omega), (by first | assumption | omega), rfl⟩
              · refine g_aload_n X dX10_soonest_76 0 rfl ?_
                refine g_callVV0 X (c_X10_dayGoes l D cI cB cJ h q  (by omega) (by omega) (by omega) (by omega) r_now_44 r_v_codes r_v_clauseOf r_v_codeFrom r_v_codeHalf r_v_codeTo r_stack_44 r_facts_44 (by first | assumption | omega)) cv_X10_dayGoes uw1761 ⟨rfl, rfl, by decide, by decide⟩ 0 rfl rfl rfl rfl rfl (Nat.le_of_ble_eq_true rfl) ⟨Nat.zero_le _, Nat.zero_le _⟩ dX10_soonest_77 (fun ws77 k77 => ?_)
                obtain ⟨salesNow_77, outNow_77, now_77, stack_77, facts_77, kr_salesNow_77, kr_outNow_77, r_now_77, r_stack_77, r_facts_77, kp0_77, rfl⟩ := k77
                refine g_iload X dX10_soonest_80 4 rfl ?_
                refine g_iconst X dX10_soonest_82 ?_
                refine g_iadd X dX10_soonest_83 ?_
                refine g_istore X (lv' := [(4, vI (x4_44 + 1)), (0, .ref h), (1, vI p0), (2, vI p1), (3, vI t39)]) dX10_soonest_84 (by decide) rfl ?_
                refine g_goto X (tgt := 44) dX10_soonest_86 (by decide) ?_
                refine g_lv [1, 2, 3, 4, 0] rfl ?_
                exact ih44 (x4_44 + 1) salesNow_77 outNow_77 now_77 stack_77 facts_77 (by omega) (by omega) r_now_77 r_stack_77 r_facts_77 (by first | assumption | omega) (by omega)
      refine g_lv [2, 3, 4, 1, 0] rfl ?_
      exact L44 _ 0 v_salesNow v_outNow v_now v_stack v_facts (by omega) (by omega) r_v_now r_v_stack r_v_facts (by first | assumption | omega) (Nat.lt_succ_self _)
    · clear kb_12
      replace kp0_12 := (kp0_12.resolve_left (fun h => absurd h.1 (by omega))).2
      refine g_iconst X dX10_soonest_18 ?_
      exact hQ _ _ _ _ dX10_soonest_19 ⟨v_salesNow, v_outNow, v_now, v_aside, v_stack, v_facts, (by omega), (by omega), r_v_now, r_v_aside, r_v_stack, r_v_facts, (by first | assumption | omega), (by first | assumption | omega), rfl⟩
