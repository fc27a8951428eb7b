set_option maxHeartbeats 4000000 in
set_option maxRecDepth 100000 in
theorem c_X10_tried (l : Launch) (D : va_G) (cI cB cJ : ClassId) (h : Nat) (q : Nat → Nat) {v_stalls v_claimMany v_taped v_place0 v_length0 v_fault v_number0 v_open v_codeMany v_waiting v_saidMany v_clauses v_newMany v_newStalls v_lines v_salesNow v_outNow v_isKept v_keptStalls : Int} {v_now v_aside v_kept v_oneOf v_otherOf v_signOf v_byOf v_tape v_said v_waitsAt v_saidLetter v_saidFrom v_saidHalf v_saidTo v_codes v_clauseOf v_codeFrom v_codeHalf v_codeTo v_stack v_facts v_newOne v_newOther v_newSign v_newBy v_moreOf v_firstOf v_toldOf v_mostOf v_mostThen v_sumTo v_rowFrom v_ordersOf v_lessOf v_weightOf v_rowNow v_slowRow v_fastRow v_lineNow v_firstLine v_freeBy v_heldBy v_heightOf v_upTo v_downTo v_oftenOf v_newUpper v_newLower : Nat → Int} {p0 p1 : Int} (kr_v_stalls : 0 ≤ v_stalls ∧ v_stalls ≤ 255) (kr_v_clauses : 0 ≤ v_clauses ∧ v_clauses ≤ 16) (kr_v_salesNow : (-2147483648) ≤ v_salesNow ∧ v_salesNow ≤ 2147483647) (kr_v_outNow : (-2147483648) ≤ v_outNow ∧ v_outNow ≤ 2147483647) (r_v_now : RA (-2147483648) 2147483647 v_now) (r_v_aside : RA (-2147483648) 2147483647 v_aside) (r_v_codes : RA 0 16777215 v_codes) (r_v_clauseOf : RA (-2147483648) 2147483647 v_clauseOf) (r_v_codeFrom : RA 0 260 v_codeFrom) (r_v_codeHalf : RA 0 260 v_codeHalf) (r_v_codeTo : RA 0 260 v_codeTo) (r_v_stack : RA (-2147483648) 2147483647 v_stack) (r_v_facts : RA (-2147483648) 2147483647 v_facts) (hp0 : IR p0) (hp1 : IR p1) (hp2 : LawOK v_codes v_clauses v_codeFrom v_codeHalf v_codeTo) (hp3 : 0 ≤ v_now 32 ∧ v_now 32 ≤ 9999) : CtI l yX10_tried cX10_tried 4 (some .int) ⟨7, 0, 0, 156⟩ D (TY cI cB cJ) (wX10 cI cB cJ h q v_stalls v_claimMany v_taped v_place0 v_length0 v_fault v_number0 v_open v_codeMany v_waiting v_saidMany v_clauses v_newMany v_newStalls v_lines v_salesNow v_outNow v_isKept v_keptStalls v_now v_aside v_kept v_oneOf v_otherOf v_signOf v_byOf v_tape v_said v_waitsAt v_saidLetter v_saidFrom v_saidHalf v_saidTo v_codes v_clauseOf v_codeFrom v_codeHalf v_codeTo v_stack v_facts v_newOne v_newOther v_newSign v_newBy v_moreOf v_firstOf v_toldOf v_mostOf v_mostThen v_sumTo v_rowFrom v_ordersOf v_lessOf v_weightOf v_rowNow v_slowRow v_fastRow v_lineNow v_firstLine v_freeBy v_heldBy v_heightOf v_upTo v_downTo v_oftenOf v_newUpper v_newLower) [.ref h, vI p0, vI p1] (fun z ws' => ∃ n_salesNow : Int, ∃ n_outNow : Int, ∃ n_now : Nat → Int, ∃ n_aside : Nat → Int, ∃ n_stack : Nat → Int, ∃ n_facts : Nat → Int, ((-2147483648) ≤ n_salesNow ∧ n_salesNow ≤ 2147483647) ∧ ((-2147483648) ≤ n_outNow ∧ n_outNow ≤ 2147483647) ∧ (RA (-2147483648) 2147483647 n_now) ∧ (RA (-2147483648) 2147483647 n_aside) ∧ (RA (-2147483648) 2147483647 n_stack) ∧ (RA (-2147483648) 2147483647 n_facts) ∧ (IR z) ∧ (n_now 32 = v_now 32) ∧ (ws' = (wX10 cI cB cJ h q v_stalls v_claimMany v_taped v_place0 v_length0 v_fault v_number0 v_open v_codeMany v_waiting v_saidMany v_clauses v_newMany v_newStalls v_lines n_salesNow n_outNow v_isKept v_keptStalls n_now n_aside v_kept v_oneOf v_otherOf v_signOf v_byOf v_tape v_said v_waitsAt v_saidLetter v_saidFrom v_saidHalf v_saidTo v_codes v_clauseOf v_codeFrom v_codeHalf v_codeTo n_stack n_facts v_newOne v_newOther v_newSign v_newBy v_moreOf v_firstOf v_toldOf v_mostOf v_mostThen v_sumTo v_rowFrom v_ordersOf v_lessOf v_weightOf v_rowNow v_slowRow v_fastRow v_lineNow v_firstLine v_freeBy v_heldBy v_heightOf v_upTo v_downTo v_oftenOf v_newUpper v_newLower))) := by
  refine hdrI (own := RX10) rfl (by decide +kernel) (Nat.le_of_ble_eq_true rfl) ?_
  intro p e s m args below meth c Q A X hQ
  refine g_lvE (lv2 := [(0, .ref h), (1, vI p0), (2, vI p1)]) rfl ?_
  refine g_iload_n X dX10_tried_0 1 rfl ?_
  refine g_iconst X dX10_tried_1 ?_
  refine g_bipush X (z := 100) dX10_tried_2 (by decide) ?_
  refine g_callSIE X (c_X10_in l D cI cB cJ (p0 := p0) (p1 := 1) (p2 := 100) (by first | assumption | omega) (by first | assumption | omega) (by first | assumption | omega)) cv_X10_in uw1394 ⟨rfl, rfl, by decide, by decide⟩ rfl rfl (Nat.le_of_ble_eq_true rfl) ⟨Nat.zero_le _, Nat.zero_le _⟩ dX10_tried_4 (fun t4 ws4 k4 => ?_)
  obtain ⟨kb_4, ⟨kp0_4, rfl⟩⟩ := k4
  refine g_if_eq X (tgt := 41) dX10_tried_7 (by decide) (by omega) (fun c7 => ?_) (fun c7 => ?_)
  · clear kb_4
    replace kp0_4 := (kp0_4.resolve_left (fun h => absurd h.1 (by omega))).2
    refine g_iconst X dX10_tried_41 ?_
    exact hQ _ _ _ _ dX10_tried_42 ⟨v_salesNow, v_outNow, v_now, v_aside, v_stack, v_facts, (by omega), (by omega), r_v_now, r_v_aside, r_v_stack, r_v_facts, (by first | assumption | omega), (by first | assumption | omega), rfl⟩
  · replace kb_4 := kb_4.resolve_left (fun h => c7 h)
    replace kp0_4 := kp0_4.resolve_right (fun h => c7 h.1)
    have J43 : ((0 ≤ p1 ∧ p1 ≤ 2) ∨ (10 ≤ p1 ∧ p1 ≤ 17) ∨ (20 ≤ p1 ∧ p1 ≤ 27)) → GG p l e ⟨7, 0, 0, 156⟩ s m args below meth c 0 0 Q D A s.heap 4 (wX10 cI cB cJ h q v_stalls v_claimMany v_taped v_place0 v_length0 v_fault v_number0 v_open v_codeMany v_waiting v_saidMany v_clauses v_newMany v_newStalls v_lines v_salesNow v_outNow v_isKept v_keptStalls v_now v_aside v_kept v_oneOf v_otherOf v_signOf v_byOf v_tape v_said v_waitsAt v_saidLetter v_saidFrom v_saidHalf v_saidTo v_codes v_clauseOf v_codeFrom v_codeHalf v_codeTo v_stack v_facts v_newOne v_newOther v_newSign v_newBy v_moreOf v_firstOf v_toldOf v_mostOf v_mostThen v_sumTo v_rowFrom v_ordersOf v_lessOf v_weightOf v_rowNow v_slowRow v_fastRow v_lineNow v_firstLine v_freeBy v_heldBy v_heightOf v_upTo v_downTo v_oftenOf v_newUpper v_newLower) 43 [(0, .ref h), (1, vI p0), (2, vI p1)] [] := by
      intro w43_0
      refine g_aload_n X dX10_tried_43 0 rfl ?_
      refine gM_get X 0 rfl 0 (by decide) uw1179 rfl dX10_tried_44 ?_
      refine g_aload_n X dX10_tried_47 0 rfl ?_
      refine gM_get X 0 rfl 1 (by decide) uw1180 rfl dX10_tried_48 ?_
      refine g_callSVw X (c_X10_copies l D cI cB cJ (q 0) (q 1)  r_v_now r_v_aside) [1, 2] rfl rfl rfl cv_X10_copies uw1806 ⟨rfl, rfl, by decide, by decide⟩ rfl rfl (Nat.le_of_ble_eq_true rfl) ⟨Nat.zero_le _, Nat.zero_le _⟩ dX10_tried_51 (fun ws51 k51 => ?_)
      obtain ⟨aside_51, r_aside_51, kp0_51, rfl⟩ := k51
      refine ⟨rfl, ?_⟩
      refine g_ws (ws2 := (wX10 cI cB cJ h q v_stalls v_claimMany v_taped v_place0 v_length0 v_fault v_number0 v_open v_codeMany v_waiting v_saidMany v_clauses v_newMany v_newStalls v_lines v_salesNow v_outNow v_isKept v_keptStalls v_now aside_51 v_kept v_oneOf v_otherOf v_signOf v_byOf v_tape v_said v_waitsAt v_saidLetter v_saidFrom v_saidHalf v_saidTo v_codes v_clauseOf v_codeFrom v_codeHalf v_codeTo v_stack v_facts v_newOne v_newOther v_newSign v_newBy v_moreOf v_firstOf v_toldOf v_mostOf v_mostThen v_sumTo v_rowFrom v_ordersOf v_lessOf v_weightOf v_rowNow v_slowRow v_fastRow v_lineNow v_firstLine v_freeBy v_heldBy v_heightOf v_upTo v_downTo v_oftenOf v_newUpper v_newLower)) rfl ?_
      refine g_aload_n X dX10_tried_54 0 rfl ?_
      refine g_iload_n X dX10_tried_55 1 rfl ?_
      refine g_callVV0 X (c_X10_daysGo l D cI cB cJ h q (p0 := p0) (by omega) (by omega) (by omega) (by omega) r_v_now r_v_codes r_v_clauseOf r_v_codeFrom r_v_codeHalf r_v_codeTo r_v_stack r_v_facts (by first | assumption | omega) (by first | assumption | omega) (by first | assumption | omega) (by first | assumption | omega)) cv_X10_daysGo uw1757 ⟨rfl, rfl, by decide, by decide⟩ 0 rfl rfl rfl rfl rfl (Nat.le_of_ble_eq_true rfl) ⟨Nat.zero_le _, Nat.zero_le _⟩ dX10_tried_56 (fun ws56 k56 => ?_)
      obtain ⟨salesNow_56, outNow_56, now_56, stack_56, facts_56, kr_salesNow_56, kr_outNow_56, r_now_56, r_stack_56, r_facts_56, kp0_56, rfl⟩ := k56
      refine g_iload_n X dX10_tried_59 2 rfl ?_
      refine g_nm (fun sw60 es60 => ?_)
      rcases (show sw60 = 0 ∨ sw60 = 1 ∨ sw60 = 2 ∨ (sw60 < 0 ∨ 2 < sw60) by omega) with hs60 | hs60 | hs60 | hs60
      · rw [hs60]
        refine g_tab X (off := 28) (tgt := 88) dX10_tried_60 (by omega) (by omega) rfl (by decide) ?_
        refine g_aload_n X dX10_tried_88 0 rfl ?_
        refine gM_get X 0 rfl 63 (by decide) uw1242 rfl dX10_tried_89 ?_
        refine g_istore_n X (lv' := [(3, vI salesNow_56), (0, .ref h), (1, vI p0), (2, vI p1)]) dX10_tried_92 (by decide) rfl ?_
        refine g_goto X (tgt := 142) dX10_tried_93 (by decide) ?_
        refine g_aload_n X dX10_tried_142 1 rfl ?_
        refine gM_get X 0 rfl 1 (by decide) uw1180 rfl dX10_tried_143 ?_
        refine g_aload_n X dX10_tried_146 1 rfl ?_
        refine gM_get X 0 rfl 0 (by decide) uw1179 rfl dX10_tried_147 ?_
        refine g_callSVw X (c_X10_copies l D cI cB cJ (q 1) (q 0)  r_aside_51 r_now_56) [2, 1] rfl rfl rfl cv_X10_copies uw1806 ⟨rfl, rfl, by decide, by decide⟩ rfl rfl (Nat.le_of_ble_eq_true rfl) ⟨Nat.zero_le _, Nat.zero_le _⟩ dX10_tried_150 (fun ws150 k150 => ?_)
        obtain ⟨now_150, r_now_150, kp0_150, rfl⟩ := k150
        refine ⟨rfl, ?_⟩
        refine g_ws (ws2 := (wX10 cI cB cJ h q v_stalls v_claimMany v_taped v_place0 v_length0 v_fault v_number0 v_open v_codeMany v_waiting v_saidMany v_clauses v_newMany v_newStalls v_lines salesNow_56 outNow_56 v_isKept v_keptStalls now_150 aside_51 v_kept v_oneOf v_otherOf v_signOf v_byOf v_tape v_said v_waitsAt v_saidLetter v_saidFrom v_saidHalf v_saidTo v_codes v_clauseOf v_codeFrom v_codeHalf v_codeTo stack_56 facts_56 v_newOne v_newOther v_newSign v_newBy v_moreOf v_firstOf v_toldOf v_mostOf v_mostThen v_sumTo v_rowFrom v_ordersOf v_lessOf v_weightOf v_rowNow v_slowRow v_fastRow v_lineNow v_firstLine v_freeBy v_heldBy v_heightOf v_upTo v_downTo v_oftenOf v_newUpper v_newLower)) rfl ?_
        refine g_iload_n X dX10_tried_153 0 rfl ?_
        have hz : now_150 32 = v_now 32 := (kp0_150 32 (by decide)).trans (kp0_51 32 (by decide))
        exact hQ _ _ _ _ dX10_tried_154 ⟨salesNow_56, outNow_56, now_150, aside_51, stack_56, facts_56, (by omega), (by omega), r_now_150, r_aside_51, r_stack_56, r_facts_56, (by first | assumption | omega), (by first | assumption | omega), rfl⟩
      · rw [hs60]
        refine g_tab X (off := 36) (tgt := 96) dX10_tried_60 (by omega) (by omega) rfl (by decide) ?_
        refine g_aload_n X dX10_tried_96 0 rfl ?_
        refine g_callVI0 X (c_X10_moneyOfAll l D cI cB cJ h q  (by omega) r_now_56) cv_X10_moneyOfAll uw1809 ⟨rfl, rfl, by decide, by decide⟩ 0 rfl rfl rfl rfl rfl (Nat.le_of_ble_eq_true rfl) ⟨Nat.zero_le _, Nat.zero_le _⟩ dX10_tried_97 (fun t97 ws97 k97 => ?_)
        obtain ⟨kp0_97, rfl⟩ := k97
        refine g_istore_n X (lv' := [(3, vI t97), (0, .ref h), (1, vI p0), (2, vI p1)]) dX10_tried_100 (by decide) rfl ?_
        refine g_goto X (tgt := 142) dX10_tried_101 (by decide) ?_
        refine g_aload_n X dX10_tried_142 1 rfl ?_
        refine gM_get X 0 rfl 1 (by decide) uw1180 rfl dX10_tried_143 ?_
        refine g_aload_n X dX10_tried_146 1 rfl ?_
        refine gM_get X 0 rfl 0 (by decide) uw1179 rfl dX10_tried_147 ?_
        refine g_callSVw X (c_X10_copies l D cI cB cJ (q 1) (q 0)  r_aside_51 r_now_56) [2, 1] rfl rfl rfl cv_X10_copies uw1806 ⟨rfl, rfl, by decide, by decide⟩ rfl rfl (Nat.le_of_ble_eq_true rfl) ⟨Nat.zero_le _, Nat.zero_le _⟩ dX10_tried_150 (fun ws150 k150 => ?_)
        obtain ⟨now_150, r_now_150, kp0_150, rfl⟩ := k150
        refine ⟨rfl, ?_⟩
        refine g_ws (ws2 := (wX10 cI cB cJ h q v_stalls v_claimMany v_taped v_place0 v_length0 v_fault v_number0 v_open v_codeMany v_waiting v_saidMany v_clauses v_newMany v_newStalls v_lines salesNow_56 outNow_56 v_isKept v_keptStalls now_150 aside_51 v_kept v_oneOf v_otherOf v_signOf v_byOf v_tape v_said v_waitsAt v_saidLetter v_saidFrom v_saidHalf v_saidTo v_codes v_clauseOf v_codeFrom v_codeHalf v_codeTo stack_56 facts_56 v_newOne v_newOther v_newSign v_newBy v_moreOf v_firstOf v_toldOf v_mostOf v_mostThen v_sumTo v_rowFrom v_ordersOf v_lessOf v_weightOf v_rowNow v_slowRow v_fastRow v_lineNow v_firstLine v_freeBy v_heldBy v_heightOf v_upTo v_downTo v_oftenOf v_newUpper v_newLower)) rfl ?_
        refine g_iload_n X dX10_tried_153 0 rfl ?_
        have hz : now_150 32 = v_now 32 := (kp0_150 32 (by decide)).trans (kp0_51 32 (by decide))
        exact hQ _ _ _ _ dX10_tried_154 ⟨salesNow_56, outNow_56, now_150, aside_51, stack_56, facts_56, (by omega), (by omega), r_now_150, r_aside_51, r_stack_56, r_facts_56, (by first | assumption | omega), (by first | assumption | omega), rfl⟩
      · rw [hs60]
        refine g_tab X (off := 44) (tgt := 104) dX10_tried_60 (by omega) (by omega) rfl (by decide) ?_
        refine g_aload_n X dX10_tried_104 0 rfl ?_
        refine gM_get X 0 rfl 64 (by decide) uw1243 rfl dX10_tried_105 ?_
        refine g_istore_n X (lv' := [(3, vI outNow_56), (0, .ref h), (1, vI p0), (2, vI p1)]) dX10_tried_108 (by decide) rfl ?_
        refine g_goto X (tgt := 142) dX10_tried_109 (by decide) ?_
        refine g_aload_n X dX10_tried_142 1 rfl ?_
        refine gM_get X 0 rfl 1 (by decide) uw1180 rfl dX10_tried_143 ?_
        refine g_aload_n X dX10_tried_146 1 rfl ?_
        refine gM_get X 0 rfl 0 (by decide) uw1179 rfl dX10_tried_147 ?_
        refine g_callSVw X (c_X10_copies l D cI cB cJ (q 1) (q 0)  r_aside_51 r_now_56) [2, 1] rfl rfl rfl cv_X10_copies uw1806 ⟨rfl, rfl, by decide, by decide⟩ rfl rfl (Nat.le_of_ble_eq_true rfl) ⟨Nat.zero_le _, Nat.zero_le _⟩ dX10_tried_150 (fun ws150 k150 => ?_)
        obtain ⟨now_150, r_now_150, kp0_150, rfl⟩ := k150
        refine ⟨rfl, ?_⟩
        refine g_ws (ws2 := (wX10 cI cB cJ h q v_stalls v_claimMany v_taped v_place0 v_length0 v_fault v_number0 v_open v_codeMany v_waiting v_saidMany v_clauses v_newMany v_newStalls v_lines salesNow_56 outNow_56 v_isKept v_keptStalls now_150 aside_51 v_kept v_oneOf v_otherOf v_signOf v_byOf v_tape v_said v_waitsAt v_saidLetter v_saidFrom v_saidHalf v_saidTo v_codes v_clauseOf v_codeFrom v_codeHalf v_codeTo stack_56 facts_56 v_newOne v_newOther v_newSign v_newBy v_moreOf v_firstOf v_toldOf v_mostOf v_mostThen v_sumTo v_rowFrom v_ordersOf v_lessOf v_weightOf v_rowNow v_slowRow v_fastRow v_lineNow v_firstLine v_freeBy v_heldBy v_heightOf v_upTo v_downTo v_oftenOf v_newUpper v_newLower)) rfl ?_
        refine g_iload_n X dX10_tried_153 0 rfl ?_
        have hz : now_150 32 = v_now 32 := (kp0_150 32 (by decide)).trans (kp0_51 32 (by decide))
        exact hQ _ _ _ _ dX10_tried_154 ⟨salesNow_56, outNow_56, now_150, aside_51, stack_56, facts_56, (by omega), (by omega), r_now_150, r_aside_51, r_stack_56, r_facts_56, (by first | assumption | omega), (by first | assumption | omega), rfl⟩
      · refine g_tabD X (tgt := 112) dX10_tried_60 (by omega) hs60 (by decide) ?_
        refine g_iload_n X dX10_tried_112 2 rfl ?_
        refine g_bipush X (z := 20) dX10_tried_113 (by decide) ?_
        refine g_icmp_ge X (tgt := 129) dX10_tried_115 (by decide) (by omega) (by omega) (fun c115 => ?_) (fun c115 => ?_)
        · refine g_aload_n X dX10_tried_129 0 rfl ?_
          refine gM_get X 0 rfl 0 (by decide) uw1179 rfl dX10_tried_130 ?_
          refine g_bipush X (z := 16) dX10_tried_133 (by decide) ?_
          refine g_iload_n X dX10_tried_135 2 rfl ?_
          refine g_iadd X dX10_tried_136 ?_
          refine g_bipush X (z := 20) dX10_tried_137 (by decide) ?_
          refine g_isub X dX10_tried_139 ?_
          refine g_iald X 1 0 rfl rfl (by omega) (by decide) dX10_tried_140 (fun t140 e140 => ?_)
          have r140 := r_now_56 ((16 + p1) - 20 : Int).toNat; rw [← e140] at r140
          refine g_istore_n X (lv' := [(3, vI t140), (0, .ref h), (1, vI p0), (2, vI p1)]) dX10_tried_141 (by decide) rfl ?_
          refine g_aload_n X dX10_tried_142 1 rfl ?_
          refine gM_get X 0 rfl 1 (by decide) uw1180 rfl dX10_tried_143 ?_
          refine g_aload_n X dX10_tried_146 1 rfl ?_
          refine gM_get X 0 rfl 0 (by decide) uw1179 rfl dX10_tried_147 ?_
          refine g_callSVw X (c_X10_copies l D cI cB cJ (q 1) (q 0)  r_aside_51 r_now_56) [2, 1] rfl rfl rfl cv_X10_copies uw1806 ⟨rfl, rfl, by decide, by decide⟩ rfl rfl (Nat.le_of_ble_eq_true rfl) ⟨Nat.zero_le _, Nat.zero_le _⟩ dX10_tried_150 (fun ws150 k150 => ?_)
          obtain ⟨now_150, r_now_150, kp0_150, rfl⟩ := k150
          refine ⟨rfl, ?_⟩
          refine g_ws (ws2 := (wX10 cI cB cJ h q v_stalls v_claimMany v_taped v_place0 v_length0 v_fault v_number0 v_open v_codeMany v_waiting v_saidMany v_clauses v_newMany v_newStalls v_lines salesNow_56 outNow_56 v_isKept v_keptStalls now_150 aside_51 v_kept v_oneOf v_otherOf v_signOf v_byOf v_tape v_said v_waitsAt v_saidLetter v_saidFrom v_saidHalf v_saidTo v_codes v_clauseOf v_codeFrom v_codeHalf v_codeTo stack_56 facts_56 v_newOne v_newOther v_newSign v_newBy v_moreOf v_firstOf v_toldOf v_mostOf v_mostThen v_sumTo v_rowFrom v_ordersOf v_lessOf v_weightOf v_rowNow v_slowRow v_fastRow v_lineNow v_firstLine v_freeBy v_heldBy v_heightOf v_upTo v_downTo v_oftenOf v_newUpper v_newLower)) rfl ?_
          refine g_iload_n X dX10_tried_153 0 rfl ?_
          have hz : now_150 32 = v_now 32 := (kp0_150 32 (by decide)).trans (kp0_51 32 (by decide))
          exact hQ _ _ _ _ dX10_tried_154 ⟨salesNow_56, outNow_56, now_150, aside_51, stack_56, facts_56, (by omega), (by omega), r_now_150, r_aside_51, r_stack_56, r_facts_56, (by first | assumption | omega), (by first | assumption | omega), rfl⟩
        · refine g_aload_n X dX10_tried_118 0 rfl ?_
          refine g_iload_n X dX10_tried_119 2 rfl ?_
          refine g_bipush X (z := 10) dX10_tried_120 (by decide) ?_
          refine g_isub X dX10_tried_122 ?_
          refine g_callVI0 X (c_X10_between l D cI cB cJ h q (p0 := p1 - 10) r_now_56 (by first | assumption | omega) (by first | assumption | omega)) cv_X10_between uw1774 ⟨rfl, rfl, by decide, by decide⟩ 0 rfl rfl rfl rfl rfl (Nat.le_of_ble_eq_true rfl) ⟨Nat.zero_le _, Nat.zero_le _⟩ dX10_tried_123 (fun t123 ws123 k123 => ?_)
          obtain ⟨kp0_123, rfl⟩ := k123
          refine g_goto X (tgt := 141) dX10_tried_126 (by decide) ?_
          refine g_istore_n X (lv' := [(3, vI t123), (0, .ref h), (1, vI p0), (2, vI p1)]) dX10_tried_141 (by decide) rfl ?_
          refine g_aload_n X dX10_tried_142 1 rfl ?_
          refine gM_get X 0 rfl 1 (by decide) uw1180 rfl dX10_tried_143 ?_
          refine g_aload_n X dX10_tried_146 1 rfl ?_
          refine gM_get X 0 rfl 0 (by decide) uw1179 rfl dX10_tried_147 ?_
          refine g_callSVw X (c_X10_copies l D cI cB cJ (q 1) (q 0)  r_aside_51 r_now_56) [2, 1] rfl rfl rfl cv_X10_copies uw1806 ⟨rfl, rfl, by decide, by decide⟩ rfl rfl (Nat.le_of_ble_eq_true rfl) ⟨Nat.zero_le _, Nat.zero_le _⟩ dX10_tried_150 (fun ws150 k150 => ?_)
          obtain ⟨now_150, r_now_150, kp0_150, rfl⟩ := k150
          refine ⟨rfl, ?_⟩
          refine g_ws (ws2 := (wX10 cI cB cJ h q v_stalls v_claimMany v_taped v_place0 v_length0 v_fault v_number0 v_open v_codeMany v_waiting v_saidMany v_clauses v_newMany v_newStalls v_lines salesNow_56 outNow_56 v_isKept v_keptStalls now_150 aside_51 v_kept v_oneOf v_otherOf v_signOf v_byOf v_tape v_said v_waitsAt v_saidLetter v_saidFrom v_saidHalf v_saidTo v_codes v_clauseOf v_codeFrom v_codeHalf v_codeTo stack_56 facts_56 v_newOne v_newOther v_newSign v_newBy v_moreOf v_firstOf v_toldOf v_mostOf v_mostThen v_sumTo v_rowFrom v_ordersOf v_lessOf v_weightOf v_rowNow v_slowRow v_fastRow v_lineNow v_firstLine v_freeBy v_heldBy v_heightOf v_upTo v_downTo v_oftenOf v_newUpper v_newLower)) rfl ?_
          refine g_iload_n X dX10_tried_153 0 rfl ?_
          have hz : now_150 32 = v_now 32 := (kp0_150 32 (by decide)).trans (kp0_51 32 (by decide))
          exact hQ _ _ _ _ dX10_tried_154 ⟨salesNow_56, outNow_56, now_150, aside_51, stack_56, facts_56, (by omega), (by omega), r_now_150, r_aside_51, r_stack_56, r_facts_56, (by first | assumption | omega), (by first | assumption | omega), rfl⟩
    refine g_iload_n X dX10_tried_10 2 rfl ?_
    refine g_iconst X dX10_tried_11 ?_
    refine g_iconst X dX10_tried_12 ?_
    refine g_callSIE X (c_X10_in l D cI cB cJ (p0 := p1) (p1 := 0) (p2 := 2) (by first | assumption | omega) (by first | assumption | omega) (by first | assumption | omega)) cv_X10_in uw1394 ⟨rfl, rfl, by decide, by decide⟩ rfl rfl (Nat.le_of_ble_eq_true rfl) ⟨Nat.zero_le _, Nat.zero_le _⟩ dX10_tried_13 (fun t13 ws13 k13 => ?_)
    obtain ⟨kb_13, ⟨kp0_13, rfl⟩⟩ := k13
    refine g_if_ne X (tgt := 43) dX10_tried_16 (by decide) (by omega) (fun c16 => ?_) (fun c16 => ?_)
    · replace kb_13 := kb_13.resolve_left (fun h => c16 h)
      replace kp0_13 := kp0_13.resolve_right (fun h => c16 h.1)
      exact J43 (by first | assumption | omega)
    · clear kb_13
      replace kp0_13 := (kp0_13.resolve_left (fun h => absurd h.1 (by omega))).2
      refine g_aload_n X dX10_tried_19 0 rfl ?_
      refine g_iload_n X dX10_tried_20 2 rfl ?_
      refine g_bipush X (z := 10) dX10_tried_21 (by decide) ?_
      refine g_isub X dX10_tried_23 ?_
      refine g_nr (fun t23 e23 r23 => ?_)
      have n23 := z_nr3 e23 r23 (by omega)
      refine g_callVI0 X (c_X10_isStall l D cI cB cJ h q (p0 := t23) (by omega) (by first | assumption | omega)) cv_X10_isStall uw1765 ⟨rfl, rfl, by decide, by decide⟩ 0 rfl rfl rfl rfl rfl (Nat.le_of_ble_eq_true rfl) ⟨Nat.zero_le _, Nat.zero_le _⟩ dX10_tried_24 (fun t24 ws24 k24 => ?_)
      obtain ⟨kb_24, ⟨kp0_24, rfl⟩⟩ := k24
      refine g_if_ne X (tgt := 43) dX10_tried_27 (by decide) (by omega) (fun c27 => ?_) (fun c27 => ?_)
      · replace kb_24 := kb_24.resolve_left (fun h => c27 h)
        replace kp0_24 := kp0_24 kb_24
        exact J43 (by first | assumption | omega)
      · clear kb_24
        clear kp0_24
        refine g_aload_n X dX10_tried_30 0 rfl ?_
        refine g_iload_n X dX10_tried_31 2 rfl ?_
        refine g_bipush X (z := 20) dX10_tried_32 (by decide) ?_
        refine g_isub X dX10_tried_34 ?_
        refine g_nr (fun t34 e34 r34 => ?_)
        have n34 := z_nr3 e34 r34 (by omega)
        refine g_callVI0 X (c_X10_isStall l D cI cB cJ h q (p0 := t34) (by omega) (by first | assumption | omega)) cv_X10_isStall uw1765 ⟨rfl, rfl, by decide, by decide⟩ 0 rfl rfl rfl rfl rfl (Nat.le_of_ble_eq_true rfl) ⟨Nat.zero_le _, Nat.zero_le _⟩ dX10_tried_35 (fun t35 ws35 k35 => ?_)
        obtain ⟨kb_35, ⟨kp0_35, rfl⟩⟩ := k35
        refine g_if_ne X (tgt := 43) dX10_tried_38 (by decide) (by omega) (fun c38 => ?_) (fun c38 => ?_)
        · replace kb_35 := kb_35.resolve_left (fun h => c38 h)
          replace kp0_35 := kp0_35 kb_35
          exact J43 (by first | assumption | omega)
        · clear kb_35
          clear kp0_35
          refine g_iconst X dX10_tried_41 ?_
          exact hQ _ _ _ _ dX10_tried_42 ⟨v_salesNow, v_outNow, v_now, v_aside, v_stack, v_facts, (by omega), (by omega), r_v_now, r_v_aside, r_v_stack, r_v_facts, (by first | assumption | omega), (by first | assumption | omega), rfl⟩
set_option maxHeartbeats 4000000 in
set_option maxRecDepth 100000 in
theorem c_X10_keep (l : Launch) (D : va_G) (cI cB cJ : ClassId) (h : Nat) (q : Nat → Nat) {v_stalls v_claimMany v_taped v_place0 v_length0 v_fault v_number0 v_open v_codeMany v_waiting v_saidMany v_clauses v_newMany v_newStalls v_lines v_salesNow v_outNow v_isKept v_keptStalls : Int} {v_now v_aside v_kept v_oneOf v_otherOf v_signOf v_byOf v_tape v_said v_waitsAt v_saidLetter v_saidFrom v_saidHalf v_saidTo v_codes v_clauseOf v_codeFrom v_codeHalf v_codeTo v_stack v_facts v_newOne v_newOther v_newSign v_newBy v_moreOf v_firstOf v_toldOf v_mostOf v_mostThen v_sumTo v_rowFrom v_ordersOf v_lessOf v_weightOf v_rowNow v_slowRow v_fastRow v_lineNow v_firstLine v_freeBy v_heldBy v_heightOf v_upTo v_downTo v_oftenOf v_newUpper v_newLower : Nat → Int} (kr_v_stalls : 0 ≤ v_stalls ∧ v_stalls ≤ 255) (kr_v_isKept : 0 ≤ v_isKept ∧ v_isKept ≤ 1) (kr_v_keptStalls : 0 ≤ v_keptStalls ∧ v_keptStalls ≤ 255) (r_v_now : RA (-2147483648) 2147483647 v_now) (r_v_kept : RA (-2147483648) 2147483647 v_kept) : CtI l yX10_keep cX10_keep 1 (some .int) ⟨1, 0, 0, 22⟩ D (TY cI cB cJ) (wX10 cI cB cJ h q v_stalls v_claimMany v_taped v_place0 v_length0 v_fault v_number0 v_open v_codeMany v_waiting v_saidMany v_clauses v_newMany v_newStalls v_lines v_salesNow v_outNow v_isKept v_keptStalls v_now v_aside v_kept v_oneOf v_otherOf v_signOf v_byOf v_tape v_said v_waitsAt v_saidLetter v_saidFrom v_saidHalf v_saidTo v_codes v_clauseOf v_codeFrom v_codeHalf v_codeTo v_stack v_facts v_newOne v_newOther v_newSign v_newBy v_moreOf v_firstOf v_toldOf v_mostOf v_mostThen v_sumTo v_rowFrom v_ordersOf v_lessOf v_weightOf v_rowNow v_slowRow v_fastRow v_lineNow v_firstLine v_freeBy v_heldBy v_heightOf v_upTo v_downTo v_oftenOf v_newUpper v_newLower) [.ref h] (fun z ws' => ∃ n_isKept : Int, ∃ n_keptStalls : Int, ∃ n_kept : Nat → Int, (0 ≤ n_isKept ∧ n_isKept ≤ 1) ∧ (0 ≤ n_keptStalls ∧ n_keptStalls ≤ 255) ∧ (RA (-2147483648) 2147483647 n_kept) ∧ (z = v_now 32) ∧ (n_kept 32 = v_now 32) ∧ (n_isKept = 1) ∧ (ws' = (wX10 cI cB cJ h q v_stalls v_claimMany v_taped v_place0 v_length0 v_fault v_number0 v_open v_codeMany v_waiting v_saidMany v_clauses v_newMany v_newStalls v_lines v_salesNow v_outNow n_isKept n_keptStalls v_now v_aside n_kept v_oneOf v_otherOf v_signOf v_byOf v_tape v_said v_waitsAt v_saidLetter v_saidFrom v_saidHalf v_saidTo v_codes v_clauseOf v_codeFrom v_codeHalf v_codeTo v_stack v_facts v_newOne v_newOther v_newSign v_newBy v_moreOf v_firstOf v_toldOf v_mostOf v_mostThen v_sumTo v_rowFrom v_ordersOf v_lessOf v_weightOf v_rowNow v_slowRow v_fastRow v_lineNow v_firstLine v_freeBy v_heldBy v_heightOf v_upTo v_downTo v_oftenOf v_newUpper v_newLower))) := by
  refine hdrI (own := RX10) rfl (by decide +kernel) (Nat.le_of_ble_eq_true rfl) ?_
  intro p e s m args below meth c Q A X hQ
  refine g_lvE (lv2 := [(0, .ref h)]) rfl ?_
  refine g_aload_n X dX10_keep_0 0 rfl ?_
  refine g_iconst X dX10_keep_1 ?_
  refine gM_put X 0 rfl 65 (by decide) uw1244 rfl (zI_bool (by omega)) rfl (Nat.le_of_ble_eq_true rfl) dX10_keep_2 (ws2 := (wX10 cI cB cJ h q v_stalls v_claimMany v_taped v_place0 v_length0 v_fault v_number0 v_open v_codeMany v_waiting v_saidMany v_clauses v_newMany v_newStalls v_lines v_salesNow v_outNow 1 v_keptStalls v_now v_aside v_kept v_oneOf v_otherOf v_signOf v_byOf v_tape v_said v_waitsAt v_saidLetter v_saidFrom v_saidHalf v_saidTo v_codes v_clauseOf v_codeFrom v_codeHalf v_codeTo v_stack v_facts v_newOne v_newOther v_newSign v_newBy v_moreOf v_firstOf v_toldOf v_mostOf v_mostThen v_sumTo v_rowFrom v_ordersOf v_lessOf v_weightOf v_rowNow v_slowRow v_fastRow v_lineNow v_firstLine v_freeBy v_heldBy v_heightOf v_upTo v_downTo v_oftenOf v_newUpper v_newLower)) rfl ?_
  refine g_aload_n X dX10_keep_5 0 rfl ?_
  refine g_aload_n X dX10_keep_6 0 rfl ?_
  refine gM_get X 0 rfl 7 (by decide) uw1186 rfl dX10_keep_7 ?_
  refine gM_put X 0 rfl 66 (by decide) uw1245 rfl rfl rfl (Nat.le_of_ble_eq_true rfl) dX10_keep_10 (ws2 := (wX10 cI cB cJ h q v_stalls v_claimMany v_taped v_place0 v_length0 v_fault v_number0 v_open v_codeMany v_waiting v_saidMany v_clauses v_newMany v_newStalls v_lines v_salesNow v_outNow 1 v_stalls v_now v_aside v_kept v_oneOf v_otherOf v_signOf v_byOf v_tape v_said v_waitsAt v_saidLetter v_saidFrom v_saidHalf v_saidTo v_codes v_clauseOf v_codeFrom v_codeHalf v_codeTo v_stack v_facts v_newOne v_newOther v_newSign v_newBy v_moreOf v_firstOf v_toldOf v_mostOf v_mostThen v_sumTo v_rowFrom v_ordersOf v_lessOf v_weightOf v_rowNow v_slowRow v_fastRow v_lineNow v_firstLine v_freeBy v_heldBy v_heightOf v_upTo v_downTo v_oftenOf v_newUpper v_newLower)) rfl ?_
  refine g_aload_n X dX10_keep_13 0 rfl ?_
  refine gM_get X 0 rfl 0 (by decide) uw1179 rfl dX10_keep_14 ?_
  refine g_aload_n X dX10_keep_17 0 rfl ?_
  refine gM_get X 0 rfl 2 (by decide) uw1181 rfl dX10_keep_18 ?_
  refine g_callSVw X (c_X10_copies l D cI cB cJ (q 0) (q 2)  r_v_now r_v_kept) [1, 3] rfl rfl rfl cv_X10_copies uw1806 ⟨rfl, rfl, by decide, by decide⟩ rfl rfl (Nat.le_of_ble_eq_true rfl) ⟨Nat.zero_le _, Nat.zero_le _⟩ dX10_keep_21 (fun ws21 k21 => ?_)
  obtain ⟨kept_21, r_kept_21, kp0_21, rfl⟩ := k21
  refine ⟨rfl, ?_⟩
  refine g_ws (ws2 := (wX10 cI cB cJ h q v_stalls v_claimMany v_taped v_place0 v_length0 v_fault v_number0 v_open v_codeMany v_waiting v_saidMany v_clauses v_newMany v_newStalls v_lines v_salesNow v_outNow 1 v_stalls v_now v_aside kept_21 v_oneOf v_otherOf v_signOf v_byOf v_tape v_said v_waitsAt v_saidLetter v_saidFrom v_saidHalf v_saidTo v_codes v_clauseOf v_codeFrom v_codeHalf v_codeTo v_stack v_facts v_newOne v_newOther v_newSign v_newBy v_moreOf v_firstOf v_toldOf v_mostOf v_mostThen v_sumTo v_rowFrom v_ordersOf v_lessOf v_weightOf v_rowNow v_slowRow v_fastRow v_lineNow v_firstLine v_freeBy v_heldBy v_heightOf v_upTo v_downTo v_oftenOf v_newUpper v_newLower)) rfl ?_
  refine g_aload_n X dX10_keep_24 0 rfl ?_
  refine gM_get X 0 rfl 0 (by decide) uw1179 rfl dX10_keep_25 ?_
  refine g_bipush X (z := 32) dX10_keep_28 (by decide) ?_
  refine g_iald X 1 0 rfl rfl (by omega) (by decide) dX10_keep_30 (fun t30 e30 => ?_)
  have r30 := r_v_now (32 : Int).toNat; rw [← e30] at r30
  have l30 : t30 = v_now 32 := e30
  have hk : kept_21 32 = v_now 32 := kp0_21 32 (by decide)
  exact hQ _ _ _ _ dX10_keep_31 ⟨1, v_stalls, kept_21, (by omega), (by omega), r_kept_21, (by first | assumption | omega), (by first | assumption | omega), (by first | assumption | omega), rfl⟩
set_option maxHeartbeats 4000000 in
set_option maxRecDepth 100000 in
theorem c_X10_soonest (l : Launch) (D : va_G) (cI cB cJ : ClassId) (h : Nat) (q : Nat → Nat) {v_stalls v_claimMany v_taped v_place0 v_length0 v_fault v_number0 v_open v_codeMany v_waiting v_saidMany v_clauses v_newMany v_newStalls v_lines v_salesNow v_outNow v_isKept v_keptStalls : Int} {v_now v_aside v_kept v_oneOf v_otherOf v_signOf v_byOf v_tape v_said v_waitsAt v_saidLetter v_saidFrom v_saidHalf v_saidTo v_codes v_clauseOf v_codeFrom v_codeHalf v_codeTo v_stack v_facts v_newOne v_newOther v_newSign v_newBy v_moreOf v_firstOf v_toldOf v_mostOf v_mostThen v_sumTo v_rowFrom v_ordersOf v_lessOf v_weightOf v_rowNow v_slowRow v_fastRow v_lineNow v_firstLine v_freeBy v_heldBy v_heightOf v_upTo v_downTo v_oftenOf v_newUpper v_newLower : Nat → Int} {p0 p1 : Int} (kr_v_stalls : 0 ≤ v_stalls ∧ v_stalls ≤ 255) (kr_v_clauses : 0 ≤ v_clauses ∧ v_clauses ≤ 16) (kr_v_salesNow : (-2147483648) ≤ v_salesNow ∧ v_salesNow ≤ 2147483647) (kr_v_outNow : (-2147483648) ≤ v_outNow ∧ v_outNow ≤ 2147483647) (r_v_now : RA (-2147483648) 2147483647 v_now) (r_v_aside : RA (-2147483648) 2147483647 v_aside) (r_v_codes : RA 0 16777215 v_codes) (r_v_clauseOf : RA (-2147483648) 2147483647 v_clauseOf) (r_v_codeFrom : RA 0 260 v_codeFrom) (r_v_codeHalf : RA 0 260 v_codeHalf) (r_v_codeTo : RA 0 260 v_codeTo) (r_v_stack : RA (-2147483648) 2147483647 v_stack) (r_v_facts : RA (-2147483648) 2147483647 v_facts) (hp0 : IR p0) (hp1 : IR p1) (hp2 : LawOK v_codes v_clauses v_codeFrom v_codeHalf v_codeTo) : CtI l yX10_soonest cX10_soonest 6 (some .int) ⟨6, 0, 0, 134⟩ D (TY cI cB cJ) (wX10 cI cB cJ h q v_stalls v_claimMany v_taped v_place0 v_length0 v_fault v_number0 v_open v_codeMany v_waiting v_saidMany v_clauses v_newMany v_newStalls v_lines v_salesNow v_outNow v_isKept v_keptStalls v_now v_aside v_kept v_oneOf v_otherOf v_signOf v_byOf v_tape v_said v_waitsAt v_saidLetter v_saidFrom v_saidHalf v_saidTo v_codes v_clauseOf v_codeFrom v_codeHalf v_codeTo v_stack v_facts v_newOne v_newOther v_newSign v_newBy v_moreOf v_firstOf v_toldOf v_mostOf v_mostThen v_sumTo v_rowFrom v_ordersOf v_lessOf v_weightOf v_rowNow v_slowRow v_fastRow v_lineNow v_firstLine v_freeBy v_heldBy v_heightOf v_upTo v_downTo v_oftenOf v_newUpper v_newLower) [.ref h, vI p0, vI p1] (fun z ws' => ∃ n_salesNow : Int, ∃ n_outNow : Int, ∃ n_now : Nat → Int, ∃ n_aside : Nat → Int, ∃ n_stack : Nat → Int, ∃ n_facts : Nat → Int, ((-2147483648) ≤ n_salesNow ∧ n_salesNow ≤ 2147483647) ∧ ((-2147483648) ≤ n_outNow ∧ n_outNow ≤ 2147483647) ∧ (RA (-2147483648) 2147483647 n_now) ∧ (RA (-2147483648) 2147483647 n_aside) ∧ (RA (-2147483648) 2147483647 n_stack) ∧ (RA (-2147483648) 2147483647 n_facts) ∧ (IR z) ∧ (n_now 32 = v_now 32) ∧ (ws' = (wX10 cI cB cJ h q v_stalls v_claimMany v_taped v_place0 v_length0 v_fault v_number0 v_open v_codeMany v_waiting v_saidMany v_clauses v_newMany v_newStalls v_lines n_salesNow n_outNow v_isKept v_keptStalls n_now n_aside v_kept v_oneOf v_otherOf v_signOf v_byOf v_tape v_said v_waitsAt v_saidLetter v_saidFrom v_saidHalf v_saidTo v_codes v_clauseOf v_codeFrom v_codeHalf v_codeTo n_stack n_facts v_newOne v_newOther v_newSign v_newBy v_moreOf v_firstOf v_toldOf v_mostOf v_mostThen v_sumTo v_rowFrom v_ordersOf v_lessOf v_weightOf v_rowNow v_slowRow v_fastRow v_lineNow v_firstLine v_freeBy v_heldBy v_heightOf v_upTo v_downTo v_oftenOf v_newUpper v_newLower))) := by
  refine hdrI (own := RX10) rfl (by decide +kernel) (Nat.le_of_ble_eq_true rfl) ?_
  intro p e s m args below meth c Q A X hQ
  refine g_lvE (lv2 := [(0, .ref h), (1, vI p0), (2, vI p1)]) rfl ?_
  refine g_aload_n X dX10_soonest_0 0 rfl ?_
  refine g_iload_n X dX10_soonest_1 1 rfl ?_
  refine g_callVI0 X (c_X10_isStall l D cI cB cJ h q (p0 := p0) (by omega) (by first | assumption | omega)) cv_X10_isStall uw1765 ⟨rfl, rfl, by decide, by decide⟩ 0 rfl rfl rfl rfl rfl (Nat.le_of_ble_eq_true rfl) ⟨Nat.zero_le _, Nat.zero_le _⟩ dX10_soonest_2 (fun t2 ws2 k2 => ?_)
  obtain ⟨kb_2, ⟨kp0_2, rfl⟩⟩ := k2
  refine g_if_eq X (tgt := 18) dX10_soonest_5 (by decide) (by omega) (fun c5 => ?_) (fun c5 => ?_)
  · clear kb_2
    clear kp0_2
    refine g_iconst X dX10_soonest_18 ?_
    exact hQ _ _ _ _ dX10_soonest_19 ⟨v_salesNow, v_outNow, v_now, v_aside, v_stack, v_facts, (by omega), (by omega), r_v_now, r_v_aside, r_v_stack, r_v_facts, (by first | assumption | omega), (by first | assumption | omega), rfl⟩
  · replace kb_2 := kb_2.resolve_left (fun h => c5 h)
    replace kp0_2 := kp0_2 kb_2
    refine g_iload_n X dX10_soonest_8 2 rfl ?_
    refine g_iconst X dX10_soonest_9 ?_
    refine g_bipush X (z := 100) dX10_soonest_10 (by decide) ?_
    refine g_callSIE X (c_X10_in l D cI cB cJ (p0 := p1) (p1 := 1) (p2 := 100) (by first | assumption | omega) (by first | assumption | omega) (by first | assumption | omega)) cv_X10_in uw1394 ⟨rfl, rfl, by decide, by decide⟩ rfl rfl (Nat.le_of_ble_eq_true rfl) ⟨Nat.zero_le _, Nat.zero_le _⟩ dX10_soonest_12 (fun t12 ws12 k12 => ?_)
    obtain ⟨kb_12, ⟨kp0_12, rfl⟩⟩ := k12
    refine g_if_ne X (tgt := 20) dX10_soonest_15 (by decide) (by omega) (fun c15 => ?_) (fun c15 => ?_)
    · replace kb_12 := kb_12.resolve_left (fun h => c15 h)
      replace kp0_12 := kp0_12.resolve_right (fun h => c15 h.1)
      refine g_aload_n X dX10_soonest_20 0 rfl ?_
      refine gM_get X 0 rfl 0 (by decide) uw1179 rfl dX10_soonest_21 ?_
      refine g_aload_n X dX10_soonest_24 0 rfl ?_
      refine gM_get X 0 rfl 1 (by decide) uw1180 rfl dX10_soonest_25 ?_
      refine g_callSVw X (c_X10_copies l D cI cB cJ (q 0) (q 1)  r_v_now r_v_aside) [1, 2] rfl rfl rfl cv_X10_copies uw1806 ⟨rfl, rfl, by decide, by decide⟩ rfl rfl (Nat.le_of_ble_eq_true rfl) ⟨Nat.zero_le _, Nat.zero_le _⟩ dX10_soonest_28 (fun ws28 k28 => ?_)
      obtain ⟨aside_28, r_aside_28, kp0_28, rfl⟩ := k28
      refine ⟨rfl, ?_⟩
      refine g_ws (ws2 := (wX10 cI cB cJ h q v_stalls v_claimMany v_taped v_place0 v_length0 v_fault v_number0 v_open v_codeMany v_waiting v_saidMany v_clauses v_newMany v_newStalls v_lines v_salesNow v_outNow v_isKept v_keptStalls v_now aside_28 v_kept v_oneOf v_otherOf v_signOf v_byOf v_tape v_said v_waitsAt v_saidLetter v_saidFrom v_saidHalf v_saidTo v_codes v_clauseOf v_codeFrom v_codeHalf v_codeTo v_stack v_facts v_newOne v_newOther v_newSign v_newBy v_moreOf v_firstOf v_toldOf v_mostOf v_mostThen v_sumTo v_rowFrom v_ordersOf v_lessOf v_weightOf v_rowNow v_slowRow v_fastRow v_lineNow v_firstLine v_freeBy v_heldBy v_heightOf v_upTo v_downTo v_oftenOf v_newUpper v_newLower)) rfl ?_
      refine g_aload_n X dX10_soonest_31 0 rfl ?_
      refine gM_get X 0 rfl 0 (by decide) uw1179 rfl dX10_soonest_32 ?_
      refine g_bipush X (z := 24) dX10_soonest_35 (by decide) ?_
      refine g_iload_n X dX10_soonest_37 1 rfl ?_
      refine g_iadd X dX10_soonest_38 ?_
      refine g_iald X 1 0 rfl rfl (by omega) (by decide) dX10_soonest_39 (fun t39 e39 => ?_)
      have r39 := r_v_now (24 + p0 : Int).toNat; rw [← e39] at r39
      refine g_istore_n X (lv' := [(3, vI t39), (0, .ref h), (1, vI p0), (2, vI p1)]) dX10_soonest_40 (by decide) rfl ?_
      refine g_iconst X dX10_soonest_41 ?_
      refine g_istore X (lv' := [(4, vI 0), (3, vI t39), (0, .ref h), (1, vI p0), (2, vI p1)]) dX10_soonest_42 (by decide) rfl ?_
      have L44 : ∀ (n : Nat) (x4_44 : Int) (salesNow_44 : Int) (outNow_44 : Int) (now_44 : Nat → Int) (stack_44 : Nat → Int) (facts_44 : Nat → Int), ((-2147483648) ≤ salesNow_44 ∧ salesNow_44 ≤ 2147483647) → ((-2147483648) ≤ outNow_44 ∧ outNow_44 ≤ 2147483647) → (RA (-2147483648) 2147483647 now_44) → (RA (-2147483648) 2147483647 stack_44) → (RA (-2147483648) 2147483647 facts_44) → (0 ≤ x4_44 ∧ x4_44 ≤ p1) → (p1 - x4_44).toNat < n → GG p l e ⟨6, 0, 0, 134⟩ s m args below meth c 0 0 Q D A s.heap 6 (wX10 cI cB cJ h q v_stalls v_claimMany v_taped v_place0 v_length0 v_fault v_number0 v_open v_codeMany v_waiting v_saidMany v_clauses v_newMany v_newStalls v_lines salesNow_44 outNow_44 v_isKept v_keptStalls now_44 aside_28 v_kept v_oneOf v_otherOf v_signOf v_byOf v_tape v_said v_waitsAt v_saidLetter v_saidFrom v_saidHalf v_saidTo v_codes v_clauseOf v_codeFrom v_codeHalf v_codeTo stack_44 facts_44 v_newOne v_newOther v_newSign v_newBy v_moreOf v_firstOf v_toldOf v_mostOf v_mostThen v_sumTo v_rowFrom v_ordersOf v_lessOf v_weightOf v_rowNow v_slowRow v_fastRow v_lineNow v_firstLine v_freeBy v_heldBy v_heightOf v_upTo v_downTo v_oftenOf v_newUpper v_newLower) 44 [(0, .ref h), (1, vI p0), (2, vI p1), (3, vI t39), (4, vI x4_44)] [] := by
        intro n
        induction n with
        | zero => intros; exfalso; omega
        | succ n ih44 =>
          intro x4_44 salesNow_44 outNow_44 now_44 stack_44 facts_44 kr_salesNow_44 kr_outNow_44 r_now_44 r_stack_44 r_facts_44 w44_0 wm44
          refine g_aload_n X dX10_soonest_44 0 rfl ?_
          refine gM_get X 0 rfl 0 (by decide) uw1179 rfl dX10_soonest_45 ?_
          refine g_bipush X (z := 24) dX10_soonest_48 (by decide) ?_
          refine g_iload_n X dX10_soonest_50 1 rfl ?_
          refine g_iadd X dX10_soonest_51 ?_
          refine g_iald X 1 0 rfl rfl (by omega) (by decide) dX10_soonest_52 (fun t52 e52 => ?_)
          have r52 := r_now_44 (24 + p0 : Int).toNat; rw [← e52] at r52
          refine g_iload_n X dX10_soonest_53 3 rfl ?_
          refine g_icmp_ne X (tgt := 89) dX10_soonest_54 (by decide) (by omega) (by omega) (fun c54 => ?_) (fun c54 => ?_)
          · refine g_aload_n X dX10_soonest_89 0 rfl ?_
            refine gM_get X 0 rfl 0 (by decide) uw1179 rfl dX10_soonest_90 ?_
            refine g_bipush X (z := 24) dX10_soonest_93 (by decide) ?_
            refine g_iload_n X dX10_soonest_95 1 rfl ?_
            refine g_iadd X dX10_soonest_96 ?_
            refine g_iald X 1 0 rfl rfl (by omega) (by decide) dX10_soonest_97 (fun t97 e97 => ?_)
            have r97 := r_now_44 (24 + p0 : Int).toNat; rw [← e97] at r97
            refine g_iload_n X dX10_soonest_98 3 rfl ?_
            refine g_icmp_le X (tgt := 106) dX10_soonest_99 (by decide) (by omega) (by omega) (fun c99 => ?_) (fun c99 => ?_)
            · refine g_iconst X dX10_soonest_106 ?_
              refine g_istore X (lv' := [(5, vI 0), (0, .ref h), (1, vI p0), (2, vI p1), (3, vI t39), (4, vI x4_44)]) dX10_soonest_107 (by decide) rfl ?_
              refine g_aload_n X dX10_soonest_109 1 rfl ?_
              refine gM_get X 0 rfl 1 (by decide) uw1180 rfl dX10_soonest_110 ?_
              refine g_aload_n X dX10_soonest_113 1 rfl ?_
              refine gM_get X 0 rfl 0 (by decide) uw1179 rfl dX10_soonest_114 ?_
              refine g_callSVw X (c_X10_copies l D cI cB cJ (q 1) (q 0)  r_aside_28 r_now_44) [2, 1] rfl rfl rfl cv_X10_copies uw1806 ⟨rfl, rfl, by decide, by decide⟩ rfl rfl (Nat.le_of_ble_eq_true rfl) ⟨Nat.zero_le _, Nat.zero_le _⟩ dX10_soonest_117 (fun ws117 k117 => ?_)
              obtain ⟨now_117, r_now_117, kp0_117, rfl⟩ := k117
              refine ⟨rfl, ?_⟩
              refine g_ws (ws2 := (wX10 cI cB cJ h q v_stalls v_claimMany v_taped v_place0 v_length0 v_fault v_number0 v_open v_codeMany v_waiting v_saidMany v_clauses v_newMany v_newStalls v_lines salesNow_44 outNow_44 v_isKept v_keptStalls now_117 aside_28 v_kept v_oneOf v_otherOf v_signOf v_byOf v_tape v_said v_waitsAt v_saidLetter v_saidFrom v_saidHalf v_saidTo v_codes v_clauseOf v_codeFrom v_codeHalf v_codeTo stack_44 facts_44 v_newOne v_newOther v_newSign v_newBy v_moreOf v_firstOf v_toldOf v_mostOf v_mostThen v_sumTo v_rowFrom v_ordersOf v_lessOf v_weightOf v_rowNow v_slowRow v_fastRow v_lineNow v_firstLine v_freeBy v_heldBy v_heightOf v_upTo v_downTo v_oftenOf v_newUpper v_newLower)) rfl ?_
              refine g_iload X dX10_soonest_120 0 rfl ?_
              refine g_if_eq X (tgt := 130) dX10_soonest_122 (by decide) (by omega) (fun c122 => ?_) (fun c122 => ?_)
              · refine g_bipush X (z := (-2)) dX10_soonest_130 (by decide) ?_
                have hz : now_117 32 = v_now 32 := (kp0_117 32 (by decide)).trans (kp0_28 32 (by decide))
                exact hQ _ _ _ _ dX10_soonest_132 ⟨salesNow_44, outNow_44, now_117, aside_28, stack_44, facts_44, (by omega), (by omega), r_now_117, r_aside_28, r_stack_44, r_facts_44, (by first | assumption | omega), (by first | assumption | omega), rfl⟩
              · refine g_iload X dX10_soonest_125 5 rfl ?_
                refine g_goto X (tgt := 132) dX10_soonest_127 (by decide) ?_
                have hz : now_117 32 = v_now 32 := (kp0_117 32 (by decide)).trans (kp0_28 32 (by decide))
                exact hQ _ _ _ _ dX10_soonest_132 ⟨salesNow_44, outNow_44, now_117, aside_28, stack_44, facts_44, (by omega), (by omega), r_now_117, r_aside_28, r_stack_44, r_facts_44, (by first | assumption | omega), (by first | assumption | omega), rfl⟩
            · refine g_iconst X dX10_soonest_102 ?_
              refine g_goto X (tgt := 107) dX10_soonest_103 (by decide) ?_
              refine g_istore X (lv' := [(5, vI 1), (0, .ref h), (1, vI p0), (2, vI p1), (3, vI t39), (4, vI x4_44)]) dX10_soonest_107 (by decide) rfl ?_
              refine g_aload_n X dX10_soonest_109 1 rfl ?_
              refine gM_get X 0 rfl 1 (by decide) uw1180 rfl dX10_soonest_110 ?_
              refine g_aload_n X dX10_soonest_113 1 rfl ?_
              refine gM_get X 0 rfl 0 (by decide) uw1179 rfl dX10_soonest_114 ?_
              refine g_callSVw X (c_X10_copies l D cI cB cJ (q 1) (q 0)  r_aside_28 r_now_44) [2, 1] rfl rfl rfl cv_X10_copies uw1806 ⟨rfl, rfl, by decide, by decide⟩ rfl rfl (Nat.le_of_ble_eq_true rfl) ⟨Nat.zero_le _, Nat.zero_le _⟩ dX10_soonest_117 (fun ws117 k117 => ?_)
              obtain ⟨now_117, r_now_117, kp0_117, rfl⟩ := k117
              refine ⟨rfl, ?_⟩
              refine g_ws (ws2 := (wX10 cI cB cJ h q v_stalls v_claimMany v_taped v_place0 v_length0 v_fault v_number0 v_open v_codeMany v_waiting v_saidMany v_clauses v_newMany v_newStalls v_lines salesNow_44 outNow_44 v_isKept v_keptStalls now_117 aside_28 v_kept v_oneOf v_otherOf v_signOf v_byOf v_tape v_said v_waitsAt v_saidLetter v_saidFrom v_saidHalf v_saidTo v_codes v_clauseOf v_codeFrom v_codeHalf v_codeTo stack_44 facts_44 v_newOne v_newOther v_newSign v_newBy v_moreOf v_firstOf v_toldOf v_mostOf v_mostThen v_sumTo v_rowFrom v_ordersOf v_lessOf v_weightOf v_rowNow v_slowRow v_fastRow v_lineNow v_firstLine v_freeBy v_heldBy v_heightOf v_upTo v_downTo v_oftenOf v_newUpper v_newLower)) rfl ?_
              refine g_iload X dX10_soonest_120 0 rfl ?_
              refine g_if_eq X (tgt := 130) dX10_soonest_122 (by decide) (by omega) (fun c122 => ?_) (fun c122 => ?_)
              · refine g_bipush X (z := (-2)) dX10_soonest_130 (by decide) ?_
                have hz : now_117 32 = v_now 32 := (kp0_117 32 (by decide)).trans (kp0_28 32 (by decide))
                exact hQ _ _ _ _ dX10_soonest_132 ⟨salesNow_44, outNow_44, now_117, aside_28, stack_44, facts_44, (by omega), (by omega), r_now_117, r_aside_28, r_stack_44, r_facts_44, (by first | assumption | omega), (by first | assumption | omega), rfl⟩
              · refine g_iload X dX10_soonest_125 5 rfl ?_
                refine g_goto X (tgt := 132) dX10_soonest_127 (by decide) ?_
                have hz : now_117 32 = v_now 32 := (kp0_117 32 (by decide)).trans (kp0_28 32 (by decide))
                exact hQ _ _ _ _ dX10_soonest_132 ⟨salesNow_44, outNow_44, now_117, aside_28, stack_44, facts_44, (by omega), (by omega), r_now_117, r_aside_28, r_stack_44, r_facts_44, (by first | assumption | omega), (by first | assumption | omega), rfl⟩
          · refine g_iload X dX10_soonest_57 4 rfl ?_
            refine g_iload_n X dX10_soonest_59 2 rfl ?_
            refine g_icmp_ge X (tgt := 89) dX10_soonest_60 (by decide) (by omega) (by omega) (fun c60 => ?_) (fun c60 => ?_)
            · refine g_aload_n X dX10_soonest_89 0 rfl ?_
              refine gM_get X 0 rfl 0 (by decide) uw1179 rfl dX10_soonest_90 ?_
              refine g_bipush X (z := 24) dX10_soonest_93 (by decide) ?_
              refine g_iload_n X dX10_soonest_95 1 rfl ?_
              refine g_iadd X dX10_soonest_96 ?_
              refine g_iald X 1 0 rfl rfl (by omega) (by decide) dX10_soonest_97 (fun t97 e97 => ?_)
              have r97 := r_now_44 (24 + p0 : Int).toNat; rw [← e97] at r97
              refine g_iload_n X dX10_soonest_98 3 rfl ?_
              refine g_icmp_le X (tgt := 106) dX10_soonest_99 (by decide) (by omega) (by omega) (fun c99 => ?_) (fun c99 => ?_)
              · refine g_iconst X dX10_soonest_106 ?_
                refine g_istore X (lv' := [(5, vI 0), (0, .ref h), (1, vI p0), (2, vI p1), (3, vI t39), (4, vI x4_44)]) dX10_soonest_107 (by decide) rfl ?_
                refine g_aload_n X dX10_soonest_109 1 rfl ?_
                refine gM_get X 0 rfl 1 (by decide) uw1180 rfl dX10_soonest_110 ?_
                refine g_aload_n X dX10_soonest_113 1 rfl ?_
                refine gM_get X 0 rfl 0 (by decide) uw1179 rfl dX10_soonest_114 ?_
                refine g_callSVw X (c_X10_copies l D cI cB cJ (q 1) (q 0)  r_aside_28 r_now_44) [2, 1] rfl rfl rfl cv_X10_copies uw1806 ⟨rfl, rfl, by decide, by decide⟩ rfl rfl (Nat.le_of_ble_eq_true rfl) ⟨Nat.zero_le _, Nat.zero_le _⟩ dX10_soonest_117 (fun ws117 k117 => ?_)
                obtain ⟨now_117, r_now_117, kp0_117, rfl⟩ := k117
                refine ⟨rfl, ?_⟩
                refine g_ws (ws2 := (wX10 cI cB cJ h q v_stalls v_claimMany v_taped v_place0 v_length0 v_fault v_number0 v_open v_codeMany v_waiting v_saidMany v_clauses v_newMany v_newStalls v_lines salesNow_44 outNow_44 v_isKept v_keptStalls now_117 aside_28 v_kept v_oneOf v_otherOf v_signOf v_byOf v_tape v_said v_waitsAt v_saidLetter v_saidFrom v_saidHalf v_saidTo v_codes v_clauseOf v_codeFrom v_codeHalf v_codeTo stack_44 facts_44 v_newOne v_newOther v_newSign v_newBy v_moreOf v_firstOf v_toldOf v_mostOf v_mostThen v_sumTo v_rowFrom v_ordersOf v_lessOf v_weightOf v_rowNow v_slowRow v_fastRow v_lineNow v_firstLine v_freeBy v_heldBy v_heightOf v_upTo v_downTo v_oftenOf v_newUpper v_newLower)) rfl ?_
                refine g_iload X dX10_soonest_120 0 rfl ?_
                refine g_if_eq X (tgt := 130) dX10_soonest_122 (by decide) (by omega) (fun c122 => ?_) (fun c122 => ?_)
                · refine g_bipush X (z := (-2)) dX10_soonest_130 (by decide) ?_
                  have hz : now_117 32 = v_now 32 := (kp0_117 32 (by decide)).trans (kp0_28 32 (by decide))
                  exact hQ _ _ _ _ dX10_soonest_132 ⟨salesNow_44, outNow_44, now_117, aside_28, stack_44, facts_44, (by omega), (by omega), r_now_117, r_aside_28, r_stack_44, r_facts_44, (by first | assumption | omega), (by first | assumption | omega), rfl⟩
                · refine g_iload X dX10_soonest_125 5 rfl ?_
                  refine g_goto X (tgt := 132) dX10_soonest_127 (by decide) ?_
                  have hz : now_117 32 = v_now 32 := (kp0_117 32 (by decide)).trans (kp0_28 32 (by decide))
                  exact hQ _ _ _ _ dX10_soonest_132 ⟨salesNow_44, outNow_44, now_117, aside_28, stack_44, facts_44, (by omega), (by omega), r_now_117, r_aside_28, r_stack_44, r_facts_44, (by first | assumption | omega), (by first | assumption | omega), rfl⟩
              · refine g_iconst X dX10_soonest_102 ?_
                refine g_goto X (tgt := 107) dX10_soonest_103 (by decide) ?_
                refine g_istore X (lv' := [(5, vI 1), (0, .ref h), (1, vI p0), (2, vI p1), (3, vI t39), (4, vI x4_44)]) dX10_soonest_107 (by decide) rfl ?_
                refine g_aload_n X dX10_soonest_109 1 rfl ?_
                refine gM_get X 0 rfl 1 (by decide) uw1180 rfl dX10_soonest_110 ?_
                refine g_aload_n X dX10_soonest_113 1 rfl ?_
                refine gM_get X 0 rfl 0 (by decide) uw1179 rfl dX10_soonest_114 ?_
                refine g_callSVw X (c_X10_copies l D cI cB cJ (q 1) (q 0)  r_aside_28 r_now_44) [2, 1] rfl rfl rfl cv_X10_copies uw1806 ⟨rfl, rfl, by decide, by decide⟩ rfl rfl (Nat.le_of_ble_eq_true rfl) ⟨Nat.zero_le _, Nat.zero_le _⟩ dX10_soonest_117 (fun ws117 k117 => ?_)
                obtain ⟨now_117, r_now_117, kp0_117, rfl⟩ := k117
                refine ⟨rfl, ?_⟩
                refine g_ws (ws2 := (wX10 cI cB cJ h q v_stalls v_claimMany v_taped v_place0 v_length0 v_fault v_number0 v_open v_codeMany v_waiting v_saidMany v_clauses v_newMany v_newStalls v_lines salesNow_44 outNow_44 v_isKept v_keptStalls now_117 aside_28 v_kept v_oneOf v_otherOf v_signOf v_byOf v_tape v_said v_waitsAt v_saidLetter v_saidFrom v_saidHalf v_saidTo v_codes v_clauseOf v_codeFrom v_codeHalf v_codeTo stack_44 facts_44 v_newOne v_newOther v_newSign v_newBy v_moreOf v_firstOf v_toldOf v_mostOf v_mostThen v_sumTo v_rowFrom v_ordersOf v_lessOf v_weightOf v_rowNow v_slowRow v_fastRow v_lineNow v_firstLine v_freeBy v_heldBy v_heightOf v_upTo v_downTo v_oftenOf v_newUpper v_newLower)) rfl ?_
                refine g_iload X dX10_soonest_120 0 rfl ?_
                refine g_if_eq X (tgt := 130) dX10_soonest_122 (by decide) (by omega) (fun c122 => ?_) (fun c122 => ?_)
                · refine g_bipush X (z := (-2)) dX10_soonest_130 (by decide) ?_
                  have hz : now_117 32 = v_now 32 := (kp0_117 32 (by decide)).trans (kp0_28 32 (by decide))
                  exact hQ _ _ _ _ dX10_soonest_132 ⟨salesNow_44, outNow_44, now_117, aside_28, stack_44, facts_44, (by omega), (by omega), r_now_117, r_aside_28, r_stack_44, r_facts_44, (by first | assumption | omega), (by first | assumption | omega), rfl⟩
                · refine g_iload X dX10_soonest_125 5 rfl ?_
                  refine g_goto X (tgt := 132) dX10_soonest_127 (by decide) ?_
                  have hz : now_117 32 = v_now 32 := (kp0_117 32 (by decide)).trans (kp0_28 32 (by decide))
                  exact hQ _ _ _ _ dX10_soonest_132 ⟨salesNow_44, outNow_44, now_117, aside_28, stack_44, facts_44, (by omega), (by omega), r_now_117, r_aside_28, r_stack_44, r_facts_44, (by first | assumption | omega), (by first | assumption | omega), rfl⟩
            · refine g_aload_n X dX10_soonest_63 0 rfl ?_
              refine gM_get X 0 rfl 0 (by decide) uw1179 rfl dX10_soonest_64 ?_
              refine g_bipush X (z := 32) dX10_soonest_67 (by decide) ?_
              refine g_iald X 1 0 rfl rfl (by omega) (by decide) dX10_soonest_69 (fun t69 e69 => ?_)
              have r69 := r_now_44 (32 : Int).toNat; rw [← e69] at r69
              refine g_sipush X (z := 9999) dX10_soonest_70 (by decide) ?_
              refine g_icmp_ge X (tgt := 89) dX10_soonest_73 (by decide) (by omega) (by omega) (fun c73 => ?_) (fun c73 => ?_)
              · refine g_aload_n X dX10_soonest_89 0 rfl ?_
                refine gM_get X 0 rfl 0 (by decide) uw1179 rfl dX10_soonest_90 ?_
                refine g_bipush X (z := 24) dX10_soonest_93 (by decide) ?_
                refine g_iload_n X dX10_soonest_95 1 rfl ?_
                refine g_iadd X dX10_soonest_96 ?_
                refine g_iald X 1 0 rfl rfl (by omega) (by decide) dX10_soonest_97 (fun t97 e97 => ?_)
                have r97 := r_now_44 (24 + p0 : Int).toNat; rw [← e97] at r97
                refine g_iload_n X dX10_soonest_98 3 rfl ?_
                refine g_icmp_le X (tgt := 106) dX10_soonest_99 (by decide) (by omega) (by omega) (fun c99 => ?_) (fun c99 => ?_)
                · refine g_iconst X dX10_soonest_106 ?_
                  refine g_istore X (lv' := [(5, vI 0), (0, .ref h), (1, vI p0), (2, vI p1), (3, vI t39), (4, vI x4_44)]) dX10_soonest_107 (by decide) rfl ?_
                  refine g_aload_n X dX10_soonest_109 1 rfl ?_
                  refine gM_get X 0 rfl 1 (by decide) uw1180 rfl dX10_soonest_110 ?_
                  refine g_aload_n X dX10_soonest_113 1 rfl ?_
                  refine gM_get X 0 rfl 0 (by decide) uw1179 rfl dX10_soonest_114 ?_
                  refine g_callSVw X (c_X10_copies l D cI cB cJ (q 1) (q 0)  r_aside_28 r_now_44) [2, 1] rfl rfl rfl cv_X10_copies uw1806 ⟨rfl, rfl, by decide, by decide⟩ rfl rfl (Nat.le_of_ble_eq_true rfl) ⟨Nat.zero_le _, Nat.zero_le _⟩ dX10_soonest_117 (fun ws117 k117 => ?_)
                  obtain ⟨now_117, r_now_117, kp0_117, rfl⟩ := k117
                  refine ⟨rfl, ?_⟩
                  refine g_ws (ws2 := (wX10 cI cB cJ h q v_stalls v_claimMany v_taped v_place0 v_length0 v_fault v_number0 v_open v_codeMany v_waiting v_saidMany v_clauses v_newMany v_newStalls v_lines salesNow_44 outNow_44 v_isKept v_keptStalls now_117 aside_28 v_kept v_oneOf v_otherOf v_signOf v_byOf v_tape v_said v_waitsAt v_saidLetter v_saidFrom v_saidHalf v_saidTo v_codes v_clauseOf v_codeFrom v_codeHalf v_codeTo stack_44 facts_44 v_newOne v_newOther v_newSign v_newBy v_moreOf v_firstOf v_toldOf v_mostOf v_mostThen v_sumTo v_rowFrom v_ordersOf v_lessOf v_weightOf v_rowNow v_slowRow v_fastRow v_lineNow v_firstLine v_freeBy v_heldBy v_heightOf v_upTo v_downTo v_oftenOf v_newUpper v_newLower)) rfl ?_
                  refine g_iload X dX10_soonest_120 0 rfl ?_
                  refine g_if_eq X (tgt := 130) dX10_soonest_122 (by decide) (by omega) (fun c122 => ?_) (fun c122 => ?_)
                  · refine g_bipush X (z := (-2)) dX10_soonest_130 (by decide) ?_
                    have hz : now_117 32 = v_now 32 := (kp0_117 32 (by decide)).trans (kp0_28 32 (by decide))
                    exact hQ _ _ _ _ dX10_soonest_132 ⟨salesNow_44, outNow_44, now_117, aside_28, stack_44, facts_44, (by omega), (by omega), r_now_117, r_aside_28, r_stack_44, r_facts_44, (by first | assumption | omega), (by first | assumption | omega), rfl⟩
                  · refine g_iload X dX10_soonest_125 5 rfl ?_
                    refine g_goto X (tgt := 132) dX10_soonest_127 (by decide) ?_
                    have hz : now_117 32 = v_now 32 := (kp0_117 32 (by decide)).trans (kp0_28 32 (by decide))
                    exact hQ _ _ _ _ dX10_soonest_132 ⟨salesNow_44, outNow_44, now_117, aside_28, stack_44, facts_44, (by omega), (by omega), r_now_117, r_aside_28, r_stack_44, r_facts_44, (by first | assumption | omega), (by first | assumption | omega), rfl⟩
                · refine g_iconst X dX10_soonest_102 ?_
                  refine g_goto X (tgt := 107) dX10_soonest_103 (by decide) ?_
                  refine g_istore X (lv' := [(5, vI 1), (0, .ref h), (1, vI p0), (2, vI p1), (3, vI t39), (4, vI x4_44)]) dX10_soonest_107 (by decide) rfl ?_
                  refine g_aload_n X dX10_soonest_109 1 rfl ?_
                  refine gM_get X 0 rfl 1 (by decide) uw1180 rfl dX10_soonest_110 ?_
                  refine g_aload_n X dX10_soonest_113 1 rfl ?_
                  refine gM_get X 0 rfl 0 (by decide) uw1179 rfl dX10_soonest_114 ?_
                  refine g_callSVw X (c_X10_copies l D cI cB cJ (q 1) (q 0)  r_aside_28 r_now_44) [2, 1] rfl rfl rfl cv_X10_copies uw1806 ⟨rfl, rfl, by decide, by decide⟩ rfl rfl (Nat.le_of_ble_eq_true rfl) ⟨Nat.zero_le _, Nat.zero_le _⟩ dX10_soonest_117 (fun ws117 k117 => ?_)
                  obtain ⟨now_117, r_now_117, kp0_117, rfl⟩ := k117
                  refine ⟨rfl, ?_⟩
                  refine g_ws (ws2 := (wX10 cI cB cJ h q v_stalls v_claimMany v_taped v_place0 v_length0 v_fault v_number0 v_open v_codeMany v_waiting v_saidMany v_clauses v_newMany v_newStalls v_lines salesNow_44 outNow_44 v_isKept v_keptStalls now_117 aside_28 v_kept v_oneOf v_otherOf v_signOf v_byOf v_tape v_said v_waitsAt v_saidLetter v_saidFrom v_saidHalf v_saidTo v_codes v_clauseOf v_codeFrom v_codeHalf v_codeTo stack_44 facts_44 v_newOne v_newOther v_newSign v_newBy v_moreOf v_firstOf v_toldOf v_mostOf v_mostThen v_sumTo v_rowFrom v_ordersOf v_lessOf v_weightOf v_rowNow v_slowRow v_fastRow v_lineNow v_firstLine v_freeBy v_heldBy v_heightOf v_upTo v_downTo v_oftenOf v_newUpper v_newLower)) rfl ?_
                  refine g_iload X dX10_soonest_120 0 rfl ?_
                  refine g_if_eq X (tgt := 130) dX10_soonest_122 (by decide) (by omega) (fun c122 => ?_) (fun c122 => ?_)
                  · refine g_bipush X (z := (-2)) dX10_soonest_130 (by decide) ?_
                    have hz : now_117 32 = v_now 32 := (kp0_117 32 (by decide)).trans (kp0_28 32 (by decide))
                    exact hQ _ _ _ _ dX10_soonest_132 ⟨salesNow_44, outNow_44, now_117, aside_28, stack_44, facts_44, (by omega), (by omega), r_now_117, r_aside_28, r_stack_44, r_facts_44, (by first | assumption | omega), (by first | assumption | omega), rfl⟩
                  · refine g_iload X dX10_soonest_125 5 rfl ?_
                    refine g_goto X (tgt := 132) dX10_soonest_127 (by decide) ?_
                    have hz : now_117 32 = v_now 32 := (kp0_117 32 (by decide)).trans (kp0_28 32 (by decide))
                    exact hQ _ _ _ _ dX10_soonest_132 ⟨salesNow_44, outNow_44, now_117, aside_28, stack_44, facts_44, (by omega), (by omega), r_now_117, r_aside_28, r_stack_44, r_facts_44, (by first | assumption | omega), (by first | assumption | omega), rfl⟩
              · refine g_aload_n X dX10_soonest_76 0 rfl ?_
                refine g_callVV0 X (c_X10_dayGoes l D cI cB cJ h q  (by omega) (by omega) (by omega) (by omega) r_now_44 r_v_codes r_v_clauseOf r_v_codeFrom r_v_codeHalf r_v_codeTo r_stack_44 r_facts_44 (by first | assumption | omega)) cv_X10_dayGoes uw1761 ⟨rfl, rfl, by decide, by decide⟩ 0 rfl rfl rfl rfl rfl (Nat.le_of_ble_eq_true rfl) ⟨Nat.zero_le _, Nat.zero_le _⟩ dX10_soonest_77 (fun ws77 k77 => ?_)
                obtain ⟨salesNow_77, outNow_77, now_77, stack_77, facts_77, kr_salesNow_77, kr_outNow_77, r_now_77, r_stack_77, r_facts_77, kp0_77, rfl⟩ := k77
                refine g_iload X dX10_soonest_80 4 rfl ?_
                refine g_iconst X dX10_soonest_82 ?_
                refine g_iadd X dX10_soonest_83 ?_
                refine g_istore X (lv' := [(4, vI (x4_44 + 1)), (0, .ref h), (1, vI p0), (2, vI p1), (3, vI t39)]) dX10_soonest_84 (by decide) rfl ?_
                refine g_goto X (tgt := 44) dX10_soonest_86 (by decide) ?_
                refine g_lv [1, 2, 3, 4, 0] rfl ?_
                exact ih44 (x4_44 + 1) salesNow_77 outNow_77 now_77 stack_77 facts_77 (by omega) (by omega) r_now_77 r_stack_77 r_facts_77 (by first | assumption | omega) (by omega)
      refine g_lv [2, 3, 4, 1, 0] rfl ?_
      exact L44 _ 0 v_salesNow v_outNow v_now v_stack v_facts (by omega) (by omega) r_v_now r_v_stack r_v_facts (by first | assumption | omega) (Nat.lt_succ_self _)
    · clear kb_12
      replace kp0_12 := (kp0_12.resolve_left (fun h => absurd h.1 (by omega))).2
      refine g_iconst X dX10_soonest_18 ?_
      exact hQ _ _ _ _ dX10_soonest_19 ⟨v_salesNow, v_outNow, v_now, v_aside, v_stack, v_facts, (by omega), (by omega), r_v_now, r_v_aside, r_v_stack, r_v_facts, (by first | assumption | omega), (by first | assumption | omega), rfl⟩
