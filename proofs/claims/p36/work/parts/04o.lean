set_option maxHeartbeats 4000000 in
set_option maxRecDepth 100000 in
theorem c_X10_tried (l : Launch) (D : va_G) (cI cB cJ : ClassId) (h : Nat) (q : Nat → Nat) {v_stalls v_claimMany v_taped v_place0 v_length0 v_fault v_number0 v_open v_codeMany v_waiting v_saidMany v_clauses v_newMany v_newStalls v_lines v_salesNow v_outNow v_isKept v_keptStalls : Int} {v_now v_aside v_kept v_oneOf v_otherOf v_signOf v_byOf v_tape v_said v_waitsAt v_saidLetter v_saidFrom v_saidHalf v_saidTo v_codes v_clauseOf v_codeFrom v_codeHalf v_codeTo v_stack v_facts v_newOne v_newOther v_newSign v_newBy v_moreOf v_firstOf v_toldOf v_mostOf v_mostThen v_sumTo v_rowFrom v_ordersOf v_lessOf v_weightOf v_rowNow v_slowRow v_fastRow v_lineNow v_firstLine v_freeBy v_heldBy v_heightOf v_upTo v_downTo v_oftenOf v_newUpper v_newLower : Nat → Int} {p0 p1 : Int} (kr_v_stalls : 0 ≤ v_stalls ∧ v_stalls ≤ 255) (kr_v_clauses : 0 ≤ v_clauses ∧ v_clauses ≤ 16) (kr_v_salesNow : (-2147483648) ≤ v_salesNow ∧ v_salesNow ≤ 2147483647) (kr_v_outNow : (-2147483648) ≤ v_outNow ∧ v_outNow ≤ 2147483647) (r_v_now : RA (-2147483648) 2147483647 v_now) (r_v_aside : RA (-2147483648) 2147483647 v_aside) (r_v_codes : RA 0 16777215 v_codes) (r_v_clauseOf : RA (-2147483648) 2147483647 v_clauseOf) (r_v_codeFrom : RA 0 260 v_codeFrom) (r_v_codeHalf : RA 0 260 v_codeHalf) (r_v_codeTo : RA 0 260 v_codeTo) (r_v_stack : RA (-2147483648) 2147483647 v_stack) (r_v_facts : RA (-2147483648) 2147483647 v_facts) (hp0 : IR p0) (hp1 : IR p1) (hp2 : LawOK v_codes v_clauses v_codeFrom v_codeHalf v_codeTo) (hp3 : 0 ≤ v_now 32 ∧ v_now 32 ≤ 9999) : CtI l yX10_tried cX10_tried 4 (some .int) ⟨7, 0, 0, 156⟩ D (TY cI cB cJ) (wX10 cI cB cJ h q v_stalls v_claimMany v_taped v_place0 v_length0 v_fault v_number0 v_open v_codeMany v_waiting v_saidMany v_clauses v_newMany v_newStalls v_lines v_salesNow v_outNow v_isKept v_keptStalls v_now v_aside v_kept v_oneOf v_otherOf v_signOf v_byOf v_tape v_said v_waitsAt v_saidLetter v_saidFrom v_saidHalf v_saidTo v_codes v_clauseOf v_codeFrom v_codeHalf v_codeTo v_stack v_facts v_newOne v_newOther v_newSign v_newBy v_moreOf v_firstOf v_toldOf v_mostOf v_mostThen v_sumTo v_rowFrom v_ordersOf v_lessOf v_weightOf v_rowNow v_slowRow v_fastRow v_lineNow v_firstLine v_freeBy v_heldBy v_heightOf v_upTo v_downTo v_oftenOf v_newUpper v_newLower) [.ref h, vI p0, vI p1] (fun z ws' => ∃ n_salesNow : Int, ∃ n_outNow : Int, ∃ n_now : Nat → Int, ∃ n_aside : Nat → Int, ∃ n_stack : Nat → Int, ∃ n_facts : Nat → Int, ((-2147483648) ≤ n_salesNow ∧ n_salesNow ≤ 2147483647) ∧ ((-2147483648) ≤ n_outNow ∧ n_outNow ≤ 2147483647) ∧ (RA (-2147483648) 2147483647 n_now) ∧ (RA (-2147483648) 2147483647 n_aside) ∧ (RA (-2147483648) 2147483647 n_stack) ∧ (RA (-2147483648) 2147483647 n_facts) ∧ (IR z) ∧ (n_now 32 = v_now 32) ∧ (ws' = (wX10 cI cB cJ h q v_stalls v_claimMany v_taped v_place0 v_length0 v_fault v_number0 v_open v_codeMany v_waiting v_saidMany v_clauses v_newMany v_newStalls v_lines n_salesNow n_outNow v_isKept v_keptStalls n_now n_aside v_kept v_oneOf v_otherOf v_signOf v_byOf v_tape v_said v_waitsAt v_saidLetter v_saidFrom v_saidHalf v_saidTo v_codes v_clauseOf v_codeFrom v_codeHalf v_codeTo n_stack n_facts v_newOne v_newOther v_newSign v_newBy v_moreOf v_firstOf v_toldOf v_mostOf v_mostThen v_sumTo v_rowFrom v_ordersOf v_lessOf v_weightOf v_rowNow v_slowRow v_fastRow v_lineNow v_firstLine v_freeBy v_heldBy v_heightOf v_upTo v_downTo v_oftenOf v_newUpper v_newLower))) := by
  refine hdrI (own := RX10) rfl (by decide +kernel) (Nat.le_of_ble_eq_true rfl) ?_
  intro p e s m args below meth c Q A X hQ
  refine g_lvE (lv2 := [(0, .ref h), (1, vI p0), (2, vI p1)]) rfl ?_
  refine g_iload_n X dX10_tried_0 1 rfl ?_
  refine g_iconst X dX10_tried_1 ?_
  refine g_bipush X (z := 100) dX10_tried_2 (by decide) ?_
  refine g_callSIE X (c_X10_in l D cI cB cJ (p0 := p0) (p1 := 1) (p2 := 100) (by first | assumption | omega) (by first | assumption | omega) (by first | assumption | omega)) cv_X10_in uw1394 ⟨rfl, rfl, by decide, by decide⟩ rfl rfl (Nat.le_of_ble_eq_true rfl) ⟨Nat.zero_le _, Nat.zero_le _⟩ dX10_tried_4 (fun t4 ws4 k4 => ?_)
  obtain ⟨kb_4, ⟨kp0_4, rfl⟩⟩ := k4
  refine g_if_eq X (tgt := 41) dX10_tried_7 (by decide) (by omega) (fun c7 => ?_) (fun c7 => ?_)
  · clear kb_4
    replace kp0_4 := (kp0_4.resolve_left (fun h => absurd h.1 (by omega))).2
    refine g_iconst X dX10_tried_41 ?_
    exact hQ _ _ _ _ dX10_tried_42 ⟨v_salesNow, v_outNow, v_now, v_aside, v_stack, v_facts, (by omega), (by omega), r_v_now, r_v_aside, r_v_stack, r_v_facts, (by first | assumption | omega), (by first | assumption | omega), rfl⟩
  · replace kb_4 := kb_4.resolve_left (fun h => c7 h)
    replace kp0_4 := kp0_4.resolve_right (fun h => c7 h.1)
    have J43 : ((0 ≤ p1 ∧ p1 ≤ 2) ∨ (10 ≤ p1 ∧ p1 ≤ 17) ∨ (20 ≤ p1 ∧ p1 ≤ 27)) → GG p l e ⟨7, 0, 0, 156⟩ s m args below meth c 0 0 Q D A s.heap 4 (wX10 cI cB cJ h q v_stalls v_claimMany v_taped v_place0 v_length0 v_fault v_number0 v_open v_codeMany v_waiting v_saidMany v_clauses v_newMany v_newStalls v_lines v_salesNow v_outNow v_isKept v_keptStalls v_now v_aside v_kept v_oneOf v_otherOf v_signOf v_byOf v_tape v_said v_waitsAt v_saidLetter v_saidFrom v_saidHalf v_saidTo v_codes v_clauseOf v_codeFrom v_codeHalf v_codeTo v_stack v_facts v_newOne v_newOther v_newSign v_newBy v_moreOf v_firstOf v_toldOf v_mostOf v_mostThen v_sumTo v_rowFrom v_ordersOf v_lessOf v_weightOf v_rowNow v_slowRow v_fastRow v_lineNow v_firstLine v_freeBy v_heldBy v_heightOf v_upTo v_downTo v_oftenOf v_newUpper v_newLower) 43 [(0, .ref h), (1, vI p0), (2, vI p1)] [] := by
      intro w43_0
      refine g_aload_n X dX10_tried_43 0 rfl ?_
      refine gM_get X 0 rfl 0 (by decide) uw1179 rfl dX10_tried_44 ?_
      refine g_aload_n X dX10_tried_47 0 rfl ?_
      refine gM_get X 0 rfl 1 (by decide) uw1180 rfl dX10_tried_48 ?_
      refine g_callSVw X (c_X10_copies l D cI cB cJ (q 0) (q 1)  r_v_now r_v_aside) [1, 2] rfl rfl rfl cv_X10_copies uw1806 ⟨rfl, rfl, by decide, by decide⟩ rfl rfl (Nat.le_of_ble_eq_true rfl) ⟨Nat.zero_le _, Nat.zero_le _⟩ dX10_tried_51 (fun ws51 k51 => ?_)
      obtain ⟨aside_51, r_aside_51, kp0_51, rfl⟩ := k51
      refine ⟨rfl, ?_⟩
      refine g_ws (ws2 := (wX10 cI cB cJ h q v_stalls v_claimMany v_taped v_place0 v_length0 v_fault v_number0 v_open v_codeMany v_waiting v_saidMany v_clauses v_newMany v_newStalls v_lines v_salesNow v_outNow v_isKept v_keptStalls v_now aside_51 v_kept v_oneOf v_otherOf v_signOf v_byOf v_tape v_said v_waitsAt v_saidLetter v_saidFrom v_saidHalf v_saidTo v_codes v_clauseOf v_codeFrom v_codeHalf v_codeTo v_stack v_facts v_newOne v_newOther v_newSign v_newBy v_moreOf v_firstOf v_toldOf v_mostOf v_mostThen v_sumTo v_rowFrom v_ordersOf v_lessOf v_weightOf v_rowNow v_slowRow v_fastRow v_lineNow v_firstLine v_freeBy v_heldBy v_heightOf v_upTo v_downTo v_oftenOf v_newUpper v_newLower)) rfl ?_
      refine g_aload_n X dX10_tried_54 0 rfl ?_
      refine g_iload_n X dX10_tried_55 1 rfl ?_
      refine g_callVV0 X (c_X10_daysGo l D cI cB cJ h q (p0 := p0) (by omega) (by omega) (by omega) (by omega) r_v_now r_v_codes r_v_clauseOf r_v_codeFrom r_v_codeHalf r_v_codeTo r_v_stack r_v_facts (by first | assumption | omega) (by first | assumption | omega) (by first | assumption | omega) (by first | assumption | omega)) cv_X10_daysGo uw1757 ⟨rfl, rfl, by decide, by decide⟩ 0 rfl rfl rfl rfl rfl (Nat.le_of_ble_eq_true rfl) ⟨Nat.zero_le _, Nat.zero_le _⟩ dX10_tried_56 (fun ws56 k56 => ?_)
      obtain ⟨salesNow_56, outNow_56, now_56, stack_56, facts_56, kr_salesNow_56, kr_outNow_56, r_now_56, r_stack_56, r_facts_56, kp0_56, rfl⟩ := k56
      refine g_iload_n X dX10_tried_59 2 rfl ?_
      refine g_nm (fun sw60 es60 => ?_)
      rcases (show sw60 = 0 ∨ sw60 = 1 ∨ sw60 = 2 ∨ (sw60 < 0 ∨ 2 < sw60) by omega) with hs60 | hs60 | hs60 | hs60
      · rw [hs60]
        refine g_tab X (off := 28) (tgt := 88) dX10_tried_60 (by omega) (by omega) rfl (by decide) ?_
        refine g_aload_n X dX10_tried_88 0 rfl ?_
        refine gM_get X 0 rfl 63 (by decide) uw1242 rfl dX10_tried_89 ?_
        refine g_istore_n X (lv' := [(3, vI salesNow_56), (0, .ref h), (1, vI p0), (2, vI p1)]) dX10_tried_92 (by decide) rfl ?_
        refine g_goto X (tgt := 142) dX10_tried_93 (by decide) ?_
        refine g_aload_n X dX10_tried_142 1 rfl ?_
        refine gM_get X 0 rfl 1 (by decide) uw1180 rfl dX10_tried_143 ?_
        refine g_aload_n X dX10_tried_146 1 rfl ?_
        refine gM_get X 0 rfl 0 (by decide) uw1179 rfl dX10_tried_147 ?_
        refine g_callSVw X (c_X10_copies l D cI cB cJ (q 1) (q 0)  r_aside_51 r_now_56) [2, 1] rfl rfl rfl cv_X10_copies uw1806 ⟨rfl, rfl, by decide, by decide⟩ rfl rfl (Nat.le_of_ble_eq_true rfl) ⟨Nat.zero_le _, Nat.zero_le _⟩ dX10_tried_150 (fun ws150 k150 => ?_)
        obtain ⟨now_150, r_now_150, kp0_150, rfl⟩ := k150
        refine ⟨rfl, ?_⟩
        refine g_ws (ws2 := (wX10 cI cB cJ h q v_stalls v_claimMany v_taped v_place0 v_length0 v_fault v_number0 v_open v_codeMany v_waiting v_saidMany v_clauses v_newMany v_newStalls v_lines salesNow_56 outNow_56 v_isKept v_keptStalls now_150 aside_51 v_kept v_oneOf v_otherOf v_signOf v_byOf v_tape v_said v_waitsAt v_saidLetter v_saidFrom v_saidHalf v_saidTo v_codes v_clauseOf v_codeFrom v_codeHalf v_codeTo stack_56 facts_56 v_newOne v_newOther v_newSign v_newBy v_moreOf v_firstOf v_toldOf v_mostOf v_mostThen v_sumTo v_rowFrom v_ordersOf v_lessOf v_weightOf v_rowNow v_slowRow v_fastRow v_lineNow v_firstLine v_freeBy v_heldBy v_heightOf v_upTo v_downTo v_oftenOf v_newUpper v_newLower)) rfl ?_
        refine g_iload_n X dX10_tried_153 0 rfl ?_
        have hz : now_150 32 = v_now 32 := (kp0_150 32 (by decide)).trans (kp0_51 32 (by decide))
        exact hQ _ _ _ _ dX10_tried_154 ⟨salesNow_56, outNow_56, now_150, aside_51, stack_56, facts_56, (by omega), (by omega), r_now_150, r_aside_51, r_stack_56, r_facts_56, (by first | assumption | omega), (by first | assumption | omega), rfl⟩
      · rw [hs60]
        refine g_tab X (off := 36) (tgt := 96) dX10_tried_60 (by omega) (by omega) rfl (by decide) ?_
        refine g_aload_n X dX10_tried_96 0 rfl ?_
        refine g_callVI0 X (c_X10_moneyOfAll l D cI cB cJ h q  (by omega) r_now_56) cv_X10_moneyOfAll uw1809 ⟨rfl, rfl, by decide, by decide⟩ 0 rfl rfl rfl rfl rfl (Nat.le_of_ble_eq_true rfl) ⟨Nat.zero_le _, Nat.zero_le _⟩ dX10_tried_97 (fun t97 ws97 k97 => ?_)
        obtain ⟨kp0_97, rfl⟩ := k97
        refine g_istore_n X (lv' := [(3, vI t97), (0, .ref h), (1, vI p0), (2, vI p1)]) dX10_tried_100 (by decide) rfl ?_
        refine g_goto X (tgt := 142) dX10_tried_101 (by decide) ?_
        refine g_aload_n X dX10_tried_142 1 rfl ?_
        refine gM_get X 0 rfl 1 (by decide) uw1180 rfl dX10_tried_143 ?_
        refine g_aload_n X dX10_tried_146 1 rfl ?_
        refine gM_get X 0 rfl 0 (by decide) uw1179 rfl dX10_tried_147 ?_
        refine g_callSVw X (c_X10_copies l D cI cB cJ (q 1) (q 0)  r_aside_51 r_now_56) [2, 1] rfl rfl rfl cv_X10_copies uw1806 ⟨rfl, rfl, by decide, by decide⟩ rfl rfl (Nat.le_of_ble_eq_true rfl) ⟨Nat.zero_le _, Nat.zero_le _⟩ dX10_tried_150 (fun ws150 k150 => ?_)
        obtain ⟨now_150, r_now_150, kp0_150, rfl⟩ := k150
        refine ⟨rfl, ?_⟩
        refine g_ws (ws2 := (wX10 cI cB cJ h q v_stalls v_claimMany v_taped v_place0 v_length0 v_fault v_number0 v_open v_codeMany v_waiting v_saidMany v_clauses v_newMany v_newStalls v_lines salesNow_56 outNow_56 v_isKept v_keptStalls now_150 aside_51 v_kept v_oneOf v_otherOf v_signOf v_byOf v_tape v_said v_waitsAt v_saidLetter v_saidFrom v_saidHalf v_saidTo v_codes v_clauseOf v_codeFrom v_codeHalf v_codeTo stack_56 facts_56 v_newOne v_newOther v_newSign v_newBy v_moreOf v_firstOf v_toldOf v_mostOf v_mostThen v_sumTo v_rowFrom v_ordersOf v_lessOf v_weightOf v_rowNow v_slowRow v_fastRow v_lineNow v_firstLine v_freeBy v_heldBy v_heightOf v_upTo v_downTo v_oftenOf v_newUpper v_newLower)) rfl ?_
        refine g_iload_n X dX10_tried_153 0 rfl ?_
        have hz : now_150 32 = v_now 32 := (kp0_150 32 (by decide)).trans (kp0_51 32 (by decide))
        exact hQ _ _ _ _ dX10_tried_154 ⟨salesNow_56, outNow_56, now_150, aside_51, stack_56, facts_56, (by omega), (by omega), r_now_150, r_aside_51, r_stack_56, r_facts_56, (by first | assumption | omega), (by first | assumption | omega), rfl⟩
      · rw [hs60]
        refine g_tab X (off := 44) (tgt := 104) dX10_tried_60 (by omega) (by omega) rfl (by decide) ?_
        refine g_aload_n X dX10_tried_104 0 rfl ?_
        refine gM_get X 0 rfl 64 (by decide) uw1243 rfl dX10_tried_105 ?_
        refine g_istore_n X (lv' := [(3, vI outNow_56), (0, .ref h), (1, vI p0), (2, vI p1)]) dX10_tried_108 (by decide) rfl ?_
        refine g_goto X (tgt := 142) dX10_tried_109 (by decide) ?_
        refine g_aload_n X dX10_tried_142 1 rfl ?_
        refine gM_get X 0 rfl 1 (by decide) uw1180 rfl dX10_tried_143 ?_
        refine g_aload_n X dX10_tried_146 1 rfl ?_
        refine gM_get X 0 rfl 0 (by decide) uw1179 rfl dX10_tried_147 ?_
        refine g_callSVw X (c_X10_copies l D cI cB cJ (q 1) (q 0)  r_aside_51 r_now_56) [2, 1] rfl rfl rfl cv_X10_copies uw1806 ⟨rfl, rfl, by decide, by decide⟩ rfl rfl (Nat.le_of_ble_eq_true rfl) ⟨Nat.zero_le _, Nat.zero_le _⟩ dX10_tried_150 (fun ws150 k150 => ?_)
        obtain ⟨now_150, r_now_150, kp0_150, rfl⟩ := k150
        refine ⟨rfl, ?_⟩
        refine g_ws (ws2 := (wX10 cI cB cJ h q v_stalls v_claimMany v_taped v_place0 v_length0 v_fault v_number0 v_open v_codeMany v_waiting v_saidMany v_clauses v_newMany v_newStalls v_lines salesNow_56 outNow_56 v_isKept v_keptStalls now_150 aside_51 v_kept v_oneOf v_otherOf v_signOf v_byOf v_tape v_said v_waitsAt v_saidLetter v_saidFrom v_saidHalf v_saidTo v_codes v_clauseOf v_codeFrom v_codeHalf v_codeTo stack_56 facts_56 v_newOne v_newOther v_newSign v_newBy v_moreOf v_firstOf v_toldOf v_mostOf v_mostThen v_sumTo v_rowFrom v_ordersOf v_lessOf v_weightOf v_rowNow v_slowRow v_fastRow v_lineNow v_firstLine v_freeBy v_heldBy v_heightOf v_upTo v_downTo v_oftenOf v_newUpper v_newLower)) rfl ?_
        refine g_iload_n X dX10_tried_153 0 rfl ?_
        have hz : now_150 32 = v_now 32 := (kp0_150 32 (by decide)).trans (kp0_51 32 (by decide))
        exact hQ _ _ _ _ dX10_tried_154 ⟨salesNow_56, outNow_56, now_150, aside_51, stack_56, facts_56, (by omega), (by omega), r_now_150, r_aside_51, r_stack_56, r_facts_56, (by first | assumption | omega), (by first | assumption | omega), rfl⟩
      · refine g_tabD X (tgt := 112) dX10_tried_60 (by omega) hs60 (by decide) ?_
        refine g_iload_n X dX10_tried_112 2 rfl ?_
        refine g_bipush X (z := 20) dX10_tried_113 (by decide) ?_
        refine g_icmp_ge X (tgt := 129) dX10_tried_115 (by decide) (by omega) (by omega) (fun c115 => ?_) (fun c115 => ?_)
        · refine g_aload_n X dX10_tried_129 0 rfl ?_
          refine gM_get X 0 rfl 0 (by decide) uw1179 rfl dX10_tried_130 ?_
          refine g_bipush X (z := 16) dX10_tried_133 (by decide) ?_
          refine g_iload_n X dX10_tried_135 2 rfl ?_
          refine g_iadd X dX10_tried_136 ?_
          refine g_bipush X (z := 20) dX10_tried_137 (by decide) ?_
          refine g_isub X dX10_tried_139 ?_
          refine g_iald X 1 0 rfl rfl (by omega) (by decide) dX10_tried_140 (fun t140 e140 => ?_)
          have r140 := r_now_56 ((16 + p1) - 20 : Int).toNat; rw [← e140] at r140
          refine g_istore_n X (lv' := [(3, vI t140), (0, .ref h), (1, vI p0), (2, vI p1)]) dX10_tried_141 (by decide) rfl ?_
          refine g_aload_n X dX10_tried_142 1 rfl ?_
          refine gM_get X 0 rfl 1 (by decide) uw1180 rfl dX10_tried_143 ?_
          refine g_aload_n X dX10_tried_146 1 rfl ?_
          refine gM_get X 0 rfl 0 (by decide) uw1179 rfl dX10_tried_147 ?_
          refine g_callSVw X (c_X10_copies l D cI cB cJ (q 1) (q 0)  r_aside_51 r_now_56) [2, 1] rfl rfl rfl cv_X10_copies uw1806 ⟨rfl, rfl, by decide, by decide⟩ rfl rfl (Nat.le_of_ble_eq_true rfl) ⟨Nat.zero_le _, Nat.zero_le _⟩ dX10_tried_150 (fun ws150 k150 => ?_)
          obtain ⟨now_150, r_now_150, kp0_150, rfl⟩ := k150
          refine ⟨rfl, ?_⟩
          refine g_ws (ws2 := (wX10 cI cB cJ h q v_stalls v_claimMany v_taped v_place0 v_length0 v_fault v_number0 v_open v_codeMany v_waiting v_saidMany v_clauses v_newMany v_newStalls v_lines salesNow_56 outNow_56 v_isKept v_keptStalls now_150 aside_51 v_kept v_oneOf v_otherOf v_signOf v_byOf v_tape v_said v_waitsAt v_saidLetter v_saidFrom v_saidHalf v_saidTo v_codes v_clauseOf v_codeFrom v_codeHalf v_codeTo stack_56 facts_56 v_newOne v_newOther v_newSign v_newBy v_moreOf v_firstOf v_toldOf v_mostOf v_mostThen v_sumTo v_rowFrom v_ordersOf v_lessOf v_weightOf v_rowNow v_slowRow v_fastRow v_lineNow v_firstLine v_freeBy v_heldBy v_heightOf v_upTo v_downTo v_oftenOf v_newUpper v_newLower)) rfl ?_
          refine g_iload_n X dX10_tried_153 0 rfl ?_
          have hz : now_150 32 = v_now 32 := (kp0_150 32 (by decide)).trans (kp0_51 32 (by decide))
          exact hQ _ _ _ _ dX10_tried_154 ⟨salesNow_56, outNow_56, now_150, aside_51, stack_56, facts_56, (by omega), (by omega), r_now_150, r_aside_51, r_stack_56, r_facts_56, (by first | assumption | omega), (by first | assumption | omega), rfl⟩
        · refine g_aload_n X dX10_tried_118 0 rfl ?_
          refine g_iload_n X dX10_tried_119 2 rfl ?_
          refine g_bipush X (z := 10) dX10_tried_120 (by decide) ?_
          refine g_isub X dX10_tried_122 ?_
          refine g_callVI0 X (c_X10_between l D cI cB cJ h q (p0 := p1 - 10) r_now_56 (by first | assumption | omega) (by first | assumption | omega)) cv_X10_between uw1774 ⟨rfl, rfl, by decide, by decide⟩ 0 rfl rfl rfl rfl rfl (Nat.le_of_ble_eq_true rfl) ⟨Nat.zero_le _, Nat.zero_le _⟩ dX10_tried_123 (fun t123 ws123 k123 => ?_)
          obtain ⟨kp0_123, rfl⟩ := k123
          refine g_goto X (tgt := 141) dX10_tried_126 (by decide) ?_
          refine g_istore_n X (lv' := [(3, vI t123), (0, .ref h), (1, vI p0), (2, vI p1)]) dX10_tried_141 (by decide) rfl ?_
          refine g_aload_n X dX10_tried_142 1 rfl ?_
          refine gM_get X 0 rfl 1 (by decide) uw1180 rfl dX10_tried_143 ?_
          refine g_aload_n X dX10_tried_146 1 rfl ?_
          refine gM_get X 0 rfl 0 (by decide) uw1179 rfl dX10_tried_147 ?_
          refine g_callSVw X (c_X10_copies l D cI cB cJ (q 1) (q 0)  r_aside_51 r_now_56) [2, 1] rfl rfl rfl cv_X10_copies uw1806 ⟨rfl, rfl, by decide, by decide⟩ rfl rfl (Nat.le_of_ble_eq_true rfl) ⟨Nat.zero_le _, Nat.zero_le _⟩ dX10_tried_150 (fun ws150 k150 => ?_)
          obtain ⟨now_150, r_now_150, kp0_150, rfl⟩ := k150
          refine ⟨rfl, ?_⟩
          refine g_ws (ws2 := (wX10 cI cB cJ h q v_stalls v_claimMany v_taped v_place0 v_length0 v_fault v_number0 v_open v_codeMany v_waiting v_saidMany v_clauses v_newMany v_newStalls v_lines salesNow_56 outNow_56 v_isKept v_keptStalls now_150 aside_51 v_kept v_oneOf v_otherOf v_signOf v_byOf v_tape v_said v_waitsAt v_saidLetter v_saidFrom v_saidHalf v_saidTo v_codes v_clauseOf v_codeFrom v_codeHalf v_codeTo stack_56 facts_56 v_newOne v_newOther v_newSign v_newBy v_moreOf v_firstOf v_toldOf v_mostOf v_mostThen v_sumTo v_rowFrom v_ordersOf v_lessOf v_weightOf v_rowNow v_slowRow v_fastRow v_lineNow v_firstLine v_freeBy v_heldBy v_heightOf v_upTo v_downTo v_oftenOf v_newUpper v_newLower)) rfl ?_
          refine g_iload_n X dX10_tried_153 0 rfl ?_
          have hz : now_150 32 = v_now 32 := (kp0_150 32 (by decide)).trans (kp0_51 32 (by decide))
          exact hQ _ _ _ _ dX10_tried_154 ⟨salesNow_56, outNow_56, now_150, aside_51, stack_56, facts_56, (by omega), (by omega), r_now_150, r_aside_51, r_stack_56, r_facts_56, (by first | assumption | omega), (by first | assumption | omega), rfl⟩
    refine g_iload_n X dX10_tried_10 2 rfl ?_
    refine g_iconst X dX10_tried_11 ?_
    refine g_iconst X dX10_tried_12 ?_
    refine g_callSIE X (c_X10_in l D cI cB cJ (p0 := p1) (p1 := 0) (p2 := 2) (by first | assumption | omega) (by first | assumption | omega) (by first | assumption | omega)) cv_X10_in uw1394 ⟨rfl, rfl, by decide, by decide⟩ rfl rfl (Nat.le_of_ble_eq_true rfl) ⟨Nat.zero_le _, Nat.zero_le _⟩ dX10_tried_13 (fun t13 ws13 k13 => ?_)
    obtain ⟨kb_13, ⟨kp0_13, rfl⟩⟩ := k13
    refine g_if_ne X (tgt := 43) dX10_tried_16 (by decide) (by omega) (fun c16 => ?_) (fun c16 => ?_)
    · replace kb_13 := kb_13.resolve_left (fun h => c16 h)
      replace kp0_13 := kp0_13.resolve_right (fun h => c16 h.1)
      exact J43 (by first | assumption | omega)
    · clear kb_13
      replace kp0_13 := (kp0_13.resolve_left (fun h => absurd h.1 (by omega))).2
      refine g_aload_n X dX10_tried_19 0 rfl ?_
      refine g_iload_n X dX10_tried_20 2 rfl ?_
      refine g_bipush X (z := 10) dX10_tried_21 (by decide) ?_
      refine g_isub X dX10_tried_23 ?_
      refine g_nr (fun t23 e23 r23 => ?_)
      have n23 := z_nr3 e23 r23 (by omega)
      refine g_callVI0 X (c_X10_isStall l D cI cB cJ h q (p0 := t23) (by omega) (by first | assumption | omega)) cv_X10_isStall uw1765 ⟨rfl, rfl, by decide, by decide⟩ 0 rfl rfl rfl rfl rfl (Nat.le_of_ble_eq_true rfl) ⟨Nat.zero_le _, Nat.zero_le _⟩ dX10_tried_24 (fun t24 ws24 k24 => ?_)
      obtain ⟨kb_24, ⟨kp0_24, rfl⟩⟩ := k24
      refine g_if_ne X (tgt := 43) dX10_tried_27 (by decide) (by omega) (fun c27 => ?_) (fun c27 => ?_)
      · replace kb_24 := kb_24.resolve_left (fun h => c27 h)
        replace kp0_24 := kp0_24 kb_24
        exact J43 (by first | assumption | omega)
      · clear kb_24
        clear kp0_24
        refine g_aload_n X dX10_tried_30 0 rfl ?_
        refine g_iload_n X dX10_tried_31 2 rfl ?_
        refine g_bipush X (z := 20) dX10_tried_32 (by decide) ?_
        refine g_isub X dX10_tried_34 ?_
        refine g_nr (fun t34 e34 r34 => ?_)
        have n34 := z_nr3 e34 r34 (by omega)
        refine g_callVI0 X (c_X10_isStall l D cI cB cJ h q (p0 := t34) (by omega) (by first | assumption | omega)) cv_X10_isStall uw1765 ⟨rfl, rfl, by decide, by decide⟩ 0 rfl rfl rfl rfl rfl (Nat.le_of_ble_eq_true rfl) ⟨Nat.zero_le _, Nat.zero_le _⟩ dX10_tried_35 (fun t35 ws35 k35 => ?_)
        obtain ⟨kb_35, ⟨kp0_35, rfl⟩⟩ := k35
        refine g_if_ne X (tgt := 43) dX10_tried_38 (by decide) (by omega) (fun c38 => ?_) (fun c38 => ?_)
        · replace kb_35 := kb_35.resolve_left (fun h => c38 h)
          replace kp0_35 := kp0_35 kb_35
          exact J43 (by first | assumption | omega)
        · clear kb_35
          clear kp0_35
          refine g_iconst X dX10_tried_41 ?_
          exact hQ _ _ _ _ dX10_tried_42 ⟨v_salesNow, v_outNow, v_now, v_aside, v_stack, v_facts, (by omega), (by omega), r_v_now, r_v_aside, r_v_stack, r_v_facts, (by first | assumption | omega), (by first | assumption | omega), rfl⟩
