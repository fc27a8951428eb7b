set_option maxHeartbeats 4000000 in
set_option maxRecDepth 100000 in
theorem c_X10_feels (l : Launch) (D : va_G) (cI cB cJ : ClassId) (h : Nat) (q : Nat → Nat) {v_stalls v_claimMany v_taped v_place0 v_length0 v_fault v_number0 v_open v_codeMany v_waiting v_saidMany v_clauses v_newMany v_newStalls v_lines v_salesNow v_outNow v_isKept v_keptStalls : Int} {v_now v_aside v_kept v_oneOf v_otherOf v_signOf v_byOf v_tape v_said v_waitsAt v_saidLetter v_saidFrom v_saidHalf v_saidTo v_codes v_clauseOf v_codeFrom v_codeHalf v_codeTo v_stack v_facts v_newOne v_newOther v_newSign v_newBy v_moreOf v_firstOf v_toldOf v_mostOf v_mostThen v_sumTo v_rowFrom v_ordersOf v_lessOf v_weightOf v_rowNow v_slowRow v_fastRow v_lineNow v_firstLine v_freeBy v_heldBy v_heightOf v_upTo v_downTo v_oftenOf v_newUpper v_newLower : Nat → Int} {p0 p1 : Int} (kr_v_stalls : 0 ≤ v_stalls ∧ v_stalls ≤ 255) (r_v_now : RA (-2147483648) 2147483647 v_now) (r_v_facts : RA (-2147483648) 2147483647 v_facts) (hp0 : IR p0) (hp1 : IR p1) (hp2 : 0 ≤ p0 ∧ p0 ≤ 7) : CtV l yX10_feels cX10_feels 3 none ⟨3, 0, 0, 66⟩ D (TY cI cB cJ) (wX10 cI cB cJ h q v_stalls v_claimMany v_taped v_place0 v_length0 v_fault v_number0 v_open v_codeMany v_waiting v_saidMany v_clauses v_newMany v_newStalls v_lines v_salesNow v_outNow v_isKept v_keptStalls v_now v_aside v_kept v_oneOf v_otherOf v_signOf v_byOf v_tape v_said v_waitsAt v_saidLetter v_saidFrom v_saidHalf v_saidTo v_codes v_clauseOf v_codeFrom v_codeHalf v_codeTo v_stack v_facts v_newOne v_newOther v_newSign v_newBy v_moreOf v_firstOf v_toldOf v_mostOf v_mostThen v_sumTo v_rowFrom v_ordersOf v_lessOf v_weightOf v_rowNow v_slowRow v_fastRow v_lineNow v_firstLine v_freeBy v_heldBy v_heightOf v_upTo v_downTo v_oftenOf v_newUpper v_newLower) [.ref h, vI p0, vI p1] (fun ws' => ∃ n_facts : Nat → Int, (RA (-2147483648) 2147483647 n_facts) ∧ (ws' = (wX10 cI cB cJ h q v_stalls v_claimMany v_taped v_place0 v_length0 v_fault v_number0 v_open v_codeMany v_waiting v_saidMany v_clauses v_newMany v_newStalls v_lines v_salesNow v_outNow v_isKept v_keptStalls v_now v_aside v_kept v_oneOf v_otherOf v_signOf v_byOf v_tape v_said v_waitsAt v_saidLetter v_saidFrom v_saidHalf v_saidTo v_codes v_clauseOf v_codeFrom v_codeHalf v_codeTo v_stack n_facts v_newOne v_newOther v_newSign v_newBy v_moreOf v_firstOf v_toldOf v_mostOf v_mostThen v_sumTo v_rowFrom v_ordersOf v_lessOf v_weightOf v_rowNow v_slowRow v_fastRow v_lineNow v_firstLine v_freeBy v_heldBy v_heightOf v_upTo v_downTo v_oftenOf v_newUpper v_newLower))) := by
  refine hdrV (own := RX10) rfl (by decide +kernel) (Nat.le_of_ble_eq_true rfl) ?_
  intro p e s m args below meth c Q A X hQ
  refine g_lvE (lv2 := [(0, .ref h), (1, vI p0), (2, vI p1)]) rfl ?_
  refine g_aload_n X dX10_feels_0 0 rfl ?_
  refine gM_get X 0 rfl 32 (by decide) uw1211 rfl dX10_feels_1 ?_
  refine g_iconst X dX10_feels_4 ?_
  refine g_iload_n X dX10_feels_5 1 rfl ?_
  refine g_iast X 21 0 rfl rfl (by omega) (by decide) dX10_feels_6 (fun facts_6 e6 => ?_)
  have r_facts_6 : RA (-2147483648) 2147483647 facts_6 := by rw [e6]; exact RA_up r_v_facts (by omega)
  refine g_ws (ws2 := (wX10 cI cB cJ h q v_stalls v_claimMany v_taped v_place0 v_length0 v_fault v_number0 v_open v_codeMany v_waiting v_saidMany v_clauses v_newMany v_newStalls v_lines v_salesNow v_outNow v_isKept v_keptStalls v_now v_aside v_kept v_oneOf v_otherOf v_signOf v_byOf v_tape v_said v_waitsAt v_saidLetter v_saidFrom v_saidHalf v_saidTo v_codes v_clauseOf v_codeFrom v_codeHalf v_codeTo v_stack facts_6 v_newOne v_newOther v_newSign v_newBy v_moreOf v_firstOf v_toldOf v_mostOf v_mostThen v_sumTo v_rowFrom v_ordersOf v_lessOf v_weightOf v_rowNow v_slowRow v_fastRow v_lineNow v_firstLine v_freeBy v_heldBy v_heightOf v_upTo v_downTo v_oftenOf v_newUpper v_newLower)) rfl ?_
  refine g_aload_n X dX10_feels_7 0 rfl ?_
  refine gM_get X 0 rfl 32 (by decide) uw1211 rfl dX10_feels_8 ?_
  refine g_iconst X dX10_feels_11 ?_
  refine g_aload_n X dX10_feels_12 0 rfl ?_
  refine gM_get X 0 rfl 0 (by decide) uw1179 rfl dX10_feels_13 ?_
  refine g_iconst X dX10_feels_16 ?_
  refine g_iload_n X dX10_feels_17 1 rfl ?_
  refine g_iadd X dX10_feels_18 ?_
  refine g_iald X 1 0 rfl rfl (by omega) (by decide) dX10_feels_19 (fun t19 e19 => ?_)
  have r19 := r_v_now (0 + p0 : Int).toNat; rw [← e19] at r19
  refine g_iast X 21 0 rfl rfl (by omega) (by decide) dX10_feels_20 (fun facts_20 e20 => ?_)
  have r_facts_20 : RA (-2147483648) 2147483647 facts_20 := by rw [e20]; exact RA_up r_facts_6 (by omega)
  refine g_ws (ws2 := (wX10 cI cB cJ h q v_stalls v_claimMany v_taped v_place0 v_length0 v_fault v_number0 v_open v_codeMany v_waiting v_saidMany v_clauses v_newMany v_newStalls v_lines v_salesNow v_outNow v_isKept v_keptStalls v_now v_aside v_kept v_oneOf v_otherOf v_signOf v_byOf v_tape v_said v_waitsAt v_saidLetter v_saidFrom v_saidHalf v_saidTo v_codes v_clauseOf v_codeFrom v_codeHalf v_codeTo v_stack facts_20 v_newOne v_newOther v_newSign v_newBy v_moreOf v_firstOf v_toldOf v_mostOf v_mostThen v_sumTo v_rowFrom v_ordersOf v_lessOf v_weightOf v_rowNow v_slowRow v_fastRow v_lineNow v_firstLine v_freeBy v_heldBy v_heightOf v_upTo v_downTo v_oftenOf v_newUpper v_newLower)) rfl ?_
  refine g_aload_n X dX10_feels_21 0 rfl ?_
  refine gM_get X 0 rfl 32 (by decide) uw1211 rfl dX10_feels_22 ?_
  refine g_iconst X dX10_feels_25 ?_
  refine g_aload_n X dX10_feels_26 0 rfl ?_
  refine gM_get X 0 rfl 0 (by decide) uw1179 rfl dX10_feels_27 ?_
  refine g_bipush X (z := 8) dX10_feels_30 (by decide) ?_
  refine g_iload_n X dX10_feels_32 1 rfl ?_
  refine g_iadd X dX10_feels_33 ?_
  refine g_iald X 1 0 rfl rfl (by omega) (by decide) dX10_feels_34 (fun t34 e34 => ?_)
  have r34 := r_v_now (8 + p0 : Int).toNat; rw [← e34] at r34
  refine g_iast X 21 0 rfl rfl (by omega) (by decide) dX10_feels_35 (fun facts_35 e35 => ?_)
  have r_facts_35 : RA (-2147483648) 2147483647 facts_35 := by rw [e35]; exact RA_up r_facts_20 (by omega)
  refine g_ws (ws2 := (wX10 cI cB cJ h q v_stalls v_claimMany v_taped v_place0 v_length0 v_fault v_number0 v_open v_codeMany v_waiting v_saidMany v_clauses v_newMany v_newStalls v_lines v_salesNow v_outNow v_isKept v_keptStalls v_now v_aside v_kept v_oneOf v_otherOf v_signOf v_byOf v_tape v_said v_waitsAt v_saidLetter v_saidFrom v_saidHalf v_saidTo v_codes v_clauseOf v_codeFrom v_codeHalf v_codeTo v_stack facts_35 v_newOne v_newOther v_newSign v_newBy v_moreOf v_firstOf v_toldOf v_mostOf v_mostThen v_sumTo v_rowFrom v_ordersOf v_lessOf v_weightOf v_rowNow v_slowRow v_fastRow v_lineNow v_firstLine v_freeBy v_heldBy v_heightOf v_upTo v_downTo v_oftenOf v_newUpper v_newLower)) rfl ?_
  refine g_aload_n X dX10_feels_36 0 rfl ?_
  refine gM_get X 0 rfl 32 (by decide) uw1211 rfl dX10_feels_37 ?_
  refine g_iconst X dX10_feels_40 ?_
  refine g_aload_n X dX10_feels_41 0 rfl ?_
  refine g_iload_n X dX10_feels_42 1 rfl ?_
  refine g_callVI0 X (c_X10_between l D cI cB cJ h q (p0 := p0) r_v_now (by first | assumption | omega) (by first | assumption | omega)) cv_X10_between uw1774 ⟨rfl, rfl, by decide, by decide⟩ 0 rfl rfl rfl rfl rfl (Nat.le_of_ble_eq_true rfl) ⟨Nat.zero_le _, Nat.zero_le _⟩ dX10_feels_43 (fun t43 ws43 k43 => ?_)
  obtain ⟨kp0_43, rfl⟩ := k43
  refine g_iast X 21 0 rfl rfl (by omega) (by decide) dX10_feels_46 (fun facts_46 e46 => ?_)
  have r_facts_46 : RA (-2147483648) 2147483647 facts_46 := by rw [e46]; exact RA_up r_facts_35 (by omega)
  refine g_ws (ws2 := (wX10 cI cB cJ h q v_stalls v_claimMany v_taped v_place0 v_length0 v_fault v_number0 v_open v_codeMany v_waiting v_saidMany v_clauses v_newMany v_newStalls v_lines v_salesNow v_outNow v_isKept v_keptStalls v_now v_aside v_kept v_oneOf v_otherOf v_signOf v_byOf v_tape v_said v_waitsAt v_saidLetter v_saidFrom v_saidHalf v_saidTo v_codes v_clauseOf v_codeFrom v_codeHalf v_codeTo v_stack facts_46 v_newOne v_newOther v_newSign v_newBy v_moreOf v_firstOf v_toldOf v_mostOf v_mostThen v_sumTo v_rowFrom v_ordersOf v_lessOf v_weightOf v_rowNow v_slowRow v_fastRow v_lineNow v_firstLine v_freeBy v_heldBy v_heightOf v_upTo v_downTo v_oftenOf v_newUpper v_newLower)) rfl ?_
  refine g_aload_n X dX10_feels_47 0 rfl ?_
  refine gM_get X 0 rfl 32 (by decide) uw1211 rfl dX10_feels_48 ?_
  refine g_iconst X dX10_feels_51 ?_
  refine g_aload_n X dX10_feels_52 0 rfl ?_
  refine gM_get X 0 rfl 0 (by decide) uw1179 rfl dX10_feels_53 ?_
  refine g_bipush X (z := 16) dX10_feels_56 (by decide) ?_
  refine g_iload_n X dX10_feels_58 1 rfl ?_
  refine g_iadd X dX10_feels_59 ?_
  refine g_iald X 1 0 rfl rfl (by omega) (by decide) dX10_feels_60 (fun t60 e60 => ?_)
  have r60 := r_v_now (16 + p0 : Int).toNat; rw [← e60] at r60
  refine g_bipush X (z := 100) dX10_feels_61 (by decide) ?_
  refine g_idivT X dX10_feels_63 (by omega) (by omega) ?_
  refine g_nr (fun t63 e63 r63 => ?_)
  refine g_iast X 21 0 rfl rfl (by omega) (by decide) dX10_feels_64 (fun facts_64 e64 => ?_)
  have r_facts_64 : RA (-2147483648) 2147483647 facts_64 := by rw [e64]; exact RA_up r_facts_46 (by omega)
  refine g_ws (ws2 := (wX10 cI cB cJ h q v_stalls v_claimMany v_taped v_place0 v_length0 v_fault v_number0 v_open v_codeMany v_waiting v_saidMany v_clauses v_newMany v_newStalls v_lines v_salesNow v_outNow v_isKept v_keptStalls v_now v_aside v_kept v_oneOf v_otherOf v_signOf v_byOf v_tape v_said v_waitsAt v_saidLetter v_saidFrom v_saidHalf v_saidTo v_codes v_clauseOf v_codeFrom v_codeHalf v_codeTo v_stack facts_64 v_newOne v_newOther v_newSign v_newBy v_moreOf v_firstOf v_toldOf v_mostOf v_mostThen v_sumTo v_rowFrom v_ordersOf v_lessOf v_weightOf v_rowNow v_slowRow v_fastRow v_lineNow v_firstLine v_freeBy v_heldBy v_heightOf v_upTo v_downTo v_oftenOf v_newUpper v_newLower)) rfl ?_
  refine g_aload_n X dX10_feels_65 0 rfl ?_
  refine gM_get X 0 rfl 32 (by decide) uw1211 rfl dX10_feels_66 ?_
  refine g_iconst X dX10_feels_69 ?_
  refine g_aload_n X dX10_feels_70 0 rfl ?_
  refine gM_get X 0 rfl 0 (by decide) uw1179 rfl dX10_feels_71 ?_
  refine g_bipush X (z := 24) dX10_feels_74 (by decide) ?_
  refine g_iload_n X dX10_feels_76 1 rfl ?_
  refine g_iadd X dX10_feels_77 ?_
  refine g_iald X 1 0 rfl rfl (by omega) (by decide) dX10_feels_78 (fun t78 e78 => ?_)
  have r78 := r_v_now (24 + p0 : Int).toNat; rw [← e78] at r78
  refine g_iast X 21 0 rfl rfl (by omega) (by decide) dX10_feels_79 (fun facts_79 e79 => ?_)
  have r_facts_79 : RA (-2147483648) 2147483647 facts_79 := by rw [e79]; exact RA_up r_facts_64 (by omega)
  refine g_ws (ws2 := (wX10 cI cB cJ h q v_stalls v_claimMany v_taped v_place0 v_length0 v_fault v_number0 v_open v_codeMany v_waiting v_saidMany v_clauses v_newMany v_newStalls v_lines v_salesNow v_outNow v_isKept v_keptStalls v_now v_aside v_kept v_oneOf v_otherOf v_signOf v_byOf v_tape v_said v_waitsAt v_saidLetter v_saidFrom v_saidHalf v_saidTo v_codes v_clauseOf v_codeFrom v_codeHalf v_codeTo v_stack facts_79 v_newOne v_newOther v_newSign v_newBy v_moreOf v_firstOf v_toldOf v_mostOf v_mostThen v_sumTo v_rowFrom v_ordersOf v_lessOf v_weightOf v_rowNow v_slowRow v_fastRow v_lineNow v_firstLine v_freeBy v_heldBy v_heightOf v_upTo v_downTo v_oftenOf v_newUpper v_newLower)) rfl ?_
  refine g_aload_n X dX10_feels_80 0 rfl ?_
  refine gM_get X 0 rfl 32 (by decide) uw1211 rfl dX10_feels_81 ?_
  refine g_bipush X (z := 6) dX10_feels_84 (by decide) ?_
  refine g_aload_n X dX10_feels_86 0 rfl ?_
  refine g_iload_n X dX10_feels_87 1 rfl ?_
  refine g_callVI0 X (c_X10_othersMore l D cI cB cJ h q (p0 := p0) (by omega) r_v_now (by first | assumption | omega) (by first | assumption | omega)) cv_X10_othersMore uw1782 ⟨rfl, rfl, by decide, by decide⟩ 0 rfl rfl rfl rfl rfl (Nat.le_of_ble_eq_true rfl) ⟨Nat.zero_le _, Nat.zero_le _⟩ dX10_feels_88 (fun t88 ws88 k88 => ?_)
  obtain ⟨kp0_88, rfl⟩ := k88
  refine g_iast X 21 0 rfl rfl (by omega) (by decide) dX10_feels_91 (fun facts_91 e91 => ?_)
  have r_facts_91 : RA (-2147483648) 2147483647 facts_91 := by rw [e91]; exact RA_up r_facts_79 (by omega)
  refine g_ws (ws2 := (wX10 cI cB cJ h q v_stalls v_claimMany v_taped v_place0 v_length0 v_fault v_number0 v_open v_codeMany v_waiting v_saidMany v_clauses v_newMany v_newStalls v_lines v_salesNow v_outNow v_isKept v_keptStalls v_now v_aside v_kept v_oneOf v_otherOf v_signOf v_byOf v_tape v_said v_waitsAt v_saidLetter v_saidFrom v_saidHalf v_saidTo v_codes v_clauseOf v_codeFrom v_codeHalf v_codeTo v_stack facts_91 v_newOne v_newOther v_newSign v_newBy v_moreOf v_firstOf v_toldOf v_mostOf v_mostThen v_sumTo v_rowFrom v_ordersOf v_lessOf v_weightOf v_rowNow v_slowRow v_fastRow v_lineNow v_firstLine v_freeBy v_heldBy v_heightOf v_upTo v_downTo v_oftenOf v_newUpper v_newLower)) rfl ?_
  refine g_aload_n X dX10_feels_92 0 rfl ?_
  refine gM_get X 0 rfl 32 (by decide) uw1211 rfl dX10_feels_93 ?_
  refine g_bipush X (z := 7) dX10_feels_96 (by decide) ?_
  refine g_aload_n X dX10_feels_98 0 rfl ?_
  refine gM_get X 0 rfl 0 (by decide) uw1179 rfl dX10_feels_99 ?_
  refine g_bipush X (z := 32) dX10_feels_102 (by decide) ?_
  refine g_iald X 1 0 rfl rfl (by omega) (by decide) dX10_feels_104 (fun t104 e104 => ?_)
  have r104 := r_v_now (32 : Int).toNat; rw [← e104] at r104
  refine g_bipush X (z := 100) dX10_feels_105 (by decide) ?_
  refine g_iremT X dX10_feels_107 (by omega) (by omega) ?_
  refine g_nm (fun t107 e107 => ?_)
  have r107 := z_iremT_r t104 100 (by omega) (by omega); rw [← e107] at r107
  refine g_iast X 21 0 rfl rfl (by omega) (by decide) dX10_feels_108 (fun facts_108 e108 => ?_)
  have r_facts_108 : RA (-2147483648) 2147483647 facts_108 := by rw [e108]; exact RA_up r_facts_91 (by omega)
  refine g_ws (ws2 := (wX10 cI cB cJ h q v_stalls v_claimMany v_taped v_place0 v_length0 v_fault v_number0 v_open v_codeMany v_waiting v_saidMany v_clauses v_newMany v_newStalls v_lines v_salesNow v_outNow v_isKept v_keptStalls v_now v_aside v_kept v_oneOf v_otherOf v_signOf v_byOf v_tape v_said v_waitsAt v_saidLetter v_saidFrom v_saidHalf v_saidTo v_codes v_clauseOf v_codeFrom v_codeHalf v_codeTo v_stack facts_108 v_newOne v_newOther v_newSign v_newBy v_moreOf v_firstOf v_toldOf v_mostOf v_mostThen v_sumTo v_rowFrom v_ordersOf v_lessOf v_weightOf v_rowNow v_slowRow v_fastRow v_lineNow v_firstLine v_freeBy v_heldBy v_heightOf v_upTo v_downTo v_oftenOf v_newUpper v_newLower)) rfl ?_
  refine g_aload_n X dX10_feels_109 0 rfl ?_
  refine gM_get X 0 rfl 32 (by decide) uw1211 rfl dX10_feels_110 ?_
  refine g_bipush X (z := 8) dX10_feels_113 (by decide) ?_
  refine g_iload_n X dX10_feels_115 2 rfl ?_
  refine g_iast X 21 0 rfl rfl (by omega) (by decide) dX10_feels_116 (fun facts_116 e116 => ?_)
  have r_facts_116 : RA (-2147483648) 2147483647 facts_116 := by rw [e116]; exact RA_up r_facts_108 (by omega)
  refine g_ws (ws2 := (wX10 cI cB cJ h q v_stalls v_claimMany v_taped v_place0 v_length0 v_fault v_number0 v_open v_codeMany v_waiting v_saidMany v_clauses v_newMany v_newStalls v_lines v_salesNow v_outNow v_isKept v_keptStalls v_now v_aside v_kept v_oneOf v_otherOf v_signOf v_byOf v_tape v_said v_waitsAt v_saidLetter v_saidFrom v_saidHalf v_saidTo v_codes v_clauseOf v_codeFrom v_codeHalf v_codeTo v_stack facts_116 v_newOne v_newOther v_newSign v_newBy v_moreOf v_firstOf v_toldOf v_mostOf v_mostThen v_sumTo v_rowFrom v_ordersOf v_lessOf v_weightOf v_rowNow v_slowRow v_fastRow v_lineNow v_firstLine v_freeBy v_heldBy v_heightOf v_upTo v_downTo v_oftenOf v_newUpper v_newLower)) rfl ?_
  exact hQ _ _ _ dX10_feels_117 ⟨facts_116, r_facts_116, rfl⟩
set_option maxHeartbeats 4000000 in
set_option maxRecDepth 100000 in
theorem c_X10_sells (l : Launch) (D : va_G) (cI cB cJ : ClassId) (h : Nat) (q : Nat → Nat) {v_stalls v_claimMany v_taped v_place0 v_length0 v_fault v_number0 v_open v_codeMany v_waiting v_saidMany v_clauses v_newMany v_newStalls v_lines v_salesNow v_outNow v_isKept v_keptStalls : Int} {v_now v_aside v_kept v_oneOf v_otherOf v_signOf v_byOf v_tape v_said v_waitsAt v_saidLetter v_saidFrom v_saidHalf v_saidTo v_codes v_clauseOf v_codeFrom v_codeHalf v_codeTo v_stack v_facts v_newOne v_newOther v_newSign v_newBy v_moreOf v_firstOf v_toldOf v_mostOf v_mostThen v_sumTo v_rowFrom v_ordersOf v_lessOf v_weightOf v_rowNow v_slowRow v_fastRow v_lineNow v_firstLine v_freeBy v_heldBy v_heightOf v_upTo v_downTo v_oftenOf v_newUpper v_newLower : Nat → Int} {p0 : Int} (kr_v_stalls : 0 ≤ v_stalls ∧ v_stalls ≤ 255) (kr_v_clauses : 0 ≤ v_clauses ∧ v_clauses ≤ 16) (kr_v_salesNow : (-2147483648) ≤ v_salesNow ∧ v_salesNow ≤ 2147483647) (kr_v_outNow : (-2147483648) ≤ v_outNow ∧ v_outNow ≤ 2147483647) (r_v_now : RA (-2147483648) 2147483647 v_now) (r_v_codes : RA 0 16777215 v_codes) (r_v_clauseOf : RA (-2147483648) 2147483647 v_clauseOf) (r_v_codeFrom : RA 0 260 v_codeFrom) (r_v_codeHalf : RA 0 260 v_codeHalf) (r_v_codeTo : RA 0 260 v_codeTo) (r_v_stack : RA (-2147483648) 2147483647 v_stack) (r_v_facts : RA (-2147483648) 2147483647 v_facts) (hp0 : IR p0) (hp1 : 0 ≤ p0 ∧ p0 ≤ 7) (hp2 : LawOK v_codes v_clauses v_codeFrom v_codeHalf v_codeTo) : CtV l yX10_sells cX10_sells 6 none ⟨4, 0, 0, 88⟩ D (TY cI cB cJ) (wX10 cI cB cJ h q v_stalls v_claimMany v_taped v_place0 v_length0 v_fault v_number0 v_open v_codeMany v_waiting v_saidMany v_clauses v_newMany v_newStalls v_lines v_salesNow v_outNow v_isKept v_keptStalls v_now v_aside v_kept v_oneOf v_otherOf v_signOf v_byOf v_tape v_said v_waitsAt v_saidLetter v_saidFrom v_saidHalf v_saidTo v_codes v_clauseOf v_codeFrom v_codeHalf v_codeTo v_stack v_facts v_newOne v_newOther v_newSign v_newBy v_moreOf v_firstOf v_toldOf v_mostOf v_mostThen v_sumTo v_rowFrom v_ordersOf v_lessOf v_weightOf v_rowNow v_slowRow v_fastRow v_lineNow v_firstLine v_freeBy v_heldBy v_heightOf v_upTo v_downTo v_oftenOf v_newUpper v_newLower) [.ref h, vI p0] (fun ws' => ∃ n_salesNow : Int, ∃ n_outNow : Int, ∃ n_now : Nat → Int, ∃ n_stack : Nat → Int, ∃ n_facts : Nat → Int, ((-2147483648) ≤ n_salesNow ∧ n_salesNow ≤ 2147483647) ∧ ((-2147483648) ≤ n_outNow ∧ n_outNow ≤ 2147483647) ∧ (RA (-2147483648) 2147483647 n_now) ∧ (RA (-2147483648) 2147483647 n_stack) ∧ (RA (-2147483648) 2147483647 n_facts) ∧ (n_now 32 = v_now 32) ∧ (ws' = (wX10 cI cB cJ h q v_stalls v_claimMany v_taped v_place0 v_length0 v_fault v_number0 v_open v_codeMany v_waiting v_saidMany v_clauses v_newMany v_newStalls v_lines n_salesNow n_outNow v_isKept v_keptStalls n_now v_aside v_kept v_oneOf v_otherOf v_signOf v_byOf v_tape v_said v_waitsAt v_saidLetter v_saidFrom v_saidHalf v_saidTo v_codes v_clauseOf v_codeFrom v_codeHalf v_codeTo n_stack n_facts v_newOne v_newOther v_newSign v_newBy v_moreOf v_firstOf v_toldOf v_mostOf v_mostThen v_sumTo v_rowFrom v_ordersOf v_lessOf v_weightOf v_rowNow v_slowRow v_fastRow v_lineNow v_firstLine v_freeBy v_heldBy v_heightOf v_upTo v_downTo v_oftenOf v_newUpper v_newLower))) := by
  refine hdrV (own := RX10) rfl (by decide +kernel) (Nat.le_of_ble_eq_true rfl) ?_
  intro p e s m args below meth c Q A X hQ
  refine g_lvE (lv2 := [(0, .ref h), (1, vI p0)]) rfl ?_
  refine g_aload_n X dX10_sells_0 0 rfl ?_
  refine gM_get X 0 rfl 0 (by decide) uw1179 rfl dX10_sells_1 ?_
  refine g_bipush X (z := 33) dX10_sells_4 (by decide) ?_
  refine g_sipush X (z := 25173) dX10_sells_6 (by decide) ?_
  refine g_aload_n X dX10_sells_9 0 rfl ?_
  refine gM_get X 0 rfl 0 (by decide) uw1179 rfl dX10_sells_10 ?_
  refine g_bipush X (z := 33) dX10_sells_13 (by decide) ?_
  refine g_iald X 1 0 rfl rfl (by omega) (by decide) dX10_sells_15 (fun t15 e15 => ?_)
  have r15 := r_v_now (33 : Int).toNat; rw [← e15] at r15
  refine g_imul X dX10_sells_16 ?_
  refine g_nr (fun t16 e16 r16 => ?_)
  refine g_sipush X (z := 13849) dX10_sells_17 (by decide) ?_
  refine g_iadd X dX10_sells_20 ?_
  refine g_nr (fun t20 e20 r20 => ?_)
  refine g_ldcw X (z := 65536) dX10_sells_21 uw1773 (by decide) ?_
  refine g_iremT X dX10_sells_24 (by omega) (by omega) ?_
  refine g_nm (fun t24 e24 => ?_)
  have r24 := z_iremT_r t20 65536 (by omega) (by omega); rw [← e24] at r24
  refine g_iast X 1 0 rfl rfl (by omega) (by decide) dX10_sells_25 (fun now_25 e25 => ?_)
  have r_now_25 : RA (-2147483648) 2147483647 now_25 := by rw [e25]; exact RA_up r_v_now (by omega)
  have qnow_25_32 : now_25 32 = v_now 32 := by rw [e25]; exact updZ_n _ _ (by omega)
  refine g_ws (ws2 := (wX10 cI cB cJ h q v_stalls v_claimMany v_taped v_place0 v_length0 v_fault v_number0 v_open v_codeMany v_waiting v_saidMany v_clauses v_newMany v_newStalls v_lines v_salesNow v_outNow v_isKept v_keptStalls now_25 v_aside v_kept v_oneOf v_otherOf v_signOf v_byOf v_tape v_said v_waitsAt v_saidLetter v_saidFrom v_saidHalf v_saidTo v_codes v_clauseOf v_codeFrom v_codeHalf v_codeTo v_stack v_facts v_newOne v_newOther v_newSign v_newBy v_moreOf v_firstOf v_toldOf v_mostOf v_mostThen v_sumTo v_rowFrom v_ordersOf v_lessOf v_weightOf v_rowNow v_slowRow v_fastRow v_lineNow v_firstLine v_freeBy v_heldBy v_heightOf v_upTo v_downTo v_oftenOf v_newUpper v_newLower)) rfl ?_
  refine g_aload_n X dX10_sells_26 0 rfl ?_
  refine gM_get X 0 rfl 0 (by decide) uw1179 rfl dX10_sells_27 ?_
  refine g_bipush X (z := 33) dX10_sells_30 (by decide) ?_
  refine g_iald X 1 0 rfl rfl (by omega) (by decide) dX10_sells_32 (fun t32 e32 => ?_)
  have r32 := r_now_25 (33 : Int).toNat; rw [← e32] at r32
  refine g_bipush X (z := 10) dX10_sells_33 (by decide) ?_
  refine g_iremT X dX10_sells_35 (by omega) (by omega) ?_
  refine g_nm (fun t35 e35 => ?_)
  have r35 := z_iremT_r t32 10 (by omega) (by omega); rw [← e35] at r35
  refine g_istore_n X (lv' := [(2, vI t35), (0, .ref h), (1, vI p0)]) dX10_sells_36 (by decide) rfl ?_
  refine g_aload_n X dX10_sells_37 1 rfl ?_
  refine g_iload_n X dX10_sells_38 2 rfl ?_
  refine g_callVI0 X (c_X10_between l D cI cB cJ h q (p0 := p0) r_now_25 (by first | assumption | omega) (by first | assumption | omega)) cv_X10_between uw1774 ⟨rfl, rfl, by decide, by decide⟩ 0 rfl rfl rfl rfl rfl (Nat.le_of_ble_eq_true rfl) ⟨Nat.zero_le _, Nat.zero_le _⟩ dX10_sells_39 (fun t39 ws39 k39 => ?_)
  obtain ⟨kp0_39, rfl⟩ := k39
  refine g_istore_n X (lv' := [(3, vI t39), (2, vI t35), (0, .ref h), (1, vI p0)]) dX10_sells_42 (by decide) rfl ?_
  refine g_aload_n X dX10_sells_43 2 rfl ?_
  refine g_iload_n X dX10_sells_44 3 rfl ?_
  refine g_iload_n X dX10_sells_45 1 rfl ?_
  refine g_callVV0 X (c_X10_feels l D cI cB cJ h q (p0 := p0) (p1 := t35) (by omega) r_now_25 r_v_facts (by first | assumption | omega) (by first | assumption | omega) (by first | assumption | omega)) cv_X10_feels uw1778 ⟨rfl, rfl, by decide, by decide⟩ 0 rfl rfl rfl rfl rfl (Nat.le_of_ble_eq_true rfl) ⟨Nat.zero_le _, Nat.zero_le _⟩ dX10_sells_46 (fun ws46 k46 => ?_)
  obtain ⟨facts_46, r_facts_46, rfl⟩ := k46
  refine g_aload_n X dX10_sells_49 2 rfl ?_
  refine g_bipush X (z := 120) dX10_sells_50 (by decide) ?_
  refine g_callVI0 X (c_X10_holdsAny l D cI cB cJ h q (p0 := 120) (by omega) r_v_codes r_v_clauseOf r_v_codeFrom r_v_codeHalf r_v_codeTo r_v_stack r_facts_46 (by first | assumption | omega) (by first | assumption | omega)) cv_X10_holdsAny uw1786 ⟨rfl, rfl, by decide, by decide⟩ 0 rfl rfl rfl rfl rfl (Nat.le_of_ble_eq_true rfl) ⟨Nat.zero_le _, Nat.zero_le _⟩ dX10_sells_52 (fun t52 ws52 k52 => ?_)
  obtain ⟨kb_52, ⟨stack_52, r_stack_52, rfl⟩⟩ := k52
  refine g_if_eq X (tgt := 59) dX10_sells_55 (by decide) (by omega) (fun c55 => ?_) (fun c55 => ?_)
  · refine g_aload_n X dX10_sells_59 2 rfl ?_
    refine g_bipush X (z := 118) dX10_sells_60 (by decide) ?_
    refine g_sipush X (z := 999) dX10_sells_62 (by decide) ?_
    refine g_iconst X dX10_sells_65 ?_
    refine g_callVI0 X (c_X10_byLaw l D cI cB cJ h q (p0 := 118) (p1 := 999) (p2 := 5) (by omega) r_v_codes r_v_clauseOf r_v_codeFrom r_v_codeHalf r_v_codeTo r_stack_52 r_facts_46 (by first | assumption | omega) (by first | assumption | omega) (by first | assumption | omega) (by first | assumption | omega)) cv_X10_byLaw uw1797 ⟨rfl, rfl, by decide, by decide⟩ 0 rfl rfl rfl rfl rfl (Nat.le_of_ble_eq_true rfl) ⟨Nat.zero_le _, Nat.zero_le _⟩ dX10_sells_66 (fun t66 ws66 k66 => ?_)
    obtain ⟨stack_66, r_stack_66, kp0_66, rfl⟩ := k66
    refine g_iload_n X dX10_sells_69 0 rfl ?_
    refine g_callSIE X (c_X10_min l D cI cB cJ (p0 := t66) (p1 := t39) (by first | assumption | omega) (by first | assumption | omega)) cv_X10_min uw1551 ⟨rfl, rfl, by decide, by decide⟩ rfl rfl (Nat.le_of_ble_eq_true rfl) ⟨Nat.zero_le _, Nat.zero_le _⟩ dX10_sells_70 (fun t70 ws70 k70 => ?_)
    obtain ⟨kp0_70, rfl⟩ := k70
    refine g_istore X (lv' := [(4, vI t70), (3, vI t39), (2, vI t35), (0, .ref h), (1, vI p0)]) dX10_sells_73 (by decide) rfl ?_
    refine g_aload_n X dX10_sells_75 3 rfl ?_
    refine g_bipush X (z := 121) dX10_sells_76 (by decide) ?_
    refine g_bipush X (z := 99) dX10_sells_78 (by decide) ?_
    refine g_iconst X dX10_sells_80 ?_
    refine g_callVI0 X (c_X10_byLaw l D cI cB cJ h q (p0 := 121) (p1 := 99) (p2 := 1) (by omega) r_v_codes r_v_clauseOf r_v_codeFrom r_v_codeHalf r_v_codeTo r_stack_66 r_facts_46 (by first | assumption | omega) (by first | assumption | omega) (by first | assumption | omega) (by first | assumption | omega)) cv_X10_byLaw uw1797 ⟨rfl, rfl, by decide, by decide⟩ 0 rfl rfl rfl rfl rfl (Nat.le_of_ble_eq_true rfl) ⟨Nat.zero_le _, Nat.zero_le _⟩ dX10_sells_81 (fun t81 ws81 k81 => ?_)
    obtain ⟨stack_81, r_stack_81, kp0_81, rfl⟩ := k81
    refine g_istore X (lv' := [(5, vI t81), (4, vI t70), (3, vI t39), (2, vI t35), (0, .ref h), (1, vI p0)]) dX10_sells_84 (by decide) rfl ?_
    refine g_aload_n X dX10_sells_86 4 rfl ?_
    refine gM_get X 0 rfl 0 (by decide) uw1179 rfl dX10_sells_87 ?_
    refine g_iconst X dX10_sells_90 ?_
    refine g_iload_n X dX10_sells_91 5 rfl ?_
    refine g_iadd X dX10_sells_92 ?_
    refine g_aload_n X dX10_sells_93 4 rfl ?_
    refine gM_get X 0 rfl 0 (by decide) uw1179 rfl dX10_sells_94 ?_
    refine g_iconst X dX10_sells_97 ?_
    refine g_iload_n X dX10_sells_98 5 rfl ?_
    refine g_iadd X dX10_sells_99 ?_
    refine g_iald X 1 0 rfl rfl (by omega) (by decide) dX10_sells_100 (fun t100 e100 => ?_)
    have r100 := r_now_25 (0 + p0 : Int).toNat; rw [← e100] at r100
    refine g_iload X dX10_sells_101 1 rfl ?_
    refine g_isub X dX10_sells_103 ?_
    refine g_nr (fun t103 e103 r103 => ?_)
    refine g_iast X 1 0 rfl rfl (by omega) (by decide) dX10_sells_104 (fun now_104 e104 => ?_)
    have r_now_104 : RA (-2147483648) 2147483647 now_104 := by rw [e104]; exact RA_up r_now_25 (by omega)
    have qnow_104_32 : now_104 32 = now_25 32 := by rw [e104]; exact updZ_n _ _ (by omega)
    refine g_ws (ws2 := (wX10 cI cB cJ h q v_stalls v_claimMany v_taped v_place0 v_length0 v_fault v_number0 v_open v_codeMany v_waiting v_saidMany v_clauses v_newMany v_newStalls v_lines v_salesNow v_outNow v_isKept v_keptStalls now_104 v_aside v_kept v_oneOf v_otherOf v_signOf v_byOf v_tape v_said v_waitsAt v_saidLetter v_saidFrom v_saidHalf v_saidTo v_codes v_clauseOf v_codeFrom v_codeHalf v_codeTo stack_81 facts_46 v_newOne v_newOther v_newSign v_newBy v_moreOf v_firstOf v_toldOf v_mostOf v_mostThen v_sumTo v_rowFrom v_ordersOf v_lessOf v_weightOf v_rowNow v_slowRow v_fastRow v_lineNow v_firstLine v_freeBy v_heldBy v_heightOf v_upTo v_downTo v_oftenOf v_newUpper v_newLower)) rfl ?_
    refine g_aload_n X dX10_sells_105 4 rfl ?_
    refine gM_get X 0 rfl 0 (by decide) uw1179 rfl dX10_sells_106 ?_
    refine g_bipush X (z := 16) dX10_sells_109 (by decide) ?_
    refine g_iload_n X dX10_sells_111 5 rfl ?_
    refine g_iadd X dX10_sells_112 ?_
    refine g_ldcw X (z := 999999) dX10_sells_113 uw1801 (by decide) ?_
    refine g_aload_n X dX10_sells_116 4 rfl ?_
    refine gM_get X 0 rfl 0 (by decide) uw1179 rfl dX10_sells_117 ?_
    refine g_bipush X (z := 16) dX10_sells_120 (by decide) ?_
    refine g_iload_n X dX10_sells_122 5 rfl ?_
    refine g_iadd X dX10_sells_123 ?_
    refine g_iald X 1 0 rfl rfl (by omega) (by decide) dX10_sells_124 (fun t124 e124 => ?_)
    have r124 := r_now_104 (16 + p0 : Int).toNat; rw [← e124] at r124
    refine g_iload X dX10_sells_125 1 rfl ?_
    refine g_iload X dX10_sells_127 0 rfl ?_
    refine g_imul X dX10_sells_129 ?_
    refine g_nr (fun t129 e129 r129 => ?_)
    refine g_iadd X dX10_sells_130 ?_
    refine g_nr (fun t130 e130 r130 => ?_)
    refine g_callSIE X (c_X10_min l D cI cB cJ (p0 := 999999) (p1 := t130) (by first | assumption | omega) (by first | assumption | omega)) cv_X10_min uw1551 ⟨rfl, rfl, by decide, by decide⟩ rfl rfl (Nat.le_of_ble_eq_true rfl) ⟨Nat.zero_le _, Nat.zero_le _⟩ dX10_sells_131 (fun t131 ws131 k131 => ?_)
    obtain ⟨kp0_131, rfl⟩ := k131
    refine g_iast X 1 0 rfl rfl (by omega) (by decide) dX10_sells_134 (fun now_134 e134 => ?_)
    have r_now_134 : RA (-2147483648) 2147483647 now_134 := by rw [e134]; exact RA_up r_now_104 (by omega)
    have qnow_134_32 : now_134 32 = now_104 32 := by rw [e134]; exact updZ_n _ _ (by omega)
    refine g_ws (ws2 := (wX10 cI cB cJ h q v_stalls v_claimMany v_taped v_place0 v_length0 v_fault v_number0 v_open v_codeMany v_waiting v_saidMany v_clauses v_newMany v_newStalls v_lines v_salesNow v_outNow v_isKept v_keptStalls now_134 v_aside v_kept v_oneOf v_otherOf v_signOf v_byOf v_tape v_said v_waitsAt v_saidLetter v_saidFrom v_saidHalf v_saidTo v_codes v_clauseOf v_codeFrom v_codeHalf v_codeTo stack_81 facts_46 v_newOne v_newOther v_newSign v_newBy v_moreOf v_firstOf v_toldOf v_mostOf v_mostThen v_sumTo v_rowFrom v_ordersOf v_lessOf v_weightOf v_rowNow v_slowRow v_fastRow v_lineNow v_firstLine v_freeBy v_heldBy v_heightOf v_upTo v_downTo v_oftenOf v_newUpper v_newLower)) rfl ?_
    refine g_aload_n X dX10_sells_135 4 rfl ?_
    refine g_aload_n X dX10_sells_136 4 rfl ?_
    refine gM_get X 0 rfl 63 (by decide) uw1242 rfl dX10_sells_137 ?_
    refine g_iload X dX10_sells_140 1 rfl ?_
    refine g_iadd X dX10_sells_142 ?_
    refine g_nr (fun t142 e142 r142 => ?_)
    refine gM_put X 0 rfl 63 (by decide) uw1242 rfl rfl rfl (Nat.le_of_ble_eq_true rfl) dX10_sells_143 (ws2 := (wX10 cI cB cJ h q v_stalls v_claimMany v_taped v_place0 v_length0 v_fault v_number0 v_open v_codeMany v_waiting v_saidMany v_clauses v_newMany v_newStalls v_lines t142 v_outNow v_isKept v_keptStalls now_134 v_aside v_kept v_oneOf v_otherOf v_signOf v_byOf v_tape v_said v_waitsAt v_saidLetter v_saidFrom v_saidHalf v_saidTo v_codes v_clauseOf v_codeFrom v_codeHalf v_codeTo stack_81 facts_46 v_newOne v_newOther v_newSign v_newBy v_moreOf v_firstOf v_toldOf v_mostOf v_mostThen v_sumTo v_rowFrom v_ordersOf v_lessOf v_weightOf v_rowNow v_slowRow v_fastRow v_lineNow v_firstLine v_freeBy v_heldBy v_heightOf v_upTo v_downTo v_oftenOf v_newUpper v_newLower)) rfl ?_
    refine g_iload_n X dX10_sells_146 2 rfl ?_
    refine g_if_eq X (tgt := 156) dX10_sells_147 (by decide) (by omega) (fun c147 => ?_) (fun c147 => ?_)
    · exact hQ _ _ _ dX10_sells_156 ⟨t142, v_outNow, now_134, stack_81, facts_46, (by omega), (by omega), r_now_134, r_stack_81, r_facts_46, (by first | assumption | omega), rfl⟩
    · refine g_iload X dX10_sells_150 1 rfl ?_
      refine g_iload_n X dX10_sells_152 2 rfl ?_
      refine g_icmp_ge X (tgt := 157) dX10_sells_153 (by decide) (by omega) (by omega) (fun c153 => ?_) (fun c153 => ?_)
      · refine g_aload_n X dX10_sells_157 4 rfl ?_
        refine gM_get X 0 rfl 0 (by decide) uw1179 rfl dX10_sells_158 ?_
        refine g_bipush X (z := 24) dX10_sells_161 (by decide) ?_
        refine g_iload_n X dX10_sells_163 5 rfl ?_
        refine g_iadd X dX10_sells_164 ?_
        refine g_sipush X (z := 9999) dX10_sells_165 (by decide) ?_
        refine g_aload_n X dX10_sells_168 4 rfl ?_
        refine gM_get X 0 rfl 0 (by decide) uw1179 rfl dX10_sells_169 ?_
        refine g_bipush X (z := 24) dX10_sells_172 (by decide) ?_
        refine g_iload_n X dX10_sells_174 5 rfl ?_
        refine g_iadd X dX10_sells_175 ?_
        refine g_iald X 1 0 rfl rfl (by omega) (by decide) dX10_sells_176 (fun t176 e176 => ?_)
        have r176 := r_now_134 (24 + p0 : Int).toNat; rw [← e176] at r176
        refine g_iconst X dX10_sells_177 ?_
        refine g_iadd X dX10_sells_178 ?_
        refine g_nr (fun t178 e178 r178 => ?_)
        refine g_callSIE X (c_X10_min l D cI cB cJ (p0 := 9999) (p1 := t178) (by first | assumption | omega) (by first | assumption | omega)) cv_X10_min uw1551 ⟨rfl, rfl, by decide, by decide⟩ rfl rfl (Nat.le_of_ble_eq_true rfl) ⟨Nat.zero_le _, Nat.zero_le _⟩ dX10_sells_179 (fun t179 ws179 k179 => ?_)
        obtain ⟨kp0_179, rfl⟩ := k179
        refine g_iast X 1 0 rfl rfl (by omega) (by decide) dX10_sells_182 (fun now_182 e182 => ?_)
        have r_now_182 : RA (-2147483648) 2147483647 now_182 := by rw [e182]; exact RA_up r_now_134 (by omega)
        have qnow_182_32 : now_182 32 = now_134 32 := by rw [e182]; exact updZ_n _ _ (by omega)
        refine g_ws (ws2 := (wX10 cI cB cJ h q v_stalls v_claimMany v_taped v_place0 v_length0 v_fault v_number0 v_open v_codeMany v_waiting v_saidMany v_clauses v_newMany v_newStalls v_lines t142 v_outNow v_isKept v_keptStalls now_182 v_aside v_kept v_oneOf v_otherOf v_signOf v_byOf v_tape v_said v_waitsAt v_saidLetter v_saidFrom v_saidHalf v_saidTo v_codes v_clauseOf v_codeFrom v_codeHalf v_codeTo stack_81 facts_46 v_newOne v_newOther v_newSign v_newBy v_moreOf v_firstOf v_toldOf v_mostOf v_mostThen v_sumTo v_rowFrom v_ordersOf v_lessOf v_weightOf v_rowNow v_slowRow v_fastRow v_lineNow v_firstLine v_freeBy v_heldBy v_heightOf v_upTo v_downTo v_oftenOf v_newUpper v_newLower)) rfl ?_
        refine g_aload_n X dX10_sells_183 4 rfl ?_
        refine g_aload_n X dX10_sells_184 4 rfl ?_
        refine gM_get X 0 rfl 64 (by decide) uw1243 rfl dX10_sells_185 ?_
        refine g_iconst X dX10_sells_188 ?_
        refine g_iadd X dX10_sells_189 ?_
        refine g_nr (fun t189 e189 r189 => ?_)
        refine gM_put X 0 rfl 64 (by decide) uw1243 rfl rfl rfl (Nat.le_of_ble_eq_true rfl) dX10_sells_190 (ws2 := (wX10 cI cB cJ h q v_stalls v_claimMany v_taped v_place0 v_length0 v_fault v_number0 v_open v_codeMany v_waiting v_saidMany v_clauses v_newMany v_newStalls v_lines t142 t189 v_isKept v_keptStalls now_182 v_aside v_kept v_oneOf v_otherOf v_signOf v_byOf v_tape v_said v_waitsAt v_saidLetter v_saidFrom v_saidHalf v_saidTo v_codes v_clauseOf v_codeFrom v_codeHalf v_codeTo stack_81 facts_46 v_newOne v_newOther v_newSign v_newBy v_moreOf v_firstOf v_toldOf v_mostOf v_mostThen v_sumTo v_rowFrom v_ordersOf v_lessOf v_weightOf v_rowNow v_slowRow v_fastRow v_lineNow v_firstLine v_freeBy v_heldBy v_heightOf v_upTo v_downTo v_oftenOf v_newUpper v_newLower)) rfl ?_
        refine g_aload_n X dX10_sells_193 4 rfl ?_
        refine g_iload_n X dX10_sells_194 5 rfl ?_
        refine g_iload_n X dX10_sells_195 3 rfl ?_
        refine g_callVV0 X (c_X10_feels l D cI cB cJ h q (p0 := p0) (p1 := t35) (by omega) r_now_182 r_facts_46 (by first | assumption | omega) (by first | assumption | omega) (by first | assumption | omega)) cv_X10_feels uw1778 ⟨rfl, rfl, by decide, by decide⟩ 0 rfl rfl rfl rfl rfl (Nat.le_of_ble_eq_true rfl) ⟨Nat.zero_le _, Nat.zero_le _⟩ dX10_sells_196 (fun ws196 k196 => ?_)
        obtain ⟨facts_196, r_facts_196, rfl⟩ := k196
        refine g_aload_n X dX10_sells_199 4 rfl ?_
        refine gM_get X 0 rfl 0 (by decide) uw1179 rfl dX10_sells_200 ?_
        refine g_iconst X dX10_sells_203 ?_
        refine g_iload_n X dX10_sells_204 5 rfl ?_
        refine g_iadd X dX10_sells_205 ?_
        refine g_sipush X (z := 9999) dX10_sells_206 (by decide) ?_
        refine g_aload_n X dX10_sells_209 4 rfl ?_
        refine gM_get X 0 rfl 0 (by decide) uw1179 rfl dX10_sells_210 ?_
        refine g_iconst X dX10_sells_213 ?_
        refine g_iload_n X dX10_sells_214 5 rfl ?_
        refine g_iadd X dX10_sells_215 ?_
        refine g_iald X 1 0 rfl rfl (by omega) (by decide) dX10_sells_216 (fun t216 e216 => ?_)
        have r216 := r_now_182 (0 + p0 : Int).toNat; rw [← e216] at r216
        refine g_aload_n X dX10_sells_217 4 rfl ?_
        refine g_bipush X (z := 114) dX10_sells_218 (by decide) ?_
        refine g_sipush X (z := 999) dX10_sells_220 (by decide) ?_
        refine g_iconst X dX10_sells_223 ?_
        refine g_callVI0 X (c_X10_byLaw l D cI cB cJ h q (p0 := 114) (p1 := 999) (p2 := 0) (by omega) r_v_codes r_v_clauseOf r_v_codeFrom r_v_codeHalf r_v_codeTo r_stack_81 r_facts_196 (by first | assumption | omega) (by first | assumption | omega) (by first | assumption | omega) (by first | assumption | omega)) cv_X10_byLaw uw1797 ⟨rfl, rfl, by decide, by decide⟩ 0 rfl rfl rfl rfl rfl (Nat.le_of_ble_eq_true rfl) ⟨Nat.zero_le _, Nat.zero_le _⟩ dX10_sells_224 (fun t224 ws224 k224 => ?_)
        obtain ⟨stack_224, r_stack_224, kp0_224, rfl⟩ := k224
        refine g_iadd X dX10_sells_227 ?_
        refine g_nr (fun t227 e227 r227 => ?_)
        refine g_callSIE X (c_X10_min l D cI cB cJ (p0 := 9999) (p1 := t227) (by first | assumption | omega) (by first | assumption | omega)) cv_X10_min uw1551 ⟨rfl, rfl, by decide, by decide⟩ rfl rfl (Nat.le_of_ble_eq_true rfl) ⟨Nat.zero_le _, Nat.zero_le _⟩ dX10_sells_228 (fun t228 ws228 k228 => ?_)
        obtain ⟨kp0_228, rfl⟩ := k228
        refine g_iast X 1 0 rfl rfl (by omega) (by decide) dX10_sells_231 (fun now_231 e231 => ?_)
        have r_now_231 : RA (-2147483648) 2147483647 now_231 := by rw [e231]; exact RA_up r_now_182 (by omega)
        have qnow_231_32 : now_231 32 = now_182 32 := by rw [e231]; exact updZ_n _ _ (by omega)
        refine g_ws (ws2 := (wX10 cI cB cJ h q v_stalls v_claimMany v_taped v_place0 v_length0 v_fault v_number0 v_open v_codeMany v_waiting v_saidMany v_clauses v_newMany v_newStalls v_lines t142 t189 v_isKept v_keptStalls now_231 v_aside v_kept v_oneOf v_otherOf v_signOf v_byOf v_tape v_said v_waitsAt v_saidLetter v_saidFrom v_saidHalf v_saidTo v_codes v_clauseOf v_codeFrom v_codeHalf v_codeTo stack_224 facts_196 v_newOne v_newOther v_newSign v_newBy v_moreOf v_firstOf v_toldOf v_mostOf v_mostThen v_sumTo v_rowFrom v_ordersOf v_lessOf v_weightOf v_rowNow v_slowRow v_fastRow v_lineNow v_firstLine v_freeBy v_heldBy v_heightOf v_upTo v_downTo v_oftenOf v_newUpper v_newLower)) rfl ?_
        exact hQ _ _ _ dX10_sells_232 ⟨t142, t189, now_231, stack_224, facts_196, (by omega), (by omega), r_now_231, r_stack_224, r_facts_196, (by first | assumption | omega), rfl⟩
      · exact hQ _ _ _ dX10_sells_156 ⟨t142, v_outNow, now_134, stack_81, facts_46, (by omega), (by omega), r_now_134, r_stack_81, r_facts_46, (by first | assumption | omega), rfl⟩
  · exact hQ _ _ _ dX10_sells_58 ⟨v_salesNow, v_outNow, now_25, stack_52, facts_46, (by omega), (by omega), r_now_25, r_stack_52, r_facts_46, (by first | assumption | omega), rfl⟩
set_option maxHeartbeats 4000000 in
set_option maxRecDepth 100000 in
theorem c_X10_dayGoes (l : Launch) (D : va_G) (cI cB cJ : ClassId) (h : Nat) (q : Nat → Nat) {v_stalls v_claimMany v_taped v_place0 v_length0 v_fault v_number0 v_open v_codeMany v_waiting v_saidMany v_clauses v_newMany v_newStalls v_lines v_salesNow v_outNow v_isKept v_keptStalls : Int} {v_now v_aside v_kept v_oneOf v_otherOf v_signOf v_byOf v_tape v_said v_waitsAt v_saidLetter v_saidFrom v_saidHalf v_saidTo v_codes v_clauseOf v_codeFrom v_codeHalf v_codeTo v_stack v_facts v_newOne v_newOther v_newSign v_newBy v_moreOf v_firstOf v_toldOf v_mostOf v_mostThen v_sumTo v_rowFrom v_ordersOf v_lessOf v_weightOf v_rowNow v_slowRow v_fastRow v_lineNow v_firstLine v_freeBy v_heldBy v_heightOf v_upTo v_downTo v_oftenOf v_newUpper v_newLower : Nat → Int} (kr_v_stalls : 0 ≤ v_stalls ∧ v_stalls ≤ 255) (kr_v_clauses : 0 ≤ v_clauses ∧ v_clauses ≤ 16) (kr_v_salesNow : (-2147483648) ≤ v_salesNow ∧ v_salesNow ≤ 2147483647) (kr_v_outNow : (-2147483648) ≤ v_outNow ∧ v_outNow ≤ 2147483647) (r_v_now : RA (-2147483648) 2147483647 v_now) (r_v_codes : RA 0 16777215 v_codes) (r_v_clauseOf : RA (-2147483648) 2147483647 v_clauseOf) (r_v_codeFrom : RA 0 260 v_codeFrom) (r_v_codeHalf : RA 0 260 v_codeHalf) (r_v_codeTo : RA 0 260 v_codeTo) (r_v_stack : RA (-2147483648) 2147483647 v_stack) (r_v_facts : RA (-2147483648) 2147483647 v_facts) (hp0 : LawOK v_codes v_clauses v_codeFrom v_codeHalf v_codeTo) : CtV l yX10_dayGoes cX10_dayGoes 2 none ⟨5, 0, 0, 113⟩ D (TY cI cB cJ) (wX10 cI cB cJ h q v_stalls v_claimMany v_taped v_place0 v_length0 v_fault v_number0 v_open v_codeMany v_waiting v_saidMany v_clauses v_newMany v_newStalls v_lines v_salesNow v_outNow v_isKept v_keptStalls v_now v_aside v_kept v_oneOf v_otherOf v_signOf v_byOf v_tape v_said v_waitsAt v_saidLetter v_saidFrom v_saidHalf v_saidTo v_codes v_clauseOf v_codeFrom v_codeHalf v_codeTo v_stack v_facts v_newOne v_newOther v_newSign v_newBy v_moreOf v_firstOf v_toldOf v_mostOf v_mostThen v_sumTo v_rowFrom v_ordersOf v_lessOf v_weightOf v_rowNow v_slowRow v_fastRow v_lineNow v_firstLine v_freeBy v_heldBy v_heightOf v_upTo v_downTo v_oftenOf v_newUpper v_newLower) [.ref h] (fun ws' => ∃ n_salesNow : Int, ∃ n_outNow : Int, ∃ n_now : Nat → Int, ∃ n_stack : Nat → Int, ∃ n_facts : Nat → Int, ((-2147483648) ≤ n_salesNow ∧ n_salesNow ≤ 2147483647) ∧ ((-2147483648) ≤ n_outNow ∧ n_outNow ≤ 2147483647) ∧ (RA (-2147483648) 2147483647 n_now) ∧ (RA (-2147483648) 2147483647 n_stack) ∧ (RA (-2147483648) 2147483647 n_facts) ∧ (IR (v_now 32 + 1) → n_now 32 = v_now 32 + 1) ∧ (ws' = (wX10 cI cB cJ h q v_stalls v_claimMany v_taped v_place0 v_length0 v_fault v_number0 v_open v_codeMany v_waiting v_saidMany v_clauses v_newMany v_newStalls v_lines n_salesNow n_outNow v_isKept v_keptStalls n_now v_aside v_kept v_oneOf v_otherOf v_signOf v_byOf v_tape v_said v_waitsAt v_saidLetter v_saidFrom v_saidHalf v_saidTo v_codes v_clauseOf v_codeFrom v_codeHalf v_codeTo n_stack n_facts v_newOne v_newOther v_newSign v_newBy v_moreOf v_firstOf v_toldOf v_mostOf v_mostThen v_sumTo v_rowFrom v_ordersOf v_lessOf v_weightOf v_rowNow v_slowRow v_fastRow v_lineNow v_firstLine v_freeBy v_heldBy v_heightOf v_upTo v_downTo v_oftenOf v_newUpper v_newLower))) := by
  refine hdrV (own := RX10) rfl (by decide +kernel) (Nat.le_of_ble_eq_true rfl) ?_
  intro p e s m args below meth c Q A X hQ
  refine g_lvE (lv2 := [(0, .ref h)]) rfl ?_
  refine g_iconst X dX10_dayGoes_0 ?_
  refine g_istore_n X (lv' := [(1, vI 0), (0, .ref h)]) dX10_dayGoes_1 (by decide) rfl ?_
  have L2 : ∀ (n : Nat) (x1_2 : Int) (salesNow_2 : Int) (outNow_2 : Int) (now_2 : Nat → Int) (stack_2 : Nat → Int) (facts_2 : Nat → Int), ((-2147483648) ≤ salesNow_2 ∧ salesNow_2 ≤ 2147483647) → ((-2147483648) ≤ outNow_2 ∧ outNow_2 ≤ 2147483647) → (RA (-2147483648) 2147483647 now_2) → (RA (-2147483648) 2147483647 stack_2) → (RA (-2147483648) 2147483647 facts_2) → (0 ≤ x1_2 ∧ x1_2 ≤ 8) → (now_2 32 = v_now 32) → (8 - x1_2).toNat < n → GG p l e ⟨5, 0, 0, 113⟩ s m args below meth c 0 0 Q D A s.heap 2 (wX10 cI cB cJ h q v_stalls v_claimMany v_taped v_place0 v_length0 v_fault v_number0 v_open v_codeMany v_waiting v_saidMany v_clauses v_newMany v_newStalls v_lines salesNow_2 outNow_2 v_isKept v_keptStalls now_2 v_aside v_kept v_oneOf v_otherOf v_signOf v_byOf v_tape v_said v_waitsAt v_saidLetter v_saidFrom v_saidHalf v_saidTo v_codes v_clauseOf v_codeFrom v_codeHalf v_codeTo stack_2 facts_2 v_newOne v_newOther v_newSign v_newBy v_moreOf v_firstOf v_toldOf v_mostOf v_mostThen v_sumTo v_rowFrom v_ordersOf v_lessOf v_weightOf v_rowNow v_slowRow v_fastRow v_lineNow v_firstLine v_freeBy v_heldBy v_heightOf v_upTo v_downTo v_oftenOf v_newUpper v_newLower) 2 [(0, .ref h), (1, vI x1_2)] [] := by
    intro n
    induction n with
    | zero => intros; exfalso; omega
    | succ n ih2 =>
      intro x1_2 salesNow_2 outNow_2 now_2 stack_2 facts_2 kr_salesNow_2 kr_outNow_2 r_now_2 r_stack_2 r_facts_2 w2_0 w2_1 wm2
      refine g_iload_n X dX10_dayGoes_2 1 rfl ?_
      refine g_bipush X (z := 8) dX10_dayGoes_3 (by decide) ?_
      refine g_icmp_ge X (tgt := 27) dX10_dayGoes_5 (by decide) (by omega) (by omega) (fun c5 => ?_) (fun c5 => ?_)
      · refine g_aload_n X dX10_dayGoes_27 0 rfl ?_
        refine gM_get X 0 rfl 0 (by decide) uw1179 rfl dX10_dayGoes_28 ?_
        refine g_bipush X (z := 32) dX10_dayGoes_31 (by decide) ?_
        refine g_aload_n X dX10_dayGoes_33 0 rfl ?_
        refine gM_get X 0 rfl 0 (by decide) uw1179 rfl dX10_dayGoes_34 ?_
        refine g_bipush X (z := 32) dX10_dayGoes_37 (by decide) ?_
        refine g_iald X 1 0 rfl rfl (by omega) (by decide) dX10_dayGoes_39 (fun t39 e39 => ?_)
        have r39 := r_now_2 (32 : Int).toNat; rw [← e39] at r39
        have l39 : t39 = now_2 32 := e39
        refine g_iconst X dX10_dayGoes_40 ?_
        refine g_iadd X dX10_dayGoes_41 ?_
        refine g_nr (fun t41 e41 r41 => ?_)
        have n41 := z_nr3 e41 r41 (by omega)
        refine g_iast X 1 0 rfl rfl (by omega) (by decide) dX10_dayGoes_42 (fun now_42 e42 => ?_)
        have r_now_42 : RA (-2147483648) 2147483647 now_42 := by rw [e42]; exact RA_up r_now_2 (by omega)
        have qnow_42_32 : now_42 32 = t41 := by rw [e42, show (32 : Int).toNat = 32 by omega]; exact updZ_s _ _ _
        refine g_ws (ws2 := (wX10 cI cB cJ h q v_stalls v_claimMany v_taped v_place0 v_length0 v_fault v_number0 v_open v_codeMany v_waiting v_saidMany v_clauses v_newMany v_newStalls v_lines salesNow_2 outNow_2 v_isKept v_keptStalls now_42 v_aside v_kept v_oneOf v_otherOf v_signOf v_byOf v_tape v_said v_waitsAt v_saidLetter v_saidFrom v_saidHalf v_saidTo v_codes v_clauseOf v_codeFrom v_codeHalf v_codeTo stack_2 facts_2 v_newOne v_newOther v_newSign v_newBy v_moreOf v_firstOf v_toldOf v_mostOf v_mostThen v_sumTo v_rowFrom v_ordersOf v_lessOf v_weightOf v_rowNow v_slowRow v_fastRow v_lineNow v_firstLine v_freeBy v_heldBy v_heightOf v_upTo v_downTo v_oftenOf v_newUpper v_newLower)) rfl ?_
        exact hQ _ _ _ dX10_dayGoes_43 ⟨salesNow_2, outNow_2, now_42, stack_2, facts_2, (by omega), (by omega), r_now_42, r_stack_2, r_facts_2, (by intro h; omega), rfl⟩
      · refine g_aload_n X dX10_dayGoes_8 0 rfl ?_
        refine g_iload_n X dX10_dayGoes_9 1 rfl ?_
        refine g_callVI0 X (c_X10_isStall l D cI cB cJ h q (p0 := x1_2) (by omega) (by first | assumption | omega)) cv_X10_isStall uw1765 ⟨rfl, rfl, by decide, by decide⟩ 0 rfl rfl rfl rfl rfl (Nat.le_of_ble_eq_true rfl) ⟨Nat.zero_le _, Nat.zero_le _⟩ dX10_dayGoes_10 (fun t10 ws10 k10 => ?_)
        obtain ⟨kb_10, ⟨kp0_10, rfl⟩⟩ := k10
        refine g_if_eq X (tgt := 21) dX10_dayGoes_13 (by decide) (by omega) (fun c13 => ?_) (fun c13 => ?_)
        · refine g_iinc X (lv' := [(1, vI (x1_2 + 1)), (0, .ref h)]) dX10_dayGoes_21 1 rfl (by decide) rfl ?_
          refine g_goto X (tgt := 2) dX10_dayGoes_24 (by decide) ?_
          refine g_lv [1, 0] rfl ?_
          exact ih2 (x1_2 + 1) salesNow_2 outNow_2 now_2 stack_2 facts_2 (by omega) (by omega) r_now_2 r_stack_2 r_facts_2 (by first | assumption | omega) (by first | assumption | omega) (by omega)
        · refine g_aload_n X dX10_dayGoes_16 0 rfl ?_
          refine g_iload_n X dX10_dayGoes_17 1 rfl ?_
          refine g_callVV0 X (c_X10_sells l D cI cB cJ h q (p0 := x1_2) (by omega) (by omega) (by omega) (by omega) r_now_2 r_v_codes r_v_clauseOf r_v_codeFrom r_v_codeHalf r_v_codeTo r_stack_2 r_facts_2 (by first | assumption | omega) (by first | assumption | omega) (by first | assumption | omega)) cv_X10_sells uw1769 ⟨rfl, rfl, by decide, by decide⟩ 0 rfl rfl rfl rfl rfl (Nat.le_of_ble_eq_true rfl) ⟨Nat.zero_le _, Nat.zero_le _⟩ dX10_dayGoes_18 (fun ws18 k18 => ?_)
          obtain ⟨salesNow_18, outNow_18, now_18, stack_18, facts_18, kr_salesNow_18, kr_outNow_18, r_now_18, r_stack_18, r_facts_18, kp0_18, rfl⟩ := k18
          refine g_iinc X (lv' := [(1, vI (x1_2 + 1)), (0, .ref h)]) dX10_dayGoes_21 1 rfl (by decide) rfl ?_
          refine g_goto X (tgt := 2) dX10_dayGoes_24 (by decide) ?_
          refine g_lv [1, 0] rfl ?_
          exact ih2 (x1_2 + 1) salesNow_18 outNow_18 now_18 stack_18 facts_18 (by omega) (by omega) r_now_18 r_stack_18 r_facts_18 (by first | assumption | omega) (by first | assumption | omega) (by omega)
  refine g_lv [1, 0] rfl ?_
  exact L2 _ 0 v_salesNow v_outNow v_now v_stack v_facts (by omega) (by omega) r_v_now r_v_stack r_v_facts (by first | assumption | omega) (by first | assumption | omega) (Nat.lt_succ_self _)
set_option maxHeartbeats 4000000 in
set_option maxRecDepth 100000 in
theorem c_X10_daysGo (l : Launch) (D : va_G) (cI cB cJ : ClassId) (h : Nat) (q : Nat → Nat) {v_stalls v_claimMany v_taped v_place0 v_length0 v_fault v_number0 v_open v_codeMany v_waiting v_saidMany v_clauses v_newMany v_newStalls v_lines v_salesNow v_outNow v_isKept v_keptStalls : Int} {v_now v_aside v_kept v_oneOf v_otherOf v_signOf v_byOf v_tape v_said v_waitsAt v_saidLetter v_saidFrom v_saidHalf v_saidTo v_codes v_clauseOf v_codeFrom v_codeHalf v_codeTo v_stack v_facts v_newOne v_newOther v_newSign v_newBy v_moreOf v_firstOf v_toldOf v_mostOf v_mostThen v_sumTo v_rowFrom v_ordersOf v_lessOf v_weightOf v_rowNow v_slowRow v_fastRow v_lineNow v_firstLine v_freeBy v_heldBy v_heightOf v_upTo v_downTo v_oftenOf v_newUpper v_newLower : Nat → Int} {p0 : Int} (kr_v_stalls : 0 ≤ v_stalls ∧ v_stalls ≤ 255) (kr_v_clauses : 0 ≤ v_clauses ∧ v_clauses ≤ 16) (kr_v_salesNow : (-2147483648) ≤ v_salesNow ∧ v_salesNow ≤ 2147483647) (kr_v_outNow : (-2147483648) ≤ v_outNow ∧ v_outNow ≤ 2147483647) (r_v_now : RA (-2147483648) 2147483647 v_now) (r_v_codes : RA 0 16777215 v_codes) (r_v_clauseOf : RA (-2147483648) 2147483647 v_clauseOf) (r_v_codeFrom : RA 0 260 v_codeFrom) (r_v_codeHalf : RA 0 260 v_codeHalf) (r_v_codeTo : RA 0 260 v_codeTo) (r_v_stack : RA (-2147483648) 2147483647 v_stack) (r_v_facts : RA (-2147483648) 2147483647 v_facts) (hp0 : IR p0) (hp1 : LawOK v_codes v_clauses v_codeFrom v_codeHalf v_codeTo) (hp2 : 1 ≤ p0 ∧ p0 ≤ 100) (hp3 : 0 ≤ v_now 32 ∧ v_now 32 ≤ 9999) : CtV l yX10_daysGo cX10_daysGo 3 none ⟨6, 0, 0, 134⟩ D (TY cI cB cJ) (wX10 cI cB cJ h q v_stalls v_claimMany v_taped v_place0 v_length0 v_fault v_number0 v_open v_codeMany v_waiting v_saidMany v_clauses v_newMany v_newStalls v_lines v_salesNow v_outNow v_isKept v_keptStalls v_now v_aside v_kept v_oneOf v_otherOf v_signOf v_byOf v_tape v_said v_waitsAt v_saidLetter v_saidFrom v_saidHalf v_saidTo v_codes v_clauseOf v_codeFrom v_codeHalf v_codeTo v_stack v_facts v_newOne v_newOther v_newSign v_newBy v_moreOf v_firstOf v_toldOf v_mostOf v_mostThen v_sumTo v_rowFrom v_ordersOf v_lessOf v_weightOf v_rowNow v_slowRow v_fastRow v_lineNow v_firstLine v_freeBy v_heldBy v_heightOf v_upTo v_downTo v_oftenOf v_newUpper v_newLower) [.ref h, vI p0] (fun ws' => ∃ n_salesNow : Int, ∃ n_outNow : Int, ∃ n_now : Nat → Int, ∃ n_stack : Nat → Int, ∃ n_facts : Nat → Int, ((-2147483648) ≤ n_salesNow ∧ n_salesNow ≤ 2147483647) ∧ ((-2147483648) ≤ n_outNow ∧ n_outNow ≤ 2147483647) ∧ (RA (-2147483648) 2147483647 n_now) ∧ (RA (-2147483648) 2147483647 n_stack) ∧ (RA (-2147483648) 2147483647 n_facts) ∧ ((v_now 32 + p0 ≤ 9999 ∧ n_now 32 = v_now 32 + p0) ∨ (9999 < v_now 32 + p0 ∧ n_now 32 = 9999)) ∧ (ws' = (wX10 cI cB cJ h q v_stalls v_claimMany v_taped v_place0 v_length0 v_fault v_number0 v_open v_codeMany v_waiting v_saidMany v_clauses v_newMany v_newStalls v_lines n_salesNow n_outNow v_isKept v_keptStalls n_now v_aside v_kept v_oneOf v_otherOf v_signOf v_byOf v_tape v_said v_waitsAt v_saidLetter v_saidFrom v_saidHalf v_saidTo v_codes v_clauseOf v_codeFrom v_codeHalf v_codeTo n_stack n_facts v_newOne v_newOther v_newSign v_newBy v_moreOf v_firstOf v_toldOf v_mostOf v_mostThen v_sumTo v_rowFrom v_ordersOf v_lessOf v_weightOf v_rowNow v_slowRow v_fastRow v_lineNow v_firstLine v_freeBy v_heldBy v_heightOf v_upTo v_downTo v_oftenOf v_newUpper v_newLower))) := by
  refine hdrV (own := RX10) rfl (by decide +kernel) (Nat.le_of_ble_eq_true rfl) ?_
  intro p e s m args below meth c Q A X hQ
  refine g_lvE (lv2 := [(0, .ref h), (1, vI p0)]) rfl ?_
  refine g_aload_n X dX10_daysGo_0 0 rfl ?_
  refine g_iconst X dX10_daysGo_1 ?_
  refine gM_put X 0 rfl 63 (by decide) uw1242 rfl rfl rfl (Nat.le_of_ble_eq_true rfl) dX10_daysGo_2 (ws2 := (wX10 cI cB cJ h q v_stalls v_claimMany v_taped v_place0 v_length0 v_fault v_number0 v_open v_codeMany v_waiting v_saidMany v_clauses v_newMany v_newStalls v_lines 0 v_outNow v_isKept v_keptStalls v_now v_aside v_kept v_oneOf v_otherOf v_signOf v_byOf v_tape v_said v_waitsAt v_saidLetter v_saidFrom v_saidHalf v_saidTo v_codes v_clauseOf v_codeFrom v_codeHalf v_codeTo v_stack v_facts v_newOne v_newOther v_newSign v_newBy v_moreOf v_firstOf v_toldOf v_mostOf v_mostThen v_sumTo v_rowFrom v_ordersOf v_lessOf v_weightOf v_rowNow v_slowRow v_fastRow v_lineNow v_firstLine v_freeBy v_heldBy v_heightOf v_upTo v_downTo v_oftenOf v_newUpper v_newLower)) rfl ?_
  refine g_aload_n X dX10_daysGo_5 0 rfl ?_
  refine g_iconst X dX10_daysGo_6 ?_
  refine gM_put X 0 rfl 64 (by decide) uw1243 rfl rfl rfl (Nat.le_of_ble_eq_true rfl) dX10_daysGo_7 (ws2 := (wX10 cI cB cJ h q v_stalls v_claimMany v_taped v_place0 v_length0 v_fault v_number0 v_open v_codeMany v_waiting v_saidMany v_clauses v_newMany v_newStalls v_lines 0 0 v_isKept v_keptStalls v_now v_aside v_kept v_oneOf v_otherOf v_signOf v_byOf v_tape v_said v_waitsAt v_saidLetter v_saidFrom v_saidHalf v_saidTo v_codes v_clauseOf v_codeFrom v_codeHalf v_codeTo v_stack v_facts v_newOne v_newOther v_newSign v_newBy v_moreOf v_firstOf v_toldOf v_mostOf v_mostThen v_sumTo v_rowFrom v_ordersOf v_lessOf v_weightOf v_rowNow v_slowRow v_fastRow v_lineNow v_firstLine v_freeBy v_heldBy v_heightOf v_upTo v_downTo v_oftenOf v_newUpper v_newLower)) rfl ?_
  refine g_iconst X dX10_daysGo_10 ?_
  refine g_istore_n X (lv' := [(2, vI 0), (0, .ref h), (1, vI p0)]) dX10_daysGo_11 (by decide) rfl ?_
  have L12 : ∀ (n : Nat) (x2_12 : Int) (salesNow_12 : Int) (outNow_12 : Int) (now_12 : Nat → Int) (stack_12 : Nat → Int) (facts_12 : Nat → Int), ((-2147483648) ≤ salesNow_12 ∧ salesNow_12 ≤ 2147483647) → ((-2147483648) ≤ outNow_12 ∧ outNow_12 ≤ 2147483647) → (RA (-2147483648) 2147483647 now_12) → (RA (-2147483648) 2147483647 stack_12) → (RA (-2147483648) 2147483647 facts_12) → (0 ≤ x2_12 ∧ x2_12 ≤ p0) → (now_12 32 = v_now 32 + x2_12) → (now_12 32 ≤ 9999) → (p0 - x2_12).toNat < n → GG p l e ⟨6, 0, 0, 134⟩ s m args below meth c 0 0 Q D A s.heap 3 (wX10 cI cB cJ h q v_stalls v_claimMany v_taped v_place0 v_length0 v_fault v_number0 v_open v_codeMany v_waiting v_saidMany v_clauses v_newMany v_newStalls v_lines salesNow_12 outNow_12 v_isKept v_keptStalls now_12 v_aside v_kept v_oneOf v_otherOf v_signOf v_byOf v_tape v_said v_waitsAt v_saidLetter v_saidFrom v_saidHalf v_saidTo v_codes v_clauseOf v_codeFrom v_codeHalf v_codeTo stack_12 facts_12 v_newOne v_newOther v_newSign v_newBy v_moreOf v_firstOf v_toldOf v_mostOf v_mostThen v_sumTo v_rowFrom v_ordersOf v_lessOf v_weightOf v_rowNow v_slowRow v_fastRow v_lineNow v_firstLine v_freeBy v_heldBy v_heightOf v_upTo v_downTo v_oftenOf v_newUpper v_newLower) 12 [(0, .ref h), (1, vI p0), (2, vI x2_12)] [] := by
    intro n
    induction n with
    | zero => intros; exfalso; omega
    | succ n ih12 =>
      intro x2_12 salesNow_12 outNow_12 now_12 stack_12 facts_12 kr_salesNow_12 kr_outNow_12 r_now_12 r_stack_12 r_facts_12 w12_0 w12_1 w12_2 wm12
      refine g_iload_n X dX10_daysGo_12 2 rfl ?_
      refine g_iload_n X dX10_daysGo_13 1 rfl ?_
      refine g_icmp_ge X (tgt := 40) dX10_daysGo_14 (by decide) (by omega) (by omega) (fun c14 => ?_) (fun c14 => ?_)
      · exact hQ _ _ _ dX10_daysGo_40 ⟨salesNow_12, outNow_12, now_12, stack_12, facts_12, (by omega), (by omega), r_now_12, r_stack_12, r_facts_12, (by first | assumption | omega), rfl⟩
      · refine g_aload_n X dX10_daysGo_17 0 rfl ?_
        refine gM_get X 0 rfl 0 (by decide) uw1179 rfl dX10_daysGo_18 ?_
        refine g_bipush X (z := 32) dX10_daysGo_21 (by decide) ?_
        refine g_iald X 1 0 rfl rfl (by omega) (by decide) dX10_daysGo_23 (fun t23 e23 => ?_)
        have r23 := r_now_12 (32 : Int).toNat; rw [← e23] at r23
        have l23 : t23 = now_12 32 := e23
        refine g_sipush X (z := 9999) dX10_daysGo_24 (by decide) ?_
        refine g_icmp_ge X (tgt := 40) dX10_daysGo_27 (by decide) (by omega) (by omega) (fun c27 => ?_) (fun c27 => ?_)
        · exact hQ _ _ _ dX10_daysGo_40 ⟨salesNow_12, outNow_12, now_12, stack_12, facts_12, (by omega), (by omega), r_now_12, r_stack_12, r_facts_12, (by first | assumption | omega), rfl⟩
        · refine g_aload_n X dX10_daysGo_30 0 rfl ?_
          refine g_callVV0 X (c_X10_dayGoes l D cI cB cJ h q  (by omega) (by omega) (by omega) (by omega) r_now_12 r_v_codes r_v_clauseOf r_v_codeFrom r_v_codeHalf r_v_codeTo r_stack_12 r_facts_12 (by first | assumption | omega)) cv_X10_dayGoes uw1761 ⟨rfl, rfl, by decide, by decide⟩ 0 rfl rfl rfl rfl rfl (Nat.le_of_ble_eq_true rfl) ⟨Nat.zero_le _, Nat.zero_le _⟩ dX10_daysGo_31 (fun ws31 k31 => ?_)
          obtain ⟨salesNow_31, outNow_31, now_31, stack_31, facts_31, kr_salesNow_31, kr_outNow_31, r_now_31, r_stack_31, r_facts_31, kp0_31, rfl⟩ := k31
          refine g_iinc X (lv' := [(2, vI (x2_12 + 1)), (0, .ref h), (1, vI p0)]) dX10_daysGo_34 2 rfl (by decide) rfl ?_
          refine g_goto X (tgt := 12) dX10_daysGo_37 (by decide) ?_
          refine g_lv [1, 2, 0] rfl ?_
          exact ih12 (x2_12 + 1) salesNow_31 outNow_31 now_31 stack_31 facts_31 (by omega) (by omega) r_now_31 r_stack_31 r_facts_31 (by first | assumption | omega) (by first | assumption | omega) (by first | assumption | omega) (by omega)
  refine g_lv [1, 2, 0] rfl ?_
  exact L12 _ 0 0 0 v_now v_stack v_facts (by omega) (by omega) r_v_now r_v_stack r_v_facts (by first | assumption | omega) (by first | assumption | omega) (by first | assumption | omega) (Nat.lt_succ_self _)
set_option maxHeartbeats 4000000 in
set_option maxRecDepth 100000 in
theorem c_X10_days (l : Launch) (D : va_G) (cI cB cJ : ClassId) (h : Nat) (q : Nat → Nat) {v_stalls v_claimMany v_taped v_place0 v_length0 v_fault v_number0 v_open v_codeMany v_waiting v_saidMany v_clauses v_newMany v_newStalls v_lines v_salesNow v_outNow v_isKept v_keptStalls : Int} {v_now v_aside v_kept v_oneOf v_otherOf v_signOf v_byOf v_tape v_said v_waitsAt v_saidLetter v_saidFrom v_saidHalf v_saidTo v_codes v_clauseOf v_codeFrom v_codeHalf v_codeTo v_stack v_facts v_newOne v_newOther v_newSign v_newBy v_moreOf v_firstOf v_toldOf v_mostOf v_mostThen v_sumTo v_rowFrom v_ordersOf v_lessOf v_weightOf v_rowNow v_slowRow v_fastRow v_lineNow v_firstLine v_freeBy v_heldBy v_heightOf v_upTo v_downTo v_oftenOf v_newUpper v_newLower : Nat → Int} {p0 : Int} (kr_v_stalls : 0 ≤ v_stalls ∧ v_stalls ≤ 255) (kr_v_clauses : 0 ≤ v_clauses ∧ v_clauses ≤ 16) (kr_v_salesNow : (-2147483648) ≤ v_salesNow ∧ v_salesNow ≤ 2147483647) (kr_v_outNow : (-2147483648) ≤ v_outNow ∧ v_outNow ≤ 2147483647) (r_v_now : RA (-2147483648) 2147483647 v_now) (r_v_codes : RA 0 16777215 v_codes) (r_v_clauseOf : RA (-2147483648) 2147483647 v_clauseOf) (r_v_codeFrom : RA 0 260 v_codeFrom) (r_v_codeHalf : RA 0 260 v_codeHalf) (r_v_codeTo : RA 0 260 v_codeTo) (r_v_stack : RA (-2147483648) 2147483647 v_stack) (r_v_facts : RA (-2147483648) 2147483647 v_facts) (hp0 : IR p0) (hp1 : LawOK v_codes v_clauses v_codeFrom v_codeHalf v_codeTo) (hp2 : 0 ≤ v_now 32 ∧ v_now 32 ≤ 9999) : CtI l yX10_days cX10_days 2 (some .int) ⟨7, 0, 0, 156⟩ D (TY cI cB cJ) (wX10 cI cB cJ h q v_stalls v_claimMany v_taped v_place0 v_length0 v_fault v_number0 v_open v_codeMany v_waiting v_saidMany v_clauses v_newMany v_newStalls v_lines v_salesNow v_outNow v_isKept v_keptStalls v_now v_aside v_kept v_oneOf v_otherOf v_signOf v_byOf v_tape v_said v_waitsAt v_saidLetter v_saidFrom v_saidHalf v_saidTo v_codes v_clauseOf v_codeFrom v_codeHalf v_codeTo v_stack v_facts v_newOne v_newOther v_newSign v_newBy v_moreOf v_firstOf v_toldOf v_mostOf v_mostThen v_sumTo v_rowFrom v_ordersOf v_lessOf v_weightOf v_rowNow v_slowRow v_fastRow v_lineNow v_firstLine v_freeBy v_heldBy v_heightOf v_upTo v_downTo v_oftenOf v_newUpper v_newLower) [.ref h, vI p0] (fun z ws' => ∃ n_salesNow : Int, ∃ n_outNow : Int, ∃ n_now : Nat → Int, ∃ n_stack : Nat → Int, ∃ n_facts : Nat → Int, ((-2147483648) ≤ n_salesNow ∧ n_salesNow ≤ 2147483647) ∧ ((-2147483648) ≤ n_outNow ∧ n_outNow ≤ 2147483647) ∧ (RA (-2147483648) 2147483647 n_now) ∧ (RA (-2147483648) 2147483647 n_stack) ∧ (RA (-2147483648) 2147483647 n_facts) ∧ (IR z) ∧ ((1 ≤ p0 ∧ p0 ≤ 100 ∧ v_now 32 + p0 ≤ 9999 ∧ n_now 32 = v_now 32 + p0) ∨ (1 ≤ p0 ∧ p0 ≤ 100 ∧ 9999 < v_now 32 + p0 ∧ n_now 32 = 9999) ∨ (¬ (1 ≤ p0 ∧ p0 ≤ 100) ∧ n_now 32 = v_now 32)) ∧ (ws' = (wX10 cI cB cJ h q v_stalls v_claimMany v_taped v_place0 v_length0 v_fault v_number0 v_open v_codeMany v_waiting v_saidMany v_clauses v_newMany v_newStalls v_lines n_salesNow n_outNow v_isKept v_keptStalls n_now v_aside v_kept v_oneOf v_otherOf v_signOf v_byOf v_tape v_said v_waitsAt v_saidLetter v_saidFrom v_saidHalf v_saidTo v_codes v_clauseOf v_codeFrom v_codeHalf v_codeTo n_stack n_facts v_newOne v_newOther v_newSign v_newBy v_moreOf v_firstOf v_toldOf v_mostOf v_mostThen v_sumTo v_rowFrom v_ordersOf v_lessOf v_weightOf v_rowNow v_slowRow v_fastRow v_lineNow v_firstLine v_freeBy v_heldBy v_heightOf v_upTo v_downTo v_oftenOf v_newUpper v_newLower))) := by
  refine hdrI (own := RX10) rfl (by decide +kernel) (Nat.le_of_ble_eq_true rfl) ?_
  intro p e s m args below meth c Q A X hQ
  refine g_lvE (lv2 := [(0, .ref h), (1, vI p0)]) rfl ?_
  refine g_iload_n X dX10_days_0 1 rfl ?_
  refine g_iconst X dX10_days_1 ?_
  refine g_bipush X (z := 100) dX10_days_2 (by decide) ?_
  refine g_callSIE X (c_X10_in l D cI cB cJ (p0 := p0) (p1 := 1) (p2 := 100) (by first | assumption | omega) (by first | assumption | omega) (by first | assumption | omega)) cv_X10_in uw1394 ⟨rfl, rfl, by decide, by decide⟩ rfl rfl (Nat.le_of_ble_eq_true rfl) ⟨Nat.zero_le _, Nat.zero_le _⟩ dX10_days_4 (fun t4 ws4 k4 => ?_)
  obtain ⟨kb_4, ⟨kp0_4, rfl⟩⟩ := k4
  refine g_if_ne X (tgt := 12) dX10_days_7 (by decide) (by omega) (fun c7 => ?_) (fun c7 => ?_)
  · replace kb_4 := kb_4.resolve_left (fun h => c7 h)
    replace kp0_4 := kp0_4.resolve_right (fun h => c7 h.1)
    refine g_aload_n X dX10_days_12 0 rfl ?_
    refine g_iload_n X dX10_days_13 1 rfl ?_
    refine g_callVV0 X (c_X10_daysGo l D cI cB cJ h q (p0 := p0) (by omega) (by omega) (by omega) (by omega) r_v_now r_v_codes r_v_clauseOf r_v_codeFrom r_v_codeHalf r_v_codeTo r_v_stack r_v_facts (by first | assumption | omega) (by first | assumption | omega) (by first | assumption | omega) (by first | assumption | omega)) cv_X10_daysGo uw1757 ⟨rfl, rfl, by decide, by decide⟩ 0 rfl rfl rfl rfl rfl (Nat.le_of_ble_eq_true rfl) ⟨Nat.zero_le _, Nat.zero_le _⟩ dX10_days_14 (fun ws14 k14 => ?_)
    obtain ⟨salesNow_14, outNow_14, now_14, stack_14, facts_14, kr_salesNow_14, kr_outNow_14, r_now_14, r_stack_14, r_facts_14, kp0_14, rfl⟩ := k14
    refine g_aload_n X dX10_days_17 0 rfl ?_
    refine gM_get X 0 rfl 63 (by decide) uw1242 rfl dX10_days_18 ?_
    exact hQ _ _ _ _ dX10_days_21 ⟨salesNow_14, outNow_14, now_14, stack_14, facts_14, (by omega), (by omega), r_now_14, r_stack_14, r_facts_14, (by first | assumption | omega), (by first | assumption | omega), rfl⟩
  · clear kb_4
    replace kp0_4 := (kp0_4.resolve_left (fun h => absurd h.1 (by omega))).2
    refine g_iconst X dX10_days_10 ?_
    exact hQ _ _ _ _ dX10_days_11 ⟨v_salesNow, v_outNow, v_now, v_stack, v_facts, (by omega), (by omega), r_v_now, r_v_stack, r_v_facts, (by first | assumption | omega), (by first | assumption | omega), rfl⟩
set_option maxHeartbeats 4000000 in
set_option maxRecDepth 100000 in
theorem c_X10_seed (l : Launch) (D : va_G) (cI cB cJ : ClassId) (h : Nat) (q : Nat → Nat) {v_stalls v_claimMany v_taped v_place0 v_length0 v_fault v_number0 v_open v_codeMany v_waiting v_saidMany v_clauses v_newMany v_newStalls v_lines v_salesNow v_outNow v_isKept v_keptStalls : Int} {v_now v_aside v_kept v_oneOf v_otherOf v_signOf v_byOf v_tape v_said v_waitsAt v_saidLetter v_saidFrom v_saidHalf v_saidTo v_codes v_clauseOf v_codeFrom v_codeHalf v_codeTo v_stack v_facts v_newOne v_newOther v_newSign v_newBy v_moreOf v_firstOf v_toldOf v_mostOf v_mostThen v_sumTo v_rowFrom v_ordersOf v_lessOf v_weightOf v_rowNow v_slowRow v_fastRow v_lineNow v_firstLine v_freeBy v_heldBy v_heightOf v_upTo v_downTo v_oftenOf v_newUpper v_newLower : Nat → Int} {p0 : Int} (r_v_now : RA (-2147483648) 2147483647 v_now) (hp0 : IR p0) : CtI l yX10_seed cX10_seed 2 (some .boolean) ⟨1, 0, 0, 22⟩ D (TY cI cB cJ) (wX10 cI cB cJ h q v_stalls v_claimMany v_taped v_place0 v_length0 v_fault v_number0 v_open v_codeMany v_waiting v_saidMany v_clauses v_newMany v_newStalls v_lines v_salesNow v_outNow v_isKept v_keptStalls v_now v_aside v_kept v_oneOf v_otherOf v_signOf v_byOf v_tape v_said v_waitsAt v_saidLetter v_saidFrom v_saidHalf v_saidTo v_codes v_clauseOf v_codeFrom v_codeHalf v_codeTo v_stack v_facts v_newOne v_newOther v_newSign v_newBy v_moreOf v_firstOf v_toldOf v_mostOf v_mostThen v_sumTo v_rowFrom v_ordersOf v_lessOf v_weightOf v_rowNow v_slowRow v_fastRow v_lineNow v_firstLine v_freeBy v_heldBy v_heightOf v_upTo v_downTo v_oftenOf v_newUpper v_newLower) [.ref h, vI p0] (fun z ws' => (z = 0 ∨ z = 1) ∧ ∃ n_now : Nat → Int, (RA (-2147483648) 2147483647 n_now) ∧ ((z = 1 ∧ 0 ≤ p0 ∧ p0 ≤ 65535) ∨ (z = 0 ∧ ¬ (0 ≤ p0 ∧ p0 ≤ 65535))) ∧ (n_now 32 = v_now 32) ∧ (ws' = (wX10 cI cB cJ h q v_stalls v_claimMany v_taped v_place0 v_length0 v_fault v_number0 v_open v_codeMany v_waiting v_saidMany v_clauses v_newMany v_newStalls v_lines v_salesNow v_outNow v_isKept v_keptStalls n_now v_aside v_kept v_oneOf v_otherOf v_signOf v_byOf v_tape v_said v_waitsAt v_saidLetter v_saidFrom v_saidHalf v_saidTo v_codes v_clauseOf v_codeFrom v_codeHalf v_codeTo v_stack v_facts v_newOne v_newOther v_newSign v_newBy v_moreOf v_firstOf v_toldOf v_mostOf v_mostThen v_sumTo v_rowFrom v_ordersOf v_lessOf v_weightOf v_rowNow v_slowRow v_fastRow v_lineNow v_firstLine v_freeBy v_heldBy v_heightOf v_upTo v_downTo v_oftenOf v_newUpper v_newLower))) := by
  refine hdrZ (own := RX10) rfl (by decide +kernel) (Nat.le_of_ble_eq_true rfl) ?_
  intro p e s m args below meth c Q A X hQ
  refine g_lvE (lv2 := [(0, .ref h), (1, vI p0)]) rfl ?_
  refine g_iload_n X dX10_seed_0 1 rfl ?_
  refine g_iconst X dX10_seed_1 ?_
  refine g_ldcw X (z := 65535) dX10_seed_2 uw1829 (by decide) ?_
  refine g_callSIE X (c_X10_in l D cI cB cJ (p0 := p0) (p1 := 0) (p2 := 65535) (by first | assumption | omega) (by first | assumption | omega) (by first | assumption | omega)) cv_X10_in uw1394 ⟨rfl, rfl, by decide, by decide⟩ rfl rfl (Nat.le_of_ble_eq_true rfl) ⟨Nat.zero_le _, Nat.zero_le _⟩ dX10_seed_5 (fun t5 ws5 k5 => ?_)
  obtain ⟨kb_5, ⟨kp0_5, rfl⟩⟩ := k5
  refine g_if_ne X (tgt := 13) dX10_seed_8 (by decide) (by omega) (fun c8 => ?_) (fun c8 => ?_)
  · refine g_aload_n X dX10_seed_13 0 rfl ?_
    refine gM_get X 0 rfl 0 (by decide) uw1179 rfl dX10_seed_14 ?_
    refine g_bipush X (z := 33) dX10_seed_17 (by decide) ?_
    refine g_iload_n X dX10_seed_19 1 rfl ?_
    refine g_iast X 1 0 rfl rfl (by omega) (by decide) dX10_seed_20 (fun now_20 e20 => ?_)
    have r_now_20 : RA (-2147483648) 2147483647 now_20 := by rw [e20]; exact RA_up r_v_now (by omega)
    have qnow_20_32 : now_20 32 = v_now 32 := by rw [e20]; exact updZ_n _ _ (by omega)
    refine g_ws (ws2 := (wX10 cI cB cJ h q v_stalls v_claimMany v_taped v_place0 v_length0 v_fault v_number0 v_open v_codeMany v_waiting v_saidMany v_clauses v_newMany v_newStalls v_lines v_salesNow v_outNow v_isKept v_keptStalls now_20 v_aside v_kept v_oneOf v_otherOf v_signOf v_byOf v_tape v_said v_waitsAt v_saidLetter v_saidFrom v_saidHalf v_saidTo v_codes v_clauseOf v_codeFrom v_codeHalf v_codeTo v_stack v_facts v_newOne v_newOther v_newSign v_newBy v_moreOf v_firstOf v_toldOf v_mostOf v_mostThen v_sumTo v_rowFrom v_ordersOf v_lessOf v_weightOf v_rowNow v_slowRow v_fastRow v_lineNow v_firstLine v_freeBy v_heldBy v_heightOf v_upTo v_downTo v_oftenOf v_newUpper v_newLower)) rfl ?_
    refine g_iconst X dX10_seed_21 ?_
    exact hQ _ _ _ _ dX10_seed_22 ⟨by omega, ⟨now_20, r_now_20, (by first | assumption | omega), (by first | assumption | omega), rfl⟩⟩
  · refine g_iconst X dX10_seed_11 ?_
    exact hQ _ _ _ _ dX10_seed_12 ⟨by omega, ⟨v_now, r_v_now, (by first | assumption | omega), (by first | assumption | omega), rfl⟩⟩
set_option maxHeartbeats 4000000 in
set_option maxRecDepth 100000 in
theorem c_X10_undo (l : Launch) (D : va_G) (cI cB cJ : ClassId) (h : Nat) (q : Nat → Nat) {v_stalls v_claimMany v_taped v_place0 v_length0 v_fault v_number0 v_open v_codeMany v_waiting v_saidMany v_clauses v_newMany v_newStalls v_lines v_salesNow v_outNow v_isKept v_keptStalls : Int} {v_now v_aside v_kept v_oneOf v_otherOf v_signOf v_byOf v_tape v_said v_waitsAt v_saidLetter v_saidFrom v_saidHalf v_saidTo v_codes v_clauseOf v_codeFrom v_codeHalf v_codeTo v_stack v_facts v_newOne v_newOther v_newSign v_newBy v_moreOf v_firstOf v_toldOf v_mostOf v_mostThen v_sumTo v_rowFrom v_ordersOf v_lessOf v_weightOf v_rowNow v_slowRow v_fastRow v_lineNow v_firstLine v_freeBy v_heldBy v_heightOf v_upTo v_downTo v_oftenOf v_newUpper v_newLower : Nat → Int} (kr_v_stalls : 0 ≤ v_stalls ∧ v_stalls ≤ 255) (kr_v_isKept : 0 ≤ v_isKept ∧ v_isKept ≤ 1) (kr_v_keptStalls : 0 ≤ v_keptStalls ∧ v_keptStalls ≤ 255) (r_v_now : RA (-2147483648) 2147483647 v_now) (r_v_kept : RA (-2147483648) 2147483647 v_kept) : CtI l yX10_undo cX10_undo 2 (some .boolean) ⟨1, 0, 0, 21⟩ D (TY cI cB cJ) (wX10 cI cB cJ h q v_stalls v_claimMany v_taped v_place0 v_length0 v_fault v_number0 v_open v_codeMany v_waiting v_saidMany v_clauses v_newMany v_newStalls v_lines v_salesNow v_outNow v_isKept v_keptStalls v_now v_aside v_kept v_oneOf v_otherOf v_signOf v_byOf v_tape v_said v_waitsAt v_saidLetter v_saidFrom v_saidHalf v_saidTo v_codes v_clauseOf v_codeFrom v_codeHalf v_codeTo v_stack v_facts v_newOne v_newOther v_newSign v_newBy v_moreOf v_firstOf v_toldOf v_mostOf v_mostThen v_sumTo v_rowFrom v_ordersOf v_lessOf v_weightOf v_rowNow v_slowRow v_fastRow v_lineNow v_firstLine v_freeBy v_heldBy v_heightOf v_upTo v_downTo v_oftenOf v_newUpper v_newLower) [.ref h] (fun z ws' => (z = 0 ∨ z = 1) ∧ ∃ n_now : Nat → Int, (RA (-2147483648) 2147483647 n_now) ∧ (z = v_isKept) ∧ ((v_isKept = 1 ∧ n_now 32 = v_kept 32) ∨ (v_isKept = 0 ∧ n_now 32 = v_now 32)) ∧ (ws' = (wX10 cI cB cJ h q v_stalls v_claimMany v_taped v_place0 v_length0 v_fault v_number0 v_open v_codeMany v_waiting v_saidMany v_clauses v_newMany v_newStalls v_lines v_salesNow v_outNow v_isKept v_keptStalls n_now v_aside v_kept v_oneOf v_otherOf v_signOf v_byOf v_tape v_said v_waitsAt v_saidLetter v_saidFrom v_saidHalf v_saidTo v_codes v_clauseOf v_codeFrom v_codeHalf v_codeTo v_stack v_facts v_newOne v_newOther v_newSign v_newBy v_moreOf v_firstOf v_toldOf v_mostOf v_mostThen v_sumTo v_rowFrom v_ordersOf v_lessOf v_weightOf v_rowNow v_slowRow v_fastRow v_lineNow v_firstLine v_freeBy v_heldBy v_heightOf v_upTo v_downTo v_oftenOf v_newUpper v_newLower))) := by
  refine hdrZ (own := RX10) rfl (by decide +kernel) (Nat.le_of_ble_eq_true rfl) ?_
  intro p e s m args below meth c Q A X hQ
  refine g_lvE (lv2 := [(0, .ref h)]) rfl ?_
  refine g_aload_n X dX10_undo_0 0 rfl ?_
  refine gM_get X 0 rfl 65 (by decide) uw1244 rfl dX10_undo_1 ?_
  refine g_if_ne X (tgt := 9) dX10_undo_4 (by decide) (by omega) (fun c4 => ?_) (fun c4 => ?_)
  · refine g_iconst X dX10_undo_9 ?_
    refine g_istore_n X (lv' := [(1, vI 0), (0, .ref h)]) dX10_undo_10 (by decide) rfl ?_
    have L11 : ∀ (n : Nat) (x1_11 : Int) (now_11 : Nat → Int), (RA (-2147483648) 2147483647 now_11) → (0 ≤ x1_11 ∧ x1_11 ≤ 32) → (32 - x1_11).toNat < n → GG p l e ⟨1, 0, 0, 21⟩ s m args below meth c 0 0 Q D A s.heap 2 (wX10 cI cB cJ h q v_stalls v_claimMany v_taped v_place0 v_length0 v_fault v_number0 v_open v_codeMany v_waiting v_saidMany v_clauses v_newMany v_newStalls v_lines v_salesNow v_outNow v_isKept v_keptStalls now_11 v_aside v_kept v_oneOf v_otherOf v_signOf v_byOf v_tape v_said v_waitsAt v_saidLetter v_saidFrom v_saidHalf v_saidTo v_codes v_clauseOf v_codeFrom v_codeHalf v_codeTo v_stack v_facts v_newOne v_newOther v_newSign v_newBy v_moreOf v_firstOf v_toldOf v_mostOf v_mostThen v_sumTo v_rowFrom v_ordersOf v_lessOf v_weightOf v_rowNow v_slowRow v_fastRow v_lineNow v_firstLine v_freeBy v_heldBy v_heightOf v_upTo v_downTo v_oftenOf v_newUpper v_newLower) 11 [(0, .ref h), (1, vI x1_11)] [] := by
      intro n
      induction n with
      | zero => intros; exfalso; omega
      | succ n ih11 =>
        intro x1_11 now_11 r_now_11 w11_0 wm11
        refine g_iload_n X dX10_undo_11 1 rfl ?_
        refine g_bipush X (z := 32) dX10_undo_12 (by decide) ?_
        refine g_icmp_ge X (tgt := 54) dX10_undo_14 (by decide) (by omega) (by omega) (fun c14 => ?_) (fun c14 => ?_)
        · refine g_aload_n X dX10_undo_54 0 rfl ?_
          refine gM_get X 0 rfl 0 (by decide) uw1179 rfl dX10_undo_55 ?_
          refine g_bipush X (z := 32) dX10_undo_58 (by decide) ?_
          refine g_aload_n X dX10_undo_60 0 rfl ?_
          refine gM_get X 0 rfl 2 (by decide) uw1181 rfl dX10_undo_61 ?_
          refine g_bipush X (z := 32) dX10_undo_64 (by decide) ?_
          refine g_iald X 3 0 rfl rfl (by omega) (by decide) dX10_undo_66 (fun t66 e66 => ?_)
          have r66 := r_v_kept (32 : Int).toNat; rw [← e66] at r66
          have l66 : t66 = v_kept 32 := e66
          refine g_iast X 1 0 rfl rfl (by omega) (by decide) dX10_undo_67 (fun now_67 e67 => ?_)
          have r_now_67 : RA (-2147483648) 2147483647 now_67 := by rw [e67]; exact RA_up r_now_11 (by omega)
          have qnow_67_32 : now_67 32 = t66 := by rw [e67, show (32 : Int).toNat = 32 by omega]; exact updZ_s _ _ _
          refine g_ws (ws2 := (wX10 cI cB cJ h q v_stalls v_claimMany v_taped v_place0 v_length0 v_fault v_number0 v_open v_codeMany v_waiting v_saidMany v_clauses v_newMany v_newStalls v_lines v_salesNow v_outNow v_isKept v_keptStalls now_67 v_aside v_kept v_oneOf v_otherOf v_signOf v_byOf v_tape v_said v_waitsAt v_saidLetter v_saidFrom v_saidHalf v_saidTo v_codes v_clauseOf v_codeFrom v_codeHalf v_codeTo v_stack v_facts v_newOne v_newOther v_newSign v_newBy v_moreOf v_firstOf v_toldOf v_mostOf v_mostThen v_sumTo v_rowFrom v_ordersOf v_lessOf v_weightOf v_rowNow v_slowRow v_fastRow v_lineNow v_firstLine v_freeBy v_heldBy v_heightOf v_upTo v_downTo v_oftenOf v_newUpper v_newLower)) rfl ?_
          refine g_aload_n X dX10_undo_68 0 rfl ?_
          refine gM_get X 0 rfl 0 (by decide) uw1179 rfl dX10_undo_69 ?_
          refine g_bipush X (z := 33) dX10_undo_72 (by decide) ?_
          refine g_aload_n X dX10_undo_74 0 rfl ?_
          refine gM_get X 0 rfl 2 (by decide) uw1181 rfl dX10_undo_75 ?_
          refine g_bipush X (z := 33) dX10_undo_78 (by decide) ?_
          refine g_iald X 3 0 rfl rfl (by omega) (by decide) dX10_undo_80 (fun t80 e80 => ?_)
          have r80 := r_v_kept (33 : Int).toNat; rw [← e80] at r80
          have l80 : t80 = v_kept 33 := e80
          refine g_iast X 1 0 rfl rfl (by omega) (by decide) dX10_undo_81 (fun now_81 e81 => ?_)
          have r_now_81 : RA (-2147483648) 2147483647 now_81 := by rw [e81]; exact RA_up r_now_67 (by omega)
          have qnow_81_32 : now_81 32 = now_67 32 := by rw [e81]; exact updZ_n _ _ (by omega)
          refine g_ws (ws2 := (wX10 cI cB cJ h q v_stalls v_claimMany v_taped v_place0 v_length0 v_fault v_number0 v_open v_codeMany v_waiting v_saidMany v_clauses v_newMany v_newStalls v_lines v_salesNow v_outNow v_isKept v_keptStalls now_81 v_aside v_kept v_oneOf v_otherOf v_signOf v_byOf v_tape v_said v_waitsAt v_saidLetter v_saidFrom v_saidHalf v_saidTo v_codes v_clauseOf v_codeFrom v_codeHalf v_codeTo v_stack v_facts v_newOne v_newOther v_newSign v_newBy v_moreOf v_firstOf v_toldOf v_mostOf v_mostThen v_sumTo v_rowFrom v_ordersOf v_lessOf v_weightOf v_rowNow v_slowRow v_fastRow v_lineNow v_firstLine v_freeBy v_heldBy v_heightOf v_upTo v_downTo v_oftenOf v_newUpper v_newLower)) rfl ?_
          refine g_iconst X dX10_undo_82 ?_
          exact hQ _ _ _ _ dX10_undo_83 ⟨by omega, ⟨now_81, r_now_81, (by first | assumption | omega), (by first | assumption | omega), rfl⟩⟩
        · refine g_aload_n X dX10_undo_17 0 rfl ?_
          refine gM_get X 0 rfl 7 (by decide) uw1186 rfl dX10_undo_18 ?_
          refine g_aload_n X dX10_undo_21 0 rfl ?_
          refine gM_get X 0 rfl 66 (by decide) uw1245 rfl dX10_undo_22 ?_
          refine g_iand X dX10_undo_25 ?_
          refine g_nm (fun t25 e25 => ?_)
          have r25 : IR t25 := by rw [e25]; exact z_ir _
          refine g_iload_n X dX10_undo_26 1 rfl ?_
          refine g_bipush X (z := 8) dX10_undo_27 (by decide) ?_
          refine g_irem X dX10_undo_29 (by omega) (by omega) ?_
          refine g_nm (fun t29 e29 => ?_)
          have r29 : 0 ≤ t29 ∧ ((0 : Int) < 8 → t29 < 8) := by rw [e29]; exact ⟨Int.emod_nonneg _ (by omega), fun h => Int.emod_lt_of_pos _ h⟩
          refine g_callSIE X (c_X10_has l D cI cB cJ (p0 := t25) (p1 := t29) (by first | assumption | omega) (by first | assumption | omega)) cv_X10_has uw1531 ⟨rfl, rfl, by decide, by decide⟩ rfl rfl (Nat.le_of_ble_eq_true rfl) ⟨Nat.zero_le _, Nat.zero_le _⟩ dX10_undo_30 (fun t30 ws30 k30 => ?_)
          obtain ⟨kb_30, ⟨kp0_30, rfl⟩⟩ := k30
          refine g_if_eq X (tgt := 48) dX10_undo_33 (by decide) (by omega) (fun c33 => ?_) (fun c33 => ?_)
          · refine g_iinc X (lv' := [(1, vI (x1_11 + 1)), (0, .ref h)]) dX10_undo_48 1 rfl (by decide) rfl ?_
            refine g_goto X (tgt := 11) dX10_undo_51 (by decide) ?_
            refine g_lv [1, 0] rfl ?_
            exact ih11 (x1_11 + 1) now_11 r_now_11 (by first | assumption | omega) (by omega)
          · refine g_aload_n X dX10_undo_36 0 rfl ?_
            refine gM_get X 0 rfl 0 (by decide) uw1179 rfl dX10_undo_37 ?_
            refine g_iload_n X dX10_undo_40 1 rfl ?_
            refine g_aload_n X dX10_undo_41 0 rfl ?_
            refine gM_get X 0 rfl 2 (by decide) uw1181 rfl dX10_undo_42 ?_
            refine g_iload_n X dX10_undo_45 1 rfl ?_
            refine g_iald X 3 0 rfl rfl (by omega) (by decide) dX10_undo_46 (fun t46 e46 => ?_)
            have r46 := r_v_kept (x1_11 : Int).toNat; rw [← e46] at r46
            refine g_iast X 1 0 rfl rfl (by omega) (by decide) dX10_undo_47 (fun now_47 e47 => ?_)
            have r_now_47 : RA (-2147483648) 2147483647 now_47 := by rw [e47]; exact RA_up r_now_11 (by omega)
            have qnow_47_32 : now_47 32 = now_11 32 := by rw [e47]; exact updZ_n _ _ (by omega)
            refine g_ws (ws2 := (wX10 cI cB cJ h q v_stalls v_claimMany v_taped v_place0 v_length0 v_fault v_number0 v_open v_codeMany v_waiting v_saidMany v_clauses v_newMany v_newStalls v_lines v_salesNow v_outNow v_isKept v_keptStalls now_47 v_aside v_kept v_oneOf v_otherOf v_signOf v_byOf v_tape v_said v_waitsAt v_saidLetter v_saidFrom v_saidHalf v_saidTo v_codes v_clauseOf v_codeFrom v_codeHalf v_codeTo v_stack v_facts v_newOne v_newOther v_newSign v_newBy v_moreOf v_firstOf v_toldOf v_mostOf v_mostThen v_sumTo v_rowFrom v_ordersOf v_lessOf v_weightOf v_rowNow v_slowRow v_fastRow v_lineNow v_firstLine v_freeBy v_heldBy v_heightOf v_upTo v_downTo v_oftenOf v_newUpper v_newLower)) rfl ?_
            refine g_iinc X (lv' := [(1, vI (x1_11 + 1)), (0, .ref h)]) dX10_undo_48 1 rfl (by decide) rfl ?_
            refine g_goto X (tgt := 11) dX10_undo_51 (by decide) ?_
            refine g_lv [1, 0] rfl ?_
            exact ih11 (x1_11 + 1) now_47 r_now_47 (by first | assumption | omega) (by omega)
    refine g_lv [1, 0] rfl ?_
    exact L11 _ 0 v_now r_v_now (by first | assumption | omega) (Nat.lt_succ_self _)
  · refine g_iconst X dX10_undo_7 ?_
    exact hQ _ _ _ _ dX10_undo_8 ⟨by omega, ⟨v_now, r_v_now, (by first | assumption | omega), (by first | assumption | omega), rfl⟩⟩
set_option maxHeartbeats 4000000 in
set_option maxRecDepth 100000 in
theorem c_X10_check (l : Launch) (D : va_G) (cI cB cJ : ClassId) (h : Nat) (q : Nat → Nat) {v_stalls v_claimMany v_taped v_place0 v_length0 v_fault v_number0 v_open v_codeMany v_waiting v_saidMany v_clauses v_newMany v_newStalls v_lines v_salesNow v_outNow v_isKept v_keptStalls : Int} {v_now v_aside v_kept v_oneOf v_otherOf v_signOf v_byOf v_tape v_said v_waitsAt v_saidLetter v_saidFrom v_saidHalf v_saidTo v_codes v_clauseOf v_codeFrom v_codeHalf v_codeTo v_stack v_facts v_newOne v_newOther v_newSign v_newBy v_moreOf v_firstOf v_toldOf v_mostOf v_mostThen v_sumTo v_rowFrom v_ordersOf v_lessOf v_weightOf v_rowNow v_slowRow v_fastRow v_lineNow v_firstLine v_freeBy v_heldBy v_heightOf v_upTo v_downTo v_oftenOf v_newUpper v_newLower : Nat → Int} {p0 : Int} (kr_v_stalls : 0 ≤ v_stalls ∧ v_stalls ≤ 255) (kr_v_taped : 0 ≤ v_taped ∧ v_taped ≤ 260) (r_v_now : RA (-2147483648) 2147483647 v_now) (r_v_tape : RA (-128) 127 v_tape) (hp0 : IR p0) : CtI l yX10_check cX10_check 3 (some .int) ⟨2, 0, 0, 43⟩ D (TY cI cB cJ) (wX10 cI cB cJ h q v_stalls v_claimMany v_taped v_place0 v_length0 v_fault v_number0 v_open v_codeMany v_waiting v_saidMany v_clauses v_newMany v_newStalls v_lines v_salesNow v_outNow v_isKept v_keptStalls v_now v_aside v_kept v_oneOf v_otherOf v_signOf v_byOf v_tape v_said v_waitsAt v_saidLetter v_saidFrom v_saidHalf v_saidTo v_codes v_clauseOf v_codeFrom v_codeHalf v_codeTo v_stack v_facts v_newOne v_newOther v_newSign v_newBy v_moreOf v_firstOf v_toldOf v_mostOf v_mostThen v_sumTo v_rowFrom v_ordersOf v_lessOf v_weightOf v_rowNow v_slowRow v_fastRow v_lineNow v_firstLine v_freeBy v_heldBy v_heightOf v_upTo v_downTo v_oftenOf v_newUpper v_newLower) [.ref h, vI p0] (fun z ws' => ∃ n_taped : Int, (0 ≤ n_taped ∧ n_taped ≤ 260) ∧ (IR z) ∧ ((0 ≤ p0 ∧ p0 ≤ 8 ∧ p0 ≤ v_taped ∧ n_taped = 0) ∨ (¬ (0 ≤ p0 ∧ p0 ≤ 8 ∧ p0 ≤ v_taped) ∧ n_taped = v_taped)) ∧ (ws' = (wX10 cI cB cJ h q v_stalls v_claimMany n_taped v_place0 v_length0 v_fault v_number0 v_open v_codeMany v_waiting v_saidMany v_clauses v_newMany v_newStalls v_lines v_salesNow v_outNow v_isKept v_keptStalls v_now v_aside v_kept v_oneOf v_otherOf v_signOf v_byOf v_tape v_said v_waitsAt v_saidLetter v_saidFrom v_saidHalf v_saidTo v_codes v_clauseOf v_codeFrom v_codeHalf v_codeTo v_stack v_facts v_newOne v_newOther v_newSign v_newBy v_moreOf v_firstOf v_toldOf v_mostOf v_mostThen v_sumTo v_rowFrom v_ordersOf v_lessOf v_weightOf v_rowNow v_slowRow v_fastRow v_lineNow v_firstLine v_freeBy v_heldBy v_heightOf v_upTo v_downTo v_oftenOf v_newUpper v_newLower))) := by
  refine hdrI (own := RX10) rfl (by decide +kernel) (Nat.le_of_ble_eq_true rfl) ?_
  intro p e s m args below meth c Q A X hQ
  refine g_lvE (lv2 := [(0, .ref h), (1, vI p0)]) rfl ?_
  refine g_iload_n X dX10_check_0 1 rfl ?_
  refine g_iconst X dX10_check_1 ?_
  refine g_bipush X (z := 8) dX10_check_2 (by decide) ?_
  refine g_callSIE X (c_X10_in l D cI cB cJ (p0 := p0) (p1 := 0) (p2 := 8) (by first | assumption | omega) (by first | assumption | omega) (by first | assumption | omega)) cv_X10_in uw1394 ⟨rfl, rfl, by decide, by decide⟩ rfl rfl (Nat.le_of_ble_eq_true rfl) ⟨Nat.zero_le _, Nat.zero_le _⟩ dX10_check_4 (fun t4 ws4 k4 => ?_)
  obtain ⟨kb_4, ⟨kp0_4, rfl⟩⟩ := k4
  refine g_if_eq X (tgt := 18) dX10_check_7 (by decide) (by omega) (fun c7 => ?_) (fun c7 => ?_)
  · clear kb_4
    replace kp0_4 := (kp0_4.resolve_left (fun h => absurd h.1 (by omega))).2
    refine g_bipush X (z := (-2)) dX10_check_18 (by decide) ?_
    exact hQ _ _ _ _ dX10_check_20 ⟨v_taped, (by omega), (by first | assumption | omega), (by first | assumption | omega), rfl⟩
  · replace kb_4 := kb_4.resolve_left (fun h => c7 h)
    replace kp0_4 := kp0_4.resolve_right (fun h => c7 h.1)
    refine g_iload_n X dX10_check_10 1 rfl ?_
    refine g_aload_n X dX10_check_11 0 rfl ?_
    refine gM_get X 0 rfl 10 (by decide) uw1189 rfl dX10_check_12 ?_
    refine g_icmp_le X (tgt := 21) dX10_check_15 (by decide) (by omega) (by omega) (fun c15 => ?_) (fun c15 => ?_)
    · refine g_aload_n X dX10_check_21 0 rfl ?_
      refine g_iconst X dX10_check_22 ?_
      refine gM_put X 0 rfl 10 (by decide) uw1189 rfl rfl rfl (Nat.le_of_ble_eq_true rfl) dX10_check_23 (ws2 := (wX10 cI cB cJ h q v_stalls v_claimMany 0 v_place0 v_length0 v_fault v_number0 v_open v_codeMany v_waiting v_saidMany v_clauses v_newMany v_newStalls v_lines v_salesNow v_outNow v_isKept v_keptStalls v_now v_aside v_kept v_oneOf v_otherOf v_signOf v_byOf v_tape v_said v_waitsAt v_saidLetter v_saidFrom v_saidHalf v_saidTo v_codes v_clauseOf v_codeFrom v_codeHalf v_codeTo v_stack v_facts v_newOne v_newOther v_newSign v_newBy v_moreOf v_firstOf v_toldOf v_mostOf v_mostThen v_sumTo v_rowFrom v_ordersOf v_lessOf v_weightOf v_rowNow v_slowRow v_fastRow v_lineNow v_firstLine v_freeBy v_heldBy v_heightOf v_upTo v_downTo v_oftenOf v_newUpper v_newLower)) rfl ?_
      refine g_iconst X dX10_check_26 ?_
      refine g_istore_n X (lv' := [(2, vI 0), (0, .ref h), (1, vI p0)]) dX10_check_27 (by decide) rfl ?_
      have L28 : ∀ (n : Nat) (x2_28 : Int), (0 ≤ x2_28 ∧ x2_28 ≤ p0) → (p0 - x2_28).toNat < n → GG p l e ⟨2, 0, 0, 43⟩ s m args below meth c 0 0 Q D A s.heap 3 (wX10 cI cB cJ h q v_stalls v_claimMany 0 v_place0 v_length0 v_fault v_number0 v_open v_codeMany v_waiting v_saidMany v_clauses v_newMany v_newStalls v_lines v_salesNow v_outNow v_isKept v_keptStalls v_now v_aside v_kept v_oneOf v_otherOf v_signOf v_byOf v_tape v_said v_waitsAt v_saidLetter v_saidFrom v_saidHalf v_saidTo v_codes v_clauseOf v_codeFrom v_codeHalf v_codeTo v_stack v_facts v_newOne v_newOther v_newSign v_newBy v_moreOf v_firstOf v_toldOf v_mostOf v_mostThen v_sumTo v_rowFrom v_ordersOf v_lessOf v_weightOf v_rowNow v_slowRow v_fastRow v_lineNow v_firstLine v_freeBy v_heldBy v_heightOf v_upTo v_downTo v_oftenOf v_newUpper v_newLower) 28 [(0, .ref h), (1, vI p0), (2, vI x2_28)] [] := by
        intro n
        induction n with
        | zero => intros; exfalso; omega
        | succ n ih28 =>
          intro x2_28 w28_0 wm28
          refine g_iload_n X dX10_check_28 2 rfl ?_
          refine g_iload_n X dX10_check_29 1 rfl ?_
          refine g_icmp_ge X (tgt := 72) dX10_check_30 (by decide) (by omega) (by omega) (fun c30 => ?_) (fun c30 => ?_)
          · refine g_iconst X dX10_check_72 ?_
            exact hQ _ _ _ _ dX10_check_73 ⟨0, (by omega), (by first | assumption | omega), (by first | assumption | omega), rfl⟩
          · refine g_aload_n X dX10_check_33 0 rfl ?_
            refine g_iload_n X dX10_check_34 2 rfl ?_
            refine g_callVI0 X (c_X10_octet l D cI cB cJ h q (p0 := x2_28) r_v_tape (by first | assumption | omega) (by first | assumption | omega)) cv_X10_octet uw1641 ⟨rfl, rfl, by decide, by decide⟩ 0 rfl rfl rfl rfl rfl (Nat.le_of_ble_eq_true rfl) ⟨Nat.zero_le _, Nat.zero_le _⟩ dX10_check_35 (fun t35 ws35 k35 => ?_)
            obtain ⟨kp0_35, kp1_35, kp2_35, rfl⟩ := k35
            refine g_aload_n X dX10_check_38 0 rfl ?_
            refine g_iload_n X dX10_check_39 2 rfl ?_
            refine g_callVI0 X (c_X10_isStall l D cI cB cJ h q (p0 := x2_28) (by omega) (by first | assumption | omega)) cv_X10_isStall uw1765 ⟨rfl, rfl, by decide, by decide⟩ 0 rfl rfl rfl rfl rfl (Nat.le_of_ble_eq_true rfl) ⟨Nat.zero_le _, Nat.zero_le _⟩ dX10_check_40 (fun t40 ws40 k40 => ?_)
            obtain ⟨kb_40, ⟨kp0_40, rfl⟩⟩ := k40
            refine g_if_eq X (tgt := 58) dX10_check_43 (by decide) (by omega) (fun c43 => ?_) (fun c43 => ?_)
            · clear kb_40
              clear kp0_40
              refine g_sipush X (z := 255) dX10_check_58 (by decide) ?_
              refine g_icmp_eq X (tgt := 66) dX10_check_61 (by decide) (by omega) (by omega) (fun c61 => ?_) (fun c61 => ?_)
              · refine g_iinc X (lv' := [(2, vI (x2_28 + 1)), (0, .ref h), (1, vI p0)]) dX10_check_66 2 rfl (by decide) rfl ?_
                refine g_goto X (tgt := 28) dX10_check_69 (by decide) ?_
                refine g_lv [1, 2, 0] rfl ?_
                exact ih28 (x2_28 + 1) (by first | assumption | omega) (by omega)
              · refine g_iload_n X dX10_check_64 2 rfl ?_
                exact hQ _ _ _ _ dX10_check_65 ⟨0, (by omega), (by first | assumption | omega), (by first | assumption | omega), rfl⟩
            · replace kb_40 := kb_40.resolve_left (fun h => c43 h)
              replace kp0_40 := kp0_40 kb_40
              refine g_aload_n X dX10_check_46 0 rfl ?_
              refine g_iload_n X dX10_check_47 2 rfl ?_
              refine g_callVI0 X (c_X10_between l D cI cB cJ h q (p0 := x2_28) r_v_now (by first | assumption | omega) (by first | assumption | omega)) cv_X10_between uw1774 ⟨rfl, rfl, by decide, by decide⟩ 0 rfl rfl rfl rfl rfl (Nat.le_of_ble_eq_true rfl) ⟨Nat.zero_le _, Nat.zero_le _⟩ dX10_check_48 (fun t48 ws48 k48 => ?_)
              obtain ⟨kp0_48, rfl⟩ := k48
              refine g_sipush X (z := 256) dX10_check_51 (by decide) ?_
              refine g_iremT X dX10_check_54 (by omega) (by omega) ?_
              refine g_nm (fun t54 e54 => ?_)
              have r54 := z_iremT_r t48 256 (by omega) (by omega); rw [← e54] at r54
              refine g_goto X (tgt := 61) dX10_check_55 (by decide) ?_
              refine g_icmp_eq X (tgt := 66) dX10_check_61 (by decide) (by omega) (by omega) (fun c61 => ?_) (fun c61 => ?_)
              · refine g_iinc X (lv' := [(2, vI (x2_28 + 1)), (0, .ref h), (1, vI p0)]) dX10_check_66 2 rfl (by decide) rfl ?_
                refine g_goto X (tgt := 28) dX10_check_69 (by decide) ?_
                refine g_lv [1, 2, 0] rfl ?_
                exact ih28 (x2_28 + 1) (by first | assumption | omega) (by omega)
              · refine g_iload_n X dX10_check_64 2 rfl ?_
                exact hQ _ _ _ _ dX10_check_65 ⟨0, (by omega), (by first | assumption | omega), (by first | assumption | omega), rfl⟩
      refine g_lv [1, 2, 0] rfl ?_
      exact L28 _ 0 (by first | assumption | omega) (Nat.lt_succ_self _)
    · refine g_bipush X (z := (-2)) dX10_check_18 (by decide) ?_
      exact hQ _ _ _ _ dX10_check_20 ⟨v_taped, (by omega), (by first | assumption | omega), (by first | assumption | omega), rfl⟩
