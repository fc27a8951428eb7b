set_option maxHeartbeats 8000000 in
set_option maxRecDepth 100000 in
theorem c_X10_readsRule (l : Launch) (D : va_G) (cI cB cJ : ClassId) (h : Nat) (q : Nat → Nat) {v_stalls v_claimMany v_taped v_place0 v_length0 v_fault v_number0 v_open v_codeMany v_waiting v_saidMany v_clauses v_newMany v_newStalls v_lines v_salesNow v_outNow v_isKept v_keptStalls : Int} {v_now v_aside v_kept v_oneOf v_otherOf v_signOf v_byOf v_tape v_said v_waitsAt v_saidLetter v_saidFrom v_saidHalf v_saidTo v_codes v_clauseOf v_codeFrom v_codeHalf v_codeTo v_stack v_facts v_newOne v_newOther v_newSign v_newBy v_moreOf v_firstOf v_toldOf v_mostOf v_mostThen v_sumTo v_rowFrom v_ordersOf v_lessOf v_weightOf v_rowNow v_slowRow v_fastRow v_lineNow v_firstLine v_freeBy v_heldBy v_heightOf v_upTo v_downTo v_oftenOf v_newUpper v_newLower : Nat → Int} (kr_v_place0 : 0 ≤ v_place0 ∧ v_place0 ≤ 260) (kr_v_length0 : 0 ≤ v_length0 ∧ v_length0 ≤ 260) (kr_v_fault : (-1000000) ≤ v_fault ∧ v_fault ≤ 1000000) (kr_v_number0 : 0 ≤ v_number0 ∧ v_number0 ≤ 99999) (kr_v_open : (-2147483648) ≤ v_open ∧ v_open ≤ 2147483647) (kr_v_codeMany : 0 ≤ v_codeMany ∧ v_codeMany ≤ 260) (kr_v_waiting : 0 ≤ v_waiting ∧ v_waiting ≤ 260) (kr_v_saidMany : 0 ≤ v_saidMany ∧ v_saidMany ≤ 16) (r_v_tape : RA (-128) 127 v_tape) (r_v_said : RA 0 16777215 v_said) (r_v_waitsAt : RA 0 16777215 v_waitsAt) (r_v_saidLetter : RA (-2147483648) 2147483647 v_saidLetter) (r_v_saidFrom : RA 0 260 v_saidFrom) (r_v_saidHalf : RA 0 260 v_saidHalf) (r_v_saidTo : RA 0 260 v_saidTo) (hp0 : v_codeMany ≤ v_place0) (hp1 : v_place0 ≤ v_length0) (hp2 : v_length0 ≤ 240) (hp3 : SaidOK v_said v_saidMany v_codeMany v_saidFrom v_saidHalf v_saidTo) : CtI l yX10_readsRule cX10_readsRule 2 (some .boolean) ⟨7, 0, 0, 145⟩ D (TY cI cB cJ) (wX10 cI cB cJ h q v_stalls v_claimMany v_taped v_place0 v_length0 v_fault v_number0 v_open v_codeMany v_waiting v_saidMany v_clauses v_newMany v_newStalls v_lines v_salesNow v_outNow v_isKept v_keptStalls v_now v_aside v_kept v_oneOf v_otherOf v_signOf v_byOf v_tape v_said v_waitsAt v_saidLetter v_saidFrom v_saidHalf v_saidTo v_codes v_clauseOf v_codeFrom v_codeHalf v_codeTo v_stack v_facts v_newOne v_newOther v_newSign v_newBy v_moreOf v_firstOf v_toldOf v_mostOf v_mostThen v_sumTo v_rowFrom v_ordersOf v_lessOf v_weightOf v_rowNow v_slowRow v_fastRow v_lineNow v_firstLine v_freeBy v_heldBy v_heightOf v_upTo v_downTo v_oftenOf v_newUpper v_newLower) [.ref h] (fun z ws' => (z = 0 ∨ z = 1) ∧ ∃ n_place0 : Int, ∃ n_fault : Int, ∃ n_number0 : Int, ∃ n_open : Int, ∃ n_codeMany : Int, ∃ n_waiting : Int, ∃ n_saidMany : Int, ∃ n_said : Nat → Int, ∃ n_waitsAt : Nat → Int, ∃ n_saidLetter : Nat → Int, ∃ n_saidFrom : Nat → Int, ∃ n_saidHalf : Nat → Int, ∃ n_saidTo : Nat → Int, (0 ≤ n_place0 ∧ n_place0 ≤ 260) ∧ ((-1000000) ≤ n_fault ∧ n_fault ≤ 1000000) ∧ (0 ≤ n_number0 ∧ n_number0 ≤ 99999) ∧ ((-2147483648) ≤ n_open ∧ n_open ≤ 2147483647) ∧ (0 ≤ n_codeMany ∧ n_codeMany ≤ 260) ∧ (0 ≤ n_waiting ∧ n_waiting ≤ 260) ∧ (0 ≤ n_saidMany ∧ n_saidMany ≤ 16) ∧ (RA 0 16777215 n_said) ∧ (RA 0 16777215 n_waitsAt) ∧ (RA (-2147483648) 2147483647 n_saidLetter) ∧ (RA 0 260 n_saidFrom) ∧ (RA 0 260 n_saidHalf) ∧ (RA 0 260 n_saidTo) ∧ (z = 1 → SaidOK n_said n_saidMany n_codeMany n_saidFrom n_saidHalf n_saidTo) ∧ (z = 1 → n_codeMany ≤ n_place0) ∧ (n_place0 ≤ v_length0) ∧ (z = 1 → v_place0 < n_place0) ∧ (v_place0 ≤ n_place0) ∧ (ws' = (wX10 cI cB cJ h q v_stalls v_claimMany v_taped n_place0 v_length0 n_fault n_number0 n_open n_codeMany n_waiting n_saidMany v_clauses v_newMany v_newStalls v_lines v_salesNow v_outNow v_isKept v_keptStalls v_now v_aside v_kept v_oneOf v_otherOf v_signOf v_byOf v_tape n_said n_waitsAt n_saidLetter n_saidFrom n_saidHalf n_saidTo v_codes v_clauseOf v_codeFrom v_codeHalf v_codeTo v_stack v_facts v_newOne v_newOther v_newSign v_newBy v_moreOf v_firstOf v_toldOf v_mostOf v_mostThen v_sumTo v_rowFrom v_ordersOf v_lessOf v_weightOf v_rowNow v_slowRow v_fastRow v_lineNow v_firstLine v_freeBy v_heldBy v_heightOf v_upTo v_downTo v_oftenOf v_newUpper v_newLower))) := by
  refine hdrZ (own := RX10) rfl (by decide +kernel) (Nat.le_of_ble_eq_true rfl) ?_
  intro p e s m args below meth c Q A X hQ
  refine g_lvE (lv2 := [(0, .ref h)]) rfl ?_
  refine g_aload_n X dX10_readsRule_0 0 rfl ?_
  refine g_callVI0 X (c_X10_here l D cI cB cJ h q  (by omega) (by omega) r_v_tape) cv_X10_here uw1405 ⟨rfl, rfl, by decide, by decide⟩ 0 rfl rfl rfl rfl rfl (Nat.le_of_ble_eq_true rfl) ⟨Nat.zero_le _, Nat.zero_le _⟩ dX10_readsRule_1 (fun t1 ws1 k1 => ?_)
  obtain ⟨kp0_1, kp1_1, kp2_1, rfl⟩ := k1
  refine g_istore_n X (lv' := [(1, vI t1), (0, .ref h)]) dX10_readsRule_4 (by decide) rfl ?_
  have J39 : (t1 = 118 ∨ t1 = 121 ∨ t1 = 114 ∨ t1 = 120) → GG p l e ⟨7, 0, 0, 145⟩ s m args below meth c 0 0 Q D A s.heap 2 (wX10 cI cB cJ h q v_stalls v_claimMany v_taped v_place0 v_length0 v_fault v_number0 v_open v_codeMany v_waiting v_saidMany v_clauses v_newMany v_newStalls v_lines v_salesNow v_outNow v_isKept v_keptStalls v_now v_aside v_kept v_oneOf v_otherOf v_signOf v_byOf v_tape v_said v_waitsAt v_saidLetter v_saidFrom v_saidHalf v_saidTo v_codes v_clauseOf v_codeFrom v_codeHalf v_codeTo v_stack v_facts v_newOne v_newOther v_newSign v_newBy v_moreOf v_firstOf v_toldOf v_mostOf v_mostThen v_sumTo v_rowFrom v_ordersOf v_lessOf v_weightOf v_rowNow v_slowRow v_fastRow v_lineNow v_firstLine v_freeBy v_heldBy v_heightOf v_upTo v_downTo v_oftenOf v_newUpper v_newLower) 39 [(0, .ref h), (1, vI t1)] [] := by
    intro w39_0
    refine g_aload_n X dX10_readsRule_39 0 rfl ?_
    refine gM_get X 0 rfl 18 (by decide) uw1197 rfl dX10_readsRule_40 ?_
    refine g_bipush X (z := 16) dX10_readsRule_43 (by decide) ?_
    refine g_icmp_ne X (tgt := 58) dX10_readsRule_45 (by decide) (by omega) (by omega) (fun c45 => ?_) (fun c45 => ?_)
    · refine g_aload_n X dX10_readsRule_58 0 rfl ?_
      refine gM_get X 0 rfl 22 (by decide) uw1201 rfl dX10_readsRule_59 ?_
      refine g_aload_n X dX10_readsRule_62 0 rfl ?_
      refine gM_get X 0 rfl 18 (by decide) uw1197 rfl dX10_readsRule_63 ?_
      refine g_iload_n X dX10_readsRule_66 1 rfl ?_
      refine g_iast X 11 0 rfl rfl (by omega) (by decide) dX10_readsRule_67 (fun saidLetter_67 e67 => ?_)
      have r_saidLetter_67 : RA (-2147483648) 2147483647 saidLetter_67 := by rw [e67]; exact RA_up r_v_saidLetter (by omega)
      refine g_ws (ws2 := (wX10 cI cB cJ h q v_stalls v_claimMany v_taped v_place0 v_length0 v_fault v_number0 v_open v_codeMany v_waiting v_saidMany v_clauses v_newMany v_newStalls v_lines v_salesNow v_outNow v_isKept v_keptStalls v_now v_aside v_kept v_oneOf v_otherOf v_signOf v_byOf v_tape v_said v_waitsAt saidLetter_67 v_saidFrom v_saidHalf v_saidTo v_codes v_clauseOf v_codeFrom v_codeHalf v_codeTo v_stack v_facts v_newOne v_newOther v_newSign v_newBy v_moreOf v_firstOf v_toldOf v_mostOf v_mostThen v_sumTo v_rowFrom v_ordersOf v_lessOf v_weightOf v_rowNow v_slowRow v_fastRow v_lineNow v_firstLine v_freeBy v_heldBy v_heightOf v_upTo v_downTo v_oftenOf v_newUpper v_newLower)) rfl ?_
      refine g_aload_n X dX10_readsRule_68 0 rfl ?_
      refine g_aload_n X dX10_readsRule_69 0 rfl ?_
      refine gM_get X 0 rfl 11 (by decide) uw1190 rfl dX10_readsRule_70 ?_
      refine g_iconst X dX10_readsRule_73 ?_
      refine g_iadd X dX10_readsRule_74 ?_
      refine gM_put X 0 rfl 11 (by decide) uw1190 rfl rfl rfl (Nat.le_of_ble_eq_true rfl) dX10_readsRule_75 (ws2 := (wX10 cI cB cJ h q v_stalls v_claimMany v_taped (v_place0 + 1) v_length0 v_fault v_number0 v_open v_codeMany v_waiting v_saidMany v_clauses v_newMany v_newStalls v_lines v_salesNow v_outNow v_isKept v_keptStalls v_now v_aside v_kept v_oneOf v_otherOf v_signOf v_byOf v_tape v_said v_waitsAt saidLetter_67 v_saidFrom v_saidHalf v_saidTo v_codes v_clauseOf v_codeFrom v_codeHalf v_codeTo v_stack v_facts v_newOne v_newOther v_newSign v_newBy v_moreOf v_firstOf v_toldOf v_mostOf v_mostThen v_sumTo v_rowFrom v_ordersOf v_lessOf v_weightOf v_rowNow v_slowRow v_fastRow v_lineNow v_firstLine v_freeBy v_heldBy v_heightOf v_upTo v_downTo v_oftenOf v_newUpper v_newLower)) rfl ?_
      refine g_aload_n X dX10_readsRule_78 0 rfl ?_
      refine gM_get X 0 rfl 23 (by decide) uw1202 rfl dX10_readsRule_79 ?_
      refine g_aload_n X dX10_readsRule_82 0 rfl ?_
      refine gM_get X 0 rfl 18 (by decide) uw1197 rfl dX10_readsRule_83 ?_
      refine g_aload_n X dX10_readsRule_86 0 rfl ?_
      refine gM_get X 0 rfl 16 (by decide) uw1195 rfl dX10_readsRule_87 ?_
      refine g_iast X 12 0 rfl rfl (by omega) (by decide) dX10_readsRule_90 (fun saidFrom_90 e90 => ?_)
      have r_saidFrom_90 : RA 0 260 saidFrom_90 := by rw [e90]; exact RA_up r_v_saidFrom (by omega)
      refine g_ws (ws2 := (wX10 cI cB cJ h q v_stalls v_claimMany v_taped (v_place0 + 1) v_length0 v_fault v_number0 v_open v_codeMany v_waiting v_saidMany v_clauses v_newMany v_newStalls v_lines v_salesNow v_outNow v_isKept v_keptStalls v_now v_aside v_kept v_oneOf v_otherOf v_signOf v_byOf v_tape v_said v_waitsAt saidLetter_67 saidFrom_90 v_saidHalf v_saidTo v_codes v_clauseOf v_codeFrom v_codeHalf v_codeTo v_stack v_facts v_newOne v_newOther v_newSign v_newBy v_moreOf v_firstOf v_toldOf v_mostOf v_mostThen v_sumTo v_rowFrom v_ordersOf v_lessOf v_weightOf v_rowNow v_slowRow v_fastRow v_lineNow v_firstLine v_freeBy v_heldBy v_heightOf v_upTo v_downTo v_oftenOf v_newUpper v_newLower)) rfl ?_
      refine g_aload_n X dX10_readsRule_91 0 rfl ?_
      refine g_iconst X dX10_readsRule_92 ?_
      refine gM_put X 0 rfl 15 (by decide) uw1194 rfl rfl rfl (Nat.le_of_ble_eq_true rfl) dX10_readsRule_93 (ws2 := (wX10 cI cB cJ h q v_stalls v_claimMany v_taped (v_place0 + 1) v_length0 v_fault v_number0 0 v_codeMany v_waiting v_saidMany v_clauses v_newMany v_newStalls v_lines v_salesNow v_outNow v_isKept v_keptStalls v_now v_aside v_kept v_oneOf v_otherOf v_signOf v_byOf v_tape v_said v_waitsAt saidLetter_67 saidFrom_90 v_saidHalf v_saidTo v_codes v_clauseOf v_codeFrom v_codeHalf v_codeTo v_stack v_facts v_newOne v_newOther v_newSign v_newBy v_moreOf v_firstOf v_toldOf v_mostOf v_mostThen v_sumTo v_rowFrom v_ordersOf v_lessOf v_weightOf v_rowNow v_slowRow v_fastRow v_lineNow v_firstLine v_freeBy v_heldBy v_heightOf v_upTo v_downTo v_oftenOf v_newUpper v_newLower)) rfl ?_
      refine g_aload_n X dX10_readsRule_96 0 rfl ?_
      refine g_iconst X dX10_readsRule_97 ?_
      refine gM_put X 0 rfl 17 (by decide) uw1196 rfl rfl rfl (Nat.le_of_ble_eq_true rfl) dX10_readsRule_98 (ws2 := (wX10 cI cB cJ h q v_stalls v_claimMany v_taped (v_place0 + 1) v_length0 v_fault v_number0 0 v_codeMany 0 v_saidMany v_clauses v_newMany v_newStalls v_lines v_salesNow v_outNow v_isKept v_keptStalls v_now v_aside v_kept v_oneOf v_otherOf v_signOf v_byOf v_tape v_said v_waitsAt saidLetter_67 saidFrom_90 v_saidHalf v_saidTo v_codes v_clauseOf v_codeFrom v_codeHalf v_codeTo v_stack v_facts v_newOne v_newOther v_newSign v_newBy v_moreOf v_firstOf v_toldOf v_mostOf v_mostThen v_sumTo v_rowFrom v_ordersOf v_lessOf v_weightOf v_rowNow v_slowRow v_fastRow v_lineNow v_firstLine v_freeBy v_heldBy v_heightOf v_upTo v_downTo v_oftenOf v_newUpper v_newLower)) rfl ?_
      have J116 : ∀ (place0_116 : Int) (fault_116 : Int) (number0_116 : Int) (open_116 : Int) (codeMany_116 : Int) (waiting_116 : Int) (said_116 : Nat → Int) (waitsAt_116 : Nat → Int), (0 ≤ place0_116 ∧ place0_116 ≤ 260) → ((-1000000) ≤ fault_116 ∧ fault_116 ≤ 1000000) → (0 ≤ number0_116 ∧ number0_116 ≤ 99999) → ((-2147483648) ≤ open_116 ∧ open_116 ≤ 2147483647) → (0 ≤ codeMany_116 ∧ codeMany_116 ≤ 260) → (0 ≤ waiting_116 ∧ waiting_116 ≤ 260) → (RA 0 16777215 said_116) → (RA 0 16777215 waitsAt_116) → (clOK said_116 v_codeMany codeMany_116) → (SB v_codeMany v_said said_116) → (codeMany_116 ≤ place0_116) → (place0_116 ≤ v_length0) → (v_place0 < place0_116) → GG p l e ⟨7, 0, 0, 145⟩ s m args below meth c 0 0 Q D A s.heap 2 (wX10 cI cB cJ h q v_stalls v_claimMany v_taped place0_116 v_length0 fault_116 number0_116 open_116 codeMany_116 waiting_116 v_saidMany v_clauses v_newMany v_newStalls v_lines v_salesNow v_outNow v_isKept v_keptStalls v_now v_aside v_kept v_oneOf v_otherOf v_signOf v_byOf v_tape said_116 waitsAt_116 saidLetter_67 saidFrom_90 v_saidHalf v_saidTo v_codes v_clauseOf v_codeFrom v_codeHalf v_codeTo v_stack v_facts v_newOne v_newOther v_newSign v_newBy v_moreOf v_firstOf v_toldOf v_mostOf v_mostThen v_sumTo v_rowFrom v_ordersOf v_lessOf v_weightOf v_rowNow v_slowRow v_fastRow v_lineNow v_firstLine v_freeBy v_heldBy v_heightOf v_upTo v_downTo v_oftenOf v_newUpper v_newLower) 116 [(0, .ref h)] [] := by
        intro place0_116 fault_116 number0_116 open_116 codeMany_116 waiting_116 said_116 waitsAt_116 kr_place0_116 kr_fault_116 kr_number0_116 kr_open_116 kr_codeMany_116 kr_waiting_116 r_said_116 r_waitsAt_116 w116_0 w116_1 w116_2 w116_3 w116_4
        have hbd := w116_0.bd
        refine g_aload_n X dX10_readsRule_116 0 rfl ?_
        refine gM_get X 0 rfl 24 (by decide) uw1203 rfl dX10_readsRule_117 ?_
        refine g_aload_n X dX10_readsRule_120 0 rfl ?_
        refine gM_get X 0 rfl 18 (by decide) uw1197 rfl dX10_readsRule_121 ?_
        refine g_aload_n X dX10_readsRule_124 0 rfl ?_
        refine gM_get X 0 rfl 16 (by decide) uw1195 rfl dX10_readsRule_125 ?_
        refine g_iast X 13 0 rfl rfl (by omega) (by decide) dX10_readsRule_128 (fun saidHalf_128 e128 => ?_)
        have r_saidHalf_128 : RA 0 260 saidHalf_128 := by rw [e128]; exact RA_up r_v_saidHalf (by omega)
        refine g_ws (ws2 := (wX10 cI cB cJ h q v_stalls v_claimMany v_taped place0_116 v_length0 fault_116 number0_116 open_116 codeMany_116 waiting_116 v_saidMany v_clauses v_newMany v_newStalls v_lines v_salesNow v_outNow v_isKept v_keptStalls v_now v_aside v_kept v_oneOf v_otherOf v_signOf v_byOf v_tape said_116 waitsAt_116 saidLetter_67 saidFrom_90 saidHalf_128 v_saidTo v_codes v_clauseOf v_codeFrom v_codeHalf v_codeTo v_stack v_facts v_newOne v_newOther v_newSign v_newBy v_moreOf v_firstOf v_toldOf v_mostOf v_mostThen v_sumTo v_rowFrom v_ordersOf v_lessOf v_weightOf v_rowNow v_slowRow v_fastRow v_lineNow v_firstLine v_freeBy v_heldBy v_heightOf v_upTo v_downTo v_oftenOf v_newUpper v_newLower)) rfl ?_
        refine g_aload_n X dX10_readsRule_129 0 rfl ?_
        refine g_callVI0 X (c_X10_readsCondition l D cI cB cJ h q  (by omega) (by omega) (by omega) (by omega) (by omega) (by omega) (by omega) r_v_tape r_said_116 r_waitsAt_116 (by first | assumption | omega) (by first | assumption | omega) (by first | assumption | omega)) cv_X10_readsCondition uw1456 ⟨rfl, rfl, by decide, by decide⟩ 0 rfl rfl rfl rfl rfl (Nat.le_of_ble_eq_true rfl) ⟨Nat.zero_le _, Nat.zero_le _⟩ dX10_readsRule_130 (fun t130 ws130 k130 => ?_)
        obtain ⟨kb_130, ⟨place0_130, fault_130, number0_130, open_130, codeMany_130, waiting_130, said_130, waitsAt_130, kr_place0_130, kr_fault_130, kr_number0_130, kr_open_130, kr_codeMany_130, kr_waiting_130, r_said_130, r_waitsAt_130, kp0_130, kp1_130, kp2_130, kp3_130, kp4_130, kp5_130, rfl⟩⟩ := k130
        refine g_if_ne X (tgt := 138) dX10_readsRule_133 (by decide) (by omega) (fun c133 => ?_) (fun c133 => ?_)
        · replace kb_130 := kb_130.resolve_left (fun h => c133 h)
          replace kp0_130 := kp0_130 kb_130
          replace kp1_130 := kp1_130 kb_130
          replace kp3_130 := kp3_130 kb_130
          refine g_aload_n X dX10_readsRule_138 0 rfl ?_
          refine gM_get X 0 rfl 25 (by decide) uw1204 rfl dX10_readsRule_139 ?_
          refine g_aload_n X dX10_readsRule_142 0 rfl ?_
          refine gM_get X 0 rfl 18 (by decide) uw1197 rfl dX10_readsRule_143 ?_
          refine g_aload_n X dX10_readsRule_146 0 rfl ?_
          refine gM_get X 0 rfl 16 (by decide) uw1195 rfl dX10_readsRule_147 ?_
          refine g_iast X 14 0 rfl rfl (by omega) (by decide) dX10_readsRule_150 (fun saidTo_150 e150 => ?_)
          have r_saidTo_150 : RA 0 260 saidTo_150 := by rw [e150]; exact RA_up r_v_saidTo (by omega)
          refine g_ws (ws2 := (wX10 cI cB cJ h q v_stalls v_claimMany v_taped place0_130 v_length0 fault_130 number0_130 open_130 codeMany_130 waiting_130 v_saidMany v_clauses v_newMany v_newStalls v_lines v_salesNow v_outNow v_isKept v_keptStalls v_now v_aside v_kept v_oneOf v_otherOf v_signOf v_byOf v_tape said_130 waitsAt_130 saidLetter_67 saidFrom_90 saidHalf_128 saidTo_150 v_codes v_clauseOf v_codeFrom v_codeHalf v_codeTo v_stack v_facts v_newOne v_newOther v_newSign v_newBy v_moreOf v_firstOf v_toldOf v_mostOf v_mostThen v_sumTo v_rowFrom v_ordersOf v_lessOf v_weightOf v_rowNow v_slowRow v_fastRow v_lineNow v_firstLine v_freeBy v_heldBy v_heightOf v_upTo v_downTo v_oftenOf v_newUpper v_newLower)) rfl ?_
          refine g_aload_n X dX10_readsRule_151 0 rfl ?_
          refine g_aload_n X dX10_readsRule_152 0 rfl ?_
          refine gM_get X 0 rfl 18 (by decide) uw1197 rfl dX10_readsRule_153 ?_
          refine g_iconst X dX10_readsRule_156 ?_
          refine g_iadd X dX10_readsRule_157 ?_
          refine gM_put X 0 rfl 18 (by decide) uw1197 rfl rfl rfl (Nat.le_of_ble_eq_true rfl) dX10_readsRule_158 (ws2 := (wX10 cI cB cJ h q v_stalls v_claimMany v_taped place0_130 v_length0 fault_130 number0_130 open_130 codeMany_130 waiting_130 (v_saidMany + 1) v_clauses v_newMany v_newStalls v_lines v_salesNow v_outNow v_isKept v_keptStalls v_now v_aside v_kept v_oneOf v_otherOf v_signOf v_byOf v_tape said_130 waitsAt_130 saidLetter_67 saidFrom_90 saidHalf_128 saidTo_150 v_codes v_clauseOf v_codeFrom v_codeHalf v_codeTo v_stack v_facts v_newOne v_newOther v_newSign v_newBy v_moreOf v_firstOf v_toldOf v_mostOf v_mostThen v_sumTo v_rowFrom v_ordersOf v_lessOf v_weightOf v_rowNow v_slowRow v_fastRow v_lineNow v_firstLine v_freeBy v_heldBy v_heightOf v_upTo v_downTo v_oftenOf v_newUpper v_newLower)) rfl ?_
          have hbd3 := kp0_130.bd
          have hS : SaidOK said_130 (v_saidMany + 1) codeMany_130 saidFrom_90 saidHalf_128 saidTo_150 := by rw [e90, e128, e150]; exact SaidOK.add hp3 (by omega) (SB.trans w116_1 kp4_130 (by omega)) (w116_0.same kp4_130) kp0_130 (Int.le_refl _) (by omega)
          refine g_iconst X dX10_readsRule_161 ?_
          exact hQ _ _ _ _ dX10_readsRule_162 ⟨by omega, ⟨place0_130, fault_130, number0_130, open_130, codeMany_130, waiting_130, v_saidMany + 1, said_130, waitsAt_130, saidLetter_67, saidFrom_90, saidHalf_128, saidTo_150, (by omega), (by omega), (by omega), (by omega), (by omega), (by omega), (by omega), r_said_130, r_waitsAt_130, r_saidLetter_67, r_saidFrom_90, r_saidHalf_128, r_saidTo_150, (by intro hr; first | assumption | (exfalso; omega) | omega), (by intro hr; first | assumption | (exfalso; omega) | omega), (by first | assumption | omega), (by intro hr; first | assumption | (exfalso; omega) | omega), (by first | assumption | omega), rfl⟩⟩
        · clear kb_130
          clear kp0_130
          clear kp1_130
          clear kp3_130
          refine g_iconst X dX10_readsRule_136 ?_
          exact hQ _ _ _ _ dX10_readsRule_137 ⟨by omega, ⟨place0_130, fault_130, number0_130, open_130, codeMany_130, waiting_130, v_saidMany, said_130, waitsAt_130, saidLetter_67, saidFrom_90, saidHalf_128, v_saidTo, (by omega), (by omega), (by omega), (by omega), (by omega), (by omega), (by omega), r_said_130, r_waitsAt_130, r_saidLetter_67, r_saidFrom_90, r_saidHalf_128, r_v_saidTo, (by intro hr; first | assumption | (exfalso; omega) | omega), (by intro hr; first | assumption | (exfalso; omega) | omega), (by first | assumption | omega), (by intro hr; first | assumption | (exfalso; omega) | omega), (by first | assumption | omega), rfl⟩⟩
      have hR0 := RD.ini (lo := v_codeMany) v_said v_waitsAt (by omega)
      have hc0 : cw 11534336 v_waitsAt (0 : Int).toNat = 0 := rfl
      have hG0 : Ge 10485760 v_waitsAt 0 := fun j hj => by omega
      refine g_iload_n X dX10_readsRule_101 1 rfl ?_
      refine g_bipush X (z := 120) dX10_readsRule_102 (by decide) ?_
      refine g_icmp_eq X (tgt := 116) dX10_readsRule_104 (by decide) (by omega) (by omega) (fun c104 => ?_) (fun c104 => ?_)
      · refine g_lv [0] rfl ?_
        exact J116 (v_place0 + 1) v_fault v_number0 0 v_codeMany 0 v_said v_waitsAt (by omega) (by omega) (by omega) (by omega) (by omega) (by omega) r_v_said r_v_waitsAt (by first | exact RD.close kp0_108 (by omega) (by omega) | exact RD.close hR0 (by omega) (by omega)) (by first | exact kp6_108 | exact SB.refl _ _) (by first | assumption | omega) (by first | assumption | omega) (by first | assumption | omega)
      · refine g_aload_n X dX10_readsRule_107 0 rfl ?_
        refine g_callVI0 X (c_X10_readsSum l D cI cB cJ h q  (lo := v_codeMany) (gb := 0) (by omega) (by omega) (by omega) (by omega) (by omega) (by omega) (by omega) r_v_tape r_v_said r_v_waitsAt (by first | assumption | omega) (by first | assumption | omega) (by first | assumption | omega) (by first | assumption | omega) (by first | assumption | omega) (by first | assumption | omega) (by first | assumption | omega)) cv_X10_readsSum uw1413 ⟨rfl, rfl, by decide, by decide⟩ 0 rfl rfl rfl rfl rfl (Nat.le_of_ble_eq_true rfl) ⟨Nat.zero_le _, Nat.zero_le _⟩ dX10_readsRule_108 (fun t108 ws108 k108 => ?_)
        obtain ⟨kb_108, ⟨place0_108, fault_108, number0_108, open_108, codeMany_108, waiting_108, said_108, waitsAt_108, kr_place0_108, kr_fault_108, kr_number0_108, kr_open_108, kr_codeMany_108, kr_waiting_108, r_said_108, r_waitsAt_108, kp0_108, kp1_108, kp2_108, kp3_108, kp4_108, kp5_108, kp6_108, kp7_108, rfl⟩⟩ := k108
        have hb108 := cw_bd 11534336 waitsAt_108 waiting_108.toNat
        refine g_if_ne X (tgt := 116) dX10_readsRule_111 (by decide) (by omega) (fun c111 => ?_) (fun c111 => ?_)
        · replace kb_108 := kb_108.resolve_left (fun h => c111 h)
          replace kp0_108 := kp0_108 kb_108
          replace kp1_108 := kp1_108 kb_108
          replace kp3_108 := kp3_108 kb_108
          replace kp4_108 := kp4_108 kb_108
          replace kp5_108 := kp5_108 kb_108
          refine g_lv [0] rfl ?_
          exact J116 place0_108 fault_108 number0_108 open_108 codeMany_108 waiting_108 said_108 waitsAt_108 (by omega) (by omega) (by omega) (by omega) (by omega) (by omega) r_said_108 r_waitsAt_108 (by first | exact RD.close kp0_108 (by omega) (by omega) | exact RD.close hR0 (by omega) (by omega)) (by first | exact kp6_108 | exact SB.refl _ _) (by first | assumption | omega) (by first | assumption | omega) (by first | assumption | omega)
        · clear kb_108
          clear kp0_108
          clear kp1_108
          clear kp3_108
          clear kp4_108
          clear kp5_108
          refine g_iconst X dX10_readsRule_114 ?_
          exact hQ _ _ _ _ dX10_readsRule_115 ⟨by omega, ⟨place0_108, fault_108, number0_108, open_108, codeMany_108, waiting_108, v_saidMany, said_108, waitsAt_108, saidLetter_67, saidFrom_90, v_saidHalf, v_saidTo, (by omega), (by omega), (by omega), (by omega), (by omega), (by omega), (by omega), r_said_108, r_waitsAt_108, r_saidLetter_67, r_saidFrom_90, r_v_saidHalf, r_v_saidTo, (by intro hr; first | assumption | (exfalso; omega) | omega), (by intro hr; first | assumption | (exfalso; omega) | omega), (by first | assumption | omega), (by intro hr; first | assumption | (exfalso; omega) | omega), (by first | assumption | omega), rfl⟩⟩
    · refine g_aload_n X dX10_readsRule_48 0 rfl ?_
      refine g_iconst X dX10_readsRule_49 ?_
      refine g_aload_n X dX10_readsRule_50 0 rfl ?_
      refine gM_get X 0 rfl 11 (by decide) uw1190 rfl dX10_readsRule_51 ?_
      refine g_callVI0 X (c_X10_wrongAt l D cI cB cJ h q (p0 := 4) (p1 := v_place0) (by omega) (by first | assumption | omega) (by first | assumption | omega) (by first | assumption | omega) (by first | assumption | omega)) cv_X10_wrongAt uw1409 ⟨rfl, rfl, by decide, by decide⟩ 0 rfl rfl rfl rfl rfl (Nat.le_of_ble_eq_true rfl) ⟨Nat.zero_le _, Nat.zero_le _⟩ dX10_readsRule_54 (fun t54 ws54 k54 => ?_)
      obtain ⟨kb_54, ⟨fault_54, kr_fault_54, kp0_54, kp1_54, rfl⟩⟩ := k54
      exact hQ _ _ _ _ dX10_readsRule_57 ⟨by omega, ⟨v_place0, fault_54, v_number0, v_open, v_codeMany, v_waiting, v_saidMany, v_said, v_waitsAt, v_saidLetter, v_saidFrom, v_saidHalf, v_saidTo, (by omega), (by omega), (by omega), (by omega), (by omega), (by omega), (by omega), r_v_said, r_v_waitsAt, r_v_saidLetter, r_v_saidFrom, r_v_saidHalf, r_v_saidTo, (by intro hr; first | assumption | (exfalso; omega) | omega), (by intro hr; first | assumption | (exfalso; omega) | omega), (by first | assumption | omega), (by intro hr; first | assumption | (exfalso; omega) | omega), (by first | assumption | omega), rfl⟩⟩
  refine g_iload_n X dX10_readsRule_5 0 rfl ?_
  refine g_bipush X (z := 118) dX10_readsRule_6 (by decide) ?_
  refine g_icmp_eq X (tgt := 39) dX10_readsRule_8 (by decide) (by omega) (by omega) (fun c8 => ?_) (fun c8 => ?_)
  · refine g_lv [1, 0] rfl ?_
    exact J39 (by first | assumption | omega)
  · refine g_iload_n X dX10_readsRule_11 0 rfl ?_
    refine g_bipush X (z := 121) dX10_readsRule_12 (by decide) ?_
    refine g_icmp_eq X (tgt := 39) dX10_readsRule_14 (by decide) (by omega) (by omega) (fun c14 => ?_) (fun c14 => ?_)
    · refine g_lv [1, 0] rfl ?_
      exact J39 (by first | assumption | omega)
    · refine g_iload_n X dX10_readsRule_17 0 rfl ?_
      refine g_bipush X (z := 114) dX10_readsRule_18 (by decide) ?_
      refine g_icmp_eq X (tgt := 39) dX10_readsRule_20 (by decide) (by omega) (by omega) (fun c20 => ?_) (fun c20 => ?_)
      · refine g_lv [1, 0] rfl ?_
        exact J39 (by first | assumption | omega)
      · refine g_iload_n X dX10_readsRule_23 0 rfl ?_
        refine g_bipush X (z := 120) dX10_readsRule_24 (by decide) ?_
        refine g_icmp_eq X (tgt := 39) dX10_readsRule_26 (by decide) (by omega) (by omega) (fun c26 => ?_) (fun c26 => ?_)
        · refine g_lv [1, 0] rfl ?_
          exact J39 (by first | assumption | omega)
        · refine g_aload_n X dX10_readsRule_29 1 rfl ?_
          refine g_iconst X dX10_readsRule_30 ?_
          refine g_aload_n X dX10_readsRule_31 1 rfl ?_
          refine gM_get X 0 rfl 11 (by decide) uw1190 rfl dX10_readsRule_32 ?_
          refine g_callVI0 X (c_X10_wrongAt l D cI cB cJ h q (p0 := 1) (p1 := v_place0) (by omega) (by first | assumption | omega) (by first | assumption | omega) (by first | assumption | omega) (by first | assumption | omega)) cv_X10_wrongAt uw1409 ⟨rfl, rfl, by decide, by decide⟩ 0 rfl rfl rfl rfl rfl (Nat.le_of_ble_eq_true rfl) ⟨Nat.zero_le _, Nat.zero_le _⟩ dX10_readsRule_35 (fun t35 ws35 k35 => ?_)
          obtain ⟨kb_35, ⟨fault_35, kr_fault_35, kp0_35, kp1_35, rfl⟩⟩ := k35
          exact hQ _ _ _ _ dX10_readsRule_38 ⟨by omega, ⟨v_place0, fault_35, v_number0, v_open, v_codeMany, v_waiting, v_saidMany, v_said, v_waitsAt, v_saidLetter, v_saidFrom, v_saidHalf, v_saidTo, (by omega), (by omega), (by omega), (by omega), (by omega), (by omega), (by omega), r_v_said, r_v_waitsAt, r_v_saidLetter, r_v_saidFrom, r_v_saidHalf, r_v_saidTo, (by intro hr; first | assumption | (exfalso; omega) | omega), (by intro hr; first | assumption | (exfalso; omega) | omega), (by first | assumption | omega), (by intro hr; first | assumption | (exfalso; omega) | omega), (by first | assumption | omega), rfl⟩⟩
set_option maxHeartbeats 8000000 in
set_option maxRecDepth 100000 in
theorem c_X10_law (l : Launch) (D : va_G) (cI cB cJ : ClassId) (h : Nat) (q : Nat → Nat) {v_stalls v_claimMany v_taped v_place0 v_length0 v_fault v_number0 v_open v_codeMany v_waiting v_saidMany v_clauses v_newMany v_newStalls v_lines v_salesNow v_outNow v_isKept v_keptStalls : Int} {v_now v_aside v_kept v_oneOf v_otherOf v_signOf v_byOf v_tape v_said v_waitsAt v_saidLetter v_saidFrom v_saidHalf v_saidTo v_codes v_clauseOf v_codeFrom v_codeHalf v_codeTo v_stack v_facts v_newOne v_newOther v_newSign v_newBy v_moreOf v_firstOf v_toldOf v_mostOf v_mostThen v_sumTo v_rowFrom v_ordersOf v_lessOf v_weightOf v_rowNow v_slowRow v_fastRow v_lineNow v_firstLine v_freeBy v_heldBy v_heightOf v_upTo v_downTo v_oftenOf v_newUpper v_newLower : Nat → Int} {p0 : Int} (kr_v_taped : 0 ≤ v_taped ∧ v_taped ≤ 260) (kr_v_place0 : 0 ≤ v_place0 ∧ v_place0 ≤ 260) (kr_v_length0 : 0 ≤ v_length0 ∧ v_length0 ≤ 260) (kr_v_fault : (-1000000) ≤ v_fault ∧ v_fault ≤ 1000000) (kr_v_number0 : 0 ≤ v_number0 ∧ v_number0 ≤ 99999) (kr_v_open : (-2147483648) ≤ v_open ∧ v_open ≤ 2147483647) (kr_v_codeMany : 0 ≤ v_codeMany ∧ v_codeMany ≤ 260) (kr_v_waiting : 0 ≤ v_waiting ∧ v_waiting ≤ 260) (kr_v_saidMany : 0 ≤ v_saidMany ∧ v_saidMany ≤ 16) (kr_v_clauses : 0 ≤ v_clauses ∧ v_clauses ≤ 16) (r_v_tape : RA (-128) 127 v_tape) (r_v_said : RA 0 16777215 v_said) (r_v_waitsAt : RA 0 16777215 v_waitsAt) (r_v_saidLetter : RA (-2147483648) 2147483647 v_saidLetter) (r_v_saidFrom : RA 0 260 v_saidFrom) (r_v_saidHalf : RA 0 260 v_saidHalf) (r_v_saidTo : RA 0 260 v_saidTo) (r_v_codes : RA 0 16777215 v_codes) (r_v_clauseOf : RA (-2147483648) 2147483647 v_clauseOf) (r_v_codeFrom : RA 0 260 v_codeFrom) (r_v_codeHalf : RA 0 260 v_codeHalf) (r_v_codeTo : RA 0 260 v_codeTo) (hp0 : IR p0) (hp1 : LawOK v_codes v_clauses v_codeFrom v_codeHalf v_codeTo) : CtI l yX10_law cX10_law 4 (some .int) ⟨8, 0, 0, 166⟩ D (TY cI cB cJ) (wX10 cI cB cJ h q v_stalls v_claimMany v_taped v_place0 v_length0 v_fault v_number0 v_open v_codeMany v_waiting v_saidMany v_clauses v_newMany v_newStalls v_lines v_salesNow v_outNow v_isKept v_keptStalls v_now v_aside v_kept v_oneOf v_otherOf v_signOf v_byOf v_tape v_said v_waitsAt v_saidLetter v_saidFrom v_saidHalf v_saidTo v_codes v_clauseOf v_codeFrom v_codeHalf v_codeTo v_stack v_facts v_newOne v_newOther v_newSign v_newBy v_moreOf v_firstOf v_toldOf v_mostOf v_mostThen v_sumTo v_rowFrom v_ordersOf v_lessOf v_weightOf v_rowNow v_slowRow v_fastRow v_lineNow v_firstLine v_freeBy v_heldBy v_heightOf v_upTo v_downTo v_oftenOf v_newUpper v_newLower) [.ref h, vI p0] (fun z ws' => ∃ n_taped : Int, ∃ n_place0 : Int, ∃ n_length0 : Int, ∃ n_fault : Int, ∃ n_number0 : Int, ∃ n_open : Int, ∃ n_codeMany : Int, ∃ n_waiting : Int, ∃ n_saidMany : Int, ∃ n_clauses : Int, ∃ n_said : Nat → Int, ∃ n_waitsAt : Nat → Int, ∃ n_saidLetter : Nat → Int, ∃ n_saidFrom : Nat → Int, ∃ n_saidHalf : Nat → Int, ∃ n_saidTo : Nat → Int, ∃ n_codes : Nat → Int, ∃ n_clauseOf : Nat → Int, ∃ n_codeFrom : Nat → Int, ∃ n_codeHalf : Nat → Int, ∃ n_codeTo : Nat → Int, (0 ≤ n_taped ∧ n_taped ≤ 260) ∧ (0 ≤ n_place0 ∧ n_place0 ≤ 260) ∧ (0 ≤ n_length0 ∧ n_length0 ≤ 260) ∧ ((-1000000) ≤ n_fault ∧ n_fault ≤ 1000000) ∧ (0 ≤ n_number0 ∧ n_number0 ≤ 99999) ∧ ((-2147483648) ≤ n_open ∧ n_open ≤ 2147483647) ∧ (0 ≤ n_codeMany ∧ n_codeMany ≤ 260) ∧ (0 ≤ n_waiting ∧ n_waiting ≤ 260) ∧ (0 ≤ n_saidMany ∧ n_saidMany ≤ 16) ∧ (0 ≤ n_clauses ∧ n_clauses ≤ 16) ∧ (RA 0 16777215 n_said) ∧ (RA 0 16777215 n_waitsAt) ∧ (RA (-2147483648) 2147483647 n_saidLetter) ∧ (RA 0 260 n_saidFrom) ∧ (RA 0 260 n_saidHalf) ∧ (RA 0 260 n_saidTo) ∧ (RA 0 16777215 n_codes) ∧ (RA (-2147483648) 2147483647 n_clauseOf) ∧ (RA 0 260 n_codeFrom) ∧ (RA 0 260 n_codeHalf) ∧ (RA 0 260 n_codeTo) ∧ (IR z) ∧ (LawOK n_codes n_clauses n_codeFrom n_codeHalf n_codeTo) ∧ ((1 ≤ p0 ∧ p0 ≤ 240 ∧ p0 ≤ v_taped ∧ n_taped = 0) ∨ (¬ (1 ≤ p0 ∧ p0 ≤ 240 ∧ p0 ≤ v_taped) ∧ n_taped = v_taped)) ∧ (ws' = (wX10 cI cB cJ h q v_stalls v_claimMany n_taped n_place0 n_length0 n_fault n_number0 n_open n_codeMany n_waiting n_saidMany n_clauses v_newMany v_newStalls v_lines v_salesNow v_outNow v_isKept v_keptStalls v_now v_aside v_kept v_oneOf v_otherOf v_signOf v_byOf v_tape n_said n_waitsAt n_saidLetter n_saidFrom n_saidHalf n_saidTo n_codes n_clauseOf n_codeFrom n_codeHalf n_codeTo v_stack v_facts v_newOne v_newOther v_newSign v_newBy v_moreOf v_firstOf v_toldOf v_mostOf v_mostThen v_sumTo v_rowFrom v_ordersOf v_lessOf v_weightOf v_rowNow v_slowRow v_fastRow v_lineNow v_firstLine v_freeBy v_heldBy v_heightOf v_upTo v_downTo v_oftenOf v_newUpper v_newLower))) := by
  refine hdrI (own := RX10) rfl (by decide +kernel) (Nat.le_of_ble_eq_true rfl) ?_
  intro p e s m args below meth c Q A X hQ
  refine g_lvE (lv2 := [(0, .ref h), (1, vI p0)]) rfl ?_
  refine g_iload_n X dX10_law_0 1 rfl ?_
  refine g_iconst X dX10_law_1 ?_
  refine g_sipush X (z := 240) dX10_law_2 (by decide) ?_
  refine g_callSIE X (c_X10_in l D cI cB cJ (p0 := p0) (p1 := 1) (p2 := 240) (by first | assumption | omega) (by first | assumption | omega) (by first | assumption | omega)) cv_X10_in uw1394 ⟨rfl, rfl, by decide, by decide⟩ rfl rfl (Nat.le_of_ble_eq_true rfl) ⟨Nat.zero_le _, Nat.zero_le _⟩ dX10_law_5 (fun t5 ws5 k5 => ?_)
  obtain ⟨kb_5, ⟨kp0_5, rfl⟩⟩ := k5
  refine g_if_eq X (tgt := 19) dX10_law_8 (by decide) (by omega) (fun c8 => ?_) (fun c8 => ?_)
  · clear kb_5
    replace kp0_5 := (kp0_5.resolve_left (fun h => absurd h.1 (by omega))).2
    refine g_iconst X dX10_law_19 ?_
    exact hQ _ _ _ _ dX10_law_20 ⟨v_taped, v_place0, v_length0, v_fault, v_number0, v_open, v_codeMany, v_waiting, v_saidMany, v_clauses, v_said, v_waitsAt, v_saidLetter, v_saidFrom, v_saidHalf, v_saidTo, v_codes, v_clauseOf, v_codeFrom, v_codeHalf, v_codeTo, (by omega), (by omega), (by omega), (by omega), (by omega), (by omega), (by omega), (by omega), (by omega), (by omega), r_v_said, r_v_waitsAt, r_v_saidLetter, r_v_saidFrom, r_v_saidHalf, r_v_saidTo, r_v_codes, r_v_clauseOf, r_v_codeFrom, r_v_codeHalf, r_v_codeTo, (by first | assumption | omega), (by first | assumption | omega), (by first | assumption | omega), rfl⟩
  · replace kb_5 := kb_5.resolve_left (fun h => c8 h)
    replace kp0_5 := kp0_5.resolve_right (fun h => c8 h.1)
    refine g_iload_n X dX10_law_11 1 rfl ?_
    refine g_aload_n X dX10_law_12 0 rfl ?_
    refine gM_get X 0 rfl 10 (by decide) uw1189 rfl dX10_law_13 ?_
    refine g_icmp_le X (tgt := 21) dX10_law_16 (by decide) (by omega) (by omega) (fun c16 => ?_) (fun c16 => ?_)
    · refine g_aload_n X dX10_law_21 0 rfl ?_
      refine g_iload_n X dX10_law_22 1 rfl ?_
      refine g_callVV0 X (c_X10_beginsText l D cI cB cJ h q (p0 := p0) (by omega) (by omega) (by omega) (by omega) (by first | assumption | omega) (by first | assumption | omega)) cv_X10_beginsText uw1397 ⟨rfl, rfl, by decide, by decide⟩ 0 rfl rfl rfl rfl rfl (Nat.le_of_ble_eq_true rfl) ⟨Nat.zero_le _, Nat.zero_le _⟩ dX10_law_23 (fun ws23 k23 => ?_)
      obtain ⟨place0_23, length0_23, codeMany_23, saidMany_23, kr_place0_23, kr_length0_23, kr_codeMany_23, kr_saidMany_23, kp0_23, kp1_23, kp2_23, kp3_23, rfl⟩ := k23
      have hS0 : SaidOK v_said saidMany_23 codeMany_23 v_saidFrom v_saidHalf v_saidTo := SaidOK.nil (by omega)
      refine g_aload_n X dX10_law_26 0 rfl ?_
      refine g_callVI0 X (c_X10_readsRule l D cI cB cJ h q  (by omega) (by omega) (by omega) (by omega) (by omega) (by omega) (by omega) (by omega) r_v_tape r_v_said r_v_waitsAt r_v_saidLetter r_v_saidFrom r_v_saidHalf r_v_saidTo (by first | assumption | omega) (by first | assumption | omega) (by first | assumption | omega) (by first | assumption | omega)) cv_X10_readsRule uw1401 ⟨rfl, rfl, by decide, by decide⟩ 0 rfl rfl rfl rfl rfl (Nat.le_of_ble_eq_true rfl) ⟨Nat.zero_le _, Nat.zero_le _⟩ dX10_law_27 (fun t27 ws27 k27 => ?_)
      obtain ⟨kb_27, ⟨place0_27, fault_27, number0_27, open_27, codeMany_27, waiting_27, saidMany_27, said_27, waitsAt_27, saidLetter_27, saidFrom_27, saidHalf_27, saidTo_27, kr_place0_27, kr_fault_27, kr_number0_27, kr_open_27, kr_codeMany_27, kr_waiting_27, kr_saidMany_27, r_said_27, r_waitsAt_27, r_saidLetter_27, r_saidFrom_27, r_saidHalf_27, r_saidTo_27, kp0_27, kp1_27, kp2_27, kp3_27, kp4_27, rfl⟩⟩ := k27
      refine g_istore_n X (lv' := [(2, vI t27), (0, .ref h), (1, vI p0)]) dX10_law_30 (by decide) rfl ?_
      have L31 : ∀ (n : Nat) (x2_31 : Int) (place0_31 : Int) (fault_31 : Int) (number0_31 : Int) (open_31 : Int) (codeMany_31 : Int) (waiting_31 : Int) (saidMany_31 : Int) (said_31 : Nat → Int) (waitsAt_31 : Nat → Int) (saidLetter_31 : Nat → Int) (saidFrom_31 : Nat → Int) (saidHalf_31 : Nat → Int) (saidTo_31 : Nat → Int), (0 ≤ place0_31 ∧ place0_31 ≤ 260) → ((-1000000) ≤ fault_31 ∧ fault_31 ≤ 1000000) → (0 ≤ number0_31 ∧ number0_31 ≤ 99999) → ((-2147483648) ≤ open_31 ∧ open_31 ≤ 2147483647) → (0 ≤ codeMany_31 ∧ codeMany_31 ≤ 260) → (0 ≤ waiting_31 ∧ waiting_31 ≤ 260) → (0 ≤ saidMany_31 ∧ saidMany_31 ≤ 16) → (RA 0 16777215 said_31) → (RA 0 16777215 waitsAt_31) → (RA (-2147483648) 2147483647 saidLetter_31) → (RA 0 260 saidFrom_31) → (RA 0 260 saidHalf_31) → (RA 0 260 saidTo_31) → (0 ≤ x2_31 ∧ x2_31 ≤ 1) → (length0_23 = p0) → (x2_31 = 1 → SaidOK said_31 saidMany_31 codeMany_31 saidFrom_31 saidHalf_31 saidTo_31) → (x2_31 = 1 → codeMany_31 ≤ place0_31 ∧ place0_31 ≤ length0_23) → (p0 - place0_31 + x2_31).toNat < n → GG p l e ⟨8, 0, 0, 166⟩ s m args below meth c 0 0 Q D A s.heap 4 (wX10 cI cB cJ h q v_stalls v_claimMany v_taped place0_31 length0_23 fault_31 number0_31 open_31 codeMany_31 waiting_31 saidMany_31 v_clauses v_newMany v_newStalls v_lines v_salesNow v_outNow v_isKept v_keptStalls v_now v_aside v_kept v_oneOf v_otherOf v_signOf v_byOf v_tape said_31 waitsAt_31 saidLetter_31 saidFrom_31 saidHalf_31 saidTo_31 v_codes v_clauseOf v_codeFrom v_codeHalf v_codeTo v_stack v_facts v_newOne v_newOther v_newSign v_newBy v_moreOf v_firstOf v_toldOf v_mostOf v_mostThen v_sumTo v_rowFrom v_ordersOf v_lessOf v_weightOf v_rowNow v_slowRow v_fastRow v_lineNow v_firstLine v_freeBy v_heldBy v_heightOf v_upTo v_downTo v_oftenOf v_newUpper v_newLower) 31 [(0, .ref h), (2, vI x2_31)] [] := by
        intro n
        induction n with
        | zero => intros; exfalso; omega
        | succ n ih31 =>
          intro x2_31 place0_31 fault_31 number0_31 open_31 codeMany_31 waiting_31 saidMany_31 said_31 waitsAt_31 saidLetter_31 saidFrom_31 saidHalf_31 saidTo_31 kr_place0_31 kr_fault_31 kr_number0_31 kr_open_31 kr_codeMany_31 kr_waiting_31 kr_saidMany_31 r_said_31 r_waitsAt_31 r_saidLetter_31 r_saidFrom_31 r_saidHalf_31 r_saidTo_31 w31_0 w31_1 w31_2 w31_3 wm31
          refine g_iload_n X dX10_law_31 1 rfl ?_
          refine g_if_eq X (tgt := 71) dX10_law_32 (by decide) (by omega) (fun c32 => ?_) (fun c32 => ?_)
          · refine g_aload_n X dX10_law_71 0 rfl ?_
            refine g_iconst X dX10_law_72 ?_
            refine gM_put X 0 rfl 10 (by decide) uw1189 rfl rfl rfl (Nat.le_of_ble_eq_true rfl) dX10_law_73 (ws2 := (wX10 cI cB cJ h q v_stalls v_claimMany 0 place0_31 length0_23 fault_31 number0_31 open_31 codeMany_31 waiting_31 saidMany_31 v_clauses v_newMany v_newStalls v_lines v_salesNow v_outNow v_isKept v_keptStalls v_now v_aside v_kept v_oneOf v_otherOf v_signOf v_byOf v_tape said_31 waitsAt_31 saidLetter_31 saidFrom_31 saidHalf_31 saidTo_31 v_codes v_clauseOf v_codeFrom v_codeHalf v_codeTo v_stack v_facts v_newOne v_newOther v_newSign v_newBy v_moreOf v_firstOf v_toldOf v_mostOf v_mostThen v_sumTo v_rowFrom v_ordersOf v_lessOf v_weightOf v_rowNow v_slowRow v_fastRow v_lineNow v_firstLine v_freeBy v_heldBy v_heightOf v_upTo v_downTo v_oftenOf v_newUpper v_newLower)) rfl ?_
            refine g_iload_n X dX10_law_76 1 rfl ?_
            refine g_if_ne X (tgt := 85) dX10_law_77 (by decide) (by omega) (fun c77 => ?_) (fun c77 => ?_)
            · refine g_aload_n X dX10_law_85 0 rfl ?_
              refine g_aload_n X dX10_law_86 0 rfl ?_
              refine gM_get X 0 rfl 18 (by decide) uw1197 rfl dX10_law_87 ?_
              refine gM_put X 0 rfl 19 (by decide) uw1198 rfl rfl rfl (Nat.le_of_ble_eq_true rfl) dX10_law_90 (ws2 := (wX10 cI cB cJ h q v_stalls v_claimMany 0 place0_31 length0_23 fault_31 number0_31 open_31 codeMany_31 waiting_31 saidMany_31 saidMany_31 v_newMany v_newStalls v_lines v_salesNow v_outNow v_isKept v_keptStalls v_now v_aside v_kept v_oneOf v_otherOf v_signOf v_byOf v_tape said_31 waitsAt_31 saidLetter_31 saidFrom_31 saidHalf_31 saidTo_31 v_codes v_clauseOf v_codeFrom v_codeHalf v_codeTo v_stack v_facts v_newOne v_newOther v_newSign v_newBy v_moreOf v_firstOf v_toldOf v_mostOf v_mostThen v_sumTo v_rowFrom v_ordersOf v_lessOf v_weightOf v_rowNow v_slowRow v_fastRow v_lineNow v_firstLine v_freeBy v_heldBy v_heightOf v_upTo v_downTo v_oftenOf v_newUpper v_newLower)) rfl ?_
              refine g_iconst X dX10_law_93 ?_
              refine g_istore_n X (lv' := [(3, vI 0), (0, .ref h), (2, vI x2_31)]) dX10_law_94 (by decide) rfl ?_
              have L95 : ∀ (n : Nat) (x3_95 : Int) (codes_95 : Nat → Int), (RA 0 16777215 codes_95) → (0 ≤ x3_95 ∧ x3_95 ≤ codeMany_31) → (∀ j : Nat, (j : Int) < x3_95 → codes_95 j = said_31 j) → (codeMany_31 - x3_95).toNat < n → GG p l e ⟨8, 0, 0, 166⟩ s m args below meth c 0 0 Q D A s.heap 4 (wX10 cI cB cJ h q v_stalls v_claimMany 0 place0_31 length0_23 fault_31 number0_31 open_31 codeMany_31 waiting_31 saidMany_31 saidMany_31 v_newMany v_newStalls v_lines v_salesNow v_outNow v_isKept v_keptStalls v_now v_aside v_kept v_oneOf v_otherOf v_signOf v_byOf v_tape said_31 waitsAt_31 saidLetter_31 saidFrom_31 saidHalf_31 saidTo_31 codes_95 v_clauseOf v_codeFrom v_codeHalf v_codeTo v_stack v_facts v_newOne v_newOther v_newSign v_newBy v_moreOf v_firstOf v_toldOf v_mostOf v_mostThen v_sumTo v_rowFrom v_ordersOf v_lessOf v_weightOf v_rowNow v_slowRow v_fastRow v_lineNow v_firstLine v_freeBy v_heldBy v_heightOf v_upTo v_downTo v_oftenOf v_newUpper v_newLower) 95 [(0, .ref h), (3, vI x3_95)] [] := by
                intro n
                induction n with
                | zero => intros; exfalso; omega
                | succ n ih95 =>
                  intro x3_95 codes_95 r_codes_95 w95_0 w95_1 wm95
                  refine g_iload_n X dX10_law_95 1 rfl ?_
                  refine g_aload_n X dX10_law_96 0 rfl ?_
                  refine gM_get X 0 rfl 16 (by decide) uw1195 rfl dX10_law_97 ?_
                  refine g_icmp_ge X (tgt := 121) dX10_law_100 (by decide) (by omega) (by omega) (fun c100 => ?_) (fun c100 => ?_)
                  · refine g_iconst X dX10_law_121 ?_
                    refine g_istore_n X (lv' := [(3, vI 0), (0, .ref h)]) dX10_law_122 (by decide) rfl ?_
                    have L123 : ∀ (n : Nat) (x3_123 : Int) (clauseOf_123 : Nat → Int) (codeFrom_123 : Nat → Int) (codeHalf_123 : Nat → Int) (codeTo_123 : Nat → Int), (RA (-2147483648) 2147483647 clauseOf_123) → (RA 0 260 codeFrom_123) → (RA 0 260 codeHalf_123) → (RA 0 260 codeTo_123) → (0 ≤ x3_123 ∧ x3_123 ≤ saidMany_31) → (∀ j : Nat, (j : Int) < x3_123 → codeFrom_123 j = saidFrom_31 j ∧ codeHalf_123 j = saidHalf_31 j ∧ codeTo_123 j = saidTo_31 j) → (saidMany_31 - x3_123).toNat < n → GG p l e ⟨8, 0, 0, 166⟩ s m args below meth c 0 0 Q D A s.heap 4 (wX10 cI cB cJ h q v_stalls v_claimMany 0 place0_31 length0_23 fault_31 number0_31 open_31 codeMany_31 waiting_31 saidMany_31 saidMany_31 v_newMany v_newStalls v_lines v_salesNow v_outNow v_isKept v_keptStalls v_now v_aside v_kept v_oneOf v_otherOf v_signOf v_byOf v_tape said_31 waitsAt_31 saidLetter_31 saidFrom_31 saidHalf_31 saidTo_31 codes_95 clauseOf_123 codeFrom_123 codeHalf_123 codeTo_123 v_stack v_facts v_newOne v_newOther v_newSign v_newBy v_moreOf v_firstOf v_toldOf v_mostOf v_mostThen v_sumTo v_rowFrom v_ordersOf v_lessOf v_weightOf v_rowNow v_slowRow v_fastRow v_lineNow v_firstLine v_freeBy v_heldBy v_heightOf v_upTo v_downTo v_oftenOf v_newUpper v_newLower) 123 [(0, .ref h), (3, vI x3_123)] [] := by
                      intro n
                      induction n with
                      | zero => intros; exfalso; omega
                      | succ n ih123 =>
                        intro x3_123 clauseOf_123 codeFrom_123 codeHalf_123 codeTo_123 r_clauseOf_123 r_codeFrom_123 r_codeHalf_123 r_codeTo_123 w123_0 w123_1 wm123
                        refine g_iload_n X dX10_law_123 1 rfl ?_
                        refine g_aload_n X dX10_law_124 0 rfl ?_
                        refine gM_get X 0 rfl 18 (by decide) uw1197 rfl dX10_law_125 ?_
                        refine g_icmp_ge X (tgt := 185) dX10_law_128 (by decide) (by omega) (by omega) (fun c128 => ?_) (fun c128 => ?_)
                        · have hL : LawOK codes_95 saidMany_31 codeFrom_123 codeHalf_123 codeTo_123 := SaidOK.law (w31_2 (by omega)) (fun j hj => w95_1 j (by omega)) (fun j hj => w123_1 j (by omega))
                          refine g_aload_n X dX10_law_185 0 rfl ?_
                          refine gM_get X 0 rfl 18 (by decide) uw1197 rfl dX10_law_186 ?_
                          exact hQ _ _ _ _ dX10_law_189 ⟨0, place0_31, length0_23, fault_31, number0_31, open_31, codeMany_31, waiting_31, saidMany_31, saidMany_31, said_31, waitsAt_31, saidLetter_31, saidFrom_31, saidHalf_31, saidTo_31, codes_95, clauseOf_123, codeFrom_123, codeHalf_123, codeTo_123, (by omega), (by omega), (by omega), (by omega), (by omega), (by omega), (by omega), (by omega), (by omega), (by omega), r_said_31, r_waitsAt_31, r_saidLetter_31, r_saidFrom_31, r_saidHalf_31, r_saidTo_31, r_codes_95, r_clauseOf_123, r_codeFrom_123, r_codeHalf_123, r_codeTo_123, (by first | assumption | omega), (by first | assumption | omega), (by first | assumption | omega), rfl⟩
                        · refine g_aload_n X dX10_law_131 0 rfl ?_
                          refine gM_get X 0 rfl 27 (by decide) uw1206 rfl dX10_law_132 ?_
                          refine g_iload_n X dX10_law_135 1 rfl ?_
                          refine g_aload_n X dX10_law_136 0 rfl ?_
                          refine gM_get X 0 rfl 22 (by decide) uw1201 rfl dX10_law_137 ?_
                          refine g_iload_n X dX10_law_140 1 rfl ?_
                          refine g_iald X 11 0 rfl rfl (by omega) (by decide) dX10_law_141 (fun t141 e141 => ?_)
                          have r141 := r_saidLetter_31 (x3_123 : Int).toNat; rw [← e141] at r141
                          refine g_iast X 16 0 rfl rfl (by omega) (by decide) dX10_law_142 (fun clauseOf_142 e142 => ?_)
                          have r_clauseOf_142 : RA (-2147483648) 2147483647 clauseOf_142 := by rw [e142]; exact RA_up r_clauseOf_123 (by omega)
                          refine g_ws (ws2 := (wX10 cI cB cJ h q v_stalls v_claimMany 0 place0_31 length0_23 fault_31 number0_31 open_31 codeMany_31 waiting_31 saidMany_31 saidMany_31 v_newMany v_newStalls v_lines v_salesNow v_outNow v_isKept v_keptStalls v_now v_aside v_kept v_oneOf v_otherOf v_signOf v_byOf v_tape said_31 waitsAt_31 saidLetter_31 saidFrom_31 saidHalf_31 saidTo_31 codes_95 clauseOf_142 codeFrom_123 codeHalf_123 codeTo_123 v_stack v_facts v_newOne v_newOther v_newSign v_newBy v_moreOf v_firstOf v_toldOf v_mostOf v_mostThen v_sumTo v_rowFrom v_ordersOf v_lessOf v_weightOf v_rowNow v_slowRow v_fastRow v_lineNow v_firstLine v_freeBy v_heldBy v_heightOf v_upTo v_downTo v_oftenOf v_newUpper v_newLower)) rfl ?_
                          refine g_aload_n X dX10_law_143 0 rfl ?_
                          refine gM_get X 0 rfl 28 (by decide) uw1207 rfl dX10_law_144 ?_
                          refine g_iload_n X dX10_law_147 1 rfl ?_
                          refine g_aload_n X dX10_law_148 0 rfl ?_
                          refine gM_get X 0 rfl 23 (by decide) uw1202 rfl dX10_law_149 ?_
                          refine g_iload_n X dX10_law_152 1 rfl ?_
                          refine g_iald X 12 0 rfl rfl (by omega) (by decide) dX10_law_153 (fun t153 e153 => ?_)
                          have r153 := r_saidFrom_31 (x3_123 : Int).toNat; rw [← e153] at r153
                          refine g_iast X 17 0 rfl rfl (by omega) (by decide) dX10_law_154 (fun codeFrom_154 e154 => ?_)
                          have r_codeFrom_154 : RA 0 260 codeFrom_154 := by rw [e154]; exact RA_up r_codeFrom_123 (by omega)
                          refine g_ws (ws2 := (wX10 cI cB cJ h q v_stalls v_claimMany 0 place0_31 length0_23 fault_31 number0_31 open_31 codeMany_31 waiting_31 saidMany_31 saidMany_31 v_newMany v_newStalls v_lines v_salesNow v_outNow v_isKept v_keptStalls v_now v_aside v_kept v_oneOf v_otherOf v_signOf v_byOf v_tape said_31 waitsAt_31 saidLetter_31 saidFrom_31 saidHalf_31 saidTo_31 codes_95 clauseOf_142 codeFrom_154 codeHalf_123 codeTo_123 v_stack v_facts v_newOne v_newOther v_newSign v_newBy v_moreOf v_firstOf v_toldOf v_mostOf v_mostThen v_sumTo v_rowFrom v_ordersOf v_lessOf v_weightOf v_rowNow v_slowRow v_fastRow v_lineNow v_firstLine v_freeBy v_heldBy v_heightOf v_upTo v_downTo v_oftenOf v_newUpper v_newLower)) rfl ?_
                          refine g_aload_n X dX10_law_155 0 rfl ?_
                          refine gM_get X 0 rfl 29 (by decide) uw1208 rfl dX10_law_156 ?_
                          refine g_iload_n X dX10_law_159 1 rfl ?_
                          refine g_aload_n X dX10_law_160 0 rfl ?_
                          refine gM_get X 0 rfl 24 (by decide) uw1203 rfl dX10_law_161 ?_
                          refine g_iload_n X dX10_law_164 1 rfl ?_
                          refine g_iald X 13 0 rfl rfl (by omega) (by decide) dX10_law_165 (fun t165 e165 => ?_)
                          have r165 := r_saidHalf_31 (x3_123 : Int).toNat; rw [← e165] at r165
                          refine g_iast X 18 0 rfl rfl (by omega) (by decide) dX10_law_166 (fun codeHalf_166 e166 => ?_)
                          have r_codeHalf_166 : RA 0 260 codeHalf_166 := by rw [e166]; exact RA_up r_codeHalf_123 (by omega)
                          refine g_ws (ws2 := (wX10 cI cB cJ h q v_stalls v_claimMany 0 place0_31 length0_23 fault_31 number0_31 open_31 codeMany_31 waiting_31 saidMany_31 saidMany_31 v_newMany v_newStalls v_lines v_salesNow v_outNow v_isKept v_keptStalls v_now v_aside v_kept v_oneOf v_otherOf v_signOf v_byOf v_tape said_31 waitsAt_31 saidLetter_31 saidFrom_31 saidHalf_31 saidTo_31 codes_95 clauseOf_142 codeFrom_154 codeHalf_166 codeTo_123 v_stack v_facts v_newOne v_newOther v_newSign v_newBy v_moreOf v_firstOf v_toldOf v_mostOf v_mostThen v_sumTo v_rowFrom v_ordersOf v_lessOf v_weightOf v_rowNow v_slowRow v_fastRow v_lineNow v_firstLine v_freeBy v_heldBy v_heightOf v_upTo v_downTo v_oftenOf v_newUpper v_newLower)) rfl ?_
                          refine g_aload_n X dX10_law_167 0 rfl ?_
                          refine gM_get X 0 rfl 30 (by decide) uw1209 rfl dX10_law_168 ?_
                          refine g_iload_n X dX10_law_171 1 rfl ?_
                          refine g_aload_n X dX10_law_172 0 rfl ?_
                          refine gM_get X 0 rfl 25 (by decide) uw1204 rfl dX10_law_173 ?_
                          refine g_iload_n X dX10_law_176 1 rfl ?_
                          refine g_iald X 14 0 rfl rfl (by omega) (by decide) dX10_law_177 (fun t177 e177 => ?_)
                          have r177 := r_saidTo_31 (x3_123 : Int).toNat; rw [← e177] at r177
                          refine g_iast X 19 0 rfl rfl (by omega) (by decide) dX10_law_178 (fun codeTo_178 e178 => ?_)
                          have r_codeTo_178 : RA 0 260 codeTo_178 := by rw [e178]; exact RA_up r_codeTo_123 (by omega)
                          refine g_ws (ws2 := (wX10 cI cB cJ h q v_stalls v_claimMany 0 place0_31 length0_23 fault_31 number0_31 open_31 codeMany_31 waiting_31 saidMany_31 saidMany_31 v_newMany v_newStalls v_lines v_salesNow v_outNow v_isKept v_keptStalls v_now v_aside v_kept v_oneOf v_otherOf v_signOf v_byOf v_tape said_31 waitsAt_31 saidLetter_31 saidFrom_31 saidHalf_31 saidTo_31 codes_95 clauseOf_142 codeFrom_154 codeHalf_166 codeTo_178 v_stack v_facts v_newOne v_newOther v_newSign v_newBy v_moreOf v_firstOf v_toldOf v_mostOf v_mostThen v_sumTo v_rowFrom v_ordersOf v_lessOf v_weightOf v_rowNow v_slowRow v_fastRow v_lineNow v_firstLine v_freeBy v_heldBy v_heightOf v_upTo v_downTo v_oftenOf v_newUpper v_newLower)) rfl ?_
                          refine g_iinc X (lv' := [(3, vI (x3_123 + 1)), (0, .ref h)]) dX10_law_179 1 rfl (by decide) rfl ?_
                          refine g_goto X (tgt := 123) dX10_law_182 (by decide) ?_
                          refine g_lv [1, 0] rfl ?_
                          exact ih123 (x3_123 + 1) clauseOf_142 codeFrom_154 codeHalf_166 codeTo_178 r_clauseOf_142 r_codeFrom_154 r_codeHalf_166 r_codeTo_178 (by first | assumption | omega) (by intro j hj; first | (exfalso; omega) | (rcases (show (j : Int) < x3_123 ∨ j = x3_123.toNat by omega) with h | h; (rw [e154, e166, e178, updZ_n _ _ (by omega), updZ_n _ _ (by omega), updZ_n _ _ (by omega)]; exact w123_1 j h); (rw [e154, e166, e178, h, updZ_s, updZ_s, updZ_s]; exact ⟨e153, e165, e177⟩))) (by omega)
                    refine g_lv [1, 0] rfl ?_
                    exact L123 _ 0 v_clauseOf v_codeFrom v_codeHalf v_codeTo r_v_clauseOf r_v_codeFrom r_v_codeHalf r_v_codeTo (by first | assumption | omega) (by intro j hj; first | (exfalso; omega) | (rcases (show (j : Int) < x3_123 ∨ j = x3_123.toNat by omega) with h | h; (rw [e154, e166, e178, updZ_n _ _ (by omega), updZ_n _ _ (by omega), updZ_n _ _ (by omega)]; exact w123_1 j h); (rw [e154, e166, e178, h, updZ_s, updZ_s, updZ_s]; exact ⟨e153, e165, e177⟩))) (Nat.lt_succ_self _)
                  · refine g_aload_n X dX10_law_103 0 rfl ?_
                    refine gM_get X 0 rfl 26 (by decide) uw1205 rfl dX10_law_104 ?_
                    refine g_iload_n X dX10_law_107 1 rfl ?_
                    refine g_aload_n X dX10_law_108 0 rfl ?_
                    refine gM_get X 0 rfl 20 (by decide) uw1199 rfl dX10_law_109 ?_
                    refine g_iload_n X dX10_law_112 1 rfl ?_
                    refine g_iald X 9 0 rfl rfl (by omega) (by decide) dX10_law_113 (fun t113 e113 => ?_)
                    have r113 := r_said_31 (x3_95 : Int).toNat; rw [← e113] at r113
                    refine g_iast X 15 0 rfl rfl (by omega) (by decide) dX10_law_114 (fun codes_114 e114 => ?_)
                    have r_codes_114 : RA 0 16777215 codes_114 := by rw [e114]; exact RA_up r_codes_95 (by omega)
                    refine g_ws (ws2 := (wX10 cI cB cJ h q v_stalls v_claimMany 0 place0_31 length0_23 fault_31 number0_31 open_31 codeMany_31 waiting_31 saidMany_31 saidMany_31 v_newMany v_newStalls v_lines v_salesNow v_outNow v_isKept v_keptStalls v_now v_aside v_kept v_oneOf v_otherOf v_signOf v_byOf v_tape said_31 waitsAt_31 saidLetter_31 saidFrom_31 saidHalf_31 saidTo_31 codes_114 v_clauseOf v_codeFrom v_codeHalf v_codeTo v_stack v_facts v_newOne v_newOther v_newSign v_newBy v_moreOf v_firstOf v_toldOf v_mostOf v_mostThen v_sumTo v_rowFrom v_ordersOf v_lessOf v_weightOf v_rowNow v_slowRow v_fastRow v_lineNow v_firstLine v_freeBy v_heldBy v_heightOf v_upTo v_downTo v_oftenOf v_newUpper v_newLower)) rfl ?_
                    refine g_iinc X (lv' := [(3, vI (x3_95 + 1)), (0, .ref h)]) dX10_law_115 1 rfl (by decide) rfl ?_
                    refine g_goto X (tgt := 95) dX10_law_118 (by decide) ?_
                    refine g_lv [1, 0] rfl ?_
                    exact ih95 (x3_95 + 1) codes_114 r_codes_114 (by first | assumption | omega) (by intro j hj; first | (exfalso; omega) | (rcases (show (j : Int) < x3_95 ∨ j = x3_95.toNat by omega) with h | h; (rw [e114, updZ_n _ _ (by omega)]; exact w95_1 j h); (rw [e114, h, updZ_s]; exact e113))) (by omega)
              refine g_lv [1, 0] rfl ?_
              exact L95 _ 0 v_codes r_v_codes (by first | assumption | omega) (by intro j hj; first | (exfalso; omega) | (rcases (show (j : Int) < x3_95 ∨ j = x3_95.toNat by omega) with h | h; (rw [e114, updZ_n _ _ (by omega)]; exact w95_1 j h); (rw [e114, h, updZ_s]; exact e113))) (Nat.lt_succ_self _)
            · refine g_aload_n X dX10_law_80 0 rfl ?_
              refine gM_get X 0 rfl 13 (by decide) uw1192 rfl dX10_law_81 ?_
              exact hQ _ _ _ _ dX10_law_84 ⟨0, place0_31, length0_23, fault_31, number0_31, open_31, codeMany_31, waiting_31, saidMany_31, v_clauses, said_31, waitsAt_31, saidLetter_31, saidFrom_31, saidHalf_31, saidTo_31, v_codes, v_clauseOf, v_codeFrom, v_codeHalf, v_codeTo, (by omega), (by omega), (by omega), (by omega), (by omega), (by omega), (by omega), (by omega), (by omega), (by omega), r_said_31, r_waitsAt_31, r_saidLetter_31, r_saidFrom_31, r_saidHalf_31, r_saidTo_31, r_v_codes, r_v_clauseOf, r_v_codeFrom, r_v_codeHalf, r_v_codeTo, (by first | assumption | omega), (by first | assumption | omega), (by first | assumption | omega), rfl⟩
          · refine g_aload_n X dX10_law_35 0 rfl ?_
            refine gM_get X 0 rfl 11 (by decide) uw1190 rfl dX10_law_36 ?_
            refine g_aload_n X dX10_law_39 0 rfl ?_
            refine gM_get X 0 rfl 12 (by decide) uw1191 rfl dX10_law_40 ?_
            refine g_icmp_ge X (tgt := 71) dX10_law_43 (by decide) (by omega) (by omega) (fun c43 => ?_) (fun c43 => ?_)
            · refine g_aload_n X dX10_law_71 0 rfl ?_
              refine g_iconst X dX10_law_72 ?_
              refine gM_put X 0 rfl 10 (by decide) uw1189 rfl rfl rfl (Nat.le_of_ble_eq_true rfl) dX10_law_73 (ws2 := (wX10 cI cB cJ h q v_stalls v_claimMany 0 place0_31 length0_23 fault_31 number0_31 open_31 codeMany_31 waiting_31 saidMany_31 v_clauses v_newMany v_newStalls v_lines v_salesNow v_outNow v_isKept v_keptStalls v_now v_aside v_kept v_oneOf v_otherOf v_signOf v_byOf v_tape said_31 waitsAt_31 saidLetter_31 saidFrom_31 saidHalf_31 saidTo_31 v_codes v_clauseOf v_codeFrom v_codeHalf v_codeTo v_stack v_facts v_newOne v_newOther v_newSign v_newBy v_moreOf v_firstOf v_toldOf v_mostOf v_mostThen v_sumTo v_rowFrom v_ordersOf v_lessOf v_weightOf v_rowNow v_slowRow v_fastRow v_lineNow v_firstLine v_freeBy v_heldBy v_heightOf v_upTo v_downTo v_oftenOf v_newUpper v_newLower)) rfl ?_
              refine g_iload_n X dX10_law_76 1 rfl ?_
              refine g_if_ne X (tgt := 85) dX10_law_77 (by decide) (by omega) (fun c77 => ?_) (fun c77 => ?_)
              · refine g_aload_n X dX10_law_85 0 rfl ?_
                refine g_aload_n X dX10_law_86 0 rfl ?_
                refine gM_get X 0 rfl 18 (by decide) uw1197 rfl dX10_law_87 ?_
                refine gM_put X 0 rfl 19 (by decide) uw1198 rfl rfl rfl (Nat.le_of_ble_eq_true rfl) dX10_law_90 (ws2 := (wX10 cI cB cJ h q v_stalls v_claimMany 0 place0_31 length0_23 fault_31 number0_31 open_31 codeMany_31 waiting_31 saidMany_31 saidMany_31 v_newMany v_newStalls v_lines v_salesNow v_outNow v_isKept v_keptStalls v_now v_aside v_kept v_oneOf v_otherOf v_signOf v_byOf v_tape said_31 waitsAt_31 saidLetter_31 saidFrom_31 saidHalf_31 saidTo_31 v_codes v_clauseOf v_codeFrom v_codeHalf v_codeTo v_stack v_facts v_newOne v_newOther v_newSign v_newBy v_moreOf v_firstOf v_toldOf v_mostOf v_mostThen v_sumTo v_rowFrom v_ordersOf v_lessOf v_weightOf v_rowNow v_slowRow v_fastRow v_lineNow v_firstLine v_freeBy v_heldBy v_heightOf v_upTo v_downTo v_oftenOf v_newUpper v_newLower)) rfl ?_
                refine g_iconst X dX10_law_93 ?_
                refine g_istore_n X (lv' := [(3, vI 0), (0, .ref h), (2, vI x2_31)]) dX10_law_94 (by decide) rfl ?_
                have L95 : ∀ (n : Nat) (x3_95 : Int) (codes_95 : Nat → Int), (RA 0 16777215 codes_95) → (0 ≤ x3_95 ∧ x3_95 ≤ codeMany_31) → (∀ j : Nat, (j : Int) < x3_95 → codes_95 j = said_31 j) → (codeMany_31 - x3_95).toNat < n → GG p l e ⟨8, 0, 0, 166⟩ s m args below meth c 0 0 Q D A s.heap 4 (wX10 cI cB cJ h q v_stalls v_claimMany 0 place0_31 length0_23 fault_31 number0_31 open_31 codeMany_31 waiting_31 saidMany_31 saidMany_31 v_newMany v_newStalls v_lines v_salesNow v_outNow v_isKept v_keptStalls v_now v_aside v_kept v_oneOf v_otherOf v_signOf v_byOf v_tape said_31 waitsAt_31 saidLetter_31 saidFrom_31 saidHalf_31 saidTo_31 codes_95 v_clauseOf v_codeFrom v_codeHalf v_codeTo v_stack v_facts v_newOne v_newOther v_newSign v_newBy v_moreOf v_firstOf v_toldOf v_mostOf v_mostThen v_sumTo v_rowFrom v_ordersOf v_lessOf v_weightOf v_rowNow v_slowRow v_fastRow v_lineNow v_firstLine v_freeBy v_heldBy v_heightOf v_upTo v_downTo v_oftenOf v_newUpper v_newLower) 95 [(0, .ref h), (3, vI x3_95)] [] := by
                  intro n
                  induction n with
                  | zero => intros; exfalso; omega
                  | succ n ih95 =>
                    intro x3_95 codes_95 r_codes_95 w95_0 w95_1 wm95
                    refine g_iload_n X dX10_law_95 1 rfl ?_
                    refine g_aload_n X dX10_law_96 0 rfl ?_
                    refine gM_get X 0 rfl 16 (by decide) uw1195 rfl dX10_law_97 ?_
                    refine g_icmp_ge X (tgt := 121) dX10_law_100 (by decide) (by omega) (by omega) (fun c100 => ?_) (fun c100 => ?_)
                    · refine g_iconst X dX10_law_121 ?_
                      refine g_istore_n X (lv' := [(3, vI 0), (0, .ref h)]) dX10_law_122 (by decide) rfl ?_
                      have L123 : ∀ (n : Nat) (x3_123 : Int) (clauseOf_123 : Nat → Int) (codeFrom_123 : Nat → Int) (codeHalf_123 : Nat → Int) (codeTo_123 : Nat → Int), (RA (-2147483648) 2147483647 clauseOf_123) → (RA 0 260 codeFrom_123) → (RA 0 260 codeHalf_123) → (RA 0 260 codeTo_123) → (0 ≤ x3_123 ∧ x3_123 ≤ saidMany_31) → (∀ j : Nat, (j : Int) < x3_123 → codeFrom_123 j = saidFrom_31 j ∧ codeHalf_123 j = saidHalf_31 j ∧ codeTo_123 j = saidTo_31 j) → (saidMany_31 - x3_123).toNat < n → GG p l e ⟨8, 0, 0, 166⟩ s m args below meth c 0 0 Q D A s.heap 4 (wX10 cI cB cJ h q v_stalls v_claimMany 0 place0_31 length0_23 fault_31 number0_31 open_31 codeMany_31 waiting_31 saidMany_31 saidMany_31 v_newMany v_newStalls v_lines v_salesNow v_outNow v_isKept v_keptStalls v_now v_aside v_kept v_oneOf v_otherOf v_signOf v_byOf v_tape said_31 waitsAt_31 saidLetter_31 saidFrom_31 saidHalf_31 saidTo_31 codes_95 clauseOf_123 codeFrom_123 codeHalf_123 codeTo_123 v_stack v_facts v_newOne v_newOther v_newSign v_newBy v_moreOf v_firstOf v_toldOf v_mostOf v_mostThen v_sumTo v_rowFrom v_ordersOf v_lessOf v_weightOf v_rowNow v_slowRow v_fastRow v_lineNow v_firstLine v_freeBy v_heldBy v_heightOf v_upTo v_downTo v_oftenOf v_newUpper v_newLower) 123 [(0, .ref h), (3, vI x3_123)] [] := by
                        intro n
                        induction n with
                        | zero => intros; exfalso; omega
                        | succ n ih123 =>
                          intro x3_123 clauseOf_123 codeFrom_123 codeHalf_123 codeTo_123 r_clauseOf_123 r_codeFrom_123 r_codeHalf_123 r_codeTo_123 w123_0 w123_1 wm123
                          refine g_iload_n X dX10_law_123 1 rfl ?_
                          refine g_aload_n X dX10_law_124 0 rfl ?_
                          refine gM_get X 0 rfl 18 (by decide) uw1197 rfl dX10_law_125 ?_
                          refine g_icmp_ge X (tgt := 185) dX10_law_128 (by decide) (by omega) (by omega) (fun c128 => ?_) (fun c128 => ?_)
                          · have hL : LawOK codes_95 saidMany_31 codeFrom_123 codeHalf_123 codeTo_123 := SaidOK.law (w31_2 (by omega)) (fun j hj => w95_1 j (by omega)) (fun j hj => w123_1 j (by omega))
                            refine g_aload_n X dX10_law_185 0 rfl ?_
                            refine gM_get X 0 rfl 18 (by decide) uw1197 rfl dX10_law_186 ?_
                            exact hQ _ _ _ _ dX10_law_189 ⟨0, place0_31, length0_23, fault_31, number0_31, open_31, codeMany_31, waiting_31, saidMany_31, saidMany_31, said_31, waitsAt_31, saidLetter_31, saidFrom_31, saidHalf_31, saidTo_31, codes_95, clauseOf_123, codeFrom_123, codeHalf_123, codeTo_123, (by omega), (by omega), (by omega), (by omega), (by omega), (by omega), (by omega), (by omega), (by omega), (by omega), r_said_31, r_waitsAt_31, r_saidLetter_31, r_saidFrom_31, r_saidHalf_31, r_saidTo_31, r_codes_95, r_clauseOf_123, r_codeFrom_123, r_codeHalf_123, r_codeTo_123, (by first | assumption | omega), (by first | assumption | omega), (by first | assumption | omega), rfl⟩
                          · refine g_aload_n X dX10_law_131 0 rfl ?_
                            refine gM_get X 0 rfl 27 (by decide) uw1206 rfl dX10_law_132 ?_
                            refine g_iload_n X dX10_law_135 1 rfl ?_
                            refine g_aload_n X dX10_law_136 0 rfl ?_
                            refine gM_get X 0 rfl 22 (by decide) uw1201 rfl dX10_law_137 ?_
                            refine g_iload_n X dX10_law_140 1 rfl ?_
                            refine g_iald X 11 0 rfl rfl (by omega) (by decide) dX10_law_141 (fun t141 e141 => ?_)
                            have r141 := r_saidLetter_31 (x3_123 : Int).toNat; rw [← e141] at r141
                            refine g_iast X 16 0 rfl rfl (by omega) (by decide) dX10_law_142 (fun clauseOf_142 e142 => ?_)
                            have r_clauseOf_142 : RA (-2147483648) 2147483647 clauseOf_142 := by rw [e142]; exact RA_up r_clauseOf_123 (by omega)
                            refine g_ws (ws2 := (wX10 cI cB cJ h q v_stalls v_claimMany 0 place0_31 length0_23 fault_31 number0_31 open_31 codeMany_31 waiting_31 saidMany_31 saidMany_31 v_newMany v_newStalls v_lines v_salesNow v_outNow v_isKept v_keptStalls v_now v_aside v_kept v_oneOf v_otherOf v_signOf v_byOf v_tape said_31 waitsAt_31 saidLetter_31 saidFrom_31 saidHalf_31 saidTo_31 codes_95 clauseOf_142 codeFrom_123 codeHalf_123 codeTo_123 v_stack v_facts v_newOne v_newOther v_newSign v_newBy v_moreOf v_firstOf v_toldOf v_mostOf v_mostThen v_sumTo v_rowFrom v_ordersOf v_lessOf v_weightOf v_rowNow v_slowRow v_fastRow v_lineNow v_firstLine v_freeBy v_heldBy v_heightOf v_upTo v_downTo v_oftenOf v_newUpper v_newLower)) rfl ?_
                            refine g_aload_n X dX10_law_143 0 rfl ?_
                            refine gM_get X 0 rfl 28 (by decide) uw1207 rfl dX10_law_144 ?_
                            refine g_iload_n X dX10_law_147 1 rfl ?_
                            refine g_aload_n X dX10_law_148 0 rfl ?_
                            refine gM_get X 0 rfl 23 (by decide) uw1202 rfl dX10_law_149 ?_
                            refine g_iload_n X dX10_law_152 1 rfl ?_
                            refine g_iald X 12 0 rfl rfl (by omega) (by decide) dX10_law_153 (fun t153 e153 => ?_)
                            have r153 := r_saidFrom_31 (x3_123 : Int).toNat; rw [← e153] at r153
                            refine g_iast X 17 0 rfl rfl (by omega) (by decide) dX10_law_154 (fun codeFrom_154 e154 => ?_)
                            have r_codeFrom_154 : RA 0 260 codeFrom_154 := by rw [e154]; exact RA_up r_codeFrom_123 (by omega)
                            refine g_ws (ws2 := (wX10 cI cB cJ h q v_stalls v_claimMany 0 place0_31 length0_23 fault_31 number0_31 open_31 codeMany_31 waiting_31 saidMany_31 saidMany_31 v_newMany v_newStalls v_lines v_salesNow v_outNow v_isKept v_keptStalls v_now v_aside v_kept v_oneOf v_otherOf v_signOf v_byOf v_tape said_31 waitsAt_31 saidLetter_31 saidFrom_31 saidHalf_31 saidTo_31 codes_95 clauseOf_142 codeFrom_154 codeHalf_123 codeTo_123 v_stack v_facts v_newOne v_newOther v_newSign v_newBy v_moreOf v_firstOf v_toldOf v_mostOf v_mostThen v_sumTo v_rowFrom v_ordersOf v_lessOf v_weightOf v_rowNow v_slowRow v_fastRow v_lineNow v_firstLine v_freeBy v_heldBy v_heightOf v_upTo v_downTo v_oftenOf v_newUpper v_newLower)) rfl ?_
                            refine g_aload_n X dX10_law_155 0 rfl ?_
                            refine gM_get X 0 rfl 29 (by decide) uw1208 rfl dX10_law_156 ?_
                            refine g_iload_n X dX10_law_159 1 rfl ?_
                            refine g_aload_n X dX10_law_160 0 rfl ?_
                            refine gM_get X 0 rfl 24 (by decide) uw1203 rfl dX10_law_161 ?_
                            refine g_iload_n X dX10_law_164 1 rfl ?_
                            refine g_iald X 13 0 rfl rfl (by omega) (by decide) dX10_law_165 (fun t165 e165 => ?_)
                            have r165 := r_saidHalf_31 (x3_123 : Int).toNat; rw [← e165] at r165
                            refine g_iast X 18 0 rfl rfl (by omega) (by decide) dX10_law_166 (fun codeHalf_166 e166 => ?_)
                            have r_codeHalf_166 : RA 0 260 codeHalf_166 := by rw [e166]; exact RA_up r_codeHalf_123 (by omega)
                            refine g_ws (ws2 := (wX10 cI cB cJ h q v_stalls v_claimMany 0 place0_31 length0_23 fault_31 number0_31 open_31 codeMany_31 waiting_31 saidMany_31 saidMany_31 v_newMany v_newStalls v_lines v_salesNow v_outNow v_isKept v_keptStalls v_now v_aside v_kept v_oneOf v_otherOf v_signOf v_byOf v_tape said_31 waitsAt_31 saidLetter_31 saidFrom_31 saidHalf_31 saidTo_31 codes_95 clauseOf_142 codeFrom_154 codeHalf_166 codeTo_123 v_stack v_facts v_newOne v_newOther v_newSign v_newBy v_moreOf v_firstOf v_toldOf v_mostOf v_mostThen v_sumTo v_rowFrom v_ordersOf v_lessOf v_weightOf v_rowNow v_slowRow v_fastRow v_lineNow v_firstLine v_freeBy v_heldBy v_heightOf v_upTo v_downTo v_oftenOf v_newUpper v_newLower)) rfl ?_
                            refine g_aload_n X dX10_law_167 0 rfl ?_
                            refine gM_get X 0 rfl 30 (by decide) uw1209 rfl dX10_law_168 ?_
                            refine g_iload_n X dX10_law_171 1 rfl ?_
                            refine g_aload_n X dX10_law_172 0 rfl ?_
                            refine gM_get X 0 rfl 25 (by decide) uw1204 rfl dX10_law_173 ?_
                            refine g_iload_n X dX10_law_176 1 rfl ?_
                            refine g_iald X 14 0 rfl rfl (by omega) (by decide) dX10_law_177 (fun t177 e177 => ?_)
                            have r177 := r_saidTo_31 (x3_123 : Int).toNat; rw [← e177] at r177
                            refine g_iast X 19 0 rfl rfl (by omega) (by decide) dX10_law_178 (fun codeTo_178 e178 => ?_)
                            have r_codeTo_178 : RA 0 260 codeTo_178 := by rw [e178]; exact RA_up r_codeTo_123 (by omega)
                            refine g_ws (ws2 := (wX10 cI cB cJ h q v_stalls v_claimMany 0 place0_31 length0_23 fault_31 number0_31 open_31 codeMany_31 waiting_31 saidMany_31 saidMany_31 v_newMany v_newStalls v_lines v_salesNow v_outNow v_isKept v_keptStalls v_now v_aside v_kept v_oneOf v_otherOf v_signOf v_byOf v_tape said_31 waitsAt_31 saidLetter_31 saidFrom_31 saidHalf_31 saidTo_31 codes_95 clauseOf_142 codeFrom_154 codeHalf_166 codeTo_178 v_stack v_facts v_newOne v_newOther v_newSign v_newBy v_moreOf v_firstOf v_toldOf v_mostOf v_mostThen v_sumTo v_rowFrom v_ordersOf v_lessOf v_weightOf v_rowNow v_slowRow v_fastRow v_lineNow v_firstLine v_freeBy v_heldBy v_heightOf v_upTo v_downTo v_oftenOf v_newUpper v_newLower)) rfl ?_
                            refine g_iinc X (lv' := [(3, vI (x3_123 + 1)), (0, .ref h)]) dX10_law_179 1 rfl (by decide) rfl ?_
                            refine g_goto X (tgt := 123) dX10_law_182 (by decide) ?_
                            refine g_lv [1, 0] rfl ?_
                            exact ih123 (x3_123 + 1) clauseOf_142 codeFrom_154 codeHalf_166 codeTo_178 r_clauseOf_142 r_codeFrom_154 r_codeHalf_166 r_codeTo_178 (by first | assumption | omega) (by intro j hj; first | (exfalso; omega) | (rcases (show (j : Int) < x3_123 ∨ j = x3_123.toNat by omega) with h | h; (rw [e154, e166, e178, updZ_n _ _ (by omega), updZ_n _ _ (by omega), updZ_n _ _ (by omega)]; exact w123_1 j h); (rw [e154, e166, e178, h, updZ_s, updZ_s, updZ_s]; exact ⟨e153, e165, e177⟩))) (by omega)
                      refine g_lv [1, 0] rfl ?_
                      exact L123 _ 0 v_clauseOf v_codeFrom v_codeHalf v_codeTo r_v_clauseOf r_v_codeFrom r_v_codeHalf r_v_codeTo (by first | assumption | omega) (by intro j hj; first | (exfalso; omega) | (rcases (show (j : Int) < x3_123 ∨ j = x3_123.toNat by omega) with h | h; (rw [e154, e166, e178, updZ_n _ _ (by omega), updZ_n _ _ (by omega), updZ_n _ _ (by omega)]; exact w123_1 j h); (rw [e154, e166, e178, h, updZ_s, updZ_s, updZ_s]; exact ⟨e153, e165, e177⟩))) (Nat.lt_succ_self _)
                    · refine g_aload_n X dX10_law_103 0 rfl ?_
                      refine gM_get X 0 rfl 26 (by decide) uw1205 rfl dX10_law_104 ?_
                      refine g_iload_n X dX10_law_107 1 rfl ?_
                      refine g_aload_n X dX10_law_108 0 rfl ?_
                      refine gM_get X 0 rfl 20 (by decide) uw1199 rfl dX10_law_109 ?_
                      refine g_iload_n X dX10_law_112 1 rfl ?_
                      refine g_iald X 9 0 rfl rfl (by omega) (by decide) dX10_law_113 (fun t113 e113 => ?_)
                      have r113 := r_said_31 (x3_95 : Int).toNat; rw [← e113] at r113
                      refine g_iast X 15 0 rfl rfl (by omega) (by decide) dX10_law_114 (fun codes_114 e114 => ?_)
                      have r_codes_114 : RA 0 16777215 codes_114 := by rw [e114]; exact RA_up r_codes_95 (by omega)
                      refine g_ws (ws2 := (wX10 cI cB cJ h q v_stalls v_claimMany 0 place0_31 length0_23 fault_31 number0_31 open_31 codeMany_31 waiting_31 saidMany_31 saidMany_31 v_newMany v_newStalls v_lines v_salesNow v_outNow v_isKept v_keptStalls v_now v_aside v_kept v_oneOf v_otherOf v_signOf v_byOf v_tape said_31 waitsAt_31 saidLetter_31 saidFrom_31 saidHalf_31 saidTo_31 codes_114 v_clauseOf v_codeFrom v_codeHalf v_codeTo v_stack v_facts v_newOne v_newOther v_newSign v_newBy v_moreOf v_firstOf v_toldOf v_mostOf v_mostThen v_sumTo v_rowFrom v_ordersOf v_lessOf v_weightOf v_rowNow v_slowRow v_fastRow v_lineNow v_firstLine v_freeBy v_heldBy v_heightOf v_upTo v_downTo v_oftenOf v_newUpper v_newLower)) rfl ?_
                      refine g_iinc X (lv' := [(3, vI (x3_95 + 1)), (0, .ref h)]) dX10_law_115 1 rfl (by decide) rfl ?_
                      refine g_goto X (tgt := 95) dX10_law_118 (by decide) ?_
                      refine g_lv [1, 0] rfl ?_
                      exact ih95 (x3_95 + 1) codes_114 r_codes_114 (by first | assumption | omega) (by intro j hj; first | (exfalso; omega) | (rcases (show (j : Int) < x3_95 ∨ j = x3_95.toNat by omega) with h | h; (rw [e114, updZ_n _ _ (by omega)]; exact w95_1 j h); (rw [e114, h, updZ_s]; exact e113))) (by omega)
                refine g_lv [1, 0] rfl ?_
                exact L95 _ 0 v_codes r_v_codes (by first | assumption | omega) (by intro j hj; first | (exfalso; omega) | (rcases (show (j : Int) < x3_95 ∨ j = x3_95.toNat by omega) with h | h; (rw [e114, updZ_n _ _ (by omega)]; exact w95_1 j h); (rw [e114, h, updZ_s]; exact e113))) (Nat.lt_succ_self _)
              · refine g_aload_n X dX10_law_80 0 rfl ?_
                refine gM_get X 0 rfl 13 (by decide) uw1192 rfl dX10_law_81 ?_
                exact hQ _ _ _ _ dX10_law_84 ⟨0, place0_31, length0_23, fault_31, number0_31, open_31, codeMany_31, waiting_31, saidMany_31, v_clauses, said_31, waitsAt_31, saidLetter_31, saidFrom_31, saidHalf_31, saidTo_31, v_codes, v_clauseOf, v_codeFrom, v_codeHalf, v_codeTo, (by omega), (by omega), (by omega), (by omega), (by omega), (by omega), (by omega), (by omega), (by omega), (by omega), r_said_31, r_waitsAt_31, r_saidLetter_31, r_saidFrom_31, r_saidHalf_31, r_saidTo_31, r_v_codes, r_v_clauseOf, r_v_codeFrom, r_v_codeHalf, r_v_codeTo, (by first | assumption | omega), (by first | assumption | omega), (by first | assumption | omega), rfl⟩
            · refine g_aload_n X dX10_law_46 0 rfl ?_
              refine g_bipush X (z := 59) dX10_law_47 (by decide) ?_
              refine g_callVI0 X (c_X10_takes l D cI cB cJ h q (p0 := 59) (by omega) (by omega) (by omega) r_v_tape (by first | assumption | omega) (by first | assumption | omega)) cv_X10_takes uw1476 ⟨rfl, rfl, by decide, by decide⟩ 0 rfl rfl rfl rfl rfl (Nat.le_of_ble_eq_true rfl) ⟨Nat.zero_le _, Nat.zero_le _⟩ dX10_law_49 (fun t49 ws49 k49 => ?_)
              obtain ⟨kb_49, ⟨place0_49, fault_49, kr_place0_49, kr_fault_49, kp0_49, kp1_49, rfl⟩⟩ := k49
              refine g_if_eq X (tgt := 66) dX10_law_52 (by decide) (by omega) (fun c52 => ?_) (fun c52 => ?_)
              · clear kb_49
                replace kp0_49 := (kp0_49.resolve_left (fun h => absurd h.1 (by omega))).2
                replace kp1_49 := (kp1_49.resolve_left (fun h => absurd h.1 (by omega))).2
                refine g_iconst X dX10_law_66 ?_
                refine g_istore_n X (lv' := [(2, vI 0), (0, .ref h)]) dX10_law_67 (by decide) rfl ?_
                refine g_goto X (tgt := 31) dX10_law_68 (by decide) ?_
                refine g_lv [1, 0] rfl ?_
                exact ih31 0 place0_49 fault_49 number0_31 open_31 codeMany_31 waiting_31 saidMany_31 said_31 waitsAt_31 saidLetter_31 saidFrom_31 saidHalf_31 saidTo_31 (by omega) (by omega) (by omega) (by omega) (by omega) (by omega) (by omega) r_said_31 r_waitsAt_31 r_saidLetter_31 r_saidFrom_31 r_saidHalf_31 r_saidTo_31 (by first | assumption | omega) (by first | assumption | omega) (by first | (intro h; exfalso; omega) | exact fun h => kp0_27 h | (intro h; assumption)) (by intro h; first | (exfalso; omega) | omega) (by omega)
              · replace kb_49 := kb_49.resolve_left (fun h => c52 h)
                replace kp0_49 := kp0_49.resolve_right (fun h => c52 h.1)
                replace kp1_49 := kp1_49.resolve_right (fun h => c52 h.1)
                have hS1 := w31_2 (by omega)
                refine g_aload_n X dX10_law_55 0 rfl ?_
                refine g_callVI0 X (c_X10_readsRule l D cI cB cJ h q  (by omega) (by omega) (by omega) (by omega) (by omega) (by omega) (by omega) (by omega) r_v_tape r_said_31 r_waitsAt_31 r_saidLetter_31 r_saidFrom_31 r_saidHalf_31 r_saidTo_31 (by first | assumption | omega) (by first | assumption | omega) (by first | assumption | omega) (by first | assumption | omega)) cv_X10_readsRule uw1401 ⟨rfl, rfl, by decide, by decide⟩ 0 rfl rfl rfl rfl rfl (Nat.le_of_ble_eq_true rfl) ⟨Nat.zero_le _, Nat.zero_le _⟩ dX10_law_56 (fun t56 ws56 k56 => ?_)
                obtain ⟨kb_56, ⟨place0_56, fault_56, number0_56, open_56, codeMany_56, waiting_56, saidMany_56, said_56, waitsAt_56, saidLetter_56, saidFrom_56, saidHalf_56, saidTo_56, kr_place0_56, kr_fault_56, kr_number0_56, kr_open_56, kr_codeMany_56, kr_waiting_56, kr_saidMany_56, r_said_56, r_waitsAt_56, r_saidLetter_56, r_saidFrom_56, r_saidHalf_56, r_saidTo_56, kp0_56, kp1_56, kp2_56, kp3_56, kp4_56, rfl⟩⟩ := k56
                refine g_if_eq X (tgt := 66) dX10_law_59 (by decide) (by omega) (fun c59 => ?_) (fun c59 => ?_)
                · clear kb_56
                  clear kp0_56
                  clear kp1_56
                  clear kp3_56
                  refine g_iconst X dX10_law_66 ?_
                  refine g_istore_n X (lv' := [(2, vI 0), (0, .ref h)]) dX10_law_67 (by decide) rfl ?_
                  refine g_goto X (tgt := 31) dX10_law_68 (by decide) ?_
                  refine g_lv [1, 0] rfl ?_
                  exact ih31 0 place0_56 fault_56 number0_56 open_56 codeMany_56 waiting_56 saidMany_56 said_56 waitsAt_56 saidLetter_56 saidFrom_56 saidHalf_56 saidTo_56 (by omega) (by omega) (by omega) (by omega) (by omega) (by omega) (by omega) r_said_56 r_waitsAt_56 r_saidLetter_56 r_saidFrom_56 r_saidHalf_56 r_saidTo_56 (by first | assumption | omega) (by first | assumption | omega) (by first | (intro h; exfalso; omega) | exact fun h => kp0_27 h | (intro h; assumption)) (by intro h; first | (exfalso; omega) | omega) (by omega)
                · replace kb_56 := kb_56.resolve_left (fun h => c59 h)
                  replace kp0_56 := kp0_56 kb_56
                  replace kp1_56 := kp1_56 kb_56
                  replace kp3_56 := kp3_56 kb_56
                  refine g_iconst X dX10_law_62 ?_
                  refine g_goto X (tgt := 67) dX10_law_63 (by decide) ?_
                  refine g_istore_n X (lv' := [(2, vI 1), (0, .ref h)]) dX10_law_67 (by decide) rfl ?_
                  refine g_goto X (tgt := 31) dX10_law_68 (by decide) ?_
                  refine g_lv [1, 0] rfl ?_
                  exact ih31 1 place0_56 fault_56 number0_56 open_56 codeMany_56 waiting_56 saidMany_56 said_56 waitsAt_56 saidLetter_56 saidFrom_56 saidHalf_56 saidTo_56 (by omega) (by omega) (by omega) (by omega) (by omega) (by omega) (by omega) r_said_56 r_waitsAt_56 r_saidLetter_56 r_saidFrom_56 r_saidHalf_56 r_saidTo_56 (by first | assumption | omega) (by first | assumption | omega) (by first | (intro h; exfalso; omega) | exact fun h => kp0_27 h | (intro h; assumption)) (by intro h; first | (exfalso; omega) | omega) (by omega)
      refine g_lv [1, 0] rfl ?_
      exact L31 _ t27 place0_27 fault_27 number0_27 open_27 codeMany_27 waiting_27 saidMany_27 said_27 waitsAt_27 saidLetter_27 saidFrom_27 saidHalf_27 saidTo_27 (by omega) (by omega) (by omega) (by omega) (by omega) (by omega) (by omega) r_said_27 r_waitsAt_27 r_saidLetter_27 r_saidFrom_27 r_saidHalf_27 r_saidTo_27 (by first | assumption | omega) (by first | assumption | omega) (by first | (intro h; exfalso; omega) | exact fun h => kp0_27 h | (intro h; assumption)) (by intro h; first | (exfalso; omega) | omega) (Nat.lt_succ_self _)
    · refine g_iconst X dX10_law_19 ?_
      exact hQ _ _ _ _ dX10_law_20 ⟨v_taped, v_place0, v_length0, v_fault, v_number0, v_open, v_codeMany, v_waiting, v_saidMany, v_clauses, v_said, v_waitsAt, v_saidLetter, v_saidFrom, v_saidHalf, v_saidTo, v_codes, v_clauseOf, v_codeFrom, v_codeHalf, v_codeTo, (by omega), (by omega), (by omega), (by omega), (by omega), (by omega), (by omega), (by omega), (by omega), (by omega), r_v_said, r_v_waitsAt, r_v_saidLetter, r_v_saidFrom, r_v_saidHalf, r_v_saidTo, r_v_codes, r_v_clauseOf, r_v_codeFrom, r_v_codeHalf, r_v_codeTo, (by first | assumption | omega), (by first | assumption | omega), (by first | assumption | omega), rfl⟩
