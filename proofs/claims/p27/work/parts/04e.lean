set_option maxHeartbeats 4000000 in
set_option maxRecDepth 100000 in
theorem c_X10_readsClaim (l : Launch) (D : va_G) (cI cB cJ : ClassId) (h : Nat) (q : Nat → Nat) {v_stalls v_claimMany v_taped v_place0 v_length0 v_fault v_number0 v_open v_codeMany v_waiting v_saidMany v_clauses v_newMany v_newStalls v_lines v_salesNow v_outNow v_isKept v_keptStalls : Int} {v_now v_aside v_kept v_oneOf v_otherOf v_signOf v_byOf v_tape v_said v_waitsAt v_saidLetter v_saidFrom v_saidHalf v_saidTo v_codes v_clauseOf v_codeFrom v_codeHalf v_codeTo v_stack v_facts v_newOne v_newOther v_newSign v_newBy v_moreOf v_firstOf v_toldOf v_mostOf v_mostThen v_sumTo v_rowFrom v_ordersOf v_lessOf v_weightOf v_rowNow v_slowRow v_fastRow v_lineNow v_firstLine v_freeBy v_heldBy v_heightOf v_upTo v_downTo v_oftenOf v_newUpper v_newLower : Nat → Int} (kr_v_place0 : 0 ≤ v_place0 ∧ v_place0 ≤ 260) (kr_v_length0 : 0 ≤ v_length0 ∧ v_length0 ≤ 260) (kr_v_fault : (-1000000) ≤ v_fault ∧ v_fault ≤ 1000000) (kr_v_number0 : 0 ≤ v_number0 ∧ v_number0 ≤ 99999) (kr_v_newMany : 0 ≤ v_newMany ∧ v_newMany ≤ 40) (r_v_tape : RA (-128) 127 v_tape) (r_v_newOne : RA 0 11 v_newOne) (r_v_newOther : RA 0 11 v_newOther) (r_v_newSign : RA (-2147483648) 2147483647 v_newSign) (r_v_newBy : RA (-9999) 9999 v_newBy) (r_v_moreOf : RA (-2147483648) 2147483647 v_moreOf) (r_v_firstOf : RA 0 11 v_firstOf) : CtI l yX10_readsClaim cX10_readsClaim 6 (some .boolean) ⟨3, 0, 0, 73⟩ D (TY cI cB cJ) (wX10 cI cB cJ h q v_stalls v_claimMany v_taped v_place0 v_length0 v_fault v_number0 v_open v_codeMany v_waiting v_saidMany v_clauses v_newMany v_newStalls v_lines v_salesNow v_outNow v_isKept v_keptStalls v_now v_aside v_kept v_oneOf v_otherOf v_signOf v_byOf v_tape v_said v_waitsAt v_saidLetter v_saidFrom v_saidHalf v_saidTo v_codes v_clauseOf v_codeFrom v_codeHalf v_codeTo v_stack v_facts v_newOne v_newOther v_newSign v_newBy v_moreOf v_firstOf v_toldOf v_mostOf v_mostThen v_sumTo v_rowFrom v_ordersOf v_lessOf v_weightOf v_rowNow v_slowRow v_fastRow v_lineNow v_firstLine v_freeBy v_heldBy v_heightOf v_upTo v_downTo v_oftenOf v_newUpper v_newLower) [.ref h] (fun z ws' => (z = 0 ∨ z = 1) ∧ ∃ n_place0 : Int, ∃ n_fault : Int, ∃ n_number0 : Int, ∃ n_newMany : Int, ∃ n_newOne : Nat → Int, ∃ n_newOther : Nat → Int, ∃ n_newSign : Nat → Int, ∃ n_newBy : Nat → Int, ∃ n_moreOf : Nat → Int, ∃ n_firstOf : Nat → Int, (0 ≤ n_place0 ∧ n_place0 ≤ 260) ∧ ((-1000000) ≤ n_fault ∧ n_fault ≤ 1000000) ∧ (0 ≤ n_number0 ∧ n_number0 ≤ 99999) ∧ (0 ≤ n_newMany ∧ n_newMany ≤ 40) ∧ (RA 0 11 n_newOne) ∧ (RA 0 11 n_newOther) ∧ (RA (-2147483648) 2147483647 n_newSign) ∧ (RA (-9999) 9999 n_newBy) ∧ (RA (-2147483648) 2147483647 n_moreOf) ∧ (RA 0 11 n_firstOf) ∧ (v_place0 ≤ n_place0) ∧ (z = 1 → v_place0 < n_place0) ∧ (RCl (sgP v_length0 (oct v_tape)) z n_fault n_place0 n_newMany n_newOne n_newOther n_newSign n_newBy v_place0 v_newMany v_newOne v_newOther v_newSign v_newBy) ∧ (ws' = (wX10 cI cB cJ h q v_stalls v_claimMany v_taped n_place0 v_length0 n_fault n_number0 v_open v_codeMany v_waiting v_saidMany v_clauses n_newMany v_newStalls v_lines v_salesNow v_outNow v_isKept v_keptStalls v_now v_aside v_kept v_oneOf v_otherOf v_signOf v_byOf v_tape v_said v_waitsAt v_saidLetter v_saidFrom v_saidHalf v_saidTo v_codes v_clauseOf v_codeFrom v_codeHalf v_codeTo v_stack v_facts n_newOne n_newOther n_newSign n_newBy n_moreOf n_firstOf v_toldOf v_mostOf v_mostThen v_sumTo v_rowFrom v_ordersOf v_lessOf v_weightOf v_rowNow v_slowRow v_fastRow v_lineNow v_firstLine v_freeBy v_heldBy v_heightOf v_upTo v_downTo v_oftenOf v_newUpper v_newLower))) := by
  refine hdrZ (own := RX10) rfl (by decide +kernel) (Nat.le_of_ble_eq_true rfl) ?_
  intro p e s m args below meth c Q A X hQ
  refine g_lvE (lv2 := [(0, .ref h)]) rfl ?_
  refine g_aload_n X dX10_readsClaim_0 0 rfl ?_
  refine gM_get X 0 rfl 11 (by decide) uw1190 rfl dX10_readsClaim_1 ?_
  refine g_istore_n X (lv' := [(1, vI v_place0), (0, .ref h)]) dX10_readsClaim_4 (by decide) rfl ?_
  refine g_aload_n X dX10_readsClaim_5 1 rfl ?_
  refine g_callVI0 X (c_X10_here l D cI cB cJ h q  (by omega) (by omega) r_v_tape) cv_X10_here uw1405 ⟨rfl, rfl, by decide, by decide⟩ 0 rfl rfl rfl rfl rfl (Nat.le_of_ble_eq_true rfl) ⟨Nat.zero_le _, Nat.zero_le _⟩ dX10_readsClaim_6 (fun t6 ws6 k6 => ?_)
  obtain ⟨kp0_6, kp1_6, kp2_6, rfl⟩ := k6
  have h6 : t6 = (sgP v_length0 (oct v_tape)) v_place0 := kp0_6
  refine g_bipush X (z := 97) dX10_readsClaim_9 (by decide) ?_
  refine g_isub X dX10_readsClaim_11 ?_
  refine g_istore_n X (lv' := [(2, vI (t6 - 97)), (1, vI v_place0), (0, .ref h)]) dX10_readsClaim_12 (by decide) rfl ?_
  refine g_iload_n X dX10_readsClaim_13 0 rfl ?_
  refine g_callSIE X (c_X10_isThing l D cI cB cJ (p0 := t6 - 97) (by first | assumption | omega)) cv_X10_isThing uw1488 ⟨rfl, rfl, by decide, by decide⟩ rfl rfl (Nat.le_of_ble_eq_true rfl) ⟨Nat.zero_le _, Nat.zero_le _⟩ dX10_readsClaim_14 (fun t14 ws14 k14 => ?_)
  obtain ⟨kb_14, ⟨kp0_14, rfl⟩⟩ := k14
  refine g_if_ne X (tgt := 30) dX10_readsClaim_17 (by decide) (by omega) (fun c17 => ?_) (fun c17 => ?_)
  · replace kb_14 := kb_14.resolve_left (fun h => c17 h)
    replace kp0_14 := kp0_14.resolve_right (fun h => c17 h.1)
    refine g_aload_n X dX10_readsClaim_30 2 rfl ?_
    refine gM_get X 0 rfl 37 (by decide) uw1216 rfl dX10_readsClaim_31 ?_
    refine g_bipush X (z := 40) dX10_readsClaim_34 (by decide) ?_
    refine g_icmp_ne X (tgt := 49) dX10_readsClaim_36 (by decide) (by omega) (by omega) (fun c36 => ?_) (fun c36 => ?_)
    · have hl2 : l2 (sgP v_length0 (oct v_tape)) v_newMany v_place0 = 0 := l2_0 (oneC_y (by omega)) (myC_n (by omega))
      refine g_aload_n X dX10_readsClaim_49 2 rfl ?_
      refine g_aload_n X dX10_readsClaim_50 2 rfl ?_
      refine gM_get X 0 rfl 11 (by decide) uw1190 rfl dX10_readsClaim_51 ?_
      refine g_iconst X dX10_readsClaim_54 ?_
      refine g_iadd X dX10_readsClaim_55 ?_
      refine gM_put X 0 rfl 11 (by decide) uw1190 rfl rfl rfl (Nat.le_of_ble_eq_true rfl) dX10_readsClaim_56 (ws2 := (wX10 cI cB cJ h q v_stalls v_claimMany v_taped (v_place0 + 1) v_length0 v_fault v_number0 v_open v_codeMany v_waiting v_saidMany v_clauses v_newMany v_newStalls v_lines v_salesNow v_outNow v_isKept v_keptStalls v_now v_aside v_kept v_oneOf v_otherOf v_signOf v_byOf v_tape v_said v_waitsAt v_saidLetter v_saidFrom v_saidHalf v_saidTo v_codes v_clauseOf v_codeFrom v_codeHalf v_codeTo v_stack v_facts v_newOne v_newOther v_newSign v_newBy v_moreOf v_firstOf v_toldOf v_mostOf v_mostThen v_sumTo v_rowFrom v_ordersOf v_lessOf v_weightOf v_rowNow v_slowRow v_fastRow v_lineNow v_firstLine v_freeBy v_heldBy v_heightOf v_upTo v_downTo v_oftenOf v_newUpper v_newLower)) rfl ?_
      refine g_aload_n X dX10_readsClaim_59 2 rfl ?_
      refine g_bipush X (z := 45) dX10_readsClaim_60 (by decide) ?_
      refine g_callVI0 X (c_X10_takes l D cI cB cJ h q (p0 := 45) (by omega) (by omega) (by omega) r_v_tape (by first | assumption | omega) (by first | assumption | omega)) cv_X10_takes uw1476 ⟨rfl, rfl, by decide, by decide⟩ 0 rfl rfl rfl rfl rfl (Nat.le_of_ble_eq_true rfl) ⟨Nat.zero_le _, Nat.zero_le _⟩ dX10_readsClaim_62 (fun t62 ws62 k62 => ?_)
      obtain ⟨kb_62, ⟨place0_62, fault_62, kr_place0_62, kr_fault_62, kp0_62, kp1_62, rfl⟩⟩ := k62
      refine g_if_ne X (tgt := 70) dX10_readsClaim_65 (by decide) (by omega) (fun c65 => ?_) (fun c65 => ?_)
      · replace kb_62 := kb_62.resolve_left (fun h => c65 h)
        replace kp0_62 := kp0_62.resolve_right (fun h => c65 h.1)
        replace kp1_62 := kp1_62.resolve_right (fun h => c65 h.1)
        have hp1 : place0_62 = (v_place0 + 1 + 1) := by omega
        have hl3 : l3 (sgP v_length0 (oct v_tape)) v_newMany v_place0 = 0 := l3_0 hl2 kp1_62.2
        refine g_aload_n X dX10_readsClaim_70 2 rfl ?_
        refine g_callVI0 X (c_X10_here l D cI cB cJ h q  (by omega) (by omega) r_v_tape) cv_X10_here uw1405 ⟨rfl, rfl, by decide, by decide⟩ 0 rfl rfl rfl rfl rfl (Nat.le_of_ble_eq_true rfl) ⟨Nat.zero_le _, Nat.zero_le _⟩ dX10_readsClaim_71 (fun t71 ws71 k71 => ?_)
        obtain ⟨kp0_71, kp1_71, kp2_71, rfl⟩ := k71
        have h71 : t71 = (sgP v_length0 (oct v_tape)) (v_place0 + 1 + 1) := by rw [kp0_71, hp1]; rfl
        refine g_bipush X (z := 97) dX10_readsClaim_74 (by decide) ?_
        refine g_isub X dX10_readsClaim_76 ?_
        refine g_istore_n X (lv' := [(3, vI (t71 - 97)), (2, vI (t6 - 97)), (1, vI v_place0), (0, .ref h)]) dX10_readsClaim_77 (by decide) rfl ?_
        refine g_iload_n X dX10_readsClaim_78 0 rfl ?_
        refine g_callSIE X (c_X10_isThing l D cI cB cJ (p0 := t71 - 97) (by first | assumption | omega)) cv_X10_isThing uw1488 ⟨rfl, rfl, by decide, by decide⟩ rfl rfl (Nat.le_of_ble_eq_true rfl) ⟨Nat.zero_le _, Nat.zero_le _⟩ dX10_readsClaim_79 (fun t79 ws79 k79 => ?_)
        obtain ⟨kb_79, ⟨kp0_79, rfl⟩⟩ := k79
        refine g_if_ne X (tgt := 95) dX10_readsClaim_82 (by decide) (by omega) (fun c82 => ?_) (fun c82 => ?_)
        · replace kb_79 := kb_79.resolve_left (fun h => c82 h)
          replace kp0_79 := kp0_79.resolve_right (fun h => c82 h.1)
          have hl4 : l4 (sgP v_length0 (oct v_tape)) v_newMany v_place0 = 0 := l4_0 hl3 (oneC_y (by omega))
          refine g_iload_n X dX10_readsClaim_95 0 rfl ?_
          refine g_iload_n X dX10_readsClaim_96 1 rfl ?_
          refine g_icmp_ne X (tgt := 111) dX10_readsClaim_97 (by decide) (by omega) (by omega) (fun c97 => ?_) (fun c97 => ?_)
          · have hl5 : l5 (sgP v_length0 (oct v_tape)) v_newMany v_place0 = 0 := l5_0 hl4 (smC_n (by omega))
            refine g_aload_n X dX10_readsClaim_111 3 rfl ?_
            refine g_aload_n X dX10_readsClaim_112 3 rfl ?_
            refine gM_get X 0 rfl 11 (by decide) uw1190 rfl dX10_readsClaim_113 ?_
            refine g_iconst X dX10_readsClaim_116 ?_
            refine g_iadd X dX10_readsClaim_117 ?_
            refine gM_put X 0 rfl 11 (by decide) uw1190 rfl rfl rfl (Nat.le_of_ble_eq_true rfl) dX10_readsClaim_118 (ws2 := (wX10 cI cB cJ h q v_stalls v_claimMany v_taped (place0_62 + 1) v_length0 fault_62 v_number0 v_open v_codeMany v_waiting v_saidMany v_clauses v_newMany v_newStalls v_lines v_salesNow v_outNow v_isKept v_keptStalls v_now v_aside v_kept v_oneOf v_otherOf v_signOf v_byOf v_tape v_said v_waitsAt v_saidLetter v_saidFrom v_saidHalf v_saidTo v_codes v_clauseOf v_codeFrom v_codeHalf v_codeTo v_stack v_facts v_newOne v_newOther v_newSign v_newBy v_moreOf v_firstOf v_toldOf v_mostOf v_mostThen v_sumTo v_rowFrom v_ordersOf v_lessOf v_weightOf v_rowNow v_slowRow v_fastRow v_lineNow v_firstLine v_freeBy v_heldBy v_heightOf v_upTo v_downTo v_oftenOf v_newUpper v_newLower)) rfl ?_
            refine g_aload_n X dX10_readsClaim_121 3 rfl ?_
            refine g_callVI0 X (c_X10_here l D cI cB cJ h q  (by omega) (by omega) r_v_tape) cv_X10_here uw1405 ⟨rfl, rfl, by decide, by decide⟩ 0 rfl rfl rfl rfl rfl (Nat.le_of_ble_eq_true rfl) ⟨Nat.zero_le _, Nat.zero_le _⟩ dX10_readsClaim_122 (fun t122 ws122 k122 => ?_)
            obtain ⟨kp0_122, kp1_122, kp2_122, rfl⟩ := k122
            have h122 : t122 = (sgP v_length0 (oct v_tape)) (v_place0 + 1 + 1 + 1) := by rw [kp0_122, hp1]; rfl
            refine g_callSIE X (c_X10_signBy l D cI cB cJ (p0 := t122) (by first | assumption | omega)) cv_X10_signBy uw1491 ⟨rfl, rfl, by decide, by decide⟩ rfl rfl (Nat.le_of_ble_eq_true rfl) ⟨Nat.zero_le _, Nat.zero_le _⟩ dX10_readsClaim_125 (fun t125 ws125 k125 => ?_)
            obtain ⟨kp0_125, rfl⟩ := k125
            refine g_istore X (lv' := [(4, vI t125), (3, vI (t71 - 97)), (2, vI (t6 - 97)), (1, vI v_place0), (0, .ref h)]) dX10_readsClaim_128 (by decide) rfl ?_
            refine g_iload X dX10_readsClaim_130 0 rfl ?_
            refine g_iconst X dX10_readsClaim_132 ?_
            refine g_icmp_ne X (tgt := 146) dX10_readsClaim_133 (by decide) (by omega) (by omega) (fun c133 => ?_) (fun c133 => ?_)
            · have hkd := kd_of (P := (sgP v_length0 (oct v_tape))) (p := (v_place0 + 1 + 1 + 1)) kp0_125 (by omega) h122
              have hl6 : l6 (sgP v_length0 (oct v_tape)) v_newMany v_place0 = 0 := l6_0 hl5 hkd.2
              have hks : 0 ≤ t125 ∧ t125 ≤ 2 ∧ 60 ≤ t122 := by omega
              clear kp0_125
              refine g_aload_n X dX10_readsClaim_146 4 rfl ?_
              refine g_aload_n X dX10_readsClaim_147 4 rfl ?_
              refine gM_get X 0 rfl 11 (by decide) uw1190 rfl dX10_readsClaim_148 ?_
              refine g_iconst X dX10_readsClaim_151 ?_
              refine g_iadd X dX10_readsClaim_152 ?_
              refine gM_put X 0 rfl 11 (by decide) uw1190 rfl rfl rfl (Nat.le_of_ble_eq_true rfl) dX10_readsClaim_153 (ws2 := (wX10 cI cB cJ h q v_stalls v_claimMany v_taped ((place0_62 + 1) + 1) v_length0 fault_62 v_number0 v_open v_codeMany v_waiting v_saidMany v_clauses v_newMany v_newStalls v_lines v_salesNow v_outNow v_isKept v_keptStalls v_now v_aside v_kept v_oneOf v_otherOf v_signOf v_byOf v_tape v_said v_waitsAt v_saidLetter v_saidFrom v_saidHalf v_saidTo v_codes v_clauseOf v_codeFrom v_codeHalf v_codeTo v_stack v_facts v_newOne v_newOther v_newSign v_newBy v_moreOf v_firstOf v_toldOf v_mostOf v_mostThen v_sumTo v_rowFrom v_ordersOf v_lessOf v_weightOf v_rowNow v_slowRow v_fastRow v_lineNow v_firstLine v_freeBy v_heldBy v_heightOf v_upTo v_downTo v_oftenOf v_newUpper v_newLower)) rfl ?_
              have J187 : ∀ (x5_187 : Int) (place0_187 : Int), (0 ≤ place0_187 ∧ place0_187 ≤ 260) → (((sgP v_length0 (oct v_tape)) (v_place0 + 1 + 1 + 1 + 1) = 45 ∧ x5_187 = 1) ∨ ((sgP v_length0 (oct v_tape)) (v_place0 + 1 + 1 + 1 + 1) ≠ 45 ∧ x5_187 = 0)) → (place0_187 = mnQ (sgP v_length0 (oct v_tape)) (v_place0 + 1 + 1 + 1 + 1)) → (v_place0 < place0_187 ∧ place0_187 ≤ 260) → GG p l e ⟨3, 0, 0, 73⟩ s m args below meth c 0 0 Q D A s.heap 6 (wX10 cI cB cJ h q v_stalls v_claimMany v_taped place0_187 v_length0 fault_62 v_number0 v_open v_codeMany v_waiting v_saidMany v_clauses v_newMany v_newStalls v_lines v_salesNow v_outNow v_isKept v_keptStalls v_now v_aside v_kept v_oneOf v_otherOf v_signOf v_byOf v_tape v_said v_waitsAt v_saidLetter v_saidFrom v_saidHalf v_saidTo v_codes v_clauseOf v_codeFrom v_codeHalf v_codeTo v_stack v_facts v_newOne v_newOther v_newSign v_newBy v_moreOf v_firstOf v_toldOf v_mostOf v_mostThen v_sumTo v_rowFrom v_ordersOf v_lessOf v_weightOf v_rowNow v_slowRow v_fastRow v_lineNow v_firstLine v_freeBy v_heldBy v_heightOf v_upTo v_downTo v_oftenOf v_newUpper v_newLower) 187 [(0, .ref h), (1, vI v_place0), (2, vI (t6 - 97)), (3, vI (t71 - 97)), (4, vI t125), (5, vI x5_187)] [] := by
                intro x5_187 place0_187 kr_place0_187 w187_0 w187_1 w187_2
                refine g_aload_n X dX10_readsClaim_187 0 rfl ?_
                have hmq : place0_187 = mnQ (sgP v_length0 (oct v_tape)) (v_place0 + 1 + 1 + 1 + 1) := w187_1
                refine g_callVI0 X (c_X10_readsAmount l D cI cB cJ h q  (by omega) (by omega) (by omega) (by omega) r_v_tape) cv_X10_readsAmount uw1494 ⟨rfl, rfl, by decide, by decide⟩ 0 rfl rfl rfl rfl rfl (Nat.le_of_ble_eq_true rfl) ⟨Nat.zero_le _, Nat.zero_le _⟩ dX10_readsClaim_188 (fun t188 ws188 k188 => ?_)
                obtain ⟨kb_188, ⟨place0_188, fault_188, number0_188, kr_place0_188, kr_fault_188, kr_number0_188, kp0_188, kp1_188, kp2_188, kp3_188, rfl⟩⟩ := k188
                rw [hmq] at kp3_188
                refine g_if_ne X (tgt := 196) dX10_readsClaim_191 (by decide) (by omega) (fun c191 => ?_) (fun c191 => ?_)
                · replace kb_188 := kb_188.resolve_left (fun h => c191 h)
                  replace kp1_188 := kp1_188 kb_188
                  replace kp2_188 := kp2_188 kb_188
                  replace kp3_188 := kp3_188.resolve_right (fun h => c191 h.1)
                  have hL7 : l7 (sgP v_length0 (oct v_tape)) v_newMany v_place0 = 0 := l7_z hl6 kp3_188.2.1
                  have hq : place0_188 = lnQ (sgP v_length0 (oct v_tape)) v_place0 := kp3_188.2.2.1
                  refine g_aload_n X dX10_readsClaim_196 0 rfl ?_
                  refine gM_get X 0 rfl 33 (by decide) uw1212 rfl dX10_readsClaim_197 ?_
                  refine g_aload_n X dX10_readsClaim_200 0 rfl ?_
                  refine gM_get X 0 rfl 37 (by decide) uw1216 rfl dX10_readsClaim_201 ?_
                  refine g_iload_n X dX10_readsClaim_204 2 rfl ?_
                  refine g_iast X 22 0 rfl rfl (by omega) (by decide) dX10_readsClaim_205 (fun newOne_205 e205 => ?_)
                  have r_newOne_205 : RA 0 11 newOne_205 := by rw [e205]; exact RA_up r_v_newOne (by omega)
                  refine g_ws (ws2 := (wX10 cI cB cJ h q v_stalls v_claimMany v_taped place0_188 v_length0 fault_188 number0_188 v_open v_codeMany v_waiting v_saidMany v_clauses v_newMany v_newStalls v_lines v_salesNow v_outNow v_isKept v_keptStalls v_now v_aside v_kept v_oneOf v_otherOf v_signOf v_byOf v_tape v_said v_waitsAt v_saidLetter v_saidFrom v_saidHalf v_saidTo v_codes v_clauseOf v_codeFrom v_codeHalf v_codeTo v_stack v_facts newOne_205 v_newOther v_newSign v_newBy v_moreOf v_firstOf v_toldOf v_mostOf v_mostThen v_sumTo v_rowFrom v_ordersOf v_lessOf v_weightOf v_rowNow v_slowRow v_fastRow v_lineNow v_firstLine v_freeBy v_heldBy v_heightOf v_upTo v_downTo v_oftenOf v_newUpper v_newLower)) rfl ?_
                  refine g_aload_n X dX10_readsClaim_206 0 rfl ?_
                  refine gM_get X 0 rfl 34 (by decide) uw1213 rfl dX10_readsClaim_207 ?_
                  refine g_aload_n X dX10_readsClaim_210 0 rfl ?_
                  refine gM_get X 0 rfl 37 (by decide) uw1216 rfl dX10_readsClaim_211 ?_
                  refine g_iload_n X dX10_readsClaim_214 3 rfl ?_
                  refine g_iast X 23 0 rfl rfl (by omega) (by decide) dX10_readsClaim_215 (fun newOther_215 e215 => ?_)
                  have r_newOther_215 : RA 0 11 newOther_215 := by rw [e215]; exact RA_up r_v_newOther (by omega)
                  refine g_ws (ws2 := (wX10 cI cB cJ h q v_stalls v_claimMany v_taped place0_188 v_length0 fault_188 number0_188 v_open v_codeMany v_waiting v_saidMany v_clauses v_newMany v_newStalls v_lines v_salesNow v_outNow v_isKept v_keptStalls v_now v_aside v_kept v_oneOf v_otherOf v_signOf v_byOf v_tape v_said v_waitsAt v_saidLetter v_saidFrom v_saidHalf v_saidTo v_codes v_clauseOf v_codeFrom v_codeHalf v_codeTo v_stack v_facts newOne_205 newOther_215 v_newSign v_newBy v_moreOf v_firstOf v_toldOf v_mostOf v_mostThen v_sumTo v_rowFrom v_ordersOf v_lessOf v_weightOf v_rowNow v_slowRow v_fastRow v_lineNow v_firstLine v_freeBy v_heldBy v_heightOf v_upTo v_downTo v_oftenOf v_newUpper v_newLower)) rfl ?_
                  refine g_aload_n X dX10_readsClaim_216 0 rfl ?_
                  refine gM_get X 0 rfl 35 (by decide) uw1214 rfl dX10_readsClaim_217 ?_
                  refine g_aload_n X dX10_readsClaim_220 0 rfl ?_
                  refine gM_get X 0 rfl 37 (by decide) uw1216 rfl dX10_readsClaim_221 ?_
                  refine g_iload X dX10_readsClaim_224 4 rfl ?_
                  refine g_iast X 24 0 rfl rfl (by omega) (by decide) dX10_readsClaim_226 (fun newSign_226 e226 => ?_)
                  have r_newSign_226 : RA (-2147483648) 2147483647 newSign_226 := by rw [e226]; exact RA_up r_v_newSign (by omega)
                  refine g_ws (ws2 := (wX10 cI cB cJ h q v_stalls v_claimMany v_taped place0_188 v_length0 fault_188 number0_188 v_open v_codeMany v_waiting v_saidMany v_clauses v_newMany v_newStalls v_lines v_salesNow v_outNow v_isKept v_keptStalls v_now v_aside v_kept v_oneOf v_otherOf v_signOf v_byOf v_tape v_said v_waitsAt v_saidLetter v_saidFrom v_saidHalf v_saidTo v_codes v_clauseOf v_codeFrom v_codeHalf v_codeTo v_stack v_facts newOne_205 newOther_215 newSign_226 v_newBy v_moreOf v_firstOf v_toldOf v_mostOf v_mostThen v_sumTo v_rowFrom v_ordersOf v_lessOf v_weightOf v_rowNow v_slowRow v_fastRow v_lineNow v_firstLine v_freeBy v_heldBy v_heightOf v_upTo v_downTo v_oftenOf v_newUpper v_newLower)) rfl ?_
                  refine g_aload_n X dX10_readsClaim_227 0 rfl ?_
                  refine gM_get X 0 rfl 36 (by decide) uw1215 rfl dX10_readsClaim_228 ?_
                  refine g_aload_n X dX10_readsClaim_231 0 rfl ?_
                  refine gM_get X 0 rfl 37 (by decide) uw1216 rfl dX10_readsClaim_232 ?_
                  refine g_iload X dX10_readsClaim_235 5 rfl ?_
                  refine g_if_eq X (tgt := 248) dX10_readsClaim_237 (by decide) (by omega) (fun c237 => ?_) (fun c237 => ?_)
                  · refine g_aload_n X dX10_readsClaim_248 0 rfl ?_
                    refine gM_get X 0 rfl 14 (by decide) uw1193 rfl dX10_readsClaim_249 ?_
                    refine g_iast X 25 0 rfl rfl (by omega) (by decide) dX10_readsClaim_252 (fun newBy_252 e252 => ?_)
                    have r_newBy_252 : RA (-9999) 9999 newBy_252 := by rw [e252]; exact RA_up r_v_newBy (by omega)
                    refine g_ws (ws2 := (wX10 cI cB cJ h q v_stalls v_claimMany v_taped place0_188 v_length0 fault_188 number0_188 v_open v_codeMany v_waiting v_saidMany v_clauses v_newMany v_newStalls v_lines v_salesNow v_outNow v_isKept v_keptStalls v_now v_aside v_kept v_oneOf v_otherOf v_signOf v_byOf v_tape v_said v_waitsAt v_saidLetter v_saidFrom v_saidHalf v_saidTo v_codes v_clauseOf v_codeFrom v_codeHalf v_codeTo v_stack v_facts newOne_205 newOther_215 newSign_226 newBy_252 v_moreOf v_firstOf v_toldOf v_mostOf v_mostThen v_sumTo v_rowFrom v_ordersOf v_lessOf v_weightOf v_rowNow v_slowRow v_fastRow v_lineNow v_firstLine v_freeBy v_heldBy v_heightOf v_upTo v_downTo v_oftenOf v_newUpper v_newLower)) rfl ?_
                    have hA : newOne_205 = updZ v_newOne (v_newMany).toNat ((sgP v_length0 (oct v_tape)) v_place0 - 97) := by rw [e205, h6]
                    have hB : newOther_215 = updZ v_newOther (v_newMany).toNat ((sgP v_length0 (oct v_tape)) (v_place0 + 1 + 1) - 97) := by rw [e215, h71]
                    have hK : newSign_226 = updZ v_newSign (v_newMany).toNat (kdV (sgP v_length0 (oct v_tape)) (v_place0 + 1 + 1 + 1)) := by rw [e226, hkd.1]
                    have hV : newBy_252 = updZ v_newBy (v_newMany).toNat (lnV (sgP v_length0 (oct v_tape)) v_place0) := by first | (rw [e252, lnV_y (w187_0.resolve_right (fun h => by omega)).1, kp3_188.2.2.2]) | (rw [e252, lnV_n (w187_0.resolve_left (fun h => by omega)).1, kp3_188.2.2.2])
                    refine g_iload X dX10_readsClaim_253 4 rfl ?_
                    refine g_if_ne X (tgt := 277) dX10_readsClaim_255 (by decide) (by omega) (fun c255 => ?_) (fun c255 => ?_)
                    · refine g_aload_n X dX10_readsClaim_277 0 rfl ?_
                      refine g_aload_n X dX10_readsClaim_278 0 rfl ?_
                      refine gM_get X 0 rfl 37 (by decide) uw1216 rfl dX10_readsClaim_279 ?_
                      refine g_iconst X dX10_readsClaim_282 ?_
                      refine g_iadd X dX10_readsClaim_283 ?_
                      refine gM_put X 0 rfl 37 (by decide) uw1216 rfl rfl rfl (Nat.le_of_ble_eq_true rfl) dX10_readsClaim_284 (ws2 := (wX10 cI cB cJ h q v_stalls v_claimMany v_taped place0_188 v_length0 fault_188 number0_188 v_open v_codeMany v_waiting v_saidMany v_clauses (v_newMany + 1) v_newStalls v_lines v_salesNow v_outNow v_isKept v_keptStalls v_now v_aside v_kept v_oneOf v_otherOf v_signOf v_byOf v_tape v_said v_waitsAt v_saidLetter v_saidFrom v_saidHalf v_saidTo v_codes v_clauseOf v_codeFrom v_codeHalf v_codeTo v_stack v_facts newOne_205 newOther_215 newSign_226 newBy_252 v_moreOf v_firstOf v_toldOf v_mostOf v_mostThen v_sumTo v_rowFrom v_ordersOf v_lessOf v_weightOf v_rowNow v_slowRow v_fastRow v_lineNow v_firstLine v_freeBy v_heldBy v_heightOf v_upTo v_downTo v_oftenOf v_newUpper v_newLower)) rfl ?_
                      refine g_iconst X dX10_readsClaim_287 ?_
                      have hR : RCl (sgP v_length0 (oct v_tape)) 1 fault_188 place0_188 (v_newMany + 1) newOne_205 newOther_215 newSign_226 newBy_252 v_place0 v_newMany v_newOne v_newOther v_newSign v_newBy := by first | exact RCl.ok rfl hL7 hq rfl hA hB hK hV (Or.inr kp0_263.2) | exact RCl.ok rfl hL7 hq rfl hA hB hK hV (Or.inl (by omega))
                      exact hQ _ _ _ _ dX10_readsClaim_288 ⟨by omega, ⟨place0_188, fault_188, number0_188, v_newMany + 1, newOne_205, newOther_215, newSign_226, newBy_252, v_moreOf, v_firstOf, (by omega), (by omega), (by omega), (by omega), r_newOne_205, r_newOther_215, r_newSign_226, r_newBy_252, r_v_moreOf, r_v_firstOf, (by first | assumption | omega), (by first | assumption | omega), (by exact hR), rfl⟩⟩
                    · refine g_aload_n X dX10_readsClaim_258 0 rfl ?_
                      refine g_aload_n X dX10_readsClaim_259 0 rfl ?_
                      refine gM_get X 0 rfl 37 (by decide) uw1216 rfl dX10_readsClaim_260 ?_
                      refine g_callVI0 X (c_X10_canBeToo l D cI cB cJ h q (p0 := v_newMany) r_newOne_205 r_newOther_215 r_newSign_226 r_newBy_252 r_v_moreOf r_v_firstOf (by first | assumption | omega) (by first | assumption | omega)) cv_X10_canBeToo uw1498 ⟨rfl, rfl, by decide, by decide⟩ 0 rfl rfl rfl rfl rfl (Nat.le_of_ble_eq_true rfl) ⟨Nat.zero_le _, Nat.zero_le _⟩ dX10_readsClaim_263 (fun t263 ws263 k263 => ?_)
                      obtain ⟨kb_263, ⟨moreOf_263, firstOf_263, r_moreOf_263, r_firstOf_263, kp0_263, rfl⟩⟩ := k263
                      refine g_if_ne X (tgt := 277) dX10_readsClaim_266 (by decide) (by omega) (fun c266 => ?_) (fun c266 => ?_)
                      · replace kb_263 := kb_263.resolve_left (fun h => c266 h)
                        replace kp0_263 := kp0_263.resolve_right (fun h => c266 h.1)
                        refine g_aload_n X dX10_readsClaim_277 0 rfl ?_
                        refine g_aload_n X dX10_readsClaim_278 0 rfl ?_
                        refine gM_get X 0 rfl 37 (by decide) uw1216 rfl dX10_readsClaim_279 ?_
                        refine g_iconst X dX10_readsClaim_282 ?_
                        refine g_iadd X dX10_readsClaim_283 ?_
                        refine gM_put X 0 rfl 37 (by decide) uw1216 rfl rfl rfl (Nat.le_of_ble_eq_true rfl) dX10_readsClaim_284 (ws2 := (wX10 cI cB cJ h q v_stalls v_claimMany v_taped place0_188 v_length0 fault_188 number0_188 v_open v_codeMany v_waiting v_saidMany v_clauses (v_newMany + 1) v_newStalls v_lines v_salesNow v_outNow v_isKept v_keptStalls v_now v_aside v_kept v_oneOf v_otherOf v_signOf v_byOf v_tape v_said v_waitsAt v_saidLetter v_saidFrom v_saidHalf v_saidTo v_codes v_clauseOf v_codeFrom v_codeHalf v_codeTo v_stack v_facts newOne_205 newOther_215 newSign_226 newBy_252 moreOf_263 firstOf_263 v_toldOf v_mostOf v_mostThen v_sumTo v_rowFrom v_ordersOf v_lessOf v_weightOf v_rowNow v_slowRow v_fastRow v_lineNow v_firstLine v_freeBy v_heldBy v_heightOf v_upTo v_downTo v_oftenOf v_newUpper v_newLower)) rfl ?_
                        refine g_iconst X dX10_readsClaim_287 ?_
                        have hR : RCl (sgP v_length0 (oct v_tape)) 1 fault_188 place0_188 (v_newMany + 1) newOne_205 newOther_215 newSign_226 newBy_252 v_place0 v_newMany v_newOne v_newOther v_newSign v_newBy := by first | exact RCl.ok rfl hL7 hq rfl hA hB hK hV (Or.inr kp0_263.2) | exact RCl.ok rfl hL7 hq rfl hA hB hK hV (Or.inl (by omega))
                        exact hQ _ _ _ _ dX10_readsClaim_288 ⟨by omega, ⟨place0_188, fault_188, number0_188, v_newMany + 1, newOne_205, newOther_215, newSign_226, newBy_252, moreOf_263, firstOf_263, (by omega), (by omega), (by omega), (by omega), r_newOne_205, r_newOther_215, r_newSign_226, r_newBy_252, r_moreOf_263, r_firstOf_263, (by first | assumption | omega), (by first | assumption | omega), (by exact hR), rfl⟩⟩
                      · clear kb_263
                        replace kp0_263 := (kp0_263.resolve_left (fun h => absurd h.1 (by omega))).2
                        refine g_aload_n X dX10_readsClaim_269 0 rfl ?_
                        refine g_bipush X (z := 8) dX10_readsClaim_270 (by decide) ?_
                        refine g_iload_n X dX10_readsClaim_272 1 rfl ?_
                        refine g_callVI0 X (c_X10_wrongAt l D cI cB cJ h q (p0 := 8) (p1 := v_place0) (by omega) (by first | assumption | omega) (by first | assumption | omega) (by first | assumption | omega) (by first | assumption | omega)) cv_X10_wrongAt uw1409 ⟨rfl, rfl, by decide, by decide⟩ 0 rfl rfl rfl rfl rfl (Nat.le_of_ble_eq_true rfl) ⟨Nat.zero_le _, Nat.zero_le _⟩ dX10_readsClaim_273 (fun t273 ws273 k273 => ?_)
                        obtain ⟨kb_273, ⟨fault_273, kr_fault_273, kp0_273, kp1_273, rfl⟩⟩ := k273
                        have hR : RCl (sgP v_length0 (oct v_tape)) t273 fault_273 place0_188 v_newMany newOne_205 newOther_215 newSign_226 newBy_252 v_place0 v_newMany v_newOne v_newOther v_newSign v_newBy := RCl.bad8 (by omega) (by omega) (by omega) hL7 hA hB hK hV (by omega) kp0_263
                        exact hQ _ _ _ _ dX10_readsClaim_276 ⟨by omega, ⟨place0_188, fault_273, number0_188, v_newMany, newOne_205, newOther_215, newSign_226, newBy_252, moreOf_263, firstOf_263, (by omega), (by omega), (by omega), (by omega), r_newOne_205, r_newOther_215, r_newSign_226, r_newBy_252, r_moreOf_263, r_firstOf_263, (by first | assumption | omega), (by first | assumption | omega), (by exact hR), rfl⟩⟩
                  · refine g_aload_n X dX10_readsClaim_240 0 rfl ?_
                    refine gM_get X 0 rfl 14 (by decide) uw1193 rfl dX10_readsClaim_241 ?_
                    refine g_ineg X dX10_readsClaim_244 ?_
                    refine g_goto X (tgt := 252) dX10_readsClaim_245 (by decide) ?_
                    refine g_iast X 25 0 rfl rfl (by omega) (by decide) dX10_readsClaim_252 (fun newBy_252 e252 => ?_)
                    have r_newBy_252 : RA (-9999) 9999 newBy_252 := by rw [e252]; exact RA_up r_v_newBy (by omega)
                    refine g_ws (ws2 := (wX10 cI cB cJ h q v_stalls v_claimMany v_taped place0_188 v_length0 fault_188 number0_188 v_open v_codeMany v_waiting v_saidMany v_clauses v_newMany v_newStalls v_lines v_salesNow v_outNow v_isKept v_keptStalls v_now v_aside v_kept v_oneOf v_otherOf v_signOf v_byOf v_tape v_said v_waitsAt v_saidLetter v_saidFrom v_saidHalf v_saidTo v_codes v_clauseOf v_codeFrom v_codeHalf v_codeTo v_stack v_facts newOne_205 newOther_215 newSign_226 newBy_252 v_moreOf v_firstOf v_toldOf v_mostOf v_mostThen v_sumTo v_rowFrom v_ordersOf v_lessOf v_weightOf v_rowNow v_slowRow v_fastRow v_lineNow v_firstLine v_freeBy v_heldBy v_heightOf v_upTo v_downTo v_oftenOf v_newUpper v_newLower)) rfl ?_
                    have hA : newOne_205 = updZ v_newOne (v_newMany).toNat ((sgP v_length0 (oct v_tape)) v_place0 - 97) := by rw [e205, h6]
                    have hB : newOther_215 = updZ v_newOther (v_newMany).toNat ((sgP v_length0 (oct v_tape)) (v_place0 + 1 + 1) - 97) := by rw [e215, h71]
                    have hK : newSign_226 = updZ v_newSign (v_newMany).toNat (kdV (sgP v_length0 (oct v_tape)) (v_place0 + 1 + 1 + 1)) := by rw [e226, hkd.1]
                    have hV : newBy_252 = updZ v_newBy (v_newMany).toNat (lnV (sgP v_length0 (oct v_tape)) v_place0) := by first | (rw [e252, lnV_y (w187_0.resolve_right (fun h => by omega)).1, kp3_188.2.2.2]) | (rw [e252, lnV_n (w187_0.resolve_left (fun h => by omega)).1, kp3_188.2.2.2])
                    refine g_iload X dX10_readsClaim_253 4 rfl ?_
                    refine g_if_ne X (tgt := 277) dX10_readsClaim_255 (by decide) (by omega) (fun c255 => ?_) (fun c255 => ?_)
                    · refine g_aload_n X dX10_readsClaim_277 0 rfl ?_
                      refine g_aload_n X dX10_readsClaim_278 0 rfl ?_
                      refine gM_get X 0 rfl 37 (by decide) uw1216 rfl dX10_readsClaim_279 ?_
                      refine g_iconst X dX10_readsClaim_282 ?_
                      refine g_iadd X dX10_readsClaim_283 ?_
                      refine gM_put X 0 rfl 37 (by decide) uw1216 rfl rfl rfl (Nat.le_of_ble_eq_true rfl) dX10_readsClaim_284 (ws2 := (wX10 cI cB cJ h q v_stalls v_claimMany v_taped place0_188 v_length0 fault_188 number0_188 v_open v_codeMany v_waiting v_saidMany v_clauses (v_newMany + 1) v_newStalls v_lines v_salesNow v_outNow v_isKept v_keptStalls v_now v_aside v_kept v_oneOf v_otherOf v_signOf v_byOf v_tape v_said v_waitsAt v_saidLetter v_saidFrom v_saidHalf v_saidTo v_codes v_clauseOf v_codeFrom v_codeHalf v_codeTo v_stack v_facts newOne_205 newOther_215 newSign_226 newBy_252 v_moreOf v_firstOf v_toldOf v_mostOf v_mostThen v_sumTo v_rowFrom v_ordersOf v_lessOf v_weightOf v_rowNow v_slowRow v_fastRow v_lineNow v_firstLine v_freeBy v_heldBy v_heightOf v_upTo v_downTo v_oftenOf v_newUpper v_newLower)) rfl ?_
                      refine g_iconst X dX10_readsClaim_287 ?_
                      have hR : RCl (sgP v_length0 (oct v_tape)) 1 fault_188 place0_188 (v_newMany + 1) newOne_205 newOther_215 newSign_226 newBy_252 v_place0 v_newMany v_newOne v_newOther v_newSign v_newBy := by first | exact RCl.ok rfl hL7 hq rfl hA hB hK hV (Or.inr kp0_263.2) | exact RCl.ok rfl hL7 hq rfl hA hB hK hV (Or.inl (by omega))
                      exact hQ _ _ _ _ dX10_readsClaim_288 ⟨by omega, ⟨place0_188, fault_188, number0_188, v_newMany + 1, newOne_205, newOther_215, newSign_226, newBy_252, v_moreOf, v_firstOf, (by omega), (by omega), (by omega), (by omega), r_newOne_205, r_newOther_215, r_newSign_226, r_newBy_252, r_v_moreOf, r_v_firstOf, (by first | assumption | omega), (by first | assumption | omega), (by exact hR), rfl⟩⟩
                    · refine g_aload_n X dX10_readsClaim_258 0 rfl ?_
                      refine g_aload_n X dX10_readsClaim_259 0 rfl ?_
                      refine gM_get X 0 rfl 37 (by decide) uw1216 rfl dX10_readsClaim_260 ?_
                      refine g_callVI0 X (c_X10_canBeToo l D cI cB cJ h q (p0 := v_newMany) r_newOne_205 r_newOther_215 r_newSign_226 r_newBy_252 r_v_moreOf r_v_firstOf (by first | assumption | omega) (by first | assumption | omega)) cv_X10_canBeToo uw1498 ⟨rfl, rfl, by decide, by decide⟩ 0 rfl rfl rfl rfl rfl (Nat.le_of_ble_eq_true rfl) ⟨Nat.zero_le _, Nat.zero_le _⟩ dX10_readsClaim_263 (fun t263 ws263 k263 => ?_)
                      obtain ⟨kb_263, ⟨moreOf_263, firstOf_263, r_moreOf_263, r_firstOf_263, kp0_263, rfl⟩⟩ := k263
                      refine g_if_ne X (tgt := 277) dX10_readsClaim_266 (by decide) (by omega) (fun c266 => ?_) (fun c266 => ?_)
                      · replace kb_263 := kb_263.resolve_left (fun h => c266 h)
                        replace kp0_263 := kp0_263.resolve_right (fun h => c266 h.1)
                        refine g_aload_n X dX10_readsClaim_277 0 rfl ?_
                        refine g_aload_n X dX10_readsClaim_278 0 rfl ?_
                        refine gM_get X 0 rfl 37 (by decide) uw1216 rfl dX10_readsClaim_279 ?_
                        refine g_iconst X dX10_readsClaim_282 ?_
                        refine g_iadd X dX10_readsClaim_283 ?_
                        refine gM_put X 0 rfl 37 (by decide) uw1216 rfl rfl rfl (Nat.le_of_ble_eq_true rfl) dX10_readsClaim_284 (ws2 := (wX10 cI cB cJ h q v_stalls v_claimMany v_taped place0_188 v_length0 fault_188 number0_188 v_open v_codeMany v_waiting v_saidMany v_clauses (v_newMany + 1) v_newStalls v_lines v_salesNow v_outNow v_isKept v_keptStalls v_now v_aside v_kept v_oneOf v_otherOf v_signOf v_byOf v_tape v_said v_waitsAt v_saidLetter v_saidFrom v_saidHalf v_saidTo v_codes v_clauseOf v_codeFrom v_codeHalf v_codeTo v_stack v_facts newOne_205 newOther_215 newSign_226 newBy_252 moreOf_263 firstOf_263 v_toldOf v_mostOf v_mostThen v_sumTo v_rowFrom v_ordersOf v_lessOf v_weightOf v_rowNow v_slowRow v_fastRow v_lineNow v_firstLine v_freeBy v_heldBy v_heightOf v_upTo v_downTo v_oftenOf v_newUpper v_newLower)) rfl ?_
                        refine g_iconst X dX10_readsClaim_287 ?_
                        have hR : RCl (sgP v_length0 (oct v_tape)) 1 fault_188 place0_188 (v_newMany + 1) newOne_205 newOther_215 newSign_226 newBy_252 v_place0 v_newMany v_newOne v_newOther v_newSign v_newBy := by first | exact RCl.ok rfl hL7 hq rfl hA hB hK hV (Or.inr kp0_263.2) | exact RCl.ok rfl hL7 hq rfl hA hB hK hV (Or.inl (by omega))
                        exact hQ _ _ _ _ dX10_readsClaim_288 ⟨by omega, ⟨place0_188, fault_188, number0_188, v_newMany + 1, newOne_205, newOther_215, newSign_226, newBy_252, moreOf_263, firstOf_263, (by omega), (by omega), (by omega), (by omega), r_newOne_205, r_newOther_215, r_newSign_226, r_newBy_252, r_moreOf_263, r_firstOf_263, (by first | assumption | omega), (by first | assumption | omega), (by exact hR), rfl⟩⟩
                      · clear kb_263
                        replace kp0_263 := (kp0_263.resolve_left (fun h => absurd h.1 (by omega))).2
                        refine g_aload_n X dX10_readsClaim_269 0 rfl ?_
                        refine g_bipush X (z := 8) dX10_readsClaim_270 (by decide) ?_
                        refine g_iload_n X dX10_readsClaim_272 1 rfl ?_
                        refine g_callVI0 X (c_X10_wrongAt l D cI cB cJ h q (p0 := 8) (p1 := v_place0) (by omega) (by first | assumption | omega) (by first | assumption | omega) (by first | assumption | omega) (by first | assumption | omega)) cv_X10_wrongAt uw1409 ⟨rfl, rfl, by decide, by decide⟩ 0 rfl rfl rfl rfl rfl (Nat.le_of_ble_eq_true rfl) ⟨Nat.zero_le _, Nat.zero_le _⟩ dX10_readsClaim_273 (fun t273 ws273 k273 => ?_)
                        obtain ⟨kb_273, ⟨fault_273, kr_fault_273, kp0_273, kp1_273, rfl⟩⟩ := k273
                        have hR : RCl (sgP v_length0 (oct v_tape)) t273 fault_273 place0_188 v_newMany newOne_205 newOther_215 newSign_226 newBy_252 v_place0 v_newMany v_newOne v_newOther v_newSign v_newBy := RCl.bad8 (by omega) (by omega) (by omega) hL7 hA hB hK hV (by omega) kp0_263
                        exact hQ _ _ _ _ dX10_readsClaim_276 ⟨by omega, ⟨place0_188, fault_273, number0_188, v_newMany, newOne_205, newOther_215, newSign_226, newBy_252, moreOf_263, firstOf_263, (by omega), (by omega), (by omega), (by omega), r_newOne_205, r_newOther_215, r_newSign_226, r_newBy_252, r_moreOf_263, r_firstOf_263, (by first | assumption | omega), (by first | assumption | omega), (by exact hR), rfl⟩⟩
                · clear kb_188
                  clear kp1_188
                  clear kp2_188
                  replace kp3_188 := (kp3_188.resolve_left (fun h => absurd h.1 (by omega))).2
                  refine g_iconst X dX10_readsClaim_194 ?_
                  have hR : RCl (sgP v_length0 (oct v_tape)) 0 fault_188 place0_188 v_newMany v_newOne v_newOther v_newSign v_newBy v_place0 v_newMany v_newOne v_newOther v_newSign v_newBy := RCl.bad rfl kp3_188.2 (l7_7 hl6 kp3_188.1)
                  exact hQ _ _ _ _ dX10_readsClaim_195 ⟨by omega, ⟨place0_188, fault_188, number0_188, v_newMany, v_newOne, v_newOther, v_newSign, v_newBy, v_moreOf, v_firstOf, (by omega), (by omega), (by omega), (by omega), r_v_newOne, r_v_newOther, r_v_newSign, r_v_newBy, r_v_moreOf, r_v_firstOf, (by first | assumption | omega), (by first | assumption | omega), (by exact hR), rfl⟩⟩
              refine g_aload_n X dX10_readsClaim_156 4 rfl ?_
              refine g_callVI0 X (c_X10_here l D cI cB cJ h q  (by omega) (by omega) r_v_tape) cv_X10_here uw1405 ⟨rfl, rfl, by decide, by decide⟩ 0 rfl rfl rfl rfl rfl (Nat.le_of_ble_eq_true rfl) ⟨Nat.zero_le _, Nat.zero_le _⟩ dX10_readsClaim_157 (fun t157 ws157 k157 => ?_)
              obtain ⟨kp0_157, kp1_157, kp2_157, rfl⟩ := k157
              have h157 : t157 = (sgP v_length0 (oct v_tape)) (v_place0 + 1 + 1 + 1 + 1) := by rw [kp0_157, hp1]; rfl
              have hmn := mnQ_e (sgP v_length0 (oct v_tape)) (v_place0 + 1 + 1 + 1 + 1)
              refine g_bipush X (z := 45) dX10_readsClaim_160 (by decide) ?_
              refine g_icmp_ne X (tgt := 169) dX10_readsClaim_162 (by decide) (by omega) (by omega) (fun c162 => ?_) (fun c162 => ?_)
              · refine g_iconst X dX10_readsClaim_169 ?_
                refine g_istore X (lv' := [(5, vI 0), (4, vI t125), (3, vI (t71 - 97)), (2, vI (t6 - 97)), (1, vI v_place0), (0, .ref h)]) dX10_readsClaim_170 (by decide) rfl ?_
                refine g_iload X dX10_readsClaim_172 0 rfl ?_
                refine g_if_eq X (tgt := 187) dX10_readsClaim_174 (by decide) (by omega) (fun c174 => ?_) (fun c174 => ?_)
                · refine g_lv [5, 4, 3, 2, 1, 0] rfl ?_
                  exact J187 0 ((place0_62 + 1) + 1) (by omega) (by first | assumption | omega) (by first | assumption | omega) (by first | assumption | omega)
                · refine g_aload_n X dX10_readsClaim_177 5 rfl ?_
                  refine g_aload_n X dX10_readsClaim_178 5 rfl ?_
                  refine gM_get X 0 rfl 11 (by decide) uw1190 rfl dX10_readsClaim_179 ?_
                  refine g_iconst X dX10_readsClaim_182 ?_
                  refine g_iadd X dX10_readsClaim_183 ?_
                  refine gM_put X 0 rfl 11 (by decide) uw1190 rfl rfl rfl (Nat.le_of_ble_eq_true rfl) dX10_readsClaim_184 (ws2 := (wX10 cI cB cJ h q v_stalls v_claimMany v_taped (((place0_62 + 1) + 1) + 1) v_length0 fault_62 v_number0 v_open v_codeMany v_waiting v_saidMany v_clauses v_newMany v_newStalls v_lines v_salesNow v_outNow v_isKept v_keptStalls v_now v_aside v_kept v_oneOf v_otherOf v_signOf v_byOf v_tape v_said v_waitsAt v_saidLetter v_saidFrom v_saidHalf v_saidTo v_codes v_clauseOf v_codeFrom v_codeHalf v_codeTo v_stack v_facts v_newOne v_newOther v_newSign v_newBy v_moreOf v_firstOf v_toldOf v_mostOf v_mostThen v_sumTo v_rowFrom v_ordersOf v_lessOf v_weightOf v_rowNow v_slowRow v_fastRow v_lineNow v_firstLine v_freeBy v_heldBy v_heightOf v_upTo v_downTo v_oftenOf v_newUpper v_newLower)) rfl ?_
                  refine g_lv [5, 4, 3, 2, 1, 0] rfl ?_
                  exact J187 0 (((place0_62 + 1) + 1) + 1) (by omega) (by first | assumption | omega) (by first | assumption | omega) (by first | assumption | omega)
              · refine g_iconst X dX10_readsClaim_165 ?_
                refine g_goto X (tgt := 170) dX10_readsClaim_166 (by decide) ?_
                refine g_istore X (lv' := [(5, vI 1), (4, vI t125), (3, vI (t71 - 97)), (2, vI (t6 - 97)), (1, vI v_place0), (0, .ref h)]) dX10_readsClaim_170 (by decide) rfl ?_
                refine g_iload X dX10_readsClaim_172 0 rfl ?_
                refine g_if_eq X (tgt := 187) dX10_readsClaim_174 (by decide) (by omega) (fun c174 => ?_) (fun c174 => ?_)
                · refine g_lv [5, 4, 3, 2, 1, 0] rfl ?_
                  exact J187 1 ((place0_62 + 1) + 1) (by omega) (by first | assumption | omega) (by first | assumption | omega) (by first | assumption | omega)
                · refine g_aload_n X dX10_readsClaim_177 5 rfl ?_
                  refine g_aload_n X dX10_readsClaim_178 5 rfl ?_
                  refine gM_get X 0 rfl 11 (by decide) uw1190 rfl dX10_readsClaim_179 ?_
                  refine g_iconst X dX10_readsClaim_182 ?_
                  refine g_iadd X dX10_readsClaim_183 ?_
                  refine gM_put X 0 rfl 11 (by decide) uw1190 rfl rfl rfl (Nat.le_of_ble_eq_true rfl) dX10_readsClaim_184 (ws2 := (wX10 cI cB cJ h q v_stalls v_claimMany v_taped (((place0_62 + 1) + 1) + 1) v_length0 fault_62 v_number0 v_open v_codeMany v_waiting v_saidMany v_clauses v_newMany v_newStalls v_lines v_salesNow v_outNow v_isKept v_keptStalls v_now v_aside v_kept v_oneOf v_otherOf v_signOf v_byOf v_tape v_said v_waitsAt v_saidLetter v_saidFrom v_saidHalf v_saidTo v_codes v_clauseOf v_codeFrom v_codeHalf v_codeTo v_stack v_facts v_newOne v_newOther v_newSign v_newBy v_moreOf v_firstOf v_toldOf v_mostOf v_mostThen v_sumTo v_rowFrom v_ordersOf v_lessOf v_weightOf v_rowNow v_slowRow v_fastRow v_lineNow v_firstLine v_freeBy v_heldBy v_heightOf v_upTo v_downTo v_oftenOf v_newUpper v_newLower)) rfl ?_
                  refine g_lv [5, 4, 3, 2, 1, 0] rfl ?_
                  exact J187 1 (((place0_62 + 1) + 1) + 1) (by omega) (by first | assumption | omega) (by first | assumption | omega) (by first | assumption | omega)
            · refine g_aload_n X dX10_readsClaim_136 4 rfl ?_
              refine g_iconst X dX10_readsClaim_137 ?_
              refine g_aload_n X dX10_readsClaim_138 4 rfl ?_
              refine gM_get X 0 rfl 11 (by decide) uw1190 rfl dX10_readsClaim_139 ?_
              refine g_callVI0 X (c_X10_wrongAt l D cI cB cJ h q (p0 := 1) (p1 := place0_62 + 1) (by omega) (by first | assumption | omega) (by first | assumption | omega) (by first | assumption | omega) (by first | assumption | omega)) cv_X10_wrongAt uw1409 ⟨rfl, rfl, by decide, by decide⟩ 0 rfl rfl rfl rfl rfl (Nat.le_of_ble_eq_true rfl) ⟨Nat.zero_le _, Nat.zero_le _⟩ dX10_readsClaim_142 (fun t142 ws142 k142 => ?_)
              obtain ⟨kb_142, ⟨fault_142, kr_fault_142, kp0_142, kp1_142, rfl⟩⟩ := k142
              have hR : RCl (sgP v_length0 (oct v_tape)) t142 fault_142 (place0_62 + 1) v_newMany v_newOne v_newOther v_newSign v_newBy v_place0 v_newMany v_newOne v_newOther v_newSign v_newBy := RCl.bad (by omega) (by omega) (l7_6 hl5 ((kd_no kp0_125 (by omega) h122).trans (by omega)) (by omega))
              exact hQ _ _ _ _ dX10_readsClaim_145 ⟨by omega, ⟨place0_62 + 1, fault_142, v_number0, v_newMany, v_newOne, v_newOther, v_newSign, v_newBy, v_moreOf, v_firstOf, (by omega), (by omega), (by omega), (by omega), r_v_newOne, r_v_newOther, r_v_newSign, r_v_newBy, r_v_moreOf, r_v_firstOf, (by first | assumption | omega), (by first | assumption | omega), (by exact hR), rfl⟩⟩
          · refine g_aload_n X dX10_readsClaim_100 3 rfl ?_
            refine g_bipush X (z := 6) dX10_readsClaim_101 (by decide) ?_
            refine g_aload_n X dX10_readsClaim_103 3 rfl ?_
            refine gM_get X 0 rfl 11 (by decide) uw1190 rfl dX10_readsClaim_104 ?_
            refine g_callVI0 X (c_X10_wrongAt l D cI cB cJ h q (p0 := 6) (p1 := place0_62) (by omega) (by first | assumption | omega) (by first | assumption | omega) (by first | assumption | omega) (by first | assumption | omega)) cv_X10_wrongAt uw1409 ⟨rfl, rfl, by decide, by decide⟩ 0 rfl rfl rfl rfl rfl (Nat.le_of_ble_eq_true rfl) ⟨Nat.zero_le _, Nat.zero_le _⟩ dX10_readsClaim_107 (fun t107 ws107 k107 => ?_)
            obtain ⟨kb_107, ⟨fault_107, kr_fault_107, kp0_107, kp1_107, rfl⟩⟩ := k107
            have hR : RCl (sgP v_length0 (oct v_tape)) t107 fault_107 place0_62 v_newMany v_newOne v_newOther v_newSign v_newBy v_place0 v_newMany v_newOne v_newOther v_newSign v_newBy := RCl.bad (by omega) (by omega) (l7_5 hl4 ((smC_y (by omega)).trans (by omega)) (by omega))
            exact hQ _ _ _ _ dX10_readsClaim_110 ⟨by omega, ⟨place0_62, fault_107, v_number0, v_newMany, v_newOne, v_newOther, v_newSign, v_newBy, v_moreOf, v_firstOf, (by omega), (by omega), (by omega), (by omega), r_v_newOne, r_v_newOther, r_v_newSign, r_v_newBy, r_v_moreOf, r_v_firstOf, (by first | assumption | omega), (by first | assumption | omega), (by exact hR), rfl⟩⟩
        · clear kb_79
          replace kp0_79 := (kp0_79.resolve_left (fun h => absurd h.1 (by omega))).2
          refine g_aload_n X dX10_readsClaim_85 3 rfl ?_
          refine g_iconst X dX10_readsClaim_86 ?_
          refine g_aload_n X dX10_readsClaim_87 3 rfl ?_
          refine gM_get X 0 rfl 11 (by decide) uw1190 rfl dX10_readsClaim_88 ?_
          refine g_callVI0 X (c_X10_wrongAt l D cI cB cJ h q (p0 := 1) (p1 := place0_62) (by omega) (by first | assumption | omega) (by first | assumption | omega) (by first | assumption | omega) (by first | assumption | omega)) cv_X10_wrongAt uw1409 ⟨rfl, rfl, by decide, by decide⟩ 0 rfl rfl rfl rfl rfl (Nat.le_of_ble_eq_true rfl) ⟨Nat.zero_le _, Nat.zero_le _⟩ dX10_readsClaim_91 (fun t91 ws91 k91 => ?_)
          obtain ⟨kb_91, ⟨fault_91, kr_fault_91, kp0_91, kp1_91, rfl⟩⟩ := k91
          have hR : RCl (sgP v_length0 (oct v_tape)) t91 fault_91 place0_62 v_newMany v_newOne v_newOther v_newSign v_newBy v_place0 v_newMany v_newOne v_newOther v_newSign v_newBy := RCl.bad (by omega) (by omega) (l7_4 hl3 ((oneC_n (by omega)).trans (by omega)) (by omega))
          exact hQ _ _ _ _ dX10_readsClaim_94 ⟨by omega, ⟨place0_62, fault_91, v_number0, v_newMany, v_newOne, v_newOther, v_newSign, v_newBy, v_moreOf, v_firstOf, (by omega), (by omega), (by omega), (by omega), r_v_newOne, r_v_newOther, r_v_newSign, r_v_newBy, r_v_moreOf, r_v_firstOf, (by first | assumption | omega), (by first | assumption | omega), (by exact hR), rfl⟩⟩
      · clear kb_62
        replace kp0_62 := (kp0_62.resolve_left (fun h => absurd h.1 (by omega))).2
        replace kp1_62 := (kp1_62.resolve_left (fun h => absurd h.1 (by omega))).2
        refine g_iconst X dX10_readsClaim_68 ?_
        have hR : RCl (sgP v_length0 (oct v_tape)) 0 fault_62 place0_62 v_newMany v_newOne v_newOther v_newSign v_newBy v_place0 v_newMany v_newOne v_newOther v_newSign v_newBy := RCl.bad rfl kp1_62.2 (l7_3 hl2 kp1_62.1 kp1_62.2)
        exact hQ _ _ _ _ dX10_readsClaim_69 ⟨by omega, ⟨place0_62, fault_62, v_number0, v_newMany, v_newOne, v_newOther, v_newSign, v_newBy, v_moreOf, v_firstOf, (by omega), (by omega), (by omega), (by omega), r_v_newOne, r_v_newOther, r_v_newSign, r_v_newBy, r_v_moreOf, r_v_firstOf, (by first | assumption | omega), (by first | assumption | omega), (by exact hR), rfl⟩⟩
    · refine g_aload_n X dX10_readsClaim_39 2 rfl ?_
      refine g_iconst X dX10_readsClaim_40 ?_
      refine g_aload_n X dX10_readsClaim_41 2 rfl ?_
      refine gM_get X 0 rfl 11 (by decide) uw1190 rfl dX10_readsClaim_42 ?_
      refine g_callVI0 X (c_X10_wrongAt l D cI cB cJ h q (p0 := 4) (p1 := v_place0) (by omega) (by first | assumption | omega) (by first | assumption | omega) (by first | assumption | omega) (by first | assumption | omega)) cv_X10_wrongAt uw1409 ⟨rfl, rfl, by decide, by decide⟩ 0 rfl rfl rfl rfl rfl (Nat.le_of_ble_eq_true rfl) ⟨Nat.zero_le _, Nat.zero_le _⟩ dX10_readsClaim_45 (fun t45 ws45 k45 => ?_)
      obtain ⟨kb_45, ⟨fault_45, kr_fault_45, kp0_45, kp1_45, rfl⟩⟩ := k45
      have hR : RCl (sgP v_length0 (oct v_tape)) t45 fault_45 v_place0 v_newMany v_newOne v_newOther v_newSign v_newBy v_place0 v_newMany v_newOne v_newOther v_newSign v_newBy := RCl.bad (by omega) (by omega) (l7_2 (oneC_y (by omega)) ((myC_y (by omega)).trans (by omega)) (by omega))
      exact hQ _ _ _ _ dX10_readsClaim_48 ⟨by omega, ⟨v_place0, fault_45, v_number0, v_newMany, v_newOne, v_newOther, v_newSign, v_newBy, v_moreOf, v_firstOf, (by omega), (by omega), (by omega), (by omega), r_v_newOne, r_v_newOther, r_v_newSign, r_v_newBy, r_v_moreOf, r_v_firstOf, (by first | assumption | omega), (by first | assumption | omega), (by exact hR), rfl⟩⟩
  · clear kb_14
    replace kp0_14 := (kp0_14.resolve_left (fun h => absurd h.1 (by omega))).2
    refine g_aload_n X dX10_readsClaim_20 2 rfl ?_
    refine g_iconst X dX10_readsClaim_21 ?_
    refine g_aload_n X dX10_readsClaim_22 2 rfl ?_
    refine gM_get X 0 rfl 11 (by decide) uw1190 rfl dX10_readsClaim_23 ?_
    refine g_callVI0 X (c_X10_wrongAt l D cI cB cJ h q (p0 := 1) (p1 := v_place0) (by omega) (by first | assumption | omega) (by first | assumption | omega) (by first | assumption | omega) (by first | assumption | omega)) cv_X10_wrongAt uw1409 ⟨rfl, rfl, by decide, by decide⟩ 0 rfl rfl rfl rfl rfl (Nat.le_of_ble_eq_true rfl) ⟨Nat.zero_le _, Nat.zero_le _⟩ dX10_readsClaim_26 (fun t26 ws26 k26 => ?_)
    obtain ⟨kb_26, ⟨fault_26, kr_fault_26, kp0_26, kp1_26, rfl⟩⟩ := k26
    have hR : RCl (sgP v_length0 (oct v_tape)) t26 fault_26 v_place0 v_newMany v_newOne v_newOther v_newSign v_newBy v_place0 v_newMany v_newOne v_newOther v_newSign v_newBy := RCl.bad (by omega) (by omega) (l7_1 ((oneC_n (by omega)).trans (by omega)) (by omega))
    exact hQ _ _ _ _ dX10_readsClaim_29 ⟨by omega, ⟨v_place0, fault_26, v_number0, v_newMany, v_newOne, v_newOther, v_newSign, v_newBy, v_moreOf, v_firstOf, (by omega), (by omega), (by omega), (by omega), r_v_newOne, r_v_newOther, r_v_newSign, r_v_newBy, r_v_moreOf, r_v_firstOf, (by first | assumption | omega), (by first | assumption | omega), (by exact hR), rfl⟩⟩
set_option maxHeartbeats 4000000 in
set_option maxRecDepth 100000 in
theorem c_X10_claims (l : Launch) (D : va_G) (cI cB cJ : ClassId) (h : Nat) (q : Nat → Nat) {v_stalls v_claimMany v_taped v_place0 v_length0 v_fault v_number0 v_open v_codeMany v_waiting v_saidMany v_clauses v_newMany v_newStalls v_lines v_salesNow v_outNow v_isKept v_keptStalls : Int} {v_now v_aside v_kept v_oneOf v_otherOf v_signOf v_byOf v_tape v_said v_waitsAt v_saidLetter v_saidFrom v_saidHalf v_saidTo v_codes v_clauseOf v_codeFrom v_codeHalf v_codeTo v_stack v_facts v_newOne v_newOther v_newSign v_newBy v_moreOf v_firstOf v_toldOf v_mostOf v_mostThen v_sumTo v_rowFrom v_ordersOf v_lessOf v_weightOf v_rowNow v_slowRow v_fastRow v_lineNow v_firstLine v_freeBy v_heldBy v_heightOf v_upTo v_downTo v_oftenOf v_newUpper v_newLower : Nat → Int} {p0 : Int} (kr_v_claimMany : 0 ≤ v_claimMany ∧ v_claimMany ≤ 40) (kr_v_taped : 0 ≤ v_taped ∧ v_taped ≤ 260) (kr_v_place0 : 0 ≤ v_place0 ∧ v_place0 ≤ 260) (kr_v_length0 : 0 ≤ v_length0 ∧ v_length0 ≤ 260) (kr_v_fault : (-1000000) ≤ v_fault ∧ v_fault ≤ 1000000) (kr_v_number0 : 0 ≤ v_number0 ∧ v_number0 ≤ 99999) (kr_v_codeMany : 0 ≤ v_codeMany ∧ v_codeMany ≤ 260) (kr_v_saidMany : 0 ≤ v_saidMany ∧ v_saidMany ≤ 16) (kr_v_newMany : 0 ≤ v_newMany ∧ v_newMany ≤ 40) (r_v_oneOf : RA 0 11 v_oneOf) (r_v_otherOf : RA 0 11 v_otherOf) (r_v_signOf : RA (-2147483648) 2147483647 v_signOf) (r_v_byOf : RA (-9999) 9999 v_byOf) (r_v_tape : RA (-128) 127 v_tape) (r_v_newOne : RA 0 11 v_newOne) (r_v_newOther : RA 0 11 v_newOther) (r_v_newSign : RA (-2147483648) 2147483647 v_newSign) (r_v_newBy : RA (-9999) 9999 v_newBy) (r_v_moreOf : RA (-2147483648) 2147483647 v_moreOf) (r_v_firstOf : RA 0 11 v_firstOf) (hp0 : IR p0) : CtI l yX10_claims cX10_claims 4 (some .int) ⟨4, 0, 0, 98⟩ D (TY cI cB cJ) (wX10 cI cB cJ h q v_stalls v_claimMany v_taped v_place0 v_length0 v_fault v_number0 v_open v_codeMany v_waiting v_saidMany v_clauses v_newMany v_newStalls v_lines v_salesNow v_outNow v_isKept v_keptStalls v_now v_aside v_kept v_oneOf v_otherOf v_signOf v_byOf v_tape v_said v_waitsAt v_saidLetter v_saidFrom v_saidHalf v_saidTo v_codes v_clauseOf v_codeFrom v_codeHalf v_codeTo v_stack v_facts v_newOne v_newOther v_newSign v_newBy v_moreOf v_firstOf v_toldOf v_mostOf v_mostThen v_sumTo v_rowFrom v_ordersOf v_lessOf v_weightOf v_rowNow v_slowRow v_fastRow v_lineNow v_firstLine v_freeBy v_heldBy v_heightOf v_upTo v_downTo v_oftenOf v_newUpper v_newLower) [.ref h, vI p0] (fun z ws' => ∃ n_claimMany : Int, ∃ n_taped : Int, ∃ n_place0 : Int, ∃ n_length0 : Int, ∃ n_fault : Int, ∃ n_number0 : Int, ∃ n_codeMany : Int, ∃ n_saidMany : Int, ∃ n_newMany : Int, ∃ n_oneOf : Nat → Int, ∃ n_otherOf : Nat → Int, ∃ n_signOf : Nat → Int, ∃ n_byOf : Nat → Int, ∃ n_newOne : Nat → Int, ∃ n_newOther : Nat → Int, ∃ n_newSign : Nat → Int, ∃ n_newBy : Nat → Int, ∃ n_moreOf : Nat → Int, ∃ n_firstOf : Nat → Int, (0 ≤ n_claimMany ∧ n_claimMany ≤ 40) ∧ (0 ≤ n_taped ∧ n_taped ≤ 260) ∧ (0 ≤ n_place0 ∧ n_place0 ≤ 260) ∧ (0 ≤ n_length0 ∧ n_length0 ≤ 260) ∧ ((-1000000) ≤ n_fault ∧ n_fault ≤ 1000000) ∧ (0 ≤ n_number0 ∧ n_number0 ≤ 99999) ∧ (0 ≤ n_codeMany ∧ n_codeMany ≤ 260) ∧ (0 ≤ n_saidMany ∧ n_saidMany ≤ 16) ∧ (0 ≤ n_newMany ∧ n_newMany ≤ 40) ∧ (RA 0 11 n_oneOf) ∧ (RA 0 11 n_otherOf) ∧ (RA (-2147483648) 2147483647 n_signOf) ∧ (RA (-9999) 9999 n_byOf) ∧ (RA 0 11 n_newOne) ∧ (RA 0 11 n_newOther) ∧ (RA (-2147483648) 2147483647 n_newSign) ∧ (RA (-9999) 9999 n_newBy) ∧ (RA (-2147483648) 2147483647 n_moreOf) ∧ (RA 0 11 n_firstOf) ∧ (IR z) ∧ ((1 ≤ p0 ∧ p0 ≤ 250 ∧ p0 ≤ v_taped ∧ n_taped = 0) ∨ (¬ (1 ≤ p0 ∧ p0 ≤ 250 ∧ p0 ≤ v_taped) ∧ n_taped = v_taped)) ∧ (((1 ≤ p0 ∧ p0 ≤ 250 ∧ p0 ≤ v_taped) ∧ z = clN (sgP p0 (oct v_tape)) p0) ∨ (¬ (1 ≤ p0 ∧ p0 ≤ 250 ∧ p0 ≤ v_taped) ∧ z = -1)) ∧ (0 ≤ z → n_claimMany = z ∧ AG (sgP p0 (oct v_tape)) z n_oneOf n_otherOf n_signOf n_byOf) ∧ (z < 0 → n_claimMany = v_claimMany ∧ n_oneOf = v_oneOf ∧ n_otherOf = v_otherOf ∧ n_signOf = v_signOf ∧ n_byOf = v_byOf) ∧ (ws' = (wX10 cI cB cJ h q v_stalls n_claimMany n_taped n_place0 n_length0 n_fault n_number0 v_open n_codeMany v_waiting n_saidMany v_clauses n_newMany v_newStalls v_lines v_salesNow v_outNow v_isKept v_keptStalls v_now v_aside v_kept n_oneOf n_otherOf n_signOf n_byOf v_tape v_said v_waitsAt v_saidLetter v_saidFrom v_saidHalf v_saidTo v_codes v_clauseOf v_codeFrom v_codeHalf v_codeTo v_stack v_facts n_newOne n_newOther n_newSign n_newBy n_moreOf n_firstOf v_toldOf v_mostOf v_mostThen v_sumTo v_rowFrom v_ordersOf v_lessOf v_weightOf v_rowNow v_slowRow v_fastRow v_lineNow v_firstLine v_freeBy v_heldBy v_heightOf v_upTo v_downTo v_oftenOf v_newUpper v_newLower))) := by
  refine hdrI (own := RX10) rfl (by decide +kernel) (Nat.le_of_ble_eq_true rfl) ?_
  intro p e s m args below meth c Q A X hQ
  refine g_lvE (lv2 := [(0, .ref h), (1, vI p0)]) rfl ?_
  refine g_iload_n X dX10_claims_0 1 rfl ?_
  refine g_iconst X dX10_claims_1 ?_
  refine g_sipush X (z := 250) dX10_claims_2 (by decide) ?_
  refine g_callSIE X (c_X10_in l D cI cB cJ (p0 := p0) (p1 := 1) (p2 := 250) (by first | assumption | omega) (by first | assumption | omega) (by first | assumption | omega)) cv_X10_in uw1394 ⟨rfl, rfl, by decide, by decide⟩ rfl rfl (Nat.le_of_ble_eq_true rfl) ⟨Nat.zero_le _, Nat.zero_le _⟩ dX10_claims_5 (fun t5 ws5 k5 => ?_)
  obtain ⟨kb_5, ⟨kp0_5, rfl⟩⟩ := k5
  refine g_if_eq X (tgt := 19) dX10_claims_8 (by decide) (by omega) (fun c8 => ?_) (fun c8 => ?_)
  · clear kb_5
    replace kp0_5 := (kp0_5.resolve_left (fun h => absurd h.1 (by omega))).2
    refine g_iconst X dX10_claims_19 ?_
    exact hQ _ _ _ _ dX10_claims_20 ⟨v_claimMany, v_taped, v_place0, v_length0, v_fault, v_number0, v_codeMany, v_saidMany, v_newMany, v_oneOf, v_otherOf, v_signOf, v_byOf, v_newOne, v_newOther, v_newSign, v_newBy, v_moreOf, v_firstOf, (by omega), (by omega), (by omega), (by omega), (by omega), (by omega), (by omega), (by omega), (by omega), r_v_oneOf, r_v_otherOf, r_v_signOf, r_v_byOf, r_v_newOne, r_v_newOther, r_v_newSign, r_v_newBy, r_v_moreOf, r_v_firstOf, (by first | assumption | omega), (by first | assumption | omega), (by first | assumption | omega), (by first | exact fun h => ⟨rfl, hAG⟩ | exact fun h => absurd h (by omega)), (by first | exact fun h => ⟨rfl, rfl, rfl, rfl, rfl⟩ | exact fun h => absurd h (by omega)), rfl⟩
  · replace kb_5 := kb_5.resolve_left (fun h => c8 h)
    replace kp0_5 := kp0_5.resolve_right (fun h => c8 h.1)
    refine g_iload_n X dX10_claims_11 1 rfl ?_
    refine g_aload_n X dX10_claims_12 0 rfl ?_
    refine gM_get X 0 rfl 10 (by decide) uw1189 rfl dX10_claims_13 ?_
    refine g_icmp_le X (tgt := 21) dX10_claims_16 (by decide) (by omega) (by omega) (fun c16 => ?_) (fun c16 => ?_)
    · refine g_aload_n X dX10_claims_21 0 rfl ?_
      refine g_iload_n X dX10_claims_22 1 rfl ?_
      refine g_callVV0 X (c_X10_beginsText l D cI cB cJ h q (p0 := p0) (by omega) (by omega) (by omega) (by omega) (by first | assumption | omega) (by first | assumption | omega)) cv_X10_beginsText uw1397 ⟨rfl, rfl, by decide, by decide⟩ 0 rfl rfl rfl rfl rfl (Nat.le_of_ble_eq_true rfl) ⟨Nat.zero_le _, Nat.zero_le _⟩ dX10_claims_23 (fun ws23 k23 => ?_)
      obtain ⟨place0_23, length0_23, codeMany_23, saidMany_23, kr_place0_23, kr_length0_23, kr_codeMany_23, kr_saidMany_23, kp0_23, kp1_23, kp2_23, kp3_23, rfl⟩ := k23
      refine g_aload_n X dX10_claims_26 0 rfl ?_
      refine g_iconst X dX10_claims_27 ?_
      refine gM_put X 0 rfl 37 (by decide) uw1216 rfl rfl rfl (Nat.le_of_ble_eq_true rfl) dX10_claims_28 (ws2 := (wX10 cI cB cJ h q v_stalls v_claimMany v_taped place0_23 length0_23 v_fault v_number0 v_open codeMany_23 v_waiting saidMany_23 v_clauses 0 v_newStalls v_lines v_salesNow v_outNow v_isKept v_keptStalls v_now v_aside v_kept v_oneOf v_otherOf v_signOf v_byOf v_tape v_said v_waitsAt v_saidLetter v_saidFrom v_saidHalf v_saidTo v_codes v_clauseOf v_codeFrom v_codeHalf v_codeTo v_stack v_facts v_newOne v_newOther v_newSign v_newBy v_moreOf v_firstOf v_toldOf v_mostOf v_mostThen v_sumTo v_rowFrom v_ordersOf v_lessOf v_weightOf v_rowNow v_slowRow v_fastRow v_lineNow v_firstLine v_freeBy v_heldBy v_heightOf v_upTo v_downTo v_oftenOf v_newUpper v_newLower)) rfl ?_
      refine g_aload_n X dX10_claims_31 0 rfl ?_
      have hL0 : length0_23 = p0 := by omega
      refine g_callVI0 X (c_X10_readsClaim l D cI cB cJ h q  (by omega) (by omega) (by omega) (by omega) (by omega) r_v_tape r_v_newOne r_v_newOther r_v_newSign r_v_newBy r_v_moreOf r_v_firstOf) cv_X10_readsClaim uw1484 ⟨rfl, rfl, by decide, by decide⟩ 0 rfl rfl rfl rfl rfl (Nat.le_of_ble_eq_true rfl) ⟨Nat.zero_le _, Nat.zero_le _⟩ dX10_claims_32 (fun t32 ws32 k32 => ?_)
      obtain ⟨kb_32, ⟨place0_32, fault_32, number0_32, newMany_32, newOne_32, newOther_32, newSign_32, newBy_32, moreOf_32, firstOf_32, kr_place0_32, kr_fault_32, kr_number0_32, kr_newMany_32, r_newOne_32, r_newOther_32, r_newSign_32, r_newBy_32, r_moreOf_32, r_firstOf_32, kp0_32, kp1_32, kp2_32, rfl⟩⟩ := k32
      rw [hL0] at kp2_32
      refine g_istore_n X (lv' := [(2, vI t32), (0, .ref h), (1, vI p0)]) dX10_claims_35 (by decide) rfl ?_
      have L36 : ∀ (n : Nat) (x2_36 : Int) (place0_36 : Int) (fault_36 : Int) (number0_36 : Int) (newMany_36 : Int) (newOne_36 : Nat → Int) (newOther_36 : Nat → Int) (newSign_36 : Nat → Int) (newBy_36 : Nat → Int) (moreOf_36 : Nat → Int) (firstOf_36 : Nat → Int), (0 ≤ place0_36 ∧ place0_36 ≤ 260) → ((-1000000) ≤ fault_36 ∧ fault_36 ≤ 1000000) → (0 ≤ number0_36 ∧ number0_36 ≤ 99999) → (0 ≤ newMany_36 ∧ newMany_36 ≤ 40) → (RA 0 11 newOne_36) → (RA 0 11 newOther_36) → (RA (-2147483648) 2147483647 newSign_36) → (RA (-9999) 9999 newBy_36) → (RA (-2147483648) 2147483647 moreOf_36) → (RA 0 11 firstOf_36) → (length0_23 = p0) → (0 ≤ x2_36 ∧ x2_36 ≤ 1) → (CRI (sgP p0 (oct v_tape)) p0 x2_36 place0_36 newMany_36 fault_36 newOne_36 newOther_36 newSign_36 newBy_36) → (p0 - place0_36 + x2_36).toNat < n → GG p l e ⟨4, 0, 0, 98⟩ s m args below meth c 0 0 Q D A s.heap 4 (wX10 cI cB cJ h q v_stalls v_claimMany v_taped place0_36 length0_23 fault_36 number0_36 v_open codeMany_23 v_waiting saidMany_23 v_clauses newMany_36 v_newStalls v_lines v_salesNow v_outNow v_isKept v_keptStalls v_now v_aside v_kept v_oneOf v_otherOf v_signOf v_byOf v_tape v_said v_waitsAt v_saidLetter v_saidFrom v_saidHalf v_saidTo v_codes v_clauseOf v_codeFrom v_codeHalf v_codeTo v_stack v_facts newOne_36 newOther_36 newSign_36 newBy_36 moreOf_36 firstOf_36 v_toldOf v_mostOf v_mostThen v_sumTo v_rowFrom v_ordersOf v_lessOf v_weightOf v_rowNow v_slowRow v_fastRow v_lineNow v_firstLine v_freeBy v_heldBy v_heightOf v_upTo v_downTo v_oftenOf v_newUpper v_newLower) 36 [(0, .ref h), (2, vI x2_36)] [] := by
        intro n
        induction n with
        | zero => intros; exfalso; omega
        | succ n ih36 =>
          intro x2_36 place0_36 fault_36 number0_36 newMany_36 newOne_36 newOther_36 newSign_36 newBy_36 moreOf_36 firstOf_36 kr_place0_36 kr_fault_36 kr_number0_36 kr_newMany_36 r_newOne_36 r_newOther_36 r_newSign_36 r_newBy_36 r_moreOf_36 r_firstOf_36 w36_0 w36_1 w36_2 wm36
          refine g_iload_n X dX10_claims_36 1 rfl ?_
          refine g_if_eq X (tgt := 76) dX10_claims_37 (by decide) (by omega) (fun c37 => ?_) (fun c37 => ?_)
          · refine g_aload_n X dX10_claims_76 0 rfl ?_
            refine g_iconst X dX10_claims_77 ?_
            refine gM_put X 0 rfl 10 (by decide) uw1189 rfl rfl rfl (Nat.le_of_ble_eq_true rfl) dX10_claims_78 (ws2 := (wX10 cI cB cJ h q v_stalls v_claimMany 0 place0_36 length0_23 fault_36 number0_36 v_open codeMany_23 v_waiting saidMany_23 v_clauses newMany_36 v_newStalls v_lines v_salesNow v_outNow v_isKept v_keptStalls v_now v_aside v_kept v_oneOf v_otherOf v_signOf v_byOf v_tape v_said v_waitsAt v_saidLetter v_saidFrom v_saidHalf v_saidTo v_codes v_clauseOf v_codeFrom v_codeHalf v_codeTo v_stack v_facts newOne_36 newOther_36 newSign_36 newBy_36 moreOf_36 firstOf_36 v_toldOf v_mostOf v_mostThen v_sumTo v_rowFrom v_ordersOf v_lessOf v_weightOf v_rowNow v_slowRow v_fastRow v_lineNow v_firstLine v_freeBy v_heldBy v_heightOf v_upTo v_downTo v_oftenOf v_newUpper v_newLower)) rfl ?_
            have hA := CRI.out w36_2 (fun h => by omega)
            refine g_iload_n X dX10_claims_81 1 rfl ?_
            refine g_if_ne X (tgt := 90) dX10_claims_82 (by decide) (by omega) (fun c82 => ?_) (fun c82 => ?_)
            · refine g_aload_n X dX10_claims_90 0 rfl ?_
              refine g_aload_n X dX10_claims_91 0 rfl ?_
              refine gM_get X 0 rfl 37 (by decide) uw1216 rfl dX10_claims_92 ?_
              refine gM_put X 0 rfl 8 (by decide) uw1187 rfl rfl rfl (Nat.le_of_ble_eq_true rfl) dX10_claims_95 (ws2 := (wX10 cI cB cJ h q v_stalls newMany_36 0 place0_36 length0_23 fault_36 number0_36 v_open codeMany_23 v_waiting saidMany_23 v_clauses newMany_36 v_newStalls v_lines v_salesNow v_outNow v_isKept v_keptStalls v_now v_aside v_kept v_oneOf v_otherOf v_signOf v_byOf v_tape v_said v_waitsAt v_saidLetter v_saidFrom v_saidHalf v_saidTo v_codes v_clauseOf v_codeFrom v_codeHalf v_codeTo v_stack v_facts newOne_36 newOther_36 newSign_36 newBy_36 moreOf_36 firstOf_36 v_toldOf v_mostOf v_mostThen v_sumTo v_rowFrom v_ordersOf v_lessOf v_weightOf v_rowNow v_slowRow v_fastRow v_lineNow v_firstLine v_freeBy v_heldBy v_heightOf v_upTo v_downTo v_oftenOf v_newUpper v_newLower)) rfl ?_
              refine g_iconst X dX10_claims_98 ?_
              refine g_istore_n X (lv' := [(3, vI 0), (0, .ref h), (2, vI x2_36)]) dX10_claims_99 (by decide) rfl ?_
              have L100 : ∀ (n : Nat) (x3_100 : Int) (oneOf_100 : Nat → Int) (otherOf_100 : Nat → Int) (signOf_100 : Nat → Int) (byOf_100 : Nat → Int), (RA 0 11 oneOf_100) → (RA 0 11 otherOf_100) → (RA (-2147483648) 2147483647 signOf_100) → (RA (-9999) 9999 byOf_100) → (0 ≤ x3_100 ∧ x3_100 ≤ newMany_36) → (∀ j : Nat, (j : Int) < x3_100 → oneOf_100 j = newOne_36 j ∧ otherOf_100 j = newOther_36 j ∧ signOf_100 j = newSign_36 j ∧ byOf_100 j = newBy_36 j) → (newMany_36 - x3_100).toNat < n → GG p l e ⟨4, 0, 0, 98⟩ s m args below meth c 0 0 Q D A s.heap 4 (wX10 cI cB cJ h q v_stalls newMany_36 0 place0_36 length0_23 fault_36 number0_36 v_open codeMany_23 v_waiting saidMany_23 v_clauses newMany_36 v_newStalls v_lines v_salesNow v_outNow v_isKept v_keptStalls v_now v_aside v_kept oneOf_100 otherOf_100 signOf_100 byOf_100 v_tape v_said v_waitsAt v_saidLetter v_saidFrom v_saidHalf v_saidTo v_codes v_clauseOf v_codeFrom v_codeHalf v_codeTo v_stack v_facts newOne_36 newOther_36 newSign_36 newBy_36 moreOf_36 firstOf_36 v_toldOf v_mostOf v_mostThen v_sumTo v_rowFrom v_ordersOf v_lessOf v_weightOf v_rowNow v_slowRow v_fastRow v_lineNow v_firstLine v_freeBy v_heldBy v_heightOf v_upTo v_downTo v_oftenOf v_newUpper v_newLower) 100 [(0, .ref h), (3, vI x3_100)] [] := by
                intro n
                induction n with
                | zero => intros; exfalso; omega
                | succ n ih100 =>
                  intro x3_100 oneOf_100 otherOf_100 signOf_100 byOf_100 r_oneOf_100 r_otherOf_100 r_signOf_100 r_byOf_100 w100_0 w100_1 wm100
                  refine g_iload_n X dX10_claims_100 1 rfl ?_
                  refine g_aload_n X dX10_claims_101 0 rfl ?_
                  refine gM_get X 0 rfl 8 (by decide) uw1187 rfl dX10_claims_102 ?_
                  refine g_icmp_ge X (tgt := 162) dX10_claims_105 (by decide) (by omega) (by omega) (fun c105 => ?_) (fun c105 => ?_)
                  · refine g_aload_n X dX10_claims_162 0 rfl ?_
                    refine gM_get X 0 rfl 8 (by decide) uw1187 rfl dX10_claims_163 ?_
                    have hA2 := hA.resolve_right (fun h => by omega)
                    have hAG : AG (sgP p0 (oct v_tape)) newMany_36 oneOf_100 otherOf_100 signOf_100 byOf_100 := fun j hj => by have i1 := w100_1 j (by omega); have i2 := hA2.2.2.2 j (by omega); rw [i1.1, i1.2.1, i1.2.2.1, i1.2.2.2]; exact i2
                    exact hQ _ _ _ _ dX10_claims_166 ⟨newMany_36, 0, place0_36, length0_23, fault_36, number0_36, codeMany_23, saidMany_23, newMany_36, oneOf_100, otherOf_100, signOf_100, byOf_100, newOne_36, newOther_36, newSign_36, newBy_36, moreOf_36, firstOf_36, (by omega), (by omega), (by omega), (by omega), (by omega), (by omega), (by omega), (by omega), (by omega), r_oneOf_100, r_otherOf_100, r_signOf_100, r_byOf_100, r_newOne_36, r_newOther_36, r_newSign_36, r_newBy_36, r_moreOf_36, r_firstOf_36, (by first | assumption | omega), (by first | assumption | omega), (by first | assumption | omega), (by first | exact fun h => ⟨rfl, hAG⟩ | exact fun h => absurd h (by omega)), (by first | exact fun h => ⟨rfl, rfl, rfl, rfl, rfl⟩ | exact fun h => absurd h (by omega)), rfl⟩
                  · refine g_aload_n X dX10_claims_108 0 rfl ?_
                    refine gM_get X 0 rfl 3 (by decide) uw1182 rfl dX10_claims_109 ?_
                    refine g_iload_n X dX10_claims_112 1 rfl ?_
                    refine g_aload_n X dX10_claims_113 0 rfl ?_
                    refine gM_get X 0 rfl 33 (by decide) uw1212 rfl dX10_claims_114 ?_
                    refine g_iload_n X dX10_claims_117 1 rfl ?_
                    refine g_iald X 22 0 rfl rfl (by omega) (by decide) dX10_claims_118 (fun t118 e118 => ?_)
                    have r118 := r_newOne_36 (x3_100 : Int).toNat; rw [← e118] at r118
                    refine g_iast X 4 0 rfl rfl (by omega) (by decide) dX10_claims_119 (fun oneOf_119 e119 => ?_)
                    have r_oneOf_119 : RA 0 11 oneOf_119 := by rw [e119]; exact RA_up r_oneOf_100 (by omega)
                    refine g_ws (ws2 := (wX10 cI cB cJ h q v_stalls newMany_36 0 place0_36 length0_23 fault_36 number0_36 v_open codeMany_23 v_waiting saidMany_23 v_clauses newMany_36 v_newStalls v_lines v_salesNow v_outNow v_isKept v_keptStalls v_now v_aside v_kept oneOf_119 otherOf_100 signOf_100 byOf_100 v_tape v_said v_waitsAt v_saidLetter v_saidFrom v_saidHalf v_saidTo v_codes v_clauseOf v_codeFrom v_codeHalf v_codeTo v_stack v_facts newOne_36 newOther_36 newSign_36 newBy_36 moreOf_36 firstOf_36 v_toldOf v_mostOf v_mostThen v_sumTo v_rowFrom v_ordersOf v_lessOf v_weightOf v_rowNow v_slowRow v_fastRow v_lineNow v_firstLine v_freeBy v_heldBy v_heightOf v_upTo v_downTo v_oftenOf v_newUpper v_newLower)) rfl ?_
                    refine g_aload_n X dX10_claims_120 0 rfl ?_
                    refine gM_get X 0 rfl 4 (by decide) uw1183 rfl dX10_claims_121 ?_
                    refine g_iload_n X dX10_claims_124 1 rfl ?_
                    refine g_aload_n X dX10_claims_125 0 rfl ?_
                    refine gM_get X 0 rfl 34 (by decide) uw1213 rfl dX10_claims_126 ?_
                    refine g_iload_n X dX10_claims_129 1 rfl ?_
                    refine g_iald X 23 0 rfl rfl (by omega) (by decide) dX10_claims_130 (fun t130 e130 => ?_)
                    have r130 := r_newOther_36 (x3_100 : Int).toNat; rw [← e130] at r130
                    refine g_iast X 5 0 rfl rfl (by omega) (by decide) dX10_claims_131 (fun otherOf_131 e131 => ?_)
                    have r_otherOf_131 : RA 0 11 otherOf_131 := by rw [e131]; exact RA_up r_otherOf_100 (by omega)
                    refine g_ws (ws2 := (wX10 cI cB cJ h q v_stalls newMany_36 0 place0_36 length0_23 fault_36 number0_36 v_open codeMany_23 v_waiting saidMany_23 v_clauses newMany_36 v_newStalls v_lines v_salesNow v_outNow v_isKept v_keptStalls v_now v_aside v_kept oneOf_119 otherOf_131 signOf_100 byOf_100 v_tape v_said v_waitsAt v_saidLetter v_saidFrom v_saidHalf v_saidTo v_codes v_clauseOf v_codeFrom v_codeHalf v_codeTo v_stack v_facts newOne_36 newOther_36 newSign_36 newBy_36 moreOf_36 firstOf_36 v_toldOf v_mostOf v_mostThen v_sumTo v_rowFrom v_ordersOf v_lessOf v_weightOf v_rowNow v_slowRow v_fastRow v_lineNow v_firstLine v_freeBy v_heldBy v_heightOf v_upTo v_downTo v_oftenOf v_newUpper v_newLower)) rfl ?_
                    refine g_aload_n X dX10_claims_132 0 rfl ?_
                    refine gM_get X 0 rfl 5 (by decide) uw1184 rfl dX10_claims_133 ?_
                    refine g_iload_n X dX10_claims_136 1 rfl ?_
                    refine g_aload_n X dX10_claims_137 0 rfl ?_
                    refine gM_get X 0 rfl 35 (by decide) uw1214 rfl dX10_claims_138 ?_
                    refine g_iload_n X dX10_claims_141 1 rfl ?_
                    refine g_iald X 24 0 rfl rfl (by omega) (by decide) dX10_claims_142 (fun t142 e142 => ?_)
                    have r142 := r_newSign_36 (x3_100 : Int).toNat; rw [← e142] at r142
                    refine g_iast X 6 0 rfl rfl (by omega) (by decide) dX10_claims_143 (fun signOf_143 e143 => ?_)
                    have r_signOf_143 : RA (-2147483648) 2147483647 signOf_143 := by rw [e143]; exact RA_up r_signOf_100 (by omega)
                    refine g_ws (ws2 := (wX10 cI cB cJ h q v_stalls newMany_36 0 place0_36 length0_23 fault_36 number0_36 v_open codeMany_23 v_waiting saidMany_23 v_clauses newMany_36 v_newStalls v_lines v_salesNow v_outNow v_isKept v_keptStalls v_now v_aside v_kept oneOf_119 otherOf_131 signOf_143 byOf_100 v_tape v_said v_waitsAt v_saidLetter v_saidFrom v_saidHalf v_saidTo v_codes v_clauseOf v_codeFrom v_codeHalf v_codeTo v_stack v_facts newOne_36 newOther_36 newSign_36 newBy_36 moreOf_36 firstOf_36 v_toldOf v_mostOf v_mostThen v_sumTo v_rowFrom v_ordersOf v_lessOf v_weightOf v_rowNow v_slowRow v_fastRow v_lineNow v_firstLine v_freeBy v_heldBy v_heightOf v_upTo v_downTo v_oftenOf v_newUpper v_newLower)) rfl ?_
                    refine g_aload_n X dX10_claims_144 0 rfl ?_
                    refine gM_get X 0 rfl 6 (by decide) uw1185 rfl dX10_claims_145 ?_
                    refine g_iload_n X dX10_claims_148 1 rfl ?_
                    refine g_aload_n X dX10_claims_149 0 rfl ?_
                    refine gM_get X 0 rfl 36 (by decide) uw1215 rfl dX10_claims_150 ?_
                    refine g_iload_n X dX10_claims_153 1 rfl ?_
                    refine g_iald X 25 0 rfl rfl (by omega) (by decide) dX10_claims_154 (fun t154 e154 => ?_)
                    have r154 := r_newBy_36 (x3_100 : Int).toNat; rw [← e154] at r154
                    refine g_iast X 7 0 rfl rfl (by omega) (by decide) dX10_claims_155 (fun byOf_155 e155 => ?_)
                    have r_byOf_155 : RA (-9999) 9999 byOf_155 := by rw [e155]; exact RA_up r_byOf_100 (by omega)
                    refine g_ws (ws2 := (wX10 cI cB cJ h q v_stalls newMany_36 0 place0_36 length0_23 fault_36 number0_36 v_open codeMany_23 v_waiting saidMany_23 v_clauses newMany_36 v_newStalls v_lines v_salesNow v_outNow v_isKept v_keptStalls v_now v_aside v_kept oneOf_119 otherOf_131 signOf_143 byOf_155 v_tape v_said v_waitsAt v_saidLetter v_saidFrom v_saidHalf v_saidTo v_codes v_clauseOf v_codeFrom v_codeHalf v_codeTo v_stack v_facts newOne_36 newOther_36 newSign_36 newBy_36 moreOf_36 firstOf_36 v_toldOf v_mostOf v_mostThen v_sumTo v_rowFrom v_ordersOf v_lessOf v_weightOf v_rowNow v_slowRow v_fastRow v_lineNow v_firstLine v_freeBy v_heldBy v_heightOf v_upTo v_downTo v_oftenOf v_newUpper v_newLower)) rfl ?_
                    refine g_iinc X (lv' := [(3, vI (x3_100 + 1)), (0, .ref h)]) dX10_claims_156 1 rfl (by decide) rfl ?_
                    refine g_goto X (tgt := 100) dX10_claims_159 (by decide) ?_
                    refine g_lv [1, 0] rfl ?_
                    exact ih100 (x3_100 + 1) oneOf_119 otherOf_131 signOf_143 byOf_155 r_oneOf_119 r_otherOf_131 r_signOf_143 r_byOf_155 (by first | assumption | omega) (by intro j hj; first | (exfalso; omega) | (rcases (show (j : Int) < x3_100 ∨ j = (x3_100).toNat by omega) with h | h; (rw [e119, e131, e143, e155, updZ_n _ _ (by omega), updZ_n _ _ (by omega), updZ_n _ _ (by omega), updZ_n _ _ (by omega)]; exact w100_1 j h); (rw [e119, e131, e143, e155, h, updZ_s, updZ_s, updZ_s, updZ_s]; exact ⟨e118, e130, e142, e154⟩))) (by omega)
              refine g_lv [1, 0] rfl ?_
              exact L100 _ 0 v_oneOf v_otherOf v_signOf v_byOf r_v_oneOf r_v_otherOf r_v_signOf r_v_byOf (by first | assumption | omega) (by intro j hj; first | (exfalso; omega) | (rcases (show (j : Int) < x3_100 ∨ j = (x3_100).toNat by omega) with h | h; (rw [e119, e131, e143, e155, updZ_n _ _ (by omega), updZ_n _ _ (by omega), updZ_n _ _ (by omega), updZ_n _ _ (by omega)]; exact w100_1 j h); (rw [e119, e131, e143, e155, h, updZ_s, updZ_s, updZ_s, updZ_s]; exact ⟨e118, e130, e142, e154⟩))) (Nat.lt_succ_self _)
            · refine g_aload_n X dX10_claims_85 0 rfl ?_
              refine gM_get X 0 rfl 13 (by decide) uw1192 rfl dX10_claims_86 ?_
              exact hQ _ _ _ _ dX10_claims_89 ⟨v_claimMany, 0, place0_36, length0_23, fault_36, number0_36, codeMany_23, saidMany_23, newMany_36, v_oneOf, v_otherOf, v_signOf, v_byOf, newOne_36, newOther_36, newSign_36, newBy_36, moreOf_36, firstOf_36, (by omega), (by omega), (by omega), (by omega), (by omega), (by omega), (by omega), (by omega), (by omega), r_v_oneOf, r_v_otherOf, r_v_signOf, r_v_byOf, r_newOne_36, r_newOther_36, r_newSign_36, r_newBy_36, r_moreOf_36, r_firstOf_36, (by first | assumption | omega), (by first | assumption | omega), (by first | assumption | omega), (by first | exact fun h => ⟨rfl, hAG⟩ | exact fun h => absurd h (by omega)), (by first | exact fun h => ⟨rfl, rfl, rfl, rfl, rfl⟩ | exact fun h => absurd h (by omega)), rfl⟩
          · have h8 := psC_e (sgP p0 (oct v_tape)) 59 place0_36
            refine g_aload_n X dX10_claims_40 0 rfl ?_
            refine gM_get X 0 rfl 11 (by decide) uw1190 rfl dX10_claims_41 ?_
            refine g_aload_n X dX10_claims_44 0 rfl ?_
            refine gM_get X 0 rfl 12 (by decide) uw1191 rfl dX10_claims_45 ?_
            refine g_icmp_ge X (tgt := 76) dX10_claims_48 (by decide) (by omega) (by omega) (fun c48 => ?_) (fun c48 => ?_)
            · refine g_aload_n X dX10_claims_76 0 rfl ?_
              refine g_iconst X dX10_claims_77 ?_
              refine gM_put X 0 rfl 10 (by decide) uw1189 rfl rfl rfl (Nat.le_of_ble_eq_true rfl) dX10_claims_78 (ws2 := (wX10 cI cB cJ h q v_stalls v_claimMany 0 place0_36 length0_23 fault_36 number0_36 v_open codeMany_23 v_waiting saidMany_23 v_clauses newMany_36 v_newStalls v_lines v_salesNow v_outNow v_isKept v_keptStalls v_now v_aside v_kept v_oneOf v_otherOf v_signOf v_byOf v_tape v_said v_waitsAt v_saidLetter v_saidFrom v_saidHalf v_saidTo v_codes v_clauseOf v_codeFrom v_codeHalf v_codeTo v_stack v_facts newOne_36 newOther_36 newSign_36 newBy_36 moreOf_36 firstOf_36 v_toldOf v_mostOf v_mostThen v_sumTo v_rowFrom v_ordersOf v_lessOf v_weightOf v_rowNow v_slowRow v_fastRow v_lineNow v_firstLine v_freeBy v_heldBy v_heightOf v_upTo v_downTo v_oftenOf v_newUpper v_newLower)) rfl ?_
              have hA := CRI.out w36_2 (fun h => by omega)
              refine g_iload_n X dX10_claims_81 1 rfl ?_
              refine g_if_ne X (tgt := 90) dX10_claims_82 (by decide) (by omega) (fun c82 => ?_) (fun c82 => ?_)
              · refine g_aload_n X dX10_claims_90 0 rfl ?_
                refine g_aload_n X dX10_claims_91 0 rfl ?_
                refine gM_get X 0 rfl 37 (by decide) uw1216 rfl dX10_claims_92 ?_
                refine gM_put X 0 rfl 8 (by decide) uw1187 rfl rfl rfl (Nat.le_of_ble_eq_true rfl) dX10_claims_95 (ws2 := (wX10 cI cB cJ h q v_stalls newMany_36 0 place0_36 length0_23 fault_36 number0_36 v_open codeMany_23 v_waiting saidMany_23 v_clauses newMany_36 v_newStalls v_lines v_salesNow v_outNow v_isKept v_keptStalls v_now v_aside v_kept v_oneOf v_otherOf v_signOf v_byOf v_tape v_said v_waitsAt v_saidLetter v_saidFrom v_saidHalf v_saidTo v_codes v_clauseOf v_codeFrom v_codeHalf v_codeTo v_stack v_facts newOne_36 newOther_36 newSign_36 newBy_36 moreOf_36 firstOf_36 v_toldOf v_mostOf v_mostThen v_sumTo v_rowFrom v_ordersOf v_lessOf v_weightOf v_rowNow v_slowRow v_fastRow v_lineNow v_firstLine v_freeBy v_heldBy v_heightOf v_upTo v_downTo v_oftenOf v_newUpper v_newLower)) rfl ?_
                refine g_iconst X dX10_claims_98 ?_
                refine g_istore_n X (lv' := [(3, vI 0), (0, .ref h), (2, vI x2_36)]) dX10_claims_99 (by decide) rfl ?_
                have L100 : ∀ (n : Nat) (x3_100 : Int) (oneOf_100 : Nat → Int) (otherOf_100 : Nat → Int) (signOf_100 : Nat → Int) (byOf_100 : Nat → Int), (RA 0 11 oneOf_100) → (RA 0 11 otherOf_100) → (RA (-2147483648) 2147483647 signOf_100) → (RA (-9999) 9999 byOf_100) → (0 ≤ x3_100 ∧ x3_100 ≤ newMany_36) → (∀ j : Nat, (j : Int) < x3_100 → oneOf_100 j = newOne_36 j ∧ otherOf_100 j = newOther_36 j ∧ signOf_100 j = newSign_36 j ∧ byOf_100 j = newBy_36 j) → (newMany_36 - x3_100).toNat < n → GG p l e ⟨4, 0, 0, 98⟩ s m args below meth c 0 0 Q D A s.heap 4 (wX10 cI cB cJ h q v_stalls newMany_36 0 place0_36 length0_23 fault_36 number0_36 v_open codeMany_23 v_waiting saidMany_23 v_clauses newMany_36 v_newStalls v_lines v_salesNow v_outNow v_isKept v_keptStalls v_now v_aside v_kept oneOf_100 otherOf_100 signOf_100 byOf_100 v_tape v_said v_waitsAt v_saidLetter v_saidFrom v_saidHalf v_saidTo v_codes v_clauseOf v_codeFrom v_codeHalf v_codeTo v_stack v_facts newOne_36 newOther_36 newSign_36 newBy_36 moreOf_36 firstOf_36 v_toldOf v_mostOf v_mostThen v_sumTo v_rowFrom v_ordersOf v_lessOf v_weightOf v_rowNow v_slowRow v_fastRow v_lineNow v_firstLine v_freeBy v_heldBy v_heightOf v_upTo v_downTo v_oftenOf v_newUpper v_newLower) 100 [(0, .ref h), (3, vI x3_100)] [] := by
                  intro n
                  induction n with
                  | zero => intros; exfalso; omega
                  | succ n ih100 =>
                    intro x3_100 oneOf_100 otherOf_100 signOf_100 byOf_100 r_oneOf_100 r_otherOf_100 r_signOf_100 r_byOf_100 w100_0 w100_1 wm100
                    refine g_iload_n X dX10_claims_100 1 rfl ?_
                    refine g_aload_n X dX10_claims_101 0 rfl ?_
                    refine gM_get X 0 rfl 8 (by decide) uw1187 rfl dX10_claims_102 ?_
                    refine g_icmp_ge X (tgt := 162) dX10_claims_105 (by decide) (by omega) (by omega) (fun c105 => ?_) (fun c105 => ?_)
                    · refine g_aload_n X dX10_claims_162 0 rfl ?_
                      refine gM_get X 0 rfl 8 (by decide) uw1187 rfl dX10_claims_163 ?_
                      have hA2 := hA.resolve_right (fun h => by omega)
                      have hAG : AG (sgP p0 (oct v_tape)) newMany_36 oneOf_100 otherOf_100 signOf_100 byOf_100 := fun j hj => by have i1 := w100_1 j (by omega); have i2 := hA2.2.2.2 j (by omega); rw [i1.1, i1.2.1, i1.2.2.1, i1.2.2.2]; exact i2
                      exact hQ _ _ _ _ dX10_claims_166 ⟨newMany_36, 0, place0_36, length0_23, fault_36, number0_36, codeMany_23, saidMany_23, newMany_36, oneOf_100, otherOf_100, signOf_100, byOf_100, newOne_36, newOther_36, newSign_36, newBy_36, moreOf_36, firstOf_36, (by omega), (by omega), (by omega), (by omega), (by omega), (by omega), (by omega), (by omega), (by omega), r_oneOf_100, r_otherOf_100, r_signOf_100, r_byOf_100, r_newOne_36, r_newOther_36, r_newSign_36, r_newBy_36, r_moreOf_36, r_firstOf_36, (by first | assumption | omega), (by first | assumption | omega), (by first | assumption | omega), (by first | exact fun h => ⟨rfl, hAG⟩ | exact fun h => absurd h (by omega)), (by first | exact fun h => ⟨rfl, rfl, rfl, rfl, rfl⟩ | exact fun h => absurd h (by omega)), rfl⟩
                    · refine g_aload_n X dX10_claims_108 0 rfl ?_
                      refine gM_get X 0 rfl 3 (by decide) uw1182 rfl dX10_claims_109 ?_
                      refine g_iload_n X dX10_claims_112 1 rfl ?_
                      refine g_aload_n X dX10_claims_113 0 rfl ?_
                      refine gM_get X 0 rfl 33 (by decide) uw1212 rfl dX10_claims_114 ?_
                      refine g_iload_n X dX10_claims_117 1 rfl ?_
                      refine g_iald X 22 0 rfl rfl (by omega) (by decide) dX10_claims_118 (fun t118 e118 => ?_)
                      have r118 := r_newOne_36 (x3_100 : Int).toNat; rw [← e118] at r118
                      refine g_iast X 4 0 rfl rfl (by omega) (by decide) dX10_claims_119 (fun oneOf_119 e119 => ?_)
                      have r_oneOf_119 : RA 0 11 oneOf_119 := by rw [e119]; exact RA_up r_oneOf_100 (by omega)
                      refine g_ws (ws2 := (wX10 cI cB cJ h q v_stalls newMany_36 0 place0_36 length0_23 fault_36 number0_36 v_open codeMany_23 v_waiting saidMany_23 v_clauses newMany_36 v_newStalls v_lines v_salesNow v_outNow v_isKept v_keptStalls v_now v_aside v_kept oneOf_119 otherOf_100 signOf_100 byOf_100 v_tape v_said v_waitsAt v_saidLetter v_saidFrom v_saidHalf v_saidTo v_codes v_clauseOf v_codeFrom v_codeHalf v_codeTo v_stack v_facts newOne_36 newOther_36 newSign_36 newBy_36 moreOf_36 firstOf_36 v_toldOf v_mostOf v_mostThen v_sumTo v_rowFrom v_ordersOf v_lessOf v_weightOf v_rowNow v_slowRow v_fastRow v_lineNow v_firstLine v_freeBy v_heldBy v_heightOf v_upTo v_downTo v_oftenOf v_newUpper v_newLower)) rfl ?_
                      refine g_aload_n X dX10_claims_120 0 rfl ?_
                      refine gM_get X 0 rfl 4 (by decide) uw1183 rfl dX10_claims_121 ?_
                      refine g_iload_n X dX10_claims_124 1 rfl ?_
                      refine g_aload_n X dX10_claims_125 0 rfl ?_
                      refine gM_get X 0 rfl 34 (by decide) uw1213 rfl dX10_claims_126 ?_
                      refine g_iload_n X dX10_claims_129 1 rfl ?_
                      refine g_iald X 23 0 rfl rfl (by omega) (by decide) dX10_claims_130 (fun t130 e130 => ?_)
                      have r130 := r_newOther_36 (x3_100 : Int).toNat; rw [← e130] at r130
                      refine g_iast X 5 0 rfl rfl (by omega) (by decide) dX10_claims_131 (fun otherOf_131 e131 => ?_)
                      have r_otherOf_131 : RA 0 11 otherOf_131 := by rw [e131]; exact RA_up r_otherOf_100 (by omega)
                      refine g_ws (ws2 := (wX10 cI cB cJ h q v_stalls newMany_36 0 place0_36 length0_23 fault_36 number0_36 v_open codeMany_23 v_waiting saidMany_23 v_clauses newMany_36 v_newStalls v_lines v_salesNow v_outNow v_isKept v_keptStalls v_now v_aside v_kept oneOf_119 otherOf_131 signOf_100 byOf_100 v_tape v_said v_waitsAt v_saidLetter v_saidFrom v_saidHalf v_saidTo v_codes v_clauseOf v_codeFrom v_codeHalf v_codeTo v_stack v_facts newOne_36 newOther_36 newSign_36 newBy_36 moreOf_36 firstOf_36 v_toldOf v_mostOf v_mostThen v_sumTo v_rowFrom v_ordersOf v_lessOf v_weightOf v_rowNow v_slowRow v_fastRow v_lineNow v_firstLine v_freeBy v_heldBy v_heightOf v_upTo v_downTo v_oftenOf v_newUpper v_newLower)) rfl ?_
                      refine g_aload_n X dX10_claims_132 0 rfl ?_
                      refine gM_get X 0 rfl 5 (by decide) uw1184 rfl dX10_claims_133 ?_
                      refine g_iload_n X dX10_claims_136 1 rfl ?_
                      refine g_aload_n X dX10_claims_137 0 rfl ?_
                      refine gM_get X 0 rfl 35 (by decide) uw1214 rfl dX10_claims_138 ?_
                      refine g_iload_n X dX10_claims_141 1 rfl ?_
                      refine g_iald X 24 0 rfl rfl (by omega) (by decide) dX10_claims_142 (fun t142 e142 => ?_)
                      have r142 := r_newSign_36 (x3_100 : Int).toNat; rw [← e142] at r142
                      refine g_iast X 6 0 rfl rfl (by omega) (by decide) dX10_claims_143 (fun signOf_143 e143 => ?_)
                      have r_signOf_143 : RA (-2147483648) 2147483647 signOf_143 := by rw [e143]; exact RA_up r_signOf_100 (by omega)
                      refine g_ws (ws2 := (wX10 cI cB cJ h q v_stalls newMany_36 0 place0_36 length0_23 fault_36 number0_36 v_open codeMany_23 v_waiting saidMany_23 v_clauses newMany_36 v_newStalls v_lines v_salesNow v_outNow v_isKept v_keptStalls v_now v_aside v_kept oneOf_119 otherOf_131 signOf_143 byOf_100 v_tape v_said v_waitsAt v_saidLetter v_saidFrom v_saidHalf v_saidTo v_codes v_clauseOf v_codeFrom v_codeHalf v_codeTo v_stack v_facts newOne_36 newOther_36 newSign_36 newBy_36 moreOf_36 firstOf_36 v_toldOf v_mostOf v_mostThen v_sumTo v_rowFrom v_ordersOf v_lessOf v_weightOf v_rowNow v_slowRow v_fastRow v_lineNow v_firstLine v_freeBy v_heldBy v_heightOf v_upTo v_downTo v_oftenOf v_newUpper v_newLower)) rfl ?_
                      refine g_aload_n X dX10_claims_144 0 rfl ?_
                      refine gM_get X 0 rfl 6 (by decide) uw1185 rfl dX10_claims_145 ?_
                      refine g_iload_n X dX10_claims_148 1 rfl ?_
                      refine g_aload_n X dX10_claims_149 0 rfl ?_
                      refine gM_get X 0 rfl 36 (by decide) uw1215 rfl dX10_claims_150 ?_
                      refine g_iload_n X dX10_claims_153 1 rfl ?_
                      refine g_iald X 25 0 rfl rfl (by omega) (by decide) dX10_claims_154 (fun t154 e154 => ?_)
                      have r154 := r_newBy_36 (x3_100 : Int).toNat; rw [← e154] at r154
                      refine g_iast X 7 0 rfl rfl (by omega) (by decide) dX10_claims_155 (fun byOf_155 e155 => ?_)
                      have r_byOf_155 : RA (-9999) 9999 byOf_155 := by rw [e155]; exact RA_up r_byOf_100 (by omega)
                      refine g_ws (ws2 := (wX10 cI cB cJ h q v_stalls newMany_36 0 place0_36 length0_23 fault_36 number0_36 v_open codeMany_23 v_waiting saidMany_23 v_clauses newMany_36 v_newStalls v_lines v_salesNow v_outNow v_isKept v_keptStalls v_now v_aside v_kept oneOf_119 otherOf_131 signOf_143 byOf_155 v_tape v_said v_waitsAt v_saidLetter v_saidFrom v_saidHalf v_saidTo v_codes v_clauseOf v_codeFrom v_codeHalf v_codeTo v_stack v_facts newOne_36 newOther_36 newSign_36 newBy_36 moreOf_36 firstOf_36 v_toldOf v_mostOf v_mostThen v_sumTo v_rowFrom v_ordersOf v_lessOf v_weightOf v_rowNow v_slowRow v_fastRow v_lineNow v_firstLine v_freeBy v_heldBy v_heightOf v_upTo v_downTo v_oftenOf v_newUpper v_newLower)) rfl ?_
                      refine g_iinc X (lv' := [(3, vI (x3_100 + 1)), (0, .ref h)]) dX10_claims_156 1 rfl (by decide) rfl ?_
                      refine g_goto X (tgt := 100) dX10_claims_159 (by decide) ?_
                      refine g_lv [1, 0] rfl ?_
                      exact ih100 (x3_100 + 1) oneOf_119 otherOf_131 signOf_143 byOf_155 r_oneOf_119 r_otherOf_131 r_signOf_143 r_byOf_155 (by first | assumption | omega) (by intro j hj; first | (exfalso; omega) | (rcases (show (j : Int) < x3_100 ∨ j = (x3_100).toNat by omega) with h | h; (rw [e119, e131, e143, e155, updZ_n _ _ (by omega), updZ_n _ _ (by omega), updZ_n _ _ (by omega), updZ_n _ _ (by omega)]; exact w100_1 j h); (rw [e119, e131, e143, e155, h, updZ_s, updZ_s, updZ_s, updZ_s]; exact ⟨e118, e130, e142, e154⟩))) (by omega)
                refine g_lv [1, 0] rfl ?_
                exact L100 _ 0 v_oneOf v_otherOf v_signOf v_byOf r_v_oneOf r_v_otherOf r_v_signOf r_v_byOf (by first | assumption | omega) (by intro j hj; first | (exfalso; omega) | (rcases (show (j : Int) < x3_100 ∨ j = (x3_100).toNat by omega) with h | h; (rw [e119, e131, e143, e155, updZ_n _ _ (by omega), updZ_n _ _ (by omega), updZ_n _ _ (by omega), updZ_n _ _ (by omega)]; exact w100_1 j h); (rw [e119, e131, e143, e155, h, updZ_s, updZ_s, updZ_s, updZ_s]; exact ⟨e118, e130, e142, e154⟩))) (Nat.lt_succ_self _)
              · refine g_aload_n X dX10_claims_85 0 rfl ?_
                refine gM_get X 0 rfl 13 (by decide) uw1192 rfl dX10_claims_86 ?_
                exact hQ _ _ _ _ dX10_claims_89 ⟨v_claimMany, 0, place0_36, length0_23, fault_36, number0_36, codeMany_23, saidMany_23, newMany_36, v_oneOf, v_otherOf, v_signOf, v_byOf, newOne_36, newOther_36, newSign_36, newBy_36, moreOf_36, firstOf_36, (by omega), (by omega), (by omega), (by omega), (by omega), (by omega), (by omega), (by omega), (by omega), r_v_oneOf, r_v_otherOf, r_v_signOf, r_v_byOf, r_newOne_36, r_newOther_36, r_newSign_36, r_newBy_36, r_moreOf_36, r_firstOf_36, (by first | assumption | omega), (by first | assumption | omega), (by first | assumption | omega), (by first | exact fun h => ⟨rfl, hAG⟩ | exact fun h => absurd h (by omega)), (by first | exact fun h => ⟨rfl, rfl, rfl, rfl, rfl⟩ | exact fun h => absurd h (by omega)), rfl⟩
            · refine g_aload_n X dX10_claims_51 0 rfl ?_
              refine g_bipush X (z := 59) dX10_claims_52 (by decide) ?_
              refine g_callVI0 X (c_X10_takes l D cI cB cJ h q (p0 := 59) (by omega) (by omega) (by omega) r_v_tape (by first | assumption | omega) (by first | assumption | omega)) cv_X10_takes uw1476 ⟨rfl, rfl, by decide, by decide⟩ 0 rfl rfl rfl rfl rfl (Nat.le_of_ble_eq_true rfl) ⟨Nat.zero_le _, Nat.zero_le _⟩ dX10_claims_54 (fun t54 ws54 k54 => ?_)
              obtain ⟨kb_54, ⟨place0_54, fault_54, kr_place0_54, kr_fault_54, kp0_54, kp1_54, rfl⟩⟩ := k54
              rw [show length0_23 = p0 by omega] at kp1_54
              refine g_if_eq X (tgt := 71) dX10_claims_57 (by decide) (by omega) (fun c57 => ?_) (fun c57 => ?_)
              · clear kb_54
                replace kp0_54 := (kp0_54.resolve_left (fun h => absurd h.1 (by omega))).2
                replace kp1_54 := (kp1_54.resolve_left (fun h => absurd h.1 (by omega))).2
                refine g_iconst X dX10_claims_71 ?_
                refine g_istore_n X (lv' := [(2, vI 0), (0, .ref h)]) dX10_claims_72 (by decide) rfl ?_
                refine g_goto X (tgt := 36) dX10_claims_73 (by decide) ?_
                refine g_lv [1, 0] rfl ?_
                exact ih36 0 place0_54 fault_54 number0_36 newMany_36 newOne_36 newOther_36 newSign_36 newBy_36 moreOf_36 firstOf_36 (by omega) (by omega) (by omega) (by omega) r_newOne_36 r_newOther_36 r_newSign_36 r_newBy_36 r_moreOf_36 r_firstOf_36 (by first | assumption | omega) (by first | assumption | omega) (by first | exact CRI.ini (by omega) (by omega) kp2_32 | exact CRI.bad w36_2 (by omega) (by omega) (by omega) (by omega) (by omega) rfl _ _ _ _ _ _ | exact CRI.step w36_2 (by omega) (by omega) (by omega) (by omega) (by omega) (by have h9 := kp2_61; rw [show t61 = 1 by omega] at h9; exact h9) (by omega) | exact CRI.step w36_2 (by omega) (by omega) (by omega) (by omega) (by omega) (by have h9 := kp2_61; rw [show t61 = 0 by omega] at h9; exact h9) (by omega)) (by omega)
              · replace kb_54 := kb_54.resolve_left (fun h => c57 h)
                replace kp0_54 := kp0_54.resolve_right (fun h => c57 h.1)
                replace kp1_54 := kp1_54.resolve_right (fun h => c57 h.1)
                refine g_aload_n X dX10_claims_60 0 rfl ?_
                refine g_callVI0 X (c_X10_readsClaim l D cI cB cJ h q  (by omega) (by omega) (by omega) (by omega) (by omega) r_v_tape r_newOne_36 r_newOther_36 r_newSign_36 r_newBy_36 r_moreOf_36 r_firstOf_36) cv_X10_readsClaim uw1484 ⟨rfl, rfl, by decide, by decide⟩ 0 rfl rfl rfl rfl rfl (Nat.le_of_ble_eq_true rfl) ⟨Nat.zero_le _, Nat.zero_le _⟩ dX10_claims_61 (fun t61 ws61 k61 => ?_)
                obtain ⟨kb_61, ⟨place0_61, fault_61, number0_61, newMany_61, newOne_61, newOther_61, newSign_61, newBy_61, moreOf_61, firstOf_61, kr_place0_61, kr_fault_61, kr_number0_61, kr_newMany_61, r_newOne_61, r_newOther_61, r_newSign_61, r_newBy_61, r_moreOf_61, r_firstOf_61, kp0_61, kp1_61, kp2_61, rfl⟩⟩ := k61
                rw [show length0_23 = p0 by omega] at kp2_61
                refine g_if_eq X (tgt := 71) dX10_claims_64 (by decide) (by omega) (fun c64 => ?_) (fun c64 => ?_)
                · clear kb_61
                  clear kp1_61
                  refine g_iconst X dX10_claims_71 ?_
                  refine g_istore_n X (lv' := [(2, vI 0), (0, .ref h)]) dX10_claims_72 (by decide) rfl ?_
                  refine g_goto X (tgt := 36) dX10_claims_73 (by decide) ?_
                  refine g_lv [1, 0] rfl ?_
                  exact ih36 0 place0_61 fault_61 number0_61 newMany_61 newOne_61 newOther_61 newSign_61 newBy_61 moreOf_61 firstOf_61 (by omega) (by omega) (by omega) (by omega) r_newOne_61 r_newOther_61 r_newSign_61 r_newBy_61 r_moreOf_61 r_firstOf_61 (by first | assumption | omega) (by first | assumption | omega) (by first | exact CRI.ini (by omega) (by omega) kp2_32 | exact CRI.bad w36_2 (by omega) (by omega) (by omega) (by omega) (by omega) rfl _ _ _ _ _ _ | exact CRI.step w36_2 (by omega) (by omega) (by omega) (by omega) (by omega) (by have h9 := kp2_61; rw [show t61 = 1 by omega] at h9; exact h9) (by omega) | exact CRI.step w36_2 (by omega) (by omega) (by omega) (by omega) (by omega) (by have h9 := kp2_61; rw [show t61 = 0 by omega] at h9; exact h9) (by omega)) (by omega)
                · replace kb_61 := kb_61.resolve_left (fun h => c64 h)
                  replace kp1_61 := kp1_61 kb_61
                  refine g_iconst X dX10_claims_67 ?_
                  refine g_goto X (tgt := 72) dX10_claims_68 (by decide) ?_
                  refine g_istore_n X (lv' := [(2, vI 1), (0, .ref h)]) dX10_claims_72 (by decide) rfl ?_
                  refine g_goto X (tgt := 36) dX10_claims_73 (by decide) ?_
                  refine g_lv [1, 0] rfl ?_
                  exact ih36 1 place0_61 fault_61 number0_61 newMany_61 newOne_61 newOther_61 newSign_61 newBy_61 moreOf_61 firstOf_61 (by omega) (by omega) (by omega) (by omega) r_newOne_61 r_newOther_61 r_newSign_61 r_newBy_61 r_moreOf_61 r_firstOf_61 (by first | assumption | omega) (by first | assumption | omega) (by first | exact CRI.ini (by omega) (by omega) kp2_32 | exact CRI.bad w36_2 (by omega) (by omega) (by omega) (by omega) (by omega) rfl _ _ _ _ _ _ | exact CRI.step w36_2 (by omega) (by omega) (by omega) (by omega) (by omega) (by have h9 := kp2_61; rw [show t61 = 1 by omega] at h9; exact h9) (by omega) | exact CRI.step w36_2 (by omega) (by omega) (by omega) (by omega) (by omega) (by have h9 := kp2_61; rw [show t61 = 0 by omega] at h9; exact h9) (by omega)) (by omega)
      refine g_lv [1, 0] rfl ?_
      exact L36 _ t32 place0_32 fault_32 number0_32 newMany_32 newOne_32 newOther_32 newSign_32 newBy_32 moreOf_32 firstOf_32 (by omega) (by omega) (by omega) (by omega) r_newOne_32 r_newOther_32 r_newSign_32 r_newBy_32 r_moreOf_32 r_firstOf_32 (by first | assumption | omega) (by first | assumption | omega) (by first | exact CRI.ini (by omega) (by omega) kp2_32 | exact CRI.bad w36_2 (by omega) (by omega) (by omega) (by omega) (by omega) rfl _ _ _ _ _ _ | exact CRI.step w36_2 (by omega) (by omega) (by omega) (by omega) (by omega) (by have h9 := kp2_61; rw [show t61 = 1 by omega] at h9; exact h9) (by omega) | exact CRI.step w36_2 (by omega) (by omega) (by omega) (by omega) (by omega) (by have h9 := kp2_61; rw [show t61 = 0 by omega] at h9; exact h9) (by omega)) (Nat.lt_succ_self _)
    · refine g_iconst X dX10_claims_19 ?_
      exact hQ _ _ _ _ dX10_claims_20 ⟨v_claimMany, v_taped, v_place0, v_length0, v_fault, v_number0, v_codeMany, v_saidMany, v_newMany, v_oneOf, v_otherOf, v_signOf, v_byOf, v_newOne, v_newOther, v_newSign, v_newBy, v_moreOf, v_firstOf, (by omega), (by omega), (by omega), (by omega), (by omega), (by omega), (by omega), (by omega), (by omega), r_v_oneOf, r_v_otherOf, r_v_signOf, r_v_byOf, r_v_newOne, r_v_newOther, r_v_newSign, r_v_newBy, r_v_moreOf, r_v_firstOf, (by first | assumption | omega), (by first | assumption | omega), (by first | assumption | omega), (by first | exact fun h => ⟨rfl, hAG⟩ | exact fun h => absurd h (by omega)), (by first | exact fun h => ⟨rfl, rfl, rfl, rfl, rfl⟩ | exact fun h => absurd h (by omega)), rfl⟩
