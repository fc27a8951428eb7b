set_option maxHeartbeats 4000000 in
set_option maxRecDepth 100000 in
theorem c_X10_sumBy (l : Launch) (D : va_G) (cI cB cJ : ClassId) (h : Nat) (q : Nat → Nat) {v_stalls v_claimMany v_taped v_place0 v_length0 v_fault v_number0 v_open v_codeMany v_waiting v_saidMany v_clauses v_newMany v_newStalls v_lines v_salesNow v_outNow v_isKept v_keptStalls : Int} {v_now v_aside v_kept v_oneOf v_otherOf v_signOf v_byOf v_tape v_said v_waitsAt v_saidLetter v_saidFrom v_saidHalf v_saidTo v_codes v_clauseOf v_codeFrom v_codeHalf v_codeTo v_stack v_facts v_newOne v_newOther v_newSign v_newBy v_moreOf v_firstOf v_toldOf v_mostOf v_mostThen v_sumTo v_rowFrom v_ordersOf v_lessOf v_weightOf v_rowNow v_slowRow v_fastRow v_lineNow v_firstLine v_freeBy v_heldBy v_heightOf v_upTo v_downTo v_oftenOf v_newUpper v_newLower : Nat → Int} {p0 p1 : Int} (r_v_toldOf : RA (-9999) 1000000 v_toldOf) (r_v_sumTo : RA (-2147483648) 2147483647 v_sumTo) (hp0 : IR p0) (hp1 : IR p1) (hp2 : 1 ≤ p0 ∧ p0 ≤ 4095) (hp3 : 0 ≤ p1 ∧ p1 ≤ 11) : CtI l yX10_sumBy cX10_sumBy 6 (some .int) ⟨2, 0, 0, 42⟩ D (TY cI cB cJ) (wX10 cI cB cJ h q v_stalls v_claimMany v_taped v_place0 v_length0 v_fault v_number0 v_open v_codeMany v_waiting v_saidMany v_clauses v_newMany v_newStalls v_lines v_salesNow v_outNow v_isKept v_keptStalls v_now v_aside v_kept v_oneOf v_otherOf v_signOf v_byOf v_tape v_said v_waitsAt v_saidLetter v_saidFrom v_saidHalf v_saidTo v_codes v_clauseOf v_codeFrom v_codeHalf v_codeTo v_stack v_facts v_newOne v_newOther v_newSign v_newBy v_moreOf v_firstOf v_toldOf v_mostOf v_mostThen v_sumTo v_rowFrom v_ordersOf v_lessOf v_weightOf v_rowNow v_slowRow v_fastRow v_lineNow v_firstLine v_freeBy v_heldBy v_heightOf v_upTo v_downTo v_oftenOf v_newUpper v_newLower) [.ref h, vI p0, vI p1] (fun z ws' => (IR z) ∧ (ws' = (wX10 cI cB cJ h q v_stalls v_claimMany v_taped v_place0 v_length0 v_fault v_number0 v_open v_codeMany v_waiting v_saidMany v_clauses v_newMany v_newStalls v_lines v_salesNow v_outNow v_isKept v_keptStalls v_now v_aside v_kept v_oneOf v_otherOf v_signOf v_byOf v_tape v_said v_waitsAt v_saidLetter v_saidFrom v_saidHalf v_saidTo v_codes v_clauseOf v_codeFrom v_codeHalf v_codeTo v_stack v_facts v_newOne v_newOther v_newSign v_newBy v_moreOf v_firstOf v_toldOf v_mostOf v_mostThen v_sumTo v_rowFrom v_ordersOf v_lessOf v_weightOf v_rowNow v_slowRow v_fastRow v_lineNow v_firstLine v_freeBy v_heldBy v_heightOf v_upTo v_downTo v_oftenOf v_newUpper v_newLower))) := by
  refine hdrI (own := RX10) rfl (by decide +kernel) (Nat.le_of_ble_eq_true rfl) ?_
  intro p e s m args below meth c Q A X hQ
  refine g_lvE (lv2 := [(0, .ref h), (1, vI p0), (2, vI p1)]) rfl ?_
  have hlow := low_ex p0 (by omega)
  refine g_iload_n X dX10_sumBy_0 1 rfl ?_
  refine g_iconst X dX10_sumBy_1 ?_
  refine g_iload_n X dX10_sumBy_2 2 rfl ?_
  refine g_ishl X dX10_sumBy_3 ?_
  refine g_nm (fun t3 e3 => ?_)
  have r3 : IR t3 := by rw [e3]; exact z_ir _
  refine g_iconst X dX10_sumBy_4 ?_
  refine g_ixor X dX10_sumBy_5 ?_
  refine g_nm (fun t5 e5 => ?_)
  have r5 : IR t5 := by rw [e5]; exact z_ir _
  refine g_iand X dX10_sumBy_6 ?_
  refine g_nm (fun t6 e6 => ?_)
  have r6 := z_iand_l p0 t5 (by omega) (by omega); rw [← e6] at r6
  refine g_istore_n X (lv' := [(3, vI t6), (0, .ref h), (1, vI p0), (2, vI p1)]) dX10_sumBy_7 (by decide) rfl ?_
  refine g_iload_n X dX10_sumBy_8 0 rfl ?_
  refine g_if_ne X (tgt := 14) dX10_sumBy_9 (by decide) (by omega) (fun c9 => ?_) (fun c9 => ?_)
  · refine g_iload_n X dX10_sumBy_14 3 rfl ?_
    refine g_iload_n X dX10_sumBy_15 2 rfl ?_
    refine g_callSIE X (c_X10_lowest l D cI cB cJ (p0 := p0) (by first | assumption | omega) (by first | assumption | omega)) cv_X10_lowest uw1528 ⟨rfl, rfl, by decide, by decide⟩ rfl rfl (Nat.le_of_ble_eq_true rfl) ⟨Nat.zero_le _, Nat.zero_le _⟩ dX10_sumBy_16 (fun t16 ws16 k16 => ?_)
    obtain ⟨kp0_16, kp1_16, kp2_16, rfl⟩ := k16
    refine g_icmp_ne X (tgt := 26) dX10_sumBy_19 (by decide) (by omega) (by omega) (fun c19 => ?_) (fun c19 => ?_)
    · refine g_ldcw X (z := 1000000) dX10_sumBy_26 uw1546 (by decide) ?_
      refine g_istore X (lv' := [(4, vI 1000000), (3, vI t6), (0, .ref h), (1, vI p0), (2, vI p1)]) dX10_sumBy_29 (by decide) rfl ?_
      refine g_iconst X dX10_sumBy_31 ?_
      refine g_istore X (lv' := [(5, vI 0), (4, vI 1000000), (3, vI t6), (0, .ref h), (1, vI p0), (2, vI p1)]) dX10_sumBy_32 (by decide) rfl ?_
      have L34 : ∀ (n : Nat) (x4_34 : Int) (x5_34 : Int), (0 ≤ x5_34 ∧ x5_34 ≤ 12) → (IR x4_34) → (12 - x5_34).toNat < n → GG p l e ⟨2, 0, 0, 42⟩ s m args below meth c 0 0 Q D A s.heap 6 (wX10 cI cB cJ h q v_stalls v_claimMany v_taped v_place0 v_length0 v_fault v_number0 v_open v_codeMany v_waiting v_saidMany v_clauses v_newMany v_newStalls v_lines v_salesNow v_outNow v_isKept v_keptStalls v_now v_aside v_kept v_oneOf v_otherOf v_signOf v_byOf v_tape v_said v_waitsAt v_saidLetter v_saidFrom v_saidHalf v_saidTo v_codes v_clauseOf v_codeFrom v_codeHalf v_codeTo v_stack v_facts v_newOne v_newOther v_newSign v_newBy v_moreOf v_firstOf v_toldOf v_mostOf v_mostThen v_sumTo v_rowFrom v_ordersOf v_lessOf v_weightOf v_rowNow v_slowRow v_fastRow v_lineNow v_firstLine v_freeBy v_heldBy v_heightOf v_upTo v_downTo v_oftenOf v_newUpper v_newLower) 34 [(0, .ref h), (2, vI p1), (3, vI t6), (4, vI x4_34), (5, vI x5_34)] [] := by
        intro n
        induction n with
        | zero => intros; exfalso; omega
        | succ n ih34 =>
          intro x4_34 x5_34 w34_0 w34_1 wm34
          refine g_iload X dX10_sumBy_34 4 rfl ?_
          refine g_bipush X (z := 12) dX10_sumBy_36 (by decide) ?_
          refine g_icmp_ge X (tgt := 114) dX10_sumBy_38 (by decide) (by omega) (by omega) (fun c38 => ?_) (fun c38 => ?_)
          · refine g_iload X dX10_sumBy_114 3 rfl ?_
            exact hQ _ _ _ _ dX10_sumBy_116 ⟨(by omega), rfl⟩
          · refine g_iload_n X dX10_sumBy_41 2 rfl ?_
            refine g_iload X dX10_sumBy_42 4 rfl ?_
            refine g_callSIE X (c_X10_has l D cI cB cJ (p0 := t6) (p1 := x5_34) (by first | assumption | omega) (by first | assumption | omega)) cv_X10_has uw1531 ⟨rfl, rfl, by decide, by decide⟩ rfl rfl (Nat.le_of_ble_eq_true rfl) ⟨Nat.zero_le _, Nat.zero_le _⟩ dX10_sumBy_44 (fun t44 ws44 k44 => ?_)
            obtain ⟨kb_44, ⟨kp0_44, rfl⟩⟩ := k44
            refine g_if_eq X (tgt := 108) dX10_sumBy_47 (by decide) (by omega) (fun c47 => ?_) (fun c47 => ?_)
            · clear kb_44
              replace kp0_44 := (kp0_44.resolve_left (fun h => absurd h.1 (by omega))).2
              refine g_iinc X (lv' := [(5, vI (x5_34 + 1)), (0, .ref h), (2, vI p1), (3, vI t6), (4, vI x4_34)]) dX10_sumBy_108 4 rfl (by decide) rfl ?_
              refine g_goto X (tgt := 34) dX10_sumBy_111 (by decide) ?_
              refine g_lv [1, 2, 3, 4, 0] rfl ?_
              exact ih34 x4_34 (x5_34 + 1) (by first | assumption | omega) (by first | assumption | omega) (by omega)
            · replace kb_44 := kb_44.resolve_left (fun h => c47 h)
              replace kp0_44 := kp0_44.resolve_right (fun h => c47 h.1)
              refine g_aload_n X dX10_sumBy_50 0 rfl ?_
              refine gM_get X 0 rfl 43 (by decide) uw1222 rfl dX10_sumBy_51 ?_
              refine g_bipush X (z := 12) dX10_sumBy_54 (by decide) ?_
              refine g_iload_n X dX10_sumBy_56 2 rfl ?_
              refine g_imul X dX10_sumBy_57 ?_
              refine g_iload X dX10_sumBy_58 4 rfl ?_
              refine g_iadd X dX10_sumBy_60 ?_
              refine g_iald X 31 0 rfl rfl (by omega) (by decide) dX10_sumBy_61 (fun t61 e61 => ?_)
              have r61 := r_v_sumTo ((12 * t6) + x5_34 : Int).toNat; rw [← e61] at r61
              refine g_ldcw X (z := 1000000) dX10_sumBy_62 uw1546 (by decide) ?_
              refine g_icmp_ge X (tgt := 108) dX10_sumBy_65 (by decide) (by omega) (by omega) (fun c65 => ?_) (fun c65 => ?_)
              · refine g_iinc X (lv' := [(5, vI (x5_34 + 1)), (0, .ref h), (2, vI p1), (3, vI t6), (4, vI x4_34)]) dX10_sumBy_108 4 rfl (by decide) rfl ?_
                refine g_goto X (tgt := 34) dX10_sumBy_111 (by decide) ?_
                refine g_lv [1, 2, 3, 4, 0] rfl ?_
                exact ih34 x4_34 (x5_34 + 1) (by first | assumption | omega) (by first | assumption | omega) (by omega)
              · refine g_aload_n X dX10_sumBy_68 0 rfl ?_
                refine g_iload X dX10_sumBy_69 4 rfl ?_
                refine g_iload_n X dX10_sumBy_71 1 rfl ?_
                refine g_callVI0 X (c_X10_told l D cI cB cJ h q (p0 := x5_34) (p1 := p1) r_v_toldOf (by first | assumption | omega) (by first | assumption | omega) (by first | assumption | omega) (by first | assumption | omega)) cv_X10_told uw1581 ⟨rfl, rfl, by decide, by decide⟩ 0 rfl rfl rfl rfl rfl (Nat.le_of_ble_eq_true rfl) ⟨Nat.zero_le _, Nat.zero_le _⟩ dX10_sumBy_72 (fun t72 ws72 k72 => ?_)
                obtain ⟨kp0_72, kp1_72, rfl⟩ := k72
                refine g_ldcw X (z := 1000000) dX10_sumBy_75 uw1546 (by decide) ?_
                refine g_icmp_ge X (tgt := 108) dX10_sumBy_78 (by decide) (by omega) (by omega) (fun c78 => ?_) (fun c78 => ?_)
                · refine g_iinc X (lv' := [(5, vI (x5_34 + 1)), (0, .ref h), (2, vI p1), (3, vI t6), (4, vI x4_34)]) dX10_sumBy_108 4 rfl (by decide) rfl ?_
                  refine g_goto X (tgt := 34) dX10_sumBy_111 (by decide) ?_
                  refine g_lv [1, 2, 3, 4, 0] rfl ?_
                  exact ih34 x4_34 (x5_34 + 1) (by first | assumption | omega) (by first | assumption | omega) (by omega)
                · refine g_iload X dX10_sumBy_81 3 rfl ?_
                  refine g_aload_n X dX10_sumBy_83 0 rfl ?_
                  refine gM_get X 0 rfl 43 (by decide) uw1222 rfl dX10_sumBy_84 ?_
                  refine g_bipush X (z := 12) dX10_sumBy_87 (by decide) ?_
                  refine g_iload_n X dX10_sumBy_89 2 rfl ?_
                  refine g_imul X dX10_sumBy_90 ?_
                  refine g_iload X dX10_sumBy_91 4 rfl ?_
                  refine g_iadd X dX10_sumBy_93 ?_
                  refine g_iald X 31 0 rfl rfl (by omega) (by decide) dX10_sumBy_94 (fun t94 e94 => ?_)
                  have r94 := r_v_sumTo ((12 * t6) + x5_34 : Int).toNat; rw [← e94] at r94
                  refine g_aload_n X dX10_sumBy_95 0 rfl ?_
                  refine g_iload X dX10_sumBy_96 4 rfl ?_
                  refine g_iload_n X dX10_sumBy_98 1 rfl ?_
                  refine g_callVI0 X (c_X10_told l D cI cB cJ h q (p0 := x5_34) (p1 := p1) r_v_toldOf (by first | assumption | omega) (by first | assumption | omega) (by first | assumption | omega) (by first | assumption | omega)) cv_X10_told uw1581 ⟨rfl, rfl, by decide, by decide⟩ 0 rfl rfl rfl rfl rfl (Nat.le_of_ble_eq_true rfl) ⟨Nat.zero_le _, Nat.zero_le _⟩ dX10_sumBy_99 (fun t99 ws99 k99 => ?_)
                  obtain ⟨kp0_99, kp1_99, rfl⟩ := k99
                  refine g_iadd X dX10_sumBy_102 ?_
                  refine g_nr (fun t102 e102 r102 => ?_)
                  refine g_callSIE X (c_X10_min l D cI cB cJ (p0 := x4_34) (p1 := t102) (by first | assumption | omega) (by first | assumption | omega)) cv_X10_min uw1551 ⟨rfl, rfl, by decide, by decide⟩ rfl rfl (Nat.le_of_ble_eq_true rfl) ⟨Nat.zero_le _, Nat.zero_le _⟩ dX10_sumBy_103 (fun t103 ws103 k103 => ?_)
                  obtain ⟨kp0_103, rfl⟩ := k103
                  refine g_istore X (lv' := [(4, vI t103), (0, .ref h), (2, vI p1), (3, vI t6), (5, vI x5_34)]) dX10_sumBy_106 (by decide) rfl ?_
                  refine g_iinc X (lv' := [(5, vI (x5_34 + 1)), (4, vI t103), (0, .ref h), (2, vI p1), (3, vI t6)]) dX10_sumBy_108 4 rfl (by decide) rfl ?_
                  refine g_goto X (tgt := 34) dX10_sumBy_111 (by decide) ?_
                  refine g_lv [2, 3, 4, 1, 0] rfl ?_
                  exact ih34 t103 (x5_34 + 1) (by first | assumption | omega) (by first | assumption | omega) (by omega)
      refine g_lv [3, 5, 2, 1, 0] rfl ?_
      exact L34 _ 1000000 0 (by first | assumption | omega) (by first | assumption | omega) (Nat.lt_succ_self _)
    · refine g_ldcw X (z := 1000000) dX10_sumBy_22 uw1546 (by decide) ?_
      exact hQ _ _ _ _ dX10_sumBy_25 ⟨(by omega), rfl⟩
  · refine g_iconst X dX10_sumBy_12 ?_
    exact hQ _ _ _ _ dX10_sumBy_13 ⟨(by omega), rfl⟩
set_option maxHeartbeats 4000000 in
set_option maxRecDepth 100000 in
theorem c_X10_laysRings (l : Launch) (D : va_G) (cI cB cJ : ClassId) (h : Nat) (q : Nat → Nat) {v_stalls v_claimMany v_taped v_place0 v_length0 v_fault v_number0 v_open v_codeMany v_waiting v_saidMany v_clauses v_newMany v_newStalls v_lines v_salesNow v_outNow v_isKept v_keptStalls : Int} {v_now v_aside v_kept v_oneOf v_otherOf v_signOf v_byOf v_tape v_said v_waitsAt v_saidLetter v_saidFrom v_saidHalf v_saidTo v_codes v_clauseOf v_codeFrom v_codeHalf v_codeTo v_stack v_facts v_newOne v_newOther v_newSign v_newBy v_moreOf v_firstOf v_toldOf v_mostOf v_mostThen v_sumTo v_rowFrom v_ordersOf v_lessOf v_weightOf v_rowNow v_slowRow v_fastRow v_lineNow v_firstLine v_freeBy v_heldBy v_heightOf v_upTo v_downTo v_oftenOf v_newUpper v_newLower : Nat → Int} (r_v_toldOf : RA (-9999) 1000000 v_toldOf) (r_v_sumTo : RA (-2147483648) 2147483647 v_sumTo) : CtV l yX10_laysRings cX10_laysRings 3 none ⟨3, 0, 0, 67⟩ D (TY cI cB cJ) (wX10 cI cB cJ h q v_stalls v_claimMany v_taped v_place0 v_length0 v_fault v_number0 v_open v_codeMany v_waiting v_saidMany v_clauses v_newMany v_newStalls v_lines v_salesNow v_outNow v_isKept v_keptStalls v_now v_aside v_kept v_oneOf v_otherOf v_signOf v_byOf v_tape v_said v_waitsAt v_saidLetter v_saidFrom v_saidHalf v_saidTo v_codes v_clauseOf v_codeFrom v_codeHalf v_codeTo v_stack v_facts v_newOne v_newOther v_newSign v_newBy v_moreOf v_firstOf v_toldOf v_mostOf v_mostThen v_sumTo v_rowFrom v_ordersOf v_lessOf v_weightOf v_rowNow v_slowRow v_fastRow v_lineNow v_firstLine v_freeBy v_heldBy v_heightOf v_upTo v_downTo v_oftenOf v_newUpper v_newLower) [.ref h] (fun ws' => ∃ n_sumTo : Nat → Int, (RA (-2147483648) 2147483647 n_sumTo) ∧ (ws' = (wX10 cI cB cJ h q v_stalls v_claimMany v_taped v_place0 v_length0 v_fault v_number0 v_open v_codeMany v_waiting v_saidMany v_clauses v_newMany v_newStalls v_lines v_salesNow v_outNow v_isKept v_keptStalls v_now v_aside v_kept v_oneOf v_otherOf v_signOf v_byOf v_tape v_said v_waitsAt v_saidLetter v_saidFrom v_saidHalf v_saidTo v_codes v_clauseOf v_codeFrom v_codeHalf v_codeTo v_stack v_facts v_newOne v_newOther v_newSign v_newBy v_moreOf v_firstOf v_toldOf v_mostOf v_mostThen n_sumTo v_rowFrom v_ordersOf v_lessOf v_weightOf v_rowNow v_slowRow v_fastRow v_lineNow v_firstLine v_freeBy v_heldBy v_heightOf v_upTo v_downTo v_oftenOf v_newUpper v_newLower))) := by
  refine hdrV (own := RX10) rfl (by decide +kernel) (Nat.le_of_ble_eq_true rfl) ?_
  intro p e s m args below meth c Q A X hQ
  refine g_lvE (lv2 := [(0, .ref h)]) rfl ?_
  refine g_iconst X dX10_laysRings_0 ?_
  refine g_istore_n X (lv' := [(1, vI 1), (0, .ref h)]) dX10_laysRings_1 (by decide) rfl ?_
  have L2 : ∀ (n : Nat) (x1_2 : Int) (sumTo_2 : Nat → Int), (RA (-2147483648) 2147483647 sumTo_2) → (1 ≤ x1_2 ∧ x1_2 ≤ 4096) → (4096 - x1_2).toNat < n → GG p l e ⟨3, 0, 0, 67⟩ s m args below meth c 0 0 Q D A s.heap 3 (wX10 cI cB cJ h q v_stalls v_claimMany v_taped v_place0 v_length0 v_fault v_number0 v_open v_codeMany v_waiting v_saidMany v_clauses v_newMany v_newStalls v_lines v_salesNow v_outNow v_isKept v_keptStalls v_now v_aside v_kept v_oneOf v_otherOf v_signOf v_byOf v_tape v_said v_waitsAt v_saidLetter v_saidFrom v_saidHalf v_saidTo v_codes v_clauseOf v_codeFrom v_codeHalf v_codeTo v_stack v_facts v_newOne v_newOther v_newSign v_newBy v_moreOf v_firstOf v_toldOf v_mostOf v_mostThen sumTo_2 v_rowFrom v_ordersOf v_lessOf v_weightOf v_rowNow v_slowRow v_fastRow v_lineNow v_firstLine v_freeBy v_heldBy v_heightOf v_upTo v_downTo v_oftenOf v_newUpper v_newLower) 2 [(0, .ref h), (1, vI x1_2)] [] := by
    intro n
    induction n with
    | zero => intros; exfalso; omega
    | succ n ih2 =>
      intro x1_2 sumTo_2 r_sumTo_2 w2_0 wm2
      refine g_iload_n X dX10_laysRings_2 1 rfl ?_
      refine g_sipush X (z := 4096) dX10_laysRings_3 (by decide) ?_
      refine g_icmp_ge X (tgt := 60) dX10_laysRings_6 (by decide) (by omega) (by omega) (fun c6 => ?_) (fun c6 => ?_)
      · exact hQ _ _ _ dX10_laysRings_60 ⟨sumTo_2, r_sumTo_2, rfl⟩
      · refine g_iconst X dX10_laysRings_9 ?_
        refine g_istore_n X (lv' := [(2, vI 0), (0, .ref h), (1, vI x1_2)]) dX10_laysRings_10 (by decide) rfl ?_
        have L11 : ∀ (n : Nat) (x2_11 : Int) (sumTo_11 : Nat → Int), (RA (-2147483648) 2147483647 sumTo_11) → (0 ≤ x2_11 ∧ x2_11 ≤ 12) → (12 - x2_11).toNat < n → GG p l e ⟨3, 0, 0, 67⟩ s m args below meth c 0 0 Q D A s.heap 3 (wX10 cI cB cJ h q v_stalls v_claimMany v_taped v_place0 v_length0 v_fault v_number0 v_open v_codeMany v_waiting v_saidMany v_clauses v_newMany v_newStalls v_lines v_salesNow v_outNow v_isKept v_keptStalls v_now v_aside v_kept v_oneOf v_otherOf v_signOf v_byOf v_tape v_said v_waitsAt v_saidLetter v_saidFrom v_saidHalf v_saidTo v_codes v_clauseOf v_codeFrom v_codeHalf v_codeTo v_stack v_facts v_newOne v_newOther v_newSign v_newBy v_moreOf v_firstOf v_toldOf v_mostOf v_mostThen sumTo_11 v_rowFrom v_ordersOf v_lessOf v_weightOf v_rowNow v_slowRow v_fastRow v_lineNow v_firstLine v_freeBy v_heldBy v_heightOf v_upTo v_downTo v_oftenOf v_newUpper v_newLower) 11 [(0, .ref h), (1, vI x1_2), (2, vI x2_11)] [] := by
          intro n
          induction n with
          | zero => intros; exfalso; omega
          | succ n ih11 =>
            intro x2_11 sumTo_11 r_sumTo_11 w11_0 wm11
            refine g_iload_n X dX10_laysRings_11 2 rfl ?_
            refine g_bipush X (z := 12) dX10_laysRings_12 (by decide) ?_
            refine g_icmp_ge X (tgt := 54) dX10_laysRings_14 (by decide) (by omega) (by omega) (fun c14 => ?_) (fun c14 => ?_)
            · refine g_iinc X (lv' := [(1, vI (x1_2 + 1)), (0, .ref h), (2, vI x2_11)]) dX10_laysRings_54 1 rfl (by decide) rfl ?_
              refine g_goto X (tgt := 2) dX10_laysRings_57 (by decide) ?_
              refine g_lv [1, 0] rfl ?_
              exact ih2 (x1_2 + 1) sumTo_11 r_sumTo_11 (by first | assumption | omega) (by omega)
            · refine g_aload_n X dX10_laysRings_17 0 rfl ?_
              refine gM_get X 0 rfl 43 (by decide) uw1222 rfl dX10_laysRings_18 ?_
              refine g_bipush X (z := 12) dX10_laysRings_21 (by decide) ?_
              refine g_iload_n X dX10_laysRings_23 1 rfl ?_
              refine g_imul X dX10_laysRings_24 ?_
              refine g_iload_n X dX10_laysRings_25 2 rfl ?_
              refine g_iadd X dX10_laysRings_26 ?_
              refine g_iload_n X dX10_laysRings_27 1 rfl ?_
              refine g_iload_n X dX10_laysRings_28 2 rfl ?_
              refine g_callSIE X (c_X10_has l D cI cB cJ (p0 := x1_2) (p1 := x2_11) (by first | assumption | omega) (by first | assumption | omega)) cv_X10_has uw1531 ⟨rfl, rfl, by decide, by decide⟩ rfl rfl (Nat.le_of_ble_eq_true rfl) ⟨Nat.zero_le _, Nat.zero_le _⟩ dX10_laysRings_29 (fun t29 ws29 k29 => ?_)
              obtain ⟨kb_29, ⟨kp0_29, rfl⟩⟩ := k29
              refine g_if_eq X (tgt := 44) dX10_laysRings_32 (by decide) (by omega) (fun c32 => ?_) (fun c32 => ?_)
              · refine g_ldcw X (z := 1000000) dX10_laysRings_44 uw1546 (by decide) ?_
                refine g_iast X 31 0 rfl rfl (by omega) (by decide) dX10_laysRings_47 (fun sumTo_47 e47 => ?_)
                have r_sumTo_47 : RA (-2147483648) 2147483647 sumTo_47 := by rw [e47]; exact RA_up r_sumTo_11 (by omega)
                refine g_ws (ws2 := (wX10 cI cB cJ h q v_stalls v_claimMany v_taped v_place0 v_length0 v_fault v_number0 v_open v_codeMany v_waiting v_saidMany v_clauses v_newMany v_newStalls v_lines v_salesNow v_outNow v_isKept v_keptStalls v_now v_aside v_kept v_oneOf v_otherOf v_signOf v_byOf v_tape v_said v_waitsAt v_saidLetter v_saidFrom v_saidHalf v_saidTo v_codes v_clauseOf v_codeFrom v_codeHalf v_codeTo v_stack v_facts v_newOne v_newOther v_newSign v_newBy v_moreOf v_firstOf v_toldOf v_mostOf v_mostThen sumTo_47 v_rowFrom v_ordersOf v_lessOf v_weightOf v_rowNow v_slowRow v_fastRow v_lineNow v_firstLine v_freeBy v_heldBy v_heightOf v_upTo v_downTo v_oftenOf v_newUpper v_newLower)) rfl ?_
                refine g_iinc X (lv' := [(2, vI (x2_11 + 1)), (0, .ref h), (1, vI x1_2)]) dX10_laysRings_48 2 rfl (by decide) rfl ?_
                refine g_goto X (tgt := 11) dX10_laysRings_51 (by decide) ?_
                refine g_lv [1, 2, 0] rfl ?_
                exact ih11 (x2_11 + 1) sumTo_47 r_sumTo_47 (by first | assumption | omega) (by omega)
              · refine g_aload_n X dX10_laysRings_35 0 rfl ?_
                refine g_iload_n X dX10_laysRings_36 1 rfl ?_
                refine g_iload_n X dX10_laysRings_37 2 rfl ?_
                refine g_callVI0 X (c_X10_sumBy l D cI cB cJ h q (p0 := x1_2) (p1 := x2_11) r_v_toldOf r_sumTo_11 (by first | assumption | omega) (by first | assumption | omega) (by first | assumption | omega) (by first | assumption | omega)) cv_X10_sumBy uw1577 ⟨rfl, rfl, by decide, by decide⟩ 0 rfl rfl rfl rfl rfl (Nat.le_of_ble_eq_true rfl) ⟨Nat.zero_le _, Nat.zero_le _⟩ dX10_laysRings_38 (fun t38 ws38 k38 => ?_)
                obtain ⟨kp0_38, rfl⟩ := k38
                refine g_goto X (tgt := 47) dX10_laysRings_41 (by decide) ?_
                refine g_iast X 31 0 rfl rfl (by omega) (by decide) dX10_laysRings_47 (fun sumTo_47 e47 => ?_)
                have r_sumTo_47 : RA (-2147483648) 2147483647 sumTo_47 := by rw [e47]; exact RA_up r_sumTo_11 (by omega)
                refine g_ws (ws2 := (wX10 cI cB cJ h q v_stalls v_claimMany v_taped v_place0 v_length0 v_fault v_number0 v_open v_codeMany v_waiting v_saidMany v_clauses v_newMany v_newStalls v_lines v_salesNow v_outNow v_isKept v_keptStalls v_now v_aside v_kept v_oneOf v_otherOf v_signOf v_byOf v_tape v_said v_waitsAt v_saidLetter v_saidFrom v_saidHalf v_saidTo v_codes v_clauseOf v_codeFrom v_codeHalf v_codeTo v_stack v_facts v_newOne v_newOther v_newSign v_newBy v_moreOf v_firstOf v_toldOf v_mostOf v_mostThen sumTo_47 v_rowFrom v_ordersOf v_lessOf v_weightOf v_rowNow v_slowRow v_fastRow v_lineNow v_firstLine v_freeBy v_heldBy v_heightOf v_upTo v_downTo v_oftenOf v_newUpper v_newLower)) rfl ?_
                refine g_iinc X (lv' := [(2, vI (x2_11 + 1)), (0, .ref h), (1, vI x1_2)]) dX10_laysRings_48 2 rfl (by decide) rfl ?_
                refine g_goto X (tgt := 11) dX10_laysRings_51 (by decide) ?_
                refine g_lv [1, 2, 0] rfl ?_
                exact ih11 (x2_11 + 1) sumTo_47 r_sumTo_47 (by first | assumption | omega) (by omega)
        refine g_lv [1, 2, 0] rfl ?_
        exact L11 _ 0 sumTo_2 r_sumTo_2 (by first | assumption | omega) (Nat.lt_succ_self _)
  refine g_lv [1, 0] rfl ?_
  exact L2 _ 1 v_sumTo r_v_sumTo (by first | assumption | omega) (Nat.lt_succ_self _)
set_option maxHeartbeats 4000000 in
set_option maxRecDepth 100000 in
theorem c_X10_isRing (l : Launch) (D : va_G) (cI cB cJ : ClassId) (h : Nat) (q : Nat → Nat) {v_stalls v_claimMany v_taped v_place0 v_length0 v_fault v_number0 v_open v_codeMany v_waiting v_saidMany v_clauses v_newMany v_newStalls v_lines v_salesNow v_outNow v_isKept v_keptStalls : Int} {v_now v_aside v_kept v_oneOf v_otherOf v_signOf v_byOf v_tape v_said v_waitsAt v_saidLetter v_saidFrom v_saidHalf v_saidTo v_codes v_clauseOf v_codeFrom v_codeHalf v_codeTo v_stack v_facts v_newOne v_newOther v_newSign v_newBy v_moreOf v_firstOf v_toldOf v_mostOf v_mostThen v_sumTo v_rowFrom v_ordersOf v_lessOf v_weightOf v_rowNow v_slowRow v_fastRow v_lineNow v_firstLine v_freeBy v_heldBy v_heightOf v_upTo v_downTo v_oftenOf v_newUpper v_newLower : Nat → Int} {p0 : Int} (r_v_toldOf : RA (-9999) 1000000 v_toldOf) (r_v_sumTo : RA (-2147483648) 2147483647 v_sumTo) (hp0 : IR p0) (hp1 : 1 ≤ p0 ∧ p0 ≤ 4095) : CtI l yX10_isRing cX10_isRing 4 (some .boolean) ⟨2, 0, 0, 42⟩ D (TY cI cB cJ) (wX10 cI cB cJ h q v_stalls v_claimMany v_taped v_place0 v_length0 v_fault v_number0 v_open v_codeMany v_waiting v_saidMany v_clauses v_newMany v_newStalls v_lines v_salesNow v_outNow v_isKept v_keptStalls v_now v_aside v_kept v_oneOf v_otherOf v_signOf v_byOf v_tape v_said v_waitsAt v_saidLetter v_saidFrom v_saidHalf v_saidTo v_codes v_clauseOf v_codeFrom v_codeHalf v_codeTo v_stack v_facts v_newOne v_newOther v_newSign v_newBy v_moreOf v_firstOf v_toldOf v_mostOf v_mostThen v_sumTo v_rowFrom v_ordersOf v_lessOf v_weightOf v_rowNow v_slowRow v_fastRow v_lineNow v_firstLine v_freeBy v_heldBy v_heightOf v_upTo v_downTo v_oftenOf v_newUpper v_newLower) [.ref h, vI p0] (fun z ws' => (z = 0 ∨ z = 1) ∧ (ws' = (wX10 cI cB cJ h q v_stalls v_claimMany v_taped v_place0 v_length0 v_fault v_number0 v_open v_codeMany v_waiting v_saidMany v_clauses v_newMany v_newStalls v_lines v_salesNow v_outNow v_isKept v_keptStalls v_now v_aside v_kept v_oneOf v_otherOf v_signOf v_byOf v_tape v_said v_waitsAt v_saidLetter v_saidFrom v_saidHalf v_saidTo v_codes v_clauseOf v_codeFrom v_codeHalf v_codeTo v_stack v_facts v_newOne v_newOther v_newSign v_newBy v_moreOf v_firstOf v_toldOf v_mostOf v_mostThen v_sumTo v_rowFrom v_ordersOf v_lessOf v_weightOf v_rowNow v_slowRow v_fastRow v_lineNow v_firstLine v_freeBy v_heldBy v_heightOf v_upTo v_downTo v_oftenOf v_newUpper v_newLower))) := by
  refine hdrZ (own := RX10) rfl (by decide +kernel) (Nat.le_of_ble_eq_true rfl) ?_
  intro p e s m args below meth c Q A X hQ
  refine g_lvE (lv2 := [(0, .ref h), (1, vI p0)]) rfl ?_
  have hlow := low_ex p0 (by omega)
  refine g_iload_n X dX10_isRing_0 1 rfl ?_
  refine g_callSIE X (c_X10_lowest l D cI cB cJ (p0 := p0) (by first | assumption | omega) (by first | assumption | omega)) cv_X10_lowest uw1528 ⟨rfl, rfl, by decide, by decide⟩ rfl rfl (Nat.le_of_ble_eq_true rfl) ⟨Nat.zero_le _, Nat.zero_le _⟩ dX10_isRing_1 (fun t1 ws1 k1 => ?_)
  obtain ⟨kp0_1, kp1_1, kp2_1, rfl⟩ := k1
  refine g_istore_n X (lv' := [(2, vI t1), (0, .ref h), (1, vI p0)]) dX10_isRing_4 (by decide) rfl ?_
  refine g_iconst X dX10_isRing_5 ?_
  refine g_istore_n X (lv' := [(3, vI 0), (2, vI t1), (0, .ref h), (1, vI p0)]) dX10_isRing_6 (by decide) rfl ?_
  have L7 : ∀ (n : Nat) (x3_7 : Int), (0 ≤ x3_7 ∧ x3_7 ≤ 12) → (12 - x3_7).toNat < n → GG p l e ⟨2, 0, 0, 42⟩ s m args below meth c 0 0 Q D A s.heap 4 (wX10 cI cB cJ h q v_stalls v_claimMany v_taped v_place0 v_length0 v_fault v_number0 v_open v_codeMany v_waiting v_saidMany v_clauses v_newMany v_newStalls v_lines v_salesNow v_outNow v_isKept v_keptStalls v_now v_aside v_kept v_oneOf v_otherOf v_signOf v_byOf v_tape v_said v_waitsAt v_saidLetter v_saidFrom v_saidHalf v_saidTo v_codes v_clauseOf v_codeFrom v_codeHalf v_codeTo v_stack v_facts v_newOne v_newOther v_newSign v_newBy v_moreOf v_firstOf v_toldOf v_mostOf v_mostThen v_sumTo v_rowFrom v_ordersOf v_lessOf v_weightOf v_rowNow v_slowRow v_fastRow v_lineNow v_firstLine v_freeBy v_heldBy v_heightOf v_upTo v_downTo v_oftenOf v_newUpper v_newLower) 7 [(0, .ref h), (1, vI p0), (2, vI t1), (3, vI x3_7)] [] := by
    intro n
    induction n with
    | zero => intros; exfalso; omega
    | succ n ih7 =>
      intro x3_7 w7_0 wm7
      refine g_iload_n X dX10_isRing_7 3 rfl ?_
      refine g_bipush X (z := 12) dX10_isRing_8 (by decide) ?_
      refine g_icmp_ge X (tgt := 76) dX10_isRing_10 (by decide) (by omega) (by omega) (fun c10 => ?_) (fun c10 => ?_)
      · refine g_iconst X dX10_isRing_76 ?_
        exact hQ _ _ _ _ dX10_isRing_77 ⟨by omega, rfl⟩
      · refine g_iload_n X dX10_isRing_13 3 rfl ?_
        refine g_iload_n X dX10_isRing_14 2 rfl ?_
        refine g_icmp_eq X (tgt := 70) dX10_isRing_15 (by decide) (by omega) (by omega) (fun c15 => ?_) (fun c15 => ?_)
        · refine g_iinc X (lv' := [(3, vI (x3_7 + 1)), (0, .ref h), (1, vI p0), (2, vI t1)]) dX10_isRing_70 3 rfl (by decide) rfl ?_
          refine g_goto X (tgt := 7) dX10_isRing_73 (by decide) ?_
          refine g_lv [1, 2, 3, 0] rfl ?_
          exact ih7 (x3_7 + 1) (by first | assumption | omega) (by omega)
        · refine g_aload_n X dX10_isRing_18 0 rfl ?_
          refine gM_get X 0 rfl 43 (by decide) uw1222 rfl dX10_isRing_19 ?_
          refine g_bipush X (z := 12) dX10_isRing_22 (by decide) ?_
          refine g_iload_n X dX10_isRing_24 1 rfl ?_
          refine g_imul X dX10_isRing_25 ?_
          refine g_iload_n X dX10_isRing_26 3 rfl ?_
          refine g_iadd X dX10_isRing_27 ?_
          refine g_iald X 31 0 rfl rfl (by omega) (by decide) dX10_isRing_28 (fun t28 e28 => ?_)
          have r28 := r_v_sumTo ((12 * p0) + x3_7 : Int).toNat; rw [← e28] at r28
          refine g_ldcw X (z := 1000000) dX10_isRing_29 uw1546 (by decide) ?_
          refine g_icmp_ge X (tgt := 70) dX10_isRing_32 (by decide) (by omega) (by omega) (fun c32 => ?_) (fun c32 => ?_)
          · refine g_iinc X (lv' := [(3, vI (x3_7 + 1)), (0, .ref h), (1, vI p0), (2, vI t1)]) dX10_isRing_70 3 rfl (by decide) rfl ?_
            refine g_goto X (tgt := 7) dX10_isRing_73 (by decide) ?_
            refine g_lv [1, 2, 3, 0] rfl ?_
            exact ih7 (x3_7 + 1) (by first | assumption | omega) (by omega)
          · refine g_aload_n X dX10_isRing_35 0 rfl ?_
            refine g_iload_n X dX10_isRing_36 3 rfl ?_
            refine g_iload_n X dX10_isRing_37 2 rfl ?_
            refine g_callVI0 X (c_X10_told l D cI cB cJ h q (p0 := x3_7) (p1 := t1) r_v_toldOf (by first | assumption | omega) (by first | assumption | omega) (by first | assumption | omega) (by first | assumption | omega)) cv_X10_told uw1581 ⟨rfl, rfl, by decide, by decide⟩ 0 rfl rfl rfl rfl rfl (Nat.le_of_ble_eq_true rfl) ⟨Nat.zero_le _, Nat.zero_le _⟩ dX10_isRing_38 (fun t38 ws38 k38 => ?_)
            obtain ⟨kp0_38, kp1_38, rfl⟩ := k38
            refine g_ldcw X (z := 1000000) dX10_isRing_41 uw1546 (by decide) ?_
            refine g_icmp_ge X (tgt := 70) dX10_isRing_44 (by decide) (by omega) (by omega) (fun c44 => ?_) (fun c44 => ?_)
            · refine g_iinc X (lv' := [(3, vI (x3_7 + 1)), (0, .ref h), (1, vI p0), (2, vI t1)]) dX10_isRing_70 3 rfl (by decide) rfl ?_
              refine g_goto X (tgt := 7) dX10_isRing_73 (by decide) ?_
              refine g_lv [1, 2, 3, 0] rfl ?_
              exact ih7 (x3_7 + 1) (by first | assumption | omega) (by omega)
            · refine g_aload_n X dX10_isRing_47 0 rfl ?_
              refine gM_get X 0 rfl 43 (by decide) uw1222 rfl dX10_isRing_48 ?_
              refine g_bipush X (z := 12) dX10_isRing_51 (by decide) ?_
              refine g_iload_n X dX10_isRing_53 1 rfl ?_
              refine g_imul X dX10_isRing_54 ?_
              refine g_iload_n X dX10_isRing_55 3 rfl ?_
              refine g_iadd X dX10_isRing_56 ?_
              refine g_iald X 31 0 rfl rfl (by omega) (by decide) dX10_isRing_57 (fun t57 e57 => ?_)
              have r57 := r_v_sumTo ((12 * p0) + x3_7 : Int).toNat; rw [← e57] at r57
              refine g_aload_n X dX10_isRing_58 0 rfl ?_
              refine g_iload_n X dX10_isRing_59 3 rfl ?_
              refine g_iload_n X dX10_isRing_60 2 rfl ?_
              refine g_callVI0 X (c_X10_told l D cI cB cJ h q (p0 := x3_7) (p1 := t1) r_v_toldOf (by first | assumption | omega) (by first | assumption | omega) (by first | assumption | omega) (by first | assumption | omega)) cv_X10_told uw1581 ⟨rfl, rfl, by decide, by decide⟩ 0 rfl rfl rfl rfl rfl (Nat.le_of_ble_eq_true rfl) ⟨Nat.zero_le _, Nat.zero_le _⟩ dX10_isRing_61 (fun t61 ws61 k61 => ?_)
              obtain ⟨kp0_61, kp1_61, rfl⟩ := k61
              refine g_iadd X dX10_isRing_64 ?_
              refine g_nr (fun t64 e64 r64 => ?_)
              refine g_if_ge X (tgt := 70) dX10_isRing_65 (by decide) (by omega) (fun c65 => ?_) (fun c65 => ?_)
              · refine g_iinc X (lv' := [(3, vI (x3_7 + 1)), (0, .ref h), (1, vI p0), (2, vI t1)]) dX10_isRing_70 3 rfl (by decide) rfl ?_
                refine g_goto X (tgt := 7) dX10_isRing_73 (by decide) ?_
                refine g_lv [1, 2, 3, 0] rfl ?_
                exact ih7 (x3_7 + 1) (by first | assumption | omega) (by omega)
              · refine g_iconst X dX10_isRing_68 ?_
                exact hQ _ _ _ _ dX10_isRing_69 ⟨by omega, rfl⟩
  refine g_lv [2, 3, 1, 0] rfl ?_
  exact L7 _ 0 (by first | assumption | omega) (Nat.lt_succ_self _)
set_option maxHeartbeats 4000000 in
set_option maxRecDepth 100000 in
theorem c_X10_leastRing (l : Launch) (D : va_G) (cI cB cJ : ClassId) (h : Nat) (q : Nat → Nat) {v_stalls v_claimMany v_taped v_place0 v_length0 v_fault v_number0 v_open v_codeMany v_waiting v_saidMany v_clauses v_newMany v_newStalls v_lines v_salesNow v_outNow v_isKept v_keptStalls : Int} {v_now v_aside v_kept v_oneOf v_otherOf v_signOf v_byOf v_tape v_said v_waitsAt v_saidLetter v_saidFrom v_saidHalf v_saidTo v_codes v_clauseOf v_codeFrom v_codeHalf v_codeTo v_stack v_facts v_newOne v_newOther v_newSign v_newBy v_moreOf v_firstOf v_toldOf v_mostOf v_mostThen v_sumTo v_rowFrom v_ordersOf v_lessOf v_weightOf v_rowNow v_slowRow v_fastRow v_lineNow v_firstLine v_freeBy v_heldBy v_heightOf v_upTo v_downTo v_oftenOf v_newUpper v_newLower : Nat → Int} (kr_v_claimMany : 0 ≤ v_claimMany ∧ v_claimMany ≤ 40) (r_v_oneOf : RA 0 11 v_oneOf) (r_v_otherOf : RA 0 11 v_otherOf) (r_v_signOf : RA (-2147483648) 2147483647 v_signOf) (r_v_byOf : RA (-9999) 9999 v_byOf) (r_v_toldOf : RA (-9999) 1000000 v_toldOf) (r_v_sumTo : RA (-2147483648) 2147483647 v_sumTo) : CtI l yX10_leastRing cX10_leastRing 3 (some .int) ⟨4, 0, 0, 89⟩ D (TY cI cB cJ) (wX10 cI cB cJ h q v_stalls v_claimMany v_taped v_place0 v_length0 v_fault v_number0 v_open v_codeMany v_waiting v_saidMany v_clauses v_newMany v_newStalls v_lines v_salesNow v_outNow v_isKept v_keptStalls v_now v_aside v_kept v_oneOf v_otherOf v_signOf v_byOf v_tape v_said v_waitsAt v_saidLetter v_saidFrom v_saidHalf v_saidTo v_codes v_clauseOf v_codeFrom v_codeHalf v_codeTo v_stack v_facts v_newOne v_newOther v_newSign v_newBy v_moreOf v_firstOf v_toldOf v_mostOf v_mostThen v_sumTo v_rowFrom v_ordersOf v_lessOf v_weightOf v_rowNow v_slowRow v_fastRow v_lineNow v_firstLine v_freeBy v_heldBy v_heightOf v_upTo v_downTo v_oftenOf v_newUpper v_newLower) [.ref h] (fun z ws' => ∃ n_toldOf : Nat → Int, ∃ n_sumTo : Nat → Int, (RA (-9999) 1000000 n_toldOf) ∧ (RA (-2147483648) 2147483647 n_sumTo) ∧ (IR z) ∧ (ws' = (wX10 cI cB cJ h q v_stalls v_claimMany v_taped v_place0 v_length0 v_fault v_number0 v_open v_codeMany v_waiting v_saidMany v_clauses v_newMany v_newStalls v_lines v_salesNow v_outNow v_isKept v_keptStalls v_now v_aside v_kept v_oneOf v_otherOf v_signOf v_byOf v_tape v_said v_waitsAt v_saidLetter v_saidFrom v_saidHalf v_saidTo v_codes v_clauseOf v_codeFrom v_codeHalf v_codeTo v_stack v_facts v_newOne v_newOther v_newSign v_newBy v_moreOf v_firstOf n_toldOf v_mostOf v_mostThen n_sumTo v_rowFrom v_ordersOf v_lessOf v_weightOf v_rowNow v_slowRow v_fastRow v_lineNow v_firstLine v_freeBy v_heldBy v_heightOf v_upTo v_downTo v_oftenOf v_newUpper v_newLower))) := by
  refine hdrI (own := RX10) rfl (by decide +kernel) (Nat.le_of_ble_eq_true rfl) ?_
  intro p e s m args below meth c Q A X hQ
  refine g_lvE (lv2 := [(0, .ref h)]) rfl ?_
  refine g_sipush X (z := 4095) dX10_leastRing_0 (by decide) ?_
  refine g_istore_n X (lv' := [(1, vI 4095), (0, .ref h)]) dX10_leastRing_3 (by decide) rfl ?_
  refine g_aload_n X dX10_leastRing_4 1 rfl ?_
  refine g_iconst X dX10_leastRing_5 ?_
  refine g_callVV0 X (c_X10_laysTold l D cI cB cJ h q (p0 := (-1)) (by omega) r_v_oneOf r_v_otherOf r_v_signOf r_v_byOf r_v_toldOf (by first | assumption | omega)) cv_X10_laysTold uw1542 ⟨rfl, rfl, by decide, by decide⟩ 0 rfl rfl rfl rfl rfl (Nat.le_of_ble_eq_true rfl) ⟨Nat.zero_le _, Nat.zero_le _⟩ dX10_leastRing_6 (fun ws6 k6 => ?_)
  obtain ⟨toldOf_6, r_toldOf_6, kp0_6, rfl⟩ := k6
  refine g_aload_n X dX10_leastRing_9 1 rfl ?_
  refine g_callVV0 X (c_X10_laysRings l D cI cB cJ h q  r_toldOf_6 r_v_sumTo) cv_X10_laysRings uw1573 ⟨rfl, rfl, by decide, by decide⟩ 0 rfl rfl rfl rfl rfl (Nat.le_of_ble_eq_true rfl) ⟨Nat.zero_le _, Nat.zero_le _⟩ dX10_leastRing_10 (fun ws10 k10 => ?_)
  obtain ⟨sumTo_10, r_sumTo_10, rfl⟩ := k10
  refine g_sipush X (z := 4095) dX10_leastRing_13 (by decide) ?_
  refine g_istore_n X (lv' := [(2, vI 4095), (1, vI 4095), (0, .ref h)]) dX10_leastRing_16 (by decide) rfl ?_
  have L17 : ∀ (n : Nat) (x1_17 : Int) (x2_17 : Int), (0 ≤ x2_17 ∧ x2_17 ≤ 4095) → (1 ≤ x1_17 ∧ x1_17 ≤ 4095) → (x2_17).toNat < n → GG p l e ⟨4, 0, 0, 89⟩ s m args below meth c 0 0 Q D A s.heap 3 (wX10 cI cB cJ h q v_stalls v_claimMany v_taped v_place0 v_length0 v_fault v_number0 v_open v_codeMany v_waiting v_saidMany v_clauses v_newMany v_newStalls v_lines v_salesNow v_outNow v_isKept v_keptStalls v_now v_aside v_kept v_oneOf v_otherOf v_signOf v_byOf v_tape v_said v_waitsAt v_saidLetter v_saidFrom v_saidHalf v_saidTo v_codes v_clauseOf v_codeFrom v_codeHalf v_codeTo v_stack v_facts v_newOne v_newOther v_newSign v_newBy v_moreOf v_firstOf toldOf_6 v_mostOf v_mostThen sumTo_10 v_rowFrom v_ordersOf v_lessOf v_weightOf v_rowNow v_slowRow v_fastRow v_lineNow v_firstLine v_freeBy v_heldBy v_heightOf v_upTo v_downTo v_oftenOf v_newUpper v_newLower) 17 [(0, .ref h), (1, vI x1_17), (2, vI x2_17)] [] := by
    intro n
    induction n with
    | zero => intros; exfalso; omega
    | succ n ih17 =>
      intro x1_17 x2_17 w17_0 w17_1 wm17
      refine g_iload_n X dX10_leastRing_17 2 rfl ?_
      refine g_if_le X (tgt := 56) dX10_leastRing_18 (by decide) (by omega) (fun c18 => ?_) (fun c18 => ?_)
      · refine g_iload_n X dX10_leastRing_56 1 rfl ?_
        exact hQ _ _ _ _ dX10_leastRing_57 ⟨toldOf_6, sumTo_10, r_toldOf_6, r_sumTo_10, (by omega), rfl⟩
      · refine g_iload_n X dX10_leastRing_21 2 rfl ?_
        refine g_callSIE X (c_X10_bits l D cI cB cJ (p0 := x2_17) (by first | assumption | omega)) cv_X10_bits uw1585 ⟨rfl, rfl, by decide, by decide⟩ rfl rfl (Nat.le_of_ble_eq_true rfl) ⟨Nat.zero_le _, Nat.zero_le _⟩ dX10_leastRing_22 (fun t22 ws22 k22 => ?_)
        obtain ⟨kp0_22, rfl⟩ := k22
        refine g_iload_n X dX10_leastRing_25 1 rfl ?_
        refine g_callSIE X (c_X10_bits l D cI cB cJ (p0 := x1_17) (by first | assumption | omega)) cv_X10_bits uw1585 ⟨rfl, rfl, by decide, by decide⟩ rfl rfl (Nat.le_of_ble_eq_true rfl) ⟨Nat.zero_le _, Nat.zero_le _⟩ dX10_leastRing_26 (fun t26 ws26 k26 => ?_)
        obtain ⟨kp0_26, rfl⟩ := k26
        refine g_icmp_gt X (tgt := 50) dX10_leastRing_29 (by decide) (by omega) (by omega) (fun c29 => ?_) (fun c29 => ?_)
        · refine g_iinc X (lv' := [(2, vI (x2_17 + (-1))), (0, .ref h), (1, vI x1_17)]) dX10_leastRing_50 2 rfl (by decide) rfl ?_
          refine g_goto X (tgt := 17) dX10_leastRing_53 (by decide) ?_
          refine g_lv [1, 2, 0] rfl ?_
          exact ih17 x1_17 (x2_17 + (-1)) (by first | assumption | omega) (by first | assumption | omega) (by omega)
        · refine g_iload_n X dX10_leastRing_32 2 rfl ?_
          refine g_callSIE X (c_X10_bits l D cI cB cJ (p0 := x2_17) (by first | assumption | omega)) cv_X10_bits uw1585 ⟨rfl, rfl, by decide, by decide⟩ rfl rfl (Nat.le_of_ble_eq_true rfl) ⟨Nat.zero_le _, Nat.zero_le _⟩ dX10_leastRing_33 (fun t33 ws33 k33 => ?_)
          obtain ⟨kp0_33, rfl⟩ := k33
          refine g_iconst X dX10_leastRing_36 ?_
          refine g_icmp_le X (tgt := 50) dX10_leastRing_37 (by decide) (by omega) (by omega) (fun c37 => ?_) (fun c37 => ?_)
          · refine g_iinc X (lv' := [(2, vI (x2_17 + (-1))), (0, .ref h), (1, vI x1_17)]) dX10_leastRing_50 2 rfl (by decide) rfl ?_
            refine g_goto X (tgt := 17) dX10_leastRing_53 (by decide) ?_
            refine g_lv [1, 2, 0] rfl ?_
            exact ih17 x1_17 (x2_17 + (-1)) (by first | assumption | omega) (by first | assumption | omega) (by omega)
          · refine g_aload_n X dX10_leastRing_40 0 rfl ?_
            refine g_iload_n X dX10_leastRing_41 2 rfl ?_
            refine g_callVI0 X (c_X10_isRing l D cI cB cJ h q (p0 := x2_17) r_toldOf_6 r_sumTo_10 (by first | assumption | omega) (by first | assumption | omega)) cv_X10_isRing uw1588 ⟨rfl, rfl, by decide, by decide⟩ 0 rfl rfl rfl rfl rfl (Nat.le_of_ble_eq_true rfl) ⟨Nat.zero_le _, Nat.zero_le _⟩ dX10_leastRing_42 (fun t42 ws42 k42 => ?_)
            obtain ⟨kb_42, rfl⟩ := k42
            refine g_if_eq X (tgt := 50) dX10_leastRing_45 (by decide) (by omega) (fun c45 => ?_) (fun c45 => ?_)
            · refine g_iinc X (lv' := [(2, vI (x2_17 + (-1))), (0, .ref h), (1, vI x1_17)]) dX10_leastRing_50 2 rfl (by decide) rfl ?_
              refine g_goto X (tgt := 17) dX10_leastRing_53 (by decide) ?_
              refine g_lv [1, 2, 0] rfl ?_
              exact ih17 x1_17 (x2_17 + (-1)) (by first | assumption | omega) (by first | assumption | omega) (by omega)
            · refine g_iload_n X dX10_leastRing_48 2 rfl ?_
              refine g_istore_n X (lv' := [(1, vI x2_17), (0, .ref h), (2, vI x2_17)]) dX10_leastRing_49 (by decide) rfl ?_
              refine g_iinc X (lv' := [(2, vI (x2_17 + (-1))), (1, vI x2_17), (0, .ref h)]) dX10_leastRing_50 2 rfl (by decide) rfl ?_
              refine g_goto X (tgt := 17) dX10_leastRing_53 (by decide) ?_
              refine g_lv [2, 1, 0] rfl ?_
              exact ih17 x2_17 (x2_17 + (-1)) (by first | assumption | omega) (by first | assumption | omega) (by omega)
  refine g_lv [2, 1, 0] rfl ?_
  exact L17 _ 4095 4095 (by first | assumption | omega) (by first | assumption | omega) (Nat.lt_succ_self _)
set_option maxHeartbeats 4000000 in
set_option maxRecDepth 100000 in
theorem c_X10_canBe (l : Launch) (D : va_G) (cI cB cJ : ClassId) (h : Nat) (q : Nat → Nat) {v_stalls v_claimMany v_taped v_place0 v_length0 v_fault v_number0 v_open v_codeMany v_waiting v_saidMany v_clauses v_newMany v_newStalls v_lines v_salesNow v_outNow v_isKept v_keptStalls : Int} {v_now v_aside v_kept v_oneOf v_otherOf v_signOf v_byOf v_tape v_said v_waitsAt v_saidLetter v_saidFrom v_saidHalf v_saidTo v_codes v_clauseOf v_codeFrom v_codeHalf v_codeTo v_stack v_facts v_newOne v_newOther v_newSign v_newBy v_moreOf v_firstOf v_toldOf v_mostOf v_mostThen v_sumTo v_rowFrom v_ordersOf v_lessOf v_weightOf v_rowNow v_slowRow v_fastRow v_lineNow v_firstLine v_freeBy v_heldBy v_heightOf v_upTo v_downTo v_oftenOf v_newUpper v_newLower : Nat → Int} {p0 : Int} (kr_v_claimMany : 0 ≤ v_claimMany ∧ v_claimMany ≤ 40) (r_v_oneOf : RA 0 11 v_oneOf) (r_v_otherOf : RA 0 11 v_otherOf) (r_v_signOf : RA (-2147483648) 2147483647 v_signOf) (r_v_byOf : RA (-9999) 9999 v_byOf) (r_v_toldOf : RA (-9999) 1000000 v_toldOf) (r_v_mostOf : RA (-1000000) 1000000 v_mostOf) (r_v_sumTo : RA (-2147483648) 2147483647 v_sumTo) (hp0 : IR p0) (hp1 : ∀ j : Nat, (j : Int) < v_claimMany → v_oneOf j ≠ v_otherOf j) : CtI l yX10_canBe cX10_canBe 4 (some .int) ⟨5, 0, 0, 111⟩ D (TY cI cB cJ) (wX10 cI cB cJ h q v_stalls v_claimMany v_taped v_place0 v_length0 v_fault v_number0 v_open v_codeMany v_waiting v_saidMany v_clauses v_newMany v_newStalls v_lines v_salesNow v_outNow v_isKept v_keptStalls v_now v_aside v_kept v_oneOf v_otherOf v_signOf v_byOf v_tape v_said v_waitsAt v_saidLetter v_saidFrom v_saidHalf v_saidTo v_codes v_clauseOf v_codeFrom v_codeHalf v_codeTo v_stack v_facts v_newOne v_newOther v_newSign v_newBy v_moreOf v_firstOf v_toldOf v_mostOf v_mostThen v_sumTo v_rowFrom v_ordersOf v_lessOf v_weightOf v_rowNow v_slowRow v_fastRow v_lineNow v_firstLine v_freeBy v_heldBy v_heightOf v_upTo v_downTo v_oftenOf v_newUpper v_newLower) [.ref h, vI p0] (fun z ws' => ∃ n_toldOf : Nat → Int, ∃ n_mostOf : Nat → Int, ∃ n_sumTo : Nat → Int, (RA (-9999) 1000000 n_toldOf) ∧ (RA (-1000000) 1000000 n_mostOf) ∧ (RA (-2147483648) 2147483647 n_sumTo) ∧ (IR z) ∧ (ws' = (wX10 cI cB cJ h q v_stalls v_claimMany v_taped v_place0 v_length0 v_fault v_number0 v_open v_codeMany v_waiting v_saidMany v_clauses v_newMany v_newStalls v_lines v_salesNow v_outNow v_isKept v_keptStalls v_now v_aside v_kept v_oneOf v_otherOf v_signOf v_byOf v_tape v_said v_waitsAt v_saidLetter v_saidFrom v_saidHalf v_saidTo v_codes v_clauseOf v_codeFrom v_codeHalf v_codeTo v_stack v_facts v_newOne v_newOther v_newSign v_newBy v_moreOf v_firstOf n_toldOf n_mostOf v_mostThen n_sumTo v_rowFrom v_ordersOf v_lessOf v_weightOf v_rowNow v_slowRow v_fastRow v_lineNow v_firstLine v_freeBy v_heldBy v_heightOf v_upTo v_downTo v_oftenOf v_newUpper v_newLower))) := by
  refine hdrI (own := RX10) rfl (by decide +kernel) (Nat.le_of_ble_eq_true rfl) ?_
  intro p e s m args below meth c Q A X hQ
  refine g_lvE (lv2 := [(0, .ref h), (1, vI p0)]) rfl ?_
  refine g_iload_n X dX10_canBe_0 1 rfl ?_
  refine g_iconst X dX10_canBe_1 ?_
  refine g_iconst X dX10_canBe_2 ?_
  refine g_callSIE X (c_X10_in l D cI cB cJ (p0 := p0) (p1 := 0) (p2 := 2) (by first | assumption | omega) (by first | assumption | omega) (by first | assumption | omega)) cv_X10_in uw1394 ⟨rfl, rfl, by decide, by decide⟩ rfl rfl (Nat.le_of_ble_eq_true rfl) ⟨Nat.zero_le _, Nat.zero_le _⟩ dX10_canBe_3 (fun t3 ws3 k3 => ?_)
  obtain ⟨kb_3, ⟨kp0_3, rfl⟩⟩ := k3
  refine g_if_ne X (tgt := 11) dX10_canBe_6 (by decide) (by omega) (fun c6 => ?_) (fun c6 => ?_)
  · refine g_aload_n X dX10_canBe_11 0 rfl ?_
    refine g_iconst X dX10_canBe_12 ?_
    refine g_callVV0 X (c_X10_laysMost l D cI cB cJ h q (p0 := (-1)) (by omega) r_v_oneOf r_v_otherOf r_v_signOf r_v_byOf r_v_toldOf r_v_mostOf (by first | assumption | omega) (by first | assumption | omega)) cv_X10_laysMost uw1538 ⟨rfl, rfl, by decide, by decide⟩ 0 rfl rfl rfl rfl rfl (Nat.le_of_ble_eq_true rfl) ⟨Nat.zero_le _, Nat.zero_le _⟩ dX10_canBe_13 (fun ws13 k13 => ?_)
    obtain ⟨toldOf_13, mostOf_13, r_toldOf_13, r_mostOf_13, kp0_13, kp1_13, rfl⟩ := k13
    refine g_aload_n X dX10_canBe_16 0 rfl ?_
    refine g_callVI0 X (c_X10_canBeSo l D cI cB cJ h q  r_mostOf_13) cv_X10_canBeSo uw1557 ⟨rfl, rfl, by decide, by decide⟩ 0 rfl rfl rfl rfl rfl (Nat.le_of_ble_eq_true rfl) ⟨Nat.zero_le _, Nat.zero_le _⟩ dX10_canBe_17 (fun t17 ws17 k17 => ?_)
    obtain ⟨kb_17, ⟨kp0_17, rfl⟩⟩ := k17
    refine g_istore_n X (lv' := [(2, vI t17), (0, .ref h), (1, vI p0)]) dX10_canBe_20 (by decide) rfl ?_
    refine g_iload_n X dX10_canBe_21 2 rfl ?_
    refine g_if_ne X (tgt := 35) dX10_canBe_22 (by decide) (by omega) (fun c22 => ?_) (fun c22 => ?_)
    · refine g_iload_n X dX10_canBe_35 0 rfl ?_
      refine g_if_eq X (tgt := 42) dX10_canBe_36 (by decide) (by omega) (fun c36 => ?_) (fun c36 => ?_)
      · refine g_aload_n X dX10_canBe_42 1 rfl ?_
        refine g_callVI0 X (c_X10_leastRing l D cI cB cJ h q  (by omega) r_v_oneOf r_v_otherOf r_v_signOf r_v_byOf r_toldOf_13 r_v_sumTo) cv_X10_leastRing uw1569 ⟨rfl, rfl, by decide, by decide⟩ 0 rfl rfl rfl rfl rfl (Nat.le_of_ble_eq_true rfl) ⟨Nat.zero_le _, Nat.zero_le _⟩ dX10_canBe_43 (fun t43 ws43 k43 => ?_)
        obtain ⟨toldOf_43, sumTo_43, r_toldOf_43, r_sumTo_43, kp0_43, rfl⟩ := k43
        refine g_istore_n X (lv' := [(3, vI t43), (2, vI t17), (0, .ref h), (1, vI p0)]) dX10_canBe_46 (by decide) rfl ?_
        refine g_iload_n X dX10_canBe_47 3 rfl ?_
        refine g_iconst X dX10_canBe_48 ?_
        refine g_icmp_ne X (tgt := 59) dX10_canBe_49 (by decide) (by omega) (by omega) (fun c49 => ?_) (fun c49 => ?_)
        · refine g_iload_n X dX10_canBe_59 0 rfl ?_
          exact hQ _ _ _ _ dX10_canBe_60 ⟨toldOf_43, mostOf_13, sumTo_43, r_toldOf_43, r_mostOf_13, r_sumTo_43, (by omega), rfl⟩
        · refine g_iload_n X dX10_canBe_52 0 rfl ?_
          refine g_callSIE X (c_X10_bits l D cI cB cJ (p0 := t43) (by first | assumption | omega)) cv_X10_bits uw1585 ⟨rfl, rfl, by decide, by decide⟩ rfl rfl (Nat.le_of_ble_eq_true rfl) ⟨Nat.zero_le _, Nat.zero_le _⟩ dX10_canBe_53 (fun t53 ws53 k53 => ?_)
          obtain ⟨kp0_53, rfl⟩ := k53
          refine g_goto X (tgt := 60) dX10_canBe_56 (by decide) ?_
          exact hQ _ _ _ _ dX10_canBe_60 ⟨toldOf_43, mostOf_13, sumTo_43, r_toldOf_43, r_mostOf_13, r_sumTo_43, (by omega), rfl⟩
      · refine g_bipush X (z := (-2)) dX10_canBe_39 (by decide) ?_
        exact hQ _ _ _ _ dX10_canBe_41 ⟨toldOf_13, mostOf_13, v_sumTo, r_toldOf_13, r_mostOf_13, r_v_sumTo, (by omega), rfl⟩
    · refine g_iload_n X dX10_canBe_25 0 rfl ?_
      refine g_if_eq X (tgt := 33) dX10_canBe_26 (by decide) (by omega) (fun c26 => ?_) (fun c26 => ?_)
      · refine g_iconst X dX10_canBe_33 ?_
        exact hQ _ _ _ _ dX10_canBe_34 ⟨toldOf_13, mostOf_13, v_sumTo, r_toldOf_13, r_mostOf_13, r_v_sumTo, (by omega), rfl⟩
      · refine g_iconst X dX10_canBe_29 ?_
        refine g_goto X (tgt := 34) dX10_canBe_30 (by decide) ?_
        exact hQ _ _ _ _ dX10_canBe_34 ⟨toldOf_13, mostOf_13, v_sumTo, r_toldOf_13, r_mostOf_13, r_v_sumTo, (by omega), rfl⟩
  · refine g_iconst X dX10_canBe_9 ?_
    exact hQ _ _ _ _ dX10_canBe_10 ⟨v_toldOf, v_mostOf, v_sumTo, r_v_toldOf, r_v_mostOf, r_v_sumTo, (by omega), rfl⟩
