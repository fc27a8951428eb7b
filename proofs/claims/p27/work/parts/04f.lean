set_option maxHeartbeats 4000000 in
set_option maxRecDepth 100000 in
theorem c_X10_weighings (l : Launch) (D : va_G) (cI cB cJ : ClassId) (h : Nat) (q : Nat → Nat) {v_stalls v_claimMany v_taped v_place0 v_length0 v_fault v_number0 v_open v_codeMany v_waiting v_saidMany v_clauses v_newMany v_newStalls v_lines v_salesNow v_outNow v_isKept v_keptStalls : Int} {v_now v_aside v_kept v_oneOf v_otherOf v_signOf v_byOf v_tape v_said v_waitsAt v_saidLetter v_saidFrom v_saidHalf v_saidTo v_codes v_clauseOf v_codeFrom v_codeHalf v_codeTo v_stack v_facts v_newOne v_newOther v_newSign v_newBy v_moreOf v_firstOf v_toldOf v_mostOf v_mostThen v_sumTo v_rowFrom v_ordersOf v_lessOf v_weightOf v_rowNow v_slowRow v_fastRow v_lineNow v_firstLine v_freeBy v_heldBy v_heightOf v_upTo v_downTo v_oftenOf v_newUpper v_newLower : Nat → Int} {p0 p1 : Int} (kr_v_claimMany : 0 ≤ v_claimMany ∧ v_claimMany ≤ 40) (r_v_oneOf : RA 0 11 v_oneOf) (r_v_otherOf : RA 0 11 v_otherOf) (r_v_signOf : RA (-2147483648) 2147483647 v_signOf) (r_v_byOf : RA (-9999) 9999 v_byOf) (r_v_weightOf : RA (-2147483648) 2147483647 v_weightOf) (hp0 : IR p0) (hp1 : IR p1) : CtI l yX10_weighings cX10_weighings 9 (some .int) ⟨1, 0, 0, 22⟩ D (TY cI cB cJ) (wX10 cI cB cJ h q v_stalls v_claimMany v_taped v_place0 v_length0 v_fault v_number0 v_open v_codeMany v_waiting v_saidMany v_clauses v_newMany v_newStalls v_lines v_salesNow v_outNow v_isKept v_keptStalls v_now v_aside v_kept v_oneOf v_otherOf v_signOf v_byOf v_tape v_said v_waitsAt v_saidLetter v_saidFrom v_saidHalf v_saidTo v_codes v_clauseOf v_codeFrom v_codeHalf v_codeTo v_stack v_facts v_newOne v_newOther v_newSign v_newBy v_moreOf v_firstOf v_toldOf v_mostOf v_mostThen v_sumTo v_rowFrom v_ordersOf v_lessOf v_weightOf v_rowNow v_slowRow v_fastRow v_lineNow v_firstLine v_freeBy v_heldBy v_heightOf v_upTo v_downTo v_oftenOf v_newUpper v_newLower) [.ref h, vI p0, vI p1] (fun z ws' => ∃ n_weightOf : Nat → Int, (RA (-2147483648) 2147483647 n_weightOf) ∧ (IR z) ∧ (ws' = (wX10 cI cB cJ h q v_stalls v_claimMany v_taped v_place0 v_length0 v_fault v_number0 v_open v_codeMany v_waiting v_saidMany v_clauses v_newMany v_newStalls v_lines v_salesNow v_outNow v_isKept v_keptStalls v_now v_aside v_kept v_oneOf v_otherOf v_signOf v_byOf v_tape v_said v_waitsAt v_saidLetter v_saidFrom v_saidHalf v_saidTo v_codes v_clauseOf v_codeFrom v_codeHalf v_codeTo v_stack v_facts v_newOne v_newOther v_newSign v_newBy v_moreOf v_firstOf v_toldOf v_mostOf v_mostThen v_sumTo v_rowFrom v_ordersOf v_lessOf n_weightOf v_rowNow v_slowRow v_fastRow v_lineNow v_firstLine v_freeBy v_heldBy v_heightOf v_upTo v_downTo v_oftenOf v_newUpper v_newLower))) := by
  refine hdrI (own := RX10) rfl (by decide +kernel) (Nat.le_of_ble_eq_true rfl) ?_
  intro p e s m args below meth c Q A X hQ
  refine g_lvE (lv2 := [(0, .ref h), (1, vI p0), (2, vI p1)]) rfl ?_
  refine g_iload_n X dX10_weighings_0 1 rfl ?_
  refine g_iconst X dX10_weighings_1 ?_
  refine g_sipush X (z := 4095) dX10_weighings_2 (by decide) ?_
  refine g_callSIE X (c_X10_in l D cI cB cJ (p0 := p0) (p1 := 1) (p2 := 4095) (by first | assumption | omega) (by first | assumption | omega) (by first | assumption | omega)) cv_X10_in uw1394 ⟨rfl, rfl, by decide, by decide⟩ rfl rfl (Nat.le_of_ble_eq_true rfl) ⟨Nat.zero_le _, Nat.zero_le _⟩ dX10_weighings_5 (fun t5 ws5 k5 => ?_)
  obtain ⟨kb_5, ⟨kp0_5, rfl⟩⟩ := k5
  refine g_if_eq X (tgt := 29) dX10_weighings_8 (by decide) (by omega) (fun c8 => ?_) (fun c8 => ?_)
  · refine g_iconst X dX10_weighings_29 ?_
    exact hQ _ _ _ _ dX10_weighings_30 ⟨v_weightOf, r_v_weightOf, (by omega), rfl⟩
  · refine g_iload_n X dX10_weighings_11 1 rfl ?_
    refine g_callSIE X (c_X10_bits l D cI cB cJ (p0 := p0) (by first | assumption | omega)) cv_X10_bits uw1585 ⟨rfl, rfl, by decide, by decide⟩ rfl rfl (Nat.le_of_ble_eq_true rfl) ⟨Nat.zero_le _, Nat.zero_le _⟩ dX10_weighings_12 (fun t12 ws12 k12 => ?_)
    obtain ⟨kp0_12, rfl⟩ := k12
    refine g_iconst X dX10_weighings_15 ?_
    refine g_icmp_gt X (tgt := 29) dX10_weighings_16 (by decide) (by omega) (by omega) (fun c16 => ?_) (fun c16 => ?_)
    · refine g_iconst X dX10_weighings_29 ?_
      exact hQ _ _ _ _ dX10_weighings_30 ⟨v_weightOf, r_v_weightOf, (by omega), rfl⟩
    · refine g_iload_n X dX10_weighings_19 2 rfl ?_
      refine g_iconst X dX10_weighings_20 ?_
      refine g_bipush X (z := 9) dX10_weighings_21 (by decide) ?_
      refine g_callSIE X (c_X10_in l D cI cB cJ (p0 := p1) (p1 := 0) (p2 := 9) (by first | assumption | omega) (by first | assumption | omega) (by first | assumption | omega)) cv_X10_in uw1394 ⟨rfl, rfl, by decide, by decide⟩ rfl rfl (Nat.le_of_ble_eq_true rfl) ⟨Nat.zero_le _, Nat.zero_le _⟩ dX10_weighings_23 (fun t23 ws23 k23 => ?_)
      obtain ⟨kb_23, ⟨kp0_23, rfl⟩⟩ := k23
      refine g_if_ne X (tgt := 31) dX10_weighings_26 (by decide) (by omega) (fun c26 => ?_) (fun c26 => ?_)
      · refine g_iconst X dX10_weighings_31 ?_
        refine g_istore_n X (lv' := [(3, vI 1), (0, .ref h), (1, vI p0), (2, vI p1)]) dX10_weighings_32 (by decide) rfl ?_
        refine g_iconst X dX10_weighings_33 ?_
        refine g_istore X (lv' := [(4, vI 0), (3, vI 1), (0, .ref h), (1, vI p0), (2, vI p1)]) dX10_weighings_34 (by decide) rfl ?_
        have L36 : ∀ (n : Nat) (x3_36 : Int) (x4_36 : Int), (0 ≤ x4_36 ∧ x4_36 ≤ 16) → (IR x3_36) → (16 - x4_36).toNat < n → GG p l e ⟨1, 0, 0, 22⟩ s m args below meth c 0 0 Q D A s.heap 9 (wX10 cI cB cJ h q v_stalls v_claimMany v_taped v_place0 v_length0 v_fault v_number0 v_open v_codeMany v_waiting v_saidMany v_clauses v_newMany v_newStalls v_lines v_salesNow v_outNow v_isKept v_keptStalls v_now v_aside v_kept v_oneOf v_otherOf v_signOf v_byOf v_tape v_said v_waitsAt v_saidLetter v_saidFrom v_saidHalf v_saidTo v_codes v_clauseOf v_codeFrom v_codeHalf v_codeTo v_stack v_facts v_newOne v_newOther v_newSign v_newBy v_moreOf v_firstOf v_toldOf v_mostOf v_mostThen v_sumTo v_rowFrom v_ordersOf v_lessOf v_weightOf v_rowNow v_slowRow v_fastRow v_lineNow v_firstLine v_freeBy v_heldBy v_heightOf v_upTo v_downTo v_oftenOf v_newUpper v_newLower) 36 [(0, .ref h), (1, vI p0), (2, vI p1), (3, vI x3_36), (4, vI x4_36)] [] := by
          intro n
          induction n with
          | zero => intros; exfalso; omega
          | succ n ih36 =>
            intro x3_36 x4_36 w36_0 w36_1 wm36
            refine g_iload X dX10_weighings_36 4 rfl ?_
            refine g_iload_n X dX10_weighings_38 1 rfl ?_
            refine g_callSIE X (c_X10_bits l D cI cB cJ (p0 := p0) (by first | assumption | omega)) cv_X10_bits uw1585 ⟨rfl, rfl, by decide, by decide⟩ rfl rfl (Nat.le_of_ble_eq_true rfl) ⟨Nat.zero_le _, Nat.zero_le _⟩ dX10_weighings_39 (fun t39 ws39 k39 => ?_)
            obtain ⟨kp0_39, rfl⟩ := k39
            refine g_icmp_ge X (tgt := 57) dX10_weighings_42 (by decide) (by omega) (by omega) (fun c42 => ?_) (fun c42 => ?_)
            · refine g_iconst X dX10_weighings_57 ?_
              refine g_istore X (lv' := [(4, vI 0), (0, .ref h), (1, vI p0), (2, vI p1), (3, vI x3_36)]) dX10_weighings_58 (by decide) rfl ?_
              refine g_iconst X dX10_weighings_60 ?_
              refine g_istore X (lv' := [(5, vI 0), (4, vI 0), (0, .ref h), (1, vI p0), (2, vI p1), (3, vI x3_36)]) dX10_weighings_61 (by decide) rfl ?_
              have L63 : ∀ (n : Nat) (x4_63 : Int) (x5_63 : Int) (weightOf_63 : Nat → Int), (RA (-2147483648) 2147483647 weightOf_63) → (0 ≤ x5_63 ∧ (x5_63 ≤ x3_36 ∨ x5_63 = 0)) → (0 ≤ x4_63 ∧ x4_63 ≤ x5_63) → (x3_36 - x5_63).toNat < n → GG p l e ⟨1, 0, 0, 22⟩ s m args below meth c 0 0 Q D A s.heap 9 (wX10 cI cB cJ h q v_stalls v_claimMany v_taped v_place0 v_length0 v_fault v_number0 v_open v_codeMany v_waiting v_saidMany v_clauses v_newMany v_newStalls v_lines v_salesNow v_outNow v_isKept v_keptStalls v_now v_aside v_kept v_oneOf v_otherOf v_signOf v_byOf v_tape v_said v_waitsAt v_saidLetter v_saidFrom v_saidHalf v_saidTo v_codes v_clauseOf v_codeFrom v_codeHalf v_codeTo v_stack v_facts v_newOne v_newOther v_newSign v_newBy v_moreOf v_firstOf v_toldOf v_mostOf v_mostThen v_sumTo v_rowFrom v_ordersOf v_lessOf weightOf_63 v_rowNow v_slowRow v_fastRow v_lineNow v_firstLine v_freeBy v_heldBy v_heightOf v_upTo v_downTo v_oftenOf v_newUpper v_newLower) 63 [(0, .ref h), (1, vI p0), (2, vI p1), (3, vI x3_36), (4, vI x4_63), (5, vI x5_63)] [] := by
                intro n
                induction n with
                | zero => intros; exfalso; omega
                | succ n ih63 =>
                  intro x4_63 x5_63 weightOf_63 r_weightOf_63 w63_0 w63_1 wm63
                  refine g_iload X dX10_weighings_63 5 rfl ?_
                  refine g_iload_n X dX10_weighings_65 3 rfl ?_
                  refine g_icmp_ge X (tgt := 209) dX10_weighings_66 (by decide) (by omega) (by omega) (fun c66 => ?_) (fun c66 => ?_)
                  · refine g_iload X dX10_weighings_209 4 rfl ?_
                    exact hQ _ _ _ _ dX10_weighings_211 ⟨weightOf_63, r_weightOf_63, (by omega), rfl⟩
                  · refine g_iload X dX10_weighings_69 5 rfl ?_
                    refine g_istore X (lv' := [(6, vI x5_63), (0, .ref h), (1, vI p0), (2, vI p1), (3, vI x3_36), (4, vI x4_63), (5, vI x5_63)]) dX10_weighings_71 (by decide) rfl ?_
                    refine g_iconst X dX10_weighings_73 ?_
                    refine g_istore X (lv' := [(7, vI 0), (6, vI x5_63), (0, .ref h), (1, vI p0), (2, vI p1), (3, vI x3_36), (4, vI x4_63), (5, vI x5_63)]) dX10_weighings_74 (by decide) rfl ?_
                    have L76 : ∀ (n : Nat) (x6_76 : Int) (x7_76 : Int) (weightOf_76 : Nat → Int), (RA (-2147483648) 2147483647 weightOf_76) → (0 ≤ x7_76 ∧ x7_76 ≤ 12) → (0 ≤ x6_76 ∧ x6_76 ≤ 2147483647) → (12 - x7_76).toNat < n → GG p l e ⟨1, 0, 0, 22⟩ s m args below meth c 0 0 Q D A s.heap 9 (wX10 cI cB cJ h q v_stalls v_claimMany v_taped v_place0 v_length0 v_fault v_number0 v_open v_codeMany v_waiting v_saidMany v_clauses v_newMany v_newStalls v_lines v_salesNow v_outNow v_isKept v_keptStalls v_now v_aside v_kept v_oneOf v_otherOf v_signOf v_byOf v_tape v_said v_waitsAt v_saidLetter v_saidFrom v_saidHalf v_saidTo v_codes v_clauseOf v_codeFrom v_codeHalf v_codeTo v_stack v_facts v_newOne v_newOther v_newSign v_newBy v_moreOf v_firstOf v_toldOf v_mostOf v_mostThen v_sumTo v_rowFrom v_ordersOf v_lessOf weightOf_76 v_rowNow v_slowRow v_fastRow v_lineNow v_firstLine v_freeBy v_heldBy v_heightOf v_upTo v_downTo v_oftenOf v_newUpper v_newLower) 76 [(0, .ref h), (1, vI p0), (2, vI p1), (3, vI x3_36), (4, vI x4_63), (5, vI x5_63), (6, vI x6_76), (7, vI x7_76)] [] := by
                      intro n
                      induction n with
                      | zero => intros; exfalso; omega
                      | succ n ih76 =>
                        intro x6_76 x7_76 weightOf_76 r_weightOf_76 w76_0 w76_1 wm76
                        refine g_iload X dX10_weighings_76 7 rfl ?_
                        refine g_bipush X (z := 12) dX10_weighings_78 (by decide) ?_
                        refine g_icmp_ge X (tgt := 122) dX10_weighings_80 (by decide) (by omega) (by omega) (fun c80 => ?_) (fun c80 => ?_)
                        · refine g_iconst X dX10_weighings_122 ?_
                          refine g_istore X (lv' := [(7, vI 1), (0, .ref h), (1, vI p0), (2, vI p1), (3, vI x3_36), (4, vI x4_63), (5, vI x5_63), (6, vI x6_76)]) dX10_weighings_123 (by decide) rfl ?_
                          refine g_iconst X dX10_weighings_125 ?_
                          refine g_istore X (lv' := [(8, vI 0), (7, vI 1), (0, .ref h), (1, vI p0), (2, vI p1), (3, vI x3_36), (4, vI x4_63), (5, vI x5_63), (6, vI x6_76)]) dX10_weighings_126 (by decide) rfl ?_
                          have L128 : ∀ (n : Nat) (x7_128 : Int) (x8_128 : Int), (0 ≤ x8_128 ∧ x8_128 ≤ v_claimMany) → (0 ≤ x7_128 ∧ x7_128 ≤ 1) → (v_claimMany - x8_128).toNat < n → GG p l e ⟨1, 0, 0, 22⟩ s m args below meth c 0 0 Q D A s.heap 9 (wX10 cI cB cJ h q v_stalls v_claimMany v_taped v_place0 v_length0 v_fault v_number0 v_open v_codeMany v_waiting v_saidMany v_clauses v_newMany v_newStalls v_lines v_salesNow v_outNow v_isKept v_keptStalls v_now v_aside v_kept v_oneOf v_otherOf v_signOf v_byOf v_tape v_said v_waitsAt v_saidLetter v_saidFrom v_saidHalf v_saidTo v_codes v_clauseOf v_codeFrom v_codeHalf v_codeTo v_stack v_facts v_newOne v_newOther v_newSign v_newBy v_moreOf v_firstOf v_toldOf v_mostOf v_mostThen v_sumTo v_rowFrom v_ordersOf v_lessOf weightOf_76 v_rowNow v_slowRow v_fastRow v_lineNow v_firstLine v_freeBy v_heldBy v_heightOf v_upTo v_downTo v_oftenOf v_newUpper v_newLower) 128 [(0, .ref h), (1, vI p0), (2, vI p1), (3, vI x3_36), (4, vI x4_63), (5, vI x5_63), (7, vI x7_128), (8, vI x8_128)] [] := by
                            intro n
                            induction n with
                            | zero => intros; exfalso; omega
                            | succ n ih128 =>
                              intro x7_128 x8_128 w128_0 w128_1 wm128
                              refine g_iload X dX10_weighings_128 7 rfl ?_
                              refine g_aload_n X dX10_weighings_130 0 rfl ?_
                              refine gM_get X 0 rfl 8 (by decide) uw1187 rfl dX10_weighings_131 ?_
                              refine g_icmp_ge X (tgt := 192) dX10_weighings_134 (by decide) (by omega) (by omega) (fun c134 => ?_) (fun c134 => ?_)
                              · refine g_iload X dX10_weighings_192 6 rfl ?_
                                refine g_if_eq X (tgt := 203) dX10_weighings_194 (by decide) (by omega) (fun c194 => ?_) (fun c194 => ?_)
                                · refine g_iinc X (lv' := [(5, vI (x5_63 + 1)), (0, .ref h), (1, vI p0), (2, vI p1), (3, vI x3_36), (4, vI x4_63), (7, vI x7_128), (8, vI x8_128)]) dX10_weighings_203 5 rfl (by decide) rfl ?_
                                  refine g_goto X (tgt := 63) dX10_weighings_206 (by decide) ?_
                                  refine g_lv [1, 2, 3, 4, 5, 0] rfl ?_
                                  exact ih63 x4_63 (x5_63 + 1) weightOf_76 r_weightOf_76 (by first | assumption | omega) (by first | assumption | omega) (by omega)
                                · refine g_iload X dX10_weighings_197 4 rfl ?_
                                  refine g_iconst X dX10_weighings_199 ?_
                                  refine g_iadd X dX10_weighings_200 ?_
                                  refine g_istore X (lv' := [(4, vI (x4_63 + 1)), (0, .ref h), (1, vI p0), (2, vI p1), (3, vI x3_36), (5, vI x5_63), (7, vI x7_128), (8, vI x8_128)]) dX10_weighings_201 (by decide) rfl ?_
                                  refine g_iinc X (lv' := [(5, vI (x5_63 + 1)), (4, vI (x4_63 + 1)), (0, .ref h), (1, vI p0), (2, vI p1), (3, vI x3_36), (7, vI x7_128), (8, vI x8_128)]) dX10_weighings_203 5 rfl (by decide) rfl ?_
                                  refine g_goto X (tgt := 63) dX10_weighings_206 (by decide) ?_
                                  refine g_lv [2, 3, 4, 5, 1, 0] rfl ?_
                                  exact ih63 (x4_63 + 1) (x5_63 + 1) weightOf_76 r_weightOf_76 (by first | assumption | omega) (by first | assumption | omega) (by omega)
                              · refine g_iload X dX10_weighings_137 6 rfl ?_
                                refine g_if_eq X (tgt := 192) dX10_weighings_139 (by decide) (by omega) (fun c139 => ?_) (fun c139 => ?_)
                                · refine g_iload X dX10_weighings_192 6 rfl ?_
                                  refine g_if_eq X (tgt := 203) dX10_weighings_194 (by decide) (by omega) (fun c194 => ?_) (fun c194 => ?_)
                                  · refine g_iinc X (lv' := [(5, vI (x5_63 + 1)), (0, .ref h), (1, vI p0), (2, vI p1), (3, vI x3_36), (4, vI x4_63), (7, vI x7_128), (8, vI x8_128)]) dX10_weighings_203 5 rfl (by decide) rfl ?_
                                    refine g_goto X (tgt := 63) dX10_weighings_206 (by decide) ?_
                                    refine g_lv [1, 2, 3, 4, 5, 0] rfl ?_
                                    exact ih63 x4_63 (x5_63 + 1) weightOf_76 r_weightOf_76 (by first | assumption | omega) (by first | assumption | omega) (by omega)
                                  · refine g_iload X dX10_weighings_197 4 rfl ?_
                                    refine g_iconst X dX10_weighings_199 ?_
                                    refine g_iadd X dX10_weighings_200 ?_
                                    refine g_istore X (lv' := [(4, vI (x4_63 + 1)), (0, .ref h), (1, vI p0), (2, vI p1), (3, vI x3_36), (5, vI x5_63), (7, vI x7_128), (8, vI x8_128)]) dX10_weighings_201 (by decide) rfl ?_
                                    refine g_iinc X (lv' := [(5, vI (x5_63 + 1)), (4, vI (x4_63 + 1)), (0, .ref h), (1, vI p0), (2, vI p1), (3, vI x3_36), (7, vI x7_128), (8, vI x8_128)]) dX10_weighings_203 5 rfl (by decide) rfl ?_
                                    refine g_goto X (tgt := 63) dX10_weighings_206 (by decide) ?_
                                    refine g_lv [2, 3, 4, 5, 1, 0] rfl ?_
                                    exact ih63 (x4_63 + 1) (x5_63 + 1) weightOf_76 r_weightOf_76 (by first | assumption | omega) (by first | assumption | omega) (by omega)
                                · refine g_iload_n X dX10_weighings_142 1 rfl ?_
                                  refine g_aload_n X dX10_weighings_143 0 rfl ?_
                                  refine gM_get X 0 rfl 3 (by decide) uw1182 rfl dX10_weighings_144 ?_
                                  refine g_iload X dX10_weighings_147 7 rfl ?_
                                  refine g_iald X 4 0 rfl rfl (by omega) (by decide) dX10_weighings_149 (fun t149 e149 => ?_)
                                  have r149 := r_v_oneOf (x8_128 : Int).toNat; rw [← e149] at r149
                                  refine g_callSIE X (c_X10_has l D cI cB cJ (p0 := p0) (p1 := t149) (by first | assumption | omega) (by first | assumption | omega)) cv_X10_has uw1531 ⟨rfl, rfl, by decide, by decide⟩ rfl rfl (Nat.le_of_ble_eq_true rfl) ⟨Nat.zero_le _, Nat.zero_le _⟩ dX10_weighings_150 (fun t150 ws150 k150 => ?_)
                                  obtain ⟨kb_150, ⟨kp0_150, rfl⟩⟩ := k150
                                  refine g_if_eq X (tgt := 179) dX10_weighings_153 (by decide) (by omega) (fun c153 => ?_) (fun c153 => ?_)
                                  · refine g_iconst X dX10_weighings_179 ?_
                                    refine g_goto X (tgt := 184) dX10_weighings_180 (by decide) ?_
                                    refine g_istore X (lv' := [(7, vI 1), (0, .ref h), (1, vI p0), (2, vI p1), (3, vI x3_36), (4, vI x4_63), (5, vI x5_63), (8, vI x8_128)]) dX10_weighings_184 (by decide) rfl ?_
                                    refine g_iinc X (lv' := [(8, vI (x8_128 + 1)), (7, vI 1), (0, .ref h), (1, vI p0), (2, vI p1), (3, vI x3_36), (4, vI x4_63), (5, vI x5_63)]) dX10_weighings_186 7 rfl (by decide) rfl ?_
                                    refine g_goto X (tgt := 128) dX10_weighings_189 (by decide) ?_
                                    refine g_lv [2, 3, 4, 5, 6, 7, 1, 0] rfl ?_
                                    exact ih128 1 (x8_128 + 1) (by first | assumption | omega) (by first | assumption | omega) (by omega)
                                  · refine g_iload_n X dX10_weighings_156 1 rfl ?_
                                    refine g_aload_n X dX10_weighings_157 0 rfl ?_
                                    refine gM_get X 0 rfl 4 (by decide) uw1183 rfl dX10_weighings_158 ?_
                                    refine g_iload X dX10_weighings_161 7 rfl ?_
                                    refine g_iald X 5 0 rfl rfl (by omega) (by decide) dX10_weighings_163 (fun t163 e163 => ?_)
                                    have r163 := r_v_otherOf (x8_128 : Int).toNat; rw [← e163] at r163
                                    refine g_callSIE X (c_X10_has l D cI cB cJ (p0 := p0) (p1 := t163) (by first | assumption | omega) (by first | assumption | omega)) cv_X10_has uw1531 ⟨rfl, rfl, by decide, by decide⟩ rfl rfl (Nat.le_of_ble_eq_true rfl) ⟨Nat.zero_le _, Nat.zero_le _⟩ dX10_weighings_164 (fun t164 ws164 k164 => ?_)
                                    obtain ⟨kb_164, ⟨kp0_164, rfl⟩⟩ := k164
                                    refine g_if_eq X (tgt := 179) dX10_weighings_167 (by decide) (by omega) (fun c167 => ?_) (fun c167 => ?_)
                                    · refine g_iconst X dX10_weighings_179 ?_
                                      refine g_goto X (tgt := 184) dX10_weighings_180 (by decide) ?_
                                      refine g_istore X (lv' := [(7, vI 1), (0, .ref h), (1, vI p0), (2, vI p1), (3, vI x3_36), (4, vI x4_63), (5, vI x5_63), (8, vI x8_128)]) dX10_weighings_184 (by decide) rfl ?_
                                      refine g_iinc X (lv' := [(8, vI (x8_128 + 1)), (7, vI 1), (0, .ref h), (1, vI p0), (2, vI p1), (3, vI x3_36), (4, vI x4_63), (5, vI x5_63)]) dX10_weighings_186 7 rfl (by decide) rfl ?_
                                      refine g_goto X (tgt := 128) dX10_weighings_189 (by decide) ?_
                                      refine g_lv [2, 3, 4, 5, 6, 7, 1, 0] rfl ?_
                                      exact ih128 1 (x8_128 + 1) (by first | assumption | omega) (by first | assumption | omega) (by omega)
                                    · refine g_aload_n X dX10_weighings_170 0 rfl ?_
                                      refine g_iload X dX10_weighings_171 7 rfl ?_
                                      refine g_callVI0 X (c_X10_claimHolds l D cI cB cJ h q (p0 := x8_128) r_v_oneOf r_v_otherOf r_v_signOf r_v_byOf r_weightOf_76 (by first | assumption | omega) (by first | assumption | omega)) cv_X10_claimHolds uw1632 ⟨rfl, rfl, by decide, by decide⟩ 0 rfl rfl rfl rfl rfl (Nat.le_of_ble_eq_true rfl) ⟨Nat.zero_le _, Nat.zero_le _⟩ dX10_weighings_173 (fun t173 ws173 k173 => ?_)
                                      obtain ⟨kb_173, rfl⟩ := k173
                                      refine g_if_eq X (tgt := 183) dX10_weighings_176 (by decide) (by omega) (fun c176 => ?_) (fun c176 => ?_)
                                      · refine g_iconst X dX10_weighings_183 ?_
                                        refine g_istore X (lv' := [(7, vI 0), (0, .ref h), (1, vI p0), (2, vI p1), (3, vI x3_36), (4, vI x4_63), (5, vI x5_63), (8, vI x8_128)]) dX10_weighings_184 (by decide) rfl ?_
                                        refine g_iinc X (lv' := [(8, vI (x8_128 + 1)), (7, vI 0), (0, .ref h), (1, vI p0), (2, vI p1), (3, vI x3_36), (4, vI x4_63), (5, vI x5_63)]) dX10_weighings_186 7 rfl (by decide) rfl ?_
                                        refine g_goto X (tgt := 128) dX10_weighings_189 (by decide) ?_
                                        refine g_lv [2, 3, 4, 5, 6, 7, 1, 0] rfl ?_
                                        exact ih128 0 (x8_128 + 1) (by first | assumption | omega) (by first | assumption | omega) (by omega)
                                      · refine g_iconst X dX10_weighings_179 ?_
                                        refine g_goto X (tgt := 184) dX10_weighings_180 (by decide) ?_
                                        refine g_istore X (lv' := [(7, vI 1), (0, .ref h), (1, vI p0), (2, vI p1), (3, vI x3_36), (4, vI x4_63), (5, vI x5_63), (8, vI x8_128)]) dX10_weighings_184 (by decide) rfl ?_
                                        refine g_iinc X (lv' := [(8, vI (x8_128 + 1)), (7, vI 1), (0, .ref h), (1, vI p0), (2, vI p1), (3, vI x3_36), (4, vI x4_63), (5, vI x5_63)]) dX10_weighings_186 7 rfl (by decide) rfl ?_
                                        refine g_goto X (tgt := 128) dX10_weighings_189 (by decide) ?_
                                        refine g_lv [2, 3, 4, 5, 6, 7, 1, 0] rfl ?_
                                        exact ih128 1 (x8_128 + 1) (by first | assumption | omega) (by first | assumption | omega) (by omega)
                          refine g_lv [2, 3, 4, 5, 6, 7, 1, 0] rfl ?_
                          exact L128 _ 1 0 (by first | assumption | omega) (by first | assumption | omega) (Nat.lt_succ_self _)
                        · refine g_iload_n X dX10_weighings_83 1 rfl ?_
                          refine g_iload X dX10_weighings_84 7 rfl ?_
                          refine g_callSIE X (c_X10_has l D cI cB cJ (p0 := p0) (p1 := x7_76) (by first | assumption | omega) (by first | assumption | omega)) cv_X10_has uw1531 ⟨rfl, rfl, by decide, by decide⟩ rfl rfl (Nat.le_of_ble_eq_true rfl) ⟨Nat.zero_le _, Nat.zero_le _⟩ dX10_weighings_86 (fun t86 ws86 k86 => ?_)
                          obtain ⟨kb_86, ⟨kp0_86, rfl⟩⟩ := k86
                          refine g_if_ne X (tgt := 95) dX10_weighings_89 (by decide) (by omega) (fun c89 => ?_) (fun c89 => ?_)
                          · refine g_aload_n X dX10_weighings_95 0 rfl ?_
                            refine gM_get X 0 rfl 47 (by decide) uw1226 rfl dX10_weighings_96 ?_
                            refine g_iload X dX10_weighings_99 7 rfl ?_
                            refine g_iload X dX10_weighings_101 6 rfl ?_
                            refine g_iload_n X dX10_weighings_103 2 rfl ?_
                            refine g_iconst X dX10_weighings_104 ?_
                            refine g_iadd X dX10_weighings_105 ?_
                            refine g_irem X dX10_weighings_106 (by omega) (by omega) ?_
                            refine g_nm (fun t106 e106 => ?_)
                            have r106 : 0 ≤ t106 ∧ ((0 : Int) < (p1 + 1) → t106 < (p1 + 1)) := by rw [e106]; exact ⟨Int.emod_nonneg _ (by omega), fun h => Int.emod_lt_of_pos _ h⟩
                            refine g_iast X 35 0 rfl rfl (by omega) (by decide) dX10_weighings_107 (fun weightOf_107 e107 => ?_)
                            have r_weightOf_107 : RA (-2147483648) 2147483647 weightOf_107 := by rw [e107]; exact RA_up r_weightOf_76 (by omega)
                            refine g_ws (ws2 := (wX10 cI cB cJ h q v_stalls v_claimMany v_taped v_place0 v_length0 v_fault v_number0 v_open v_codeMany v_waiting v_saidMany v_clauses v_newMany v_newStalls v_lines v_salesNow v_outNow v_isKept v_keptStalls v_now v_aside v_kept v_oneOf v_otherOf v_signOf v_byOf v_tape v_said v_waitsAt v_saidLetter v_saidFrom v_saidHalf v_saidTo v_codes v_clauseOf v_codeFrom v_codeHalf v_codeTo v_stack v_facts v_newOne v_newOther v_newSign v_newBy v_moreOf v_firstOf v_toldOf v_mostOf v_mostThen v_sumTo v_rowFrom v_ordersOf v_lessOf weightOf_107 v_rowNow v_slowRow v_fastRow v_lineNow v_firstLine v_freeBy v_heldBy v_heightOf v_upTo v_downTo v_oftenOf v_newUpper v_newLower)) rfl ?_
                            refine g_iload X dX10_weighings_108 6 rfl ?_
                            refine g_iload_n X dX10_weighings_110 2 rfl ?_
                            refine g_iconst X dX10_weighings_111 ?_
                            refine g_iadd X dX10_weighings_112 ?_
                            refine g_idiv X dX10_weighings_113 (by omega) (by omega) ?_
                            refine g_nm (fun t113 e113 => ?_)
                            have r113 := z_div_r x6_76 (p1 + 1) (by omega) (by omega); rw [← e113] at r113
                            refine g_istore X (lv' := [(6, vI t113), (0, .ref h), (1, vI p0), (2, vI p1), (3, vI x3_36), (4, vI x4_63), (5, vI x5_63), (7, vI x7_76)]) dX10_weighings_114 (by decide) rfl ?_
                            refine g_iinc X (lv' := [(7, vI (x7_76 + 1)), (6, vI t113), (0, .ref h), (1, vI p0), (2, vI p1), (3, vI x3_36), (4, vI x4_63), (5, vI x5_63)]) dX10_weighings_116 7 rfl (by decide) rfl ?_
                            refine g_goto X (tgt := 76) dX10_weighings_119 (by decide) ?_
                            refine g_lv [2, 3, 4, 5, 6, 7, 1, 0] rfl ?_
                            exact ih76 t113 (x7_76 + 1) weightOf_107 r_weightOf_107 (by first | assumption | omega) (by first | assumption | omega) (by omega)
                          · refine g_goto X (tgt := 116) dX10_weighings_92 (by decide) ?_
                            refine g_iinc X (lv' := [(7, vI (x7_76 + 1)), (0, .ref h), (1, vI p0), (2, vI p1), (3, vI x3_36), (4, vI x4_63), (5, vI x5_63), (6, vI x6_76)]) dX10_weighings_116 7 rfl (by decide) rfl ?_
                            refine g_goto X (tgt := 76) dX10_weighings_119 (by decide) ?_
                            refine g_lv [1, 2, 3, 4, 5, 6, 7, 0] rfl ?_
                            exact ih76 x6_76 (x7_76 + 1) weightOf_76 r_weightOf_76 (by first | assumption | omega) (by first | assumption | omega) (by omega)
                    refine g_lv [2, 3, 4, 5, 6, 7, 1, 0] rfl ?_
                    exact L76 _ x5_63 0 weightOf_63 r_weightOf_63 (by first | assumption | omega) (by first | assumption | omega) (Nat.lt_succ_self _)
              refine g_lv [2, 3, 4, 5, 1, 0] rfl ?_
              exact L63 _ 0 0 v_weightOf r_v_weightOf (by first | assumption | omega) (by first | assumption | omega) (Nat.lt_succ_self _)
            · refine g_iload_n X dX10_weighings_45 3 rfl ?_
              refine g_iload_n X dX10_weighings_46 2 rfl ?_
              refine g_iconst X dX10_weighings_47 ?_
              refine g_iadd X dX10_weighings_48 ?_
              refine g_imul X dX10_weighings_49 ?_
              refine g_nr (fun t49 e49 r49 => ?_)
              refine g_istore_n X (lv' := [(3, vI t49), (0, .ref h), (1, vI p0), (2, vI p1), (4, vI x4_36)]) dX10_weighings_50 (by decide) rfl ?_
              refine g_iinc X (lv' := [(4, vI (x4_36 + 1)), (3, vI t49), (0, .ref h), (1, vI p0), (2, vI p1)]) dX10_weighings_51 4 rfl (by decide) rfl ?_
              refine g_goto X (tgt := 36) dX10_weighings_54 (by decide) ?_
              refine g_lv [2, 3, 4, 1, 0] rfl ?_
              exact ih36 t49 (x4_36 + 1) (by first | assumption | omega) (by first | assumption | omega) (by omega)
        refine g_lv [2, 3, 4, 1, 0] rfl ?_
        exact L36 _ 1 0 (by first | assumption | omega) (by first | assumption | omega) (Nat.lt_succ_self _)
      · refine g_iconst X dX10_weighings_29 ?_
        exact hQ _ _ _ _ dX10_weighings_30 ⟨v_weightOf, r_v_weightOf, (by omega), rfl⟩
set_option maxHeartbeats 4000000 in
set_option maxRecDepth 100000 in
theorem c_X10_isTriangle (l : Launch) (D : va_G) (cI cB cJ : ClassId) (h : Nat) (q : Nat → Nat) {v_stalls v_claimMany v_taped v_place0 v_length0 v_fault v_number0 v_open v_codeMany v_waiting v_saidMany v_clauses v_newMany v_newStalls v_lines v_salesNow v_outNow v_isKept v_keptStalls : Int} {v_now v_aside v_kept v_oneOf v_otherOf v_signOf v_byOf v_tape v_said v_waitsAt v_saidLetter v_saidFrom v_saidHalf v_saidTo v_codes v_clauseOf v_codeFrom v_codeHalf v_codeTo v_stack v_facts v_newOne v_newOther v_newSign v_newBy v_moreOf v_firstOf v_toldOf v_mostOf v_mostThen v_sumTo v_rowFrom v_ordersOf v_lessOf v_weightOf v_rowNow v_slowRow v_fastRow v_lineNow v_firstLine v_freeBy v_heldBy v_heightOf v_upTo v_downTo v_oftenOf v_newUpper v_newLower : Nat → Int} {p0 p1 p2 : Int} (r_v_lineNow : RA 0 10 v_lineNow) (hp0 : IR p0) (hp1 : IR p1) (hp2 : IR p2) (hp3 : 1 ≤ p0 ∧ p0 ≤ 4) (hp4 : 0 ≤ p1) (hp5 : 1 ≤ p2 ∧ p2 ≤ 10) : CtI l yX10_isTriangle cX10_isTriangle 8 (some .boolean) ⟨1, 0, 0, 21⟩ D (TY cI cB cJ) (wX10 cI cB cJ h q v_stalls v_claimMany v_taped v_place0 v_length0 v_fault v_number0 v_open v_codeMany v_waiting v_saidMany v_clauses v_newMany v_newStalls v_lines v_salesNow v_outNow v_isKept v_keptStalls v_now v_aside v_kept v_oneOf v_otherOf v_signOf v_byOf v_tape v_said v_waitsAt v_saidLetter v_saidFrom v_saidHalf v_saidTo v_codes v_clauseOf v_codeFrom v_codeHalf v_codeTo v_stack v_facts v_newOne v_newOther v_newSign v_newBy v_moreOf v_firstOf v_toldOf v_mostOf v_mostThen v_sumTo v_rowFrom v_ordersOf v_lessOf v_weightOf v_rowNow v_slowRow v_fastRow v_lineNow v_firstLine v_freeBy v_heldBy v_heightOf v_upTo v_downTo v_oftenOf v_newUpper v_newLower) [.ref h, vI p0, vI p1, vI p2] (fun z ws' => (z = 0 ∨ z = 1) ∧ ∃ n_lineNow : Nat → Int, (RA 0 10 n_lineNow) ∧ (ws' = (wX10 cI cB cJ h q v_stalls v_claimMany v_taped v_place0 v_length0 v_fault v_number0 v_open v_codeMany v_waiting v_saidMany v_clauses v_newMany v_newStalls v_lines v_salesNow v_outNow v_isKept v_keptStalls v_now v_aside v_kept v_oneOf v_otherOf v_signOf v_byOf v_tape v_said v_waitsAt v_saidLetter v_saidFrom v_saidHalf v_saidTo v_codes v_clauseOf v_codeFrom v_codeHalf v_codeTo v_stack v_facts v_newOne v_newOther v_newSign v_newBy v_moreOf v_firstOf v_toldOf v_mostOf v_mostThen v_sumTo v_rowFrom v_ordersOf v_lessOf v_weightOf v_rowNow v_slowRow v_fastRow n_lineNow v_firstLine v_freeBy v_heldBy v_heightOf v_upTo v_downTo v_oftenOf v_newUpper v_newLower))) := by
  refine hdrZ (own := RX10) rfl (by decide +kernel) (Nat.le_of_ble_eq_true rfl) ?_
  intro p e s m args below meth c Q A X hQ
  refine g_lvE (lv2 := [(0, .ref h), (1, vI p0), (2, vI p1), (3, vI p2)]) rfl ?_
  refine g_iload_n X dX10_isTriangle_0 2 rfl ?_
  refine g_istore X (lv' := [(4, vI p1), (0, .ref h), (1, vI p0), (2, vI p1), (3, vI p2)]) dX10_isTriangle_1 (by decide) rfl ?_
  refine g_iload_n X dX10_isTriangle_3 2 rfl ?_
  refine g_iconst X dX10_isTriangle_4 ?_
  refine g_isub X dX10_isTriangle_5 ?_
  refine g_istore X (lv' := [(5, vI (p0 - 1)), (4, vI p1), (0, .ref h), (1, vI p0), (2, vI p1), (3, vI p2)]) dX10_isTriangle_6 (by decide) rfl ?_
  have L8 : ∀ (n : Nat) (x4_8 : Int) (x5_8 : Int) (lineNow_8 : Nat → Int), (RA 0 10 lineNow_8) → (-1 ≤ x5_8 ∧ x5_8 < p0) → (0 ≤ x4_8 ∧ x4_8 ≤ 2147483647) → (x5_8 + 1).toNat < n → GG p l e ⟨1, 0, 0, 21⟩ s m args below meth c 0 0 Q D A s.heap 8 (wX10 cI cB cJ h q v_stalls v_claimMany v_taped v_place0 v_length0 v_fault v_number0 v_open v_codeMany v_waiting v_saidMany v_clauses v_newMany v_newStalls v_lines v_salesNow v_outNow v_isKept v_keptStalls v_now v_aside v_kept v_oneOf v_otherOf v_signOf v_byOf v_tape v_said v_waitsAt v_saidLetter v_saidFrom v_saidHalf v_saidTo v_codes v_clauseOf v_codeFrom v_codeHalf v_codeTo v_stack v_facts v_newOne v_newOther v_newSign v_newBy v_moreOf v_firstOf v_toldOf v_mostOf v_mostThen v_sumTo v_rowFrom v_ordersOf v_lessOf v_weightOf v_rowNow v_slowRow v_fastRow lineNow_8 v_firstLine v_freeBy v_heldBy v_heightOf v_upTo v_downTo v_oftenOf v_newUpper v_newLower) 8 [(0, .ref h), (1, vI p0), (3, vI p2), (4, vI x4_8), (5, vI x5_8)] [] := by
    intro n
    induction n with
    | zero => intros; exfalso; omega
    | succ n ih8 =>
      intro x4_8 x5_8 lineNow_8 r_lineNow_8 w8_0 w8_1 wm8
      refine g_iload X dX10_isTriangle_8 4 rfl ?_
      refine g_if_lt X (tgt := 38) dX10_isTriangle_10 (by decide) (by omega) (fun c10 => ?_) (fun c10 => ?_)
      · refine g_iconst X dX10_isTriangle_38 ?_
        refine g_istore X (lv' := [(5, vI 0), (0, .ref h), (1, vI p0), (3, vI p2), (4, vI x4_8)]) dX10_isTriangle_39 (by decide) rfl ?_
        refine g_iload_n X dX10_isTriangle_41 2 rfl ?_
        refine g_istore X (lv' := [(6, vI p0), (5, vI 0), (0, .ref h), (1, vI p0), (3, vI p2), (4, vI x4_8)]) dX10_isTriangle_42 (by decide) rfl ?_
        have L44 : ∀ (n : Nat) (x5_44 : Int) (x6_44 : Int) (lineNow_44 : Nat → Int), (RA 0 10 lineNow_44) → (0 ≤ x6_44 ∧ x6_44 ≤ p0) → (IR x5_44) → (x6_44).toNat < n → GG p l e ⟨1, 0, 0, 21⟩ s m args below meth c 0 0 Q D A s.heap 8 (wX10 cI cB cJ h q v_stalls v_claimMany v_taped v_place0 v_length0 v_fault v_number0 v_open v_codeMany v_waiting v_saidMany v_clauses v_newMany v_newStalls v_lines v_salesNow v_outNow v_isKept v_keptStalls v_now v_aside v_kept v_oneOf v_otherOf v_signOf v_byOf v_tape v_said v_waitsAt v_saidLetter v_saidFrom v_saidHalf v_saidTo v_codes v_clauseOf v_codeFrom v_codeHalf v_codeTo v_stack v_facts v_newOne v_newOther v_newSign v_newBy v_moreOf v_firstOf v_toldOf v_mostOf v_mostThen v_sumTo v_rowFrom v_ordersOf v_lessOf v_weightOf v_rowNow v_slowRow v_fastRow lineNow_44 v_firstLine v_freeBy v_heldBy v_heightOf v_upTo v_downTo v_oftenOf v_newUpper v_newLower) 44 [(0, .ref h), (5, vI x5_44), (6, vI x6_44)] [] := by
          intro n
          induction n with
          | zero => intros; exfalso; omega
          | succ n ih44 =>
            intro x5_44 x6_44 lineNow_44 r_lineNow_44 w44_0 w44_1 wm44
            refine g_iload X dX10_isTriangle_44 2 rfl ?_
            refine g_if_le X (tgt := 157) dX10_isTriangle_46 (by decide) (by omega) (fun c46 => ?_) (fun c46 => ?_)
            · refine g_iconst X dX10_isTriangle_157 ?_
              exact hQ _ _ _ _ dX10_isTriangle_158 ⟨by omega, ⟨lineNow_44, r_lineNow_44, rfl⟩⟩
            · refine g_iconst X dX10_isTriangle_49 ?_
              refine g_istore X (lv' := [(7, vI 0), (0, .ref h), (5, vI x5_44), (6, vI x6_44)]) dX10_isTriangle_50 (by decide) rfl ?_
              have L52 : ∀ (n : Nat) (x5_52 : Int) (x7_52 : Int), (0 ≤ x7_52 ∧ x7_52 ≤ x6_44) → (IR x5_52) → (x6_44 - x7_52).toNat < n → GG p l e ⟨1, 0, 0, 21⟩ s m args below meth c 0 0 Q D A s.heap 8 (wX10 cI cB cJ h q v_stalls v_claimMany v_taped v_place0 v_length0 v_fault v_number0 v_open v_codeMany v_waiting v_saidMany v_clauses v_newMany v_newStalls v_lines v_salesNow v_outNow v_isKept v_keptStalls v_now v_aside v_kept v_oneOf v_otherOf v_signOf v_byOf v_tape v_said v_waitsAt v_saidLetter v_saidFrom v_saidHalf v_saidTo v_codes v_clauseOf v_codeFrom v_codeHalf v_codeTo v_stack v_facts v_newOne v_newOther v_newSign v_newBy v_moreOf v_firstOf v_toldOf v_mostOf v_mostThen v_sumTo v_rowFrom v_ordersOf v_lessOf v_weightOf v_rowNow v_slowRow v_fastRow lineNow_44 v_firstLine v_freeBy v_heldBy v_heightOf v_upTo v_downTo v_oftenOf v_newUpper v_newLower) 52 [(0, .ref h), (5, vI x5_52), (6, vI x6_44), (7, vI x7_52)] [] := by
                intro n
                induction n with
                | zero => intros; exfalso; omega
                | succ n ih52 =>
                  intro x5_52 x7_52 w52_0 w52_1 wm52
                  refine g_iload X dX10_isTriangle_52 3 rfl ?_
                  refine g_iload X dX10_isTriangle_54 2 rfl ?_
                  refine g_icmp_ge X (tgt := 106) dX10_isTriangle_56 (by decide) (by omega) (by omega) (fun c56 => ?_) (fun c56 => ?_)
                  · refine g_iconst X dX10_isTriangle_106 ?_
                    refine g_istore X (lv' := [(7, vI 0), (0, .ref h), (5, vI x5_52), (6, vI x6_44)]) dX10_isTriangle_107 (by decide) rfl ?_
                    have L109 : ∀ (n : Nat) (x7_109 : Int) (lineNow_109 : Nat → Int), (RA 0 10 lineNow_109) → (0 ≤ x7_109 ∧ x7_109 ≤ x6_44) → (x6_44 - x7_109).toNat < n → GG p l e ⟨1, 0, 0, 21⟩ s m args below meth c 0 0 Q D A s.heap 8 (wX10 cI cB cJ h q v_stalls v_claimMany v_taped v_place0 v_length0 v_fault v_number0 v_open v_codeMany v_waiting v_saidMany v_clauses v_newMany v_newStalls v_lines v_salesNow v_outNow v_isKept v_keptStalls v_now v_aside v_kept v_oneOf v_otherOf v_signOf v_byOf v_tape v_said v_waitsAt v_saidLetter v_saidFrom v_saidHalf v_saidTo v_codes v_clauseOf v_codeFrom v_codeHalf v_codeTo v_stack v_facts v_newOne v_newOther v_newSign v_newBy v_moreOf v_firstOf v_toldOf v_mostOf v_mostThen v_sumTo v_rowFrom v_ordersOf v_lessOf v_weightOf v_rowNow v_slowRow v_fastRow lineNow_109 v_firstLine v_freeBy v_heldBy v_heightOf v_upTo v_downTo v_oftenOf v_newUpper v_newLower) 109 [(0, .ref h), (5, vI x5_52), (6, vI x6_44), (7, vI x7_109)] [] := by
                      intro n
                      induction n with
                      | zero => intros; exfalso; omega
                      | succ n ih109 =>
                        intro x7_109 lineNow_109 r_lineNow_109 w109_0 wm109
                        refine g_iload X dX10_isTriangle_109 3 rfl ?_
                        refine g_iconst X dX10_isTriangle_111 ?_
                        refine g_iadd X dX10_isTriangle_112 ?_
                        refine g_iload X dX10_isTriangle_113 2 rfl ?_
                        refine g_icmp_ge X (tgt := 151) dX10_isTriangle_115 (by decide) (by omega) (by omega) (fun c115 => ?_) (fun c115 => ?_)
                        · refine g_iinc X (lv' := [(6, vI (x6_44 + (-1))), (0, .ref h), (5, vI x5_52), (7, vI x7_109)]) dX10_isTriangle_151 2 rfl (by decide) rfl ?_
                          refine g_goto X (tgt := 44) dX10_isTriangle_154 (by decide) ?_
                          refine g_lv [1, 2, 0] rfl ?_
                          exact ih44 x5_52 (x6_44 + (-1)) lineNow_109 r_lineNow_109 (by first | assumption | omega) (by first | assumption | omega) (by omega)
                        · refine g_aload_n X dX10_isTriangle_118 0 rfl ?_
                          refine gM_get X 0 rfl 51 (by decide) uw1230 rfl dX10_isTriangle_119 ?_
                          refine g_iload X dX10_isTriangle_122 3 rfl ?_
                          refine g_aload_n X dX10_isTriangle_124 0 rfl ?_
                          refine gM_get X 0 rfl 51 (by decide) uw1230 rfl dX10_isTriangle_125 ?_
                          refine g_iload X dX10_isTriangle_128 3 rfl ?_
                          refine g_iald X 39 0 rfl rfl (by omega) (by decide) dX10_isTriangle_130 (fun t130 e130 => ?_)
                          have r130 := r_lineNow_109 (x7_109 : Int).toNat; rw [← e130] at r130
                          refine g_aload_n X dX10_isTriangle_131 0 rfl ?_
                          refine gM_get X 0 rfl 51 (by decide) uw1230 rfl dX10_isTriangle_132 ?_
                          refine g_iload X dX10_isTriangle_135 3 rfl ?_
                          refine g_iconst X dX10_isTriangle_137 ?_
                          refine g_iadd X dX10_isTriangle_138 ?_
                          refine g_iald X 39 0 rfl rfl (by omega) (by decide) dX10_isTriangle_139 (fun t139 e139 => ?_)
                          have r139 := r_lineNow_109 (x7_109 + 1 : Int).toNat; rw [← e139] at r139
                          refine g_isub X dX10_isTriangle_140 ?_
                          refine g_callSIE X (c_X10_size l D cI cB cJ (p0 := t130 - t139) (by first | assumption | omega) (by first | assumption | omega)) cv_X10_size uw1672 ⟨rfl, rfl, by decide, by decide⟩ rfl rfl (Nat.le_of_ble_eq_true rfl) ⟨Nat.zero_le _, Nat.zero_le _⟩ dX10_isTriangle_141 (fun t141 ws141 k141 => ?_)
                          obtain ⟨kp0_141, rfl⟩ := k141
                          refine g_iast X 39 0 rfl rfl (by omega) (by decide) dX10_isTriangle_144 (fun lineNow_144 e144 => ?_)
                          have r_lineNow_144 : RA 0 10 lineNow_144 := by rw [e144]; exact RA_up r_lineNow_109 (by omega)
                          refine g_ws (ws2 := (wX10 cI cB cJ h q v_stalls v_claimMany v_taped v_place0 v_length0 v_fault v_number0 v_open v_codeMany v_waiting v_saidMany v_clauses v_newMany v_newStalls v_lines v_salesNow v_outNow v_isKept v_keptStalls v_now v_aside v_kept v_oneOf v_otherOf v_signOf v_byOf v_tape v_said v_waitsAt v_saidLetter v_saidFrom v_saidHalf v_saidTo v_codes v_clauseOf v_codeFrom v_codeHalf v_codeTo v_stack v_facts v_newOne v_newOther v_newSign v_newBy v_moreOf v_firstOf v_toldOf v_mostOf v_mostThen v_sumTo v_rowFrom v_ordersOf v_lessOf v_weightOf v_rowNow v_slowRow v_fastRow lineNow_144 v_firstLine v_freeBy v_heldBy v_heightOf v_upTo v_downTo v_oftenOf v_newUpper v_newLower)) rfl ?_
                          refine g_iinc X (lv' := [(7, vI (x7_109 + 1)), (0, .ref h), (5, vI x5_52), (6, vI x6_44)]) dX10_isTriangle_145 3 rfl (by decide) rfl ?_
                          refine g_goto X (tgt := 109) dX10_isTriangle_148 (by decide) ?_
                          refine g_lv [1, 2, 3, 0] rfl ?_
                          exact ih109 (x7_109 + 1) lineNow_144 r_lineNow_144 (by first | assumption | omega) (by omega)
                    refine g_lv [1, 2, 3, 0] rfl ?_
                    exact L109 _ 0 lineNow_44 r_lineNow_44 (by first | assumption | omega) (Nat.lt_succ_self _)
                  · refine g_aload_n X dX10_isTriangle_59 0 rfl ?_
                    refine gM_get X 0 rfl 51 (by decide) uw1230 rfl dX10_isTriangle_60 ?_
                    refine g_iload X dX10_isTriangle_63 3 rfl ?_
                    refine g_iald X 39 0 rfl rfl (by omega) (by decide) dX10_isTriangle_65 (fun t65 e65 => ?_)
                    have r65 := r_lineNow_44 (x7_52 : Int).toNat; rw [← e65] at r65
                    refine g_if_eq X (tgt := 84) dX10_isTriangle_66 (by decide) (by omega) (fun c66 => ?_) (fun c66 => ?_)
                    · refine g_iconst X dX10_isTriangle_84 ?_
                      exact hQ _ _ _ _ dX10_isTriangle_85 ⟨by omega, ⟨lineNow_44, r_lineNow_44, rfl⟩⟩
                    · refine g_iload X dX10_isTriangle_69 1 rfl ?_
                      refine g_aload_n X dX10_isTriangle_71 0 rfl ?_
                      refine gM_get X 0 rfl 51 (by decide) uw1230 rfl dX10_isTriangle_72 ?_
                      refine g_iload X dX10_isTriangle_75 3 rfl ?_
                      refine g_iald X 39 0 rfl rfl (by omega) (by decide) dX10_isTriangle_77 (fun t77 e77 => ?_)
                      have r77 := r_lineNow_44 (x7_52 : Int).toNat; rw [← e77] at r77
                      refine g_callSIE X (c_X10_has l D cI cB cJ (p0 := x5_52) (p1 := t77) (by first | assumption | omega) (by first | assumption | omega)) cv_X10_has uw1531 ⟨rfl, rfl, by decide, by decide⟩ rfl rfl (Nat.le_of_ble_eq_true rfl) ⟨Nat.zero_le _, Nat.zero_le _⟩ dX10_isTriangle_78 (fun t78 ws78 k78 => ?_)
                      obtain ⟨kb_78, ⟨kp0_78, rfl⟩⟩ := k78
                      refine g_if_eq X (tgt := 86) dX10_isTriangle_81 (by decide) (by omega) (fun c81 => ?_) (fun c81 => ?_)
                      · refine g_iload X dX10_isTriangle_86 1 rfl ?_
                        refine g_iconst X dX10_isTriangle_88 ?_
                        refine g_aload_n X dX10_isTriangle_89 0 rfl ?_
                        refine gM_get X 0 rfl 51 (by decide) uw1230 rfl dX10_isTriangle_90 ?_
                        refine g_iload X dX10_isTriangle_93 3 rfl ?_
                        refine g_iald X 39 0 rfl rfl (by omega) (by decide) dX10_isTriangle_95 (fun t95 e95 => ?_)
                        have r95 := r_lineNow_44 (x7_52 : Int).toNat; rw [← e95] at r95
                        refine g_ishl X dX10_isTriangle_96 ?_
                        refine g_nm (fun t96 e96 => ?_)
                        have r96 : IR t96 := by rw [e96]; exact z_ir _
                        refine g_ior X dX10_isTriangle_97 ?_
                        refine g_nm (fun t97 e97 => ?_)
                        have r97 : IR t97 := by rw [e97]; exact z_ir _
                        refine g_istore X (lv' := [(5, vI t97), (0, .ref h), (6, vI x6_44), (7, vI x7_52)]) dX10_isTriangle_98 (by decide) rfl ?_
                        refine g_iinc X (lv' := [(7, vI (x7_52 + 1)), (5, vI t97), (0, .ref h), (6, vI x6_44)]) dX10_isTriangle_100 3 rfl (by decide) rfl ?_
                        refine g_goto X (tgt := 52) dX10_isTriangle_103 (by decide) ?_
                        refine g_lv [2, 1, 3, 0] rfl ?_
                        exact ih52 t97 (x7_52 + 1) (by first | assumption | omega) (by first | assumption | omega) (by omega)
                      · refine g_iconst X dX10_isTriangle_84 ?_
                        exact hQ _ _ _ _ dX10_isTriangle_85 ⟨by omega, ⟨lineNow_44, r_lineNow_44, rfl⟩⟩
              refine g_lv [1, 2, 3, 0] rfl ?_
              exact L52 _ x5_44 0 (by first | assumption | omega) (by first | assumption | omega) (Nat.lt_succ_self _)
        refine g_lv [2, 1, 0] rfl ?_
        exact L44 _ 0 p0 lineNow_8 r_lineNow_8 (by first | assumption | omega) (by first | assumption | omega) (Nat.lt_succ_self _)
      · refine g_aload_n X dX10_isTriangle_13 0 rfl ?_
        refine gM_get X 0 rfl 51 (by decide) uw1230 rfl dX10_isTriangle_14 ?_
        refine g_iload X dX10_isTriangle_17 4 rfl ?_
        refine g_iload X dX10_isTriangle_19 3 rfl ?_
        refine g_iload_n X dX10_isTriangle_21 2 rfl ?_
        refine g_irem X dX10_isTriangle_22 (by omega) (by omega) ?_
        refine g_nm (fun t22 e22 => ?_)
        have r22 : 0 ≤ t22 ∧ ((0 : Int) < p2 → t22 < p2) := by rw [e22]; exact ⟨Int.emod_nonneg _ (by omega), fun h => Int.emod_lt_of_pos _ h⟩
        refine g_iconst X dX10_isTriangle_23 ?_
        refine g_iadd X dX10_isTriangle_24 ?_
        refine g_iast X 39 0 rfl rfl (by omega) (by decide) dX10_isTriangle_25 (fun lineNow_25 e25 => ?_)
        have r_lineNow_25 : RA 0 10 lineNow_25 := by rw [e25]; exact RA_up r_lineNow_8 (by omega)
        refine g_ws (ws2 := (wX10 cI cB cJ h q v_stalls v_claimMany v_taped v_place0 v_length0 v_fault v_number0 v_open v_codeMany v_waiting v_saidMany v_clauses v_newMany v_newStalls v_lines v_salesNow v_outNow v_isKept v_keptStalls v_now v_aside v_kept v_oneOf v_otherOf v_signOf v_byOf v_tape v_said v_waitsAt v_saidLetter v_saidFrom v_saidHalf v_saidTo v_codes v_clauseOf v_codeFrom v_codeHalf v_codeTo v_stack v_facts v_newOne v_newOther v_newSign v_newBy v_moreOf v_firstOf v_toldOf v_mostOf v_mostThen v_sumTo v_rowFrom v_ordersOf v_lessOf v_weightOf v_rowNow v_slowRow v_fastRow lineNow_25 v_firstLine v_freeBy v_heldBy v_heightOf v_upTo v_downTo v_oftenOf v_newUpper v_newLower)) rfl ?_
        refine g_iload X dX10_isTriangle_26 3 rfl ?_
        refine g_iload_n X dX10_isTriangle_28 2 rfl ?_
        refine g_idiv X dX10_isTriangle_29 (by omega) (by omega) ?_
        refine g_nm (fun t29 e29 => ?_)
        have r29 := z_div_r x4_8 p2 (by omega) (by omega); rw [← e29] at r29
        refine g_istore X (lv' := [(4, vI t29), (0, .ref h), (1, vI p0), (3, vI p2), (5, vI x5_8)]) dX10_isTriangle_30 (by decide) rfl ?_
        refine g_iinc X (lv' := [(5, vI (x5_8 + (-1))), (4, vI t29), (0, .ref h), (1, vI p0), (3, vI p2)]) dX10_isTriangle_32 4 rfl (by decide) rfl ?_
        refine g_goto X (tgt := 8) dX10_isTriangle_35 (by decide) ?_
        refine g_lv [2, 3, 4, 1, 0] rfl ?_
        exact ih8 t29 (x5_8 + (-1)) lineNow_25 r_lineNow_25 (by first | assumption | omega) (by first | assumption | omega) (by omega)
  refine g_lv [2, 3, 5, 1, 0] rfl ?_
  exact L8 _ p1 (p0 - 1) v_lineNow r_v_lineNow (by first | assumption | omega) (by first | assumption | omega) (Nat.lt_succ_self _)
set_option maxHeartbeats 4000000 in
set_option maxRecDepth 100000 in
theorem c_X10_triangle (l : Launch) (D : va_G) (cI cB cJ : ClassId) (h : Nat) (q : Nat → Nat) {v_stalls v_claimMany v_taped v_place0 v_length0 v_fault v_number0 v_open v_codeMany v_waiting v_saidMany v_clauses v_newMany v_newStalls v_lines v_salesNow v_outNow v_isKept v_keptStalls : Int} {v_now v_aside v_kept v_oneOf v_otherOf v_signOf v_byOf v_tape v_said v_waitsAt v_saidLetter v_saidFrom v_saidHalf v_saidTo v_codes v_clauseOf v_codeFrom v_codeHalf v_codeTo v_stack v_facts v_newOne v_newOther v_newSign v_newBy v_moreOf v_firstOf v_toldOf v_mostOf v_mostThen v_sumTo v_rowFrom v_ordersOf v_lessOf v_weightOf v_rowNow v_slowRow v_fastRow v_lineNow v_firstLine v_freeBy v_heldBy v_heightOf v_upTo v_downTo v_oftenOf v_newUpper v_newLower : Nat → Int} {p0 p1 : Int} (r_v_lineNow : RA 0 10 v_lineNow) (hp0 : IR p0) (hp1 : IR p1) : CtI l yX10_triangle cX10_triangle 8 (some .int) ⟨2, 0, 0, 48⟩ D (TY cI cB cJ) (wX10 cI cB cJ h q v_stalls v_claimMany v_taped v_place0 v_length0 v_fault v_number0 v_open v_codeMany v_waiting v_saidMany v_clauses v_newMany v_newStalls v_lines v_salesNow v_outNow v_isKept v_keptStalls v_now v_aside v_kept v_oneOf v_otherOf v_signOf v_byOf v_tape v_said v_waitsAt v_saidLetter v_saidFrom v_saidHalf v_saidTo v_codes v_clauseOf v_codeFrom v_codeHalf v_codeTo v_stack v_facts v_newOne v_newOther v_newSign v_newBy v_moreOf v_firstOf v_toldOf v_mostOf v_mostThen v_sumTo v_rowFrom v_ordersOf v_lessOf v_weightOf v_rowNow v_slowRow v_fastRow v_lineNow v_firstLine v_freeBy v_heldBy v_heightOf v_upTo v_downTo v_oftenOf v_newUpper v_newLower) [.ref h, vI p0, vI p1] (fun z ws' => ∃ n_lineNow : Nat → Int, (RA 0 10 n_lineNow) ∧ (IR z) ∧ (ws' = (wX10 cI cB cJ h q v_stalls v_claimMany v_taped v_place0 v_length0 v_fault v_number0 v_open v_codeMany v_waiting v_saidMany v_clauses v_newMany v_newStalls v_lines v_salesNow v_outNow v_isKept v_keptStalls v_now v_aside v_kept v_oneOf v_otherOf v_signOf v_byOf v_tape v_said v_waitsAt v_saidLetter v_saidFrom v_saidHalf v_saidTo v_codes v_clauseOf v_codeFrom v_codeHalf v_codeTo v_stack v_facts v_newOne v_newOther v_newSign v_newBy v_moreOf v_firstOf v_toldOf v_mostOf v_mostThen v_sumTo v_rowFrom v_ordersOf v_lessOf v_weightOf v_rowNow v_slowRow v_fastRow n_lineNow v_firstLine v_freeBy v_heldBy v_heightOf v_upTo v_downTo v_oftenOf v_newUpper v_newLower))) := by
  refine hdrI (own := RX10) rfl (by decide +kernel) (Nat.le_of_ble_eq_true rfl) ?_
  intro p e s m args below meth c Q A X hQ
  refine g_lvE (lv2 := [(0, .ref h), (1, vI p0), (2, vI p1)]) rfl ?_
  refine g_iload_n X dX10_triangle_0 1 rfl ?_
  refine g_iconst X dX10_triangle_1 ?_
  refine g_iconst X dX10_triangle_2 ?_
  refine g_callSIE X (c_X10_in l D cI cB cJ (p0 := p0) (p1 := 1) (p2 := 4) (by first | assumption | omega) (by first | assumption | omega) (by first | assumption | omega)) cv_X10_in uw1394 ⟨rfl, rfl, by decide, by decide⟩ rfl rfl (Nat.le_of_ble_eq_true rfl) ⟨Nat.zero_le _, Nat.zero_le _⟩ dX10_triangle_3 (fun t3 ws3 k3 => ?_)
  obtain ⟨kb_3, ⟨kp0_3, rfl⟩⟩ := k3
  refine g_if_eq X (tgt := 24) dX10_triangle_6 (by decide) (by omega) (fun c6 => ?_) (fun c6 => ?_)
  · refine g_iconst X dX10_triangle_24 ?_
    exact hQ _ _ _ _ dX10_triangle_25 ⟨v_lineNow, r_v_lineNow, (by omega), rfl⟩
  · refine g_iload_n X dX10_triangle_9 2 rfl ?_
    refine g_iconst X dX10_triangle_10 ?_
    refine g_iconst X dX10_triangle_11 ?_
    refine g_callSIE X (c_X10_in l D cI cB cJ (p0 := p1) (p1 := 0) (p2 := 3) (by first | assumption | omega) (by first | assumption | omega) (by first | assumption | omega)) cv_X10_in uw1394 ⟨rfl, rfl, by decide, by decide⟩ rfl rfl (Nat.le_of_ble_eq_true rfl) ⟨Nat.zero_le _, Nat.zero_le _⟩ dX10_triangle_12 (fun t12 ws12 k12 => ?_)
    obtain ⟨kb_12, ⟨kp0_12, rfl⟩⟩ := k12
    refine g_if_ne X (tgt := 26) dX10_triangle_15 (by decide) (by omega) (fun c15 => ?_) (fun c15 => ?_)
    · refine g_iload_n X dX10_triangle_26 2 rfl ?_
      refine g_bipush X (z := 100) dX10_triangle_27 (by decide) ?_
      refine g_icmp_eq X (tgt := 40) dX10_triangle_29 (by decide) (by omega) (by omega) (fun c29 => ?_) (fun c29 => ?_)
      · refine g_iload_n X dX10_triangle_40 1 rfl ?_
        refine g_iload_n X dX10_triangle_41 1 rfl ?_
        refine g_iconst X dX10_triangle_42 ?_
        refine g_iadd X dX10_triangle_43 ?_
        refine g_imul X dX10_triangle_44 ?_
        refine g_nm (fun t44 e44 => ?_)
        refine g_iconst X dX10_triangle_45 ?_
        have hm : t44 ≤ 20 ∧ 2 ≤ t44 := by rcases (show p0 = 1 ∨ p0 = 2 ∨ p0 = 3 ∨ p0 = 4 by omega) with h | h | h | h <;> (rw [e44, h]; decide)
        refine g_idiv X dX10_triangle_46 (by omega) (by omega) ?_
        refine g_nm (fun t46 e46 => ?_)
        refine g_istore_n X (lv' := [(3, vI t46), (0, .ref h), (1, vI p0), (2, vI p1)]) dX10_triangle_47 (by decide) rfl ?_
        refine g_iconst X dX10_triangle_48 ?_
        refine g_istore X (lv' := [(4, vI 1), (3, vI t46), (0, .ref h), (1, vI p0), (2, vI p1)]) dX10_triangle_49 (by decide) rfl ?_
        refine g_iconst X dX10_triangle_51 ?_
        refine g_istore X (lv' := [(5, vI 0), (4, vI 1), (3, vI t46), (0, .ref h), (1, vI p0), (2, vI p1)]) dX10_triangle_52 (by decide) rfl ?_
        have L54 : ∀ (n : Nat) (x4_54 : Int) (x5_54 : Int), (0 ≤ x5_54 ∧ x5_54 ≤ p0) → ((x5_54 = 0 ∧ x4_54 = 1) ∨ (x5_54 = 1 ∧ 0 ≤ x4_54 ∧ x4_54 ≤ 10) ∨ (x5_54 = 2 ∧ 0 ≤ x4_54 ∧ x4_54 ≤ 100) ∨ (x5_54 = 3 ∧ 0 ≤ x4_54 ∧ x4_54 ≤ 1000) ∨ (x5_54 = 4 ∧ 0 ≤ x4_54 ∧ x4_54 ≤ 10000)) → (p0 - x5_54).toNat < n → GG p l e ⟨2, 0, 0, 48⟩ s m args below meth c 0 0 Q D A s.heap 8 (wX10 cI cB cJ h q v_stalls v_claimMany v_taped v_place0 v_length0 v_fault v_number0 v_open v_codeMany v_waiting v_saidMany v_clauses v_newMany v_newStalls v_lines v_salesNow v_outNow v_isKept v_keptStalls v_now v_aside v_kept v_oneOf v_otherOf v_signOf v_byOf v_tape v_said v_waitsAt v_saidLetter v_saidFrom v_saidHalf v_saidTo v_codes v_clauseOf v_codeFrom v_codeHalf v_codeTo v_stack v_facts v_newOne v_newOther v_newSign v_newBy v_moreOf v_firstOf v_toldOf v_mostOf v_mostThen v_sumTo v_rowFrom v_ordersOf v_lessOf v_weightOf v_rowNow v_slowRow v_fastRow v_lineNow v_firstLine v_freeBy v_heldBy v_heightOf v_upTo v_downTo v_oftenOf v_newUpper v_newLower) 54 [(0, .ref h), (1, vI p0), (2, vI p1), (3, vI t46), (4, vI x4_54), (5, vI x5_54)] [] := by
          intro n
          induction n with
          | zero => intros; exfalso; omega
          | succ n ih54 =>
            intro x4_54 x5_54 w54_0 w54_1 wm54
            refine g_iload X dX10_triangle_54 5 rfl ?_
            refine g_iload_n X dX10_triangle_56 1 rfl ?_
            refine g_icmp_ge X (tgt := 72) dX10_triangle_57 (by decide) (by omega) (by omega) (fun c57 => ?_) (fun c57 => ?_)
            · refine g_iconst X dX10_triangle_72 ?_
              refine g_istore X (lv' := [(5, vI 0), (0, .ref h), (1, vI p0), (2, vI p1), (3, vI t46), (4, vI x4_54)]) dX10_triangle_73 (by decide) rfl ?_
              refine g_iconst X dX10_triangle_75 ?_
              refine g_istore X (lv' := [(6, vI (-1)), (5, vI 0), (0, .ref h), (1, vI p0), (2, vI p1), (3, vI t46), (4, vI x4_54)]) dX10_triangle_76 (by decide) rfl ?_
              refine g_iload X dX10_triangle_78 6 rfl ?_
              refine g_iconst X dX10_triangle_80 ?_
              refine g_isub X dX10_triangle_81 ?_
              refine g_istore X (lv' := [(7, vI (x4_54 - 1)), (6, vI (-1)), (5, vI 0), (0, .ref h), (1, vI p0), (2, vI p1), (3, vI t46), (4, vI x4_54)]) dX10_triangle_82 (by decide) rfl ?_
              have L84 : ∀ (n : Nat) (x5_84 : Int) (x6_84 : Int) (x7_84 : Int) (lineNow_84 : Nat → Int), (RA 0 10 lineNow_84) → (-1 ≤ x7_84 ∧ x7_84 ≤ 2147483647) → (0 ≤ x5_84 ∧ x5_84 + x7_84 ≤ 2147483646) → (-1 ≤ x6_84 ∧ x6_84 ≤ 2147483647) → (x7_84 + 1).toNat < n → GG p l e ⟨2, 0, 0, 48⟩ s m args below meth c 0 0 Q D A s.heap 8 (wX10 cI cB cJ h q v_stalls v_claimMany v_taped v_place0 v_length0 v_fault v_number0 v_open v_codeMany v_waiting v_saidMany v_clauses v_newMany v_newStalls v_lines v_salesNow v_outNow v_isKept v_keptStalls v_now v_aside v_kept v_oneOf v_otherOf v_signOf v_byOf v_tape v_said v_waitsAt v_saidLetter v_saidFrom v_saidHalf v_saidTo v_codes v_clauseOf v_codeFrom v_codeHalf v_codeTo v_stack v_facts v_newOne v_newOther v_newSign v_newBy v_moreOf v_firstOf v_toldOf v_mostOf v_mostThen v_sumTo v_rowFrom v_ordersOf v_lessOf v_weightOf v_rowNow v_slowRow v_fastRow lineNow_84 v_firstLine v_freeBy v_heldBy v_heightOf v_upTo v_downTo v_oftenOf v_newUpper v_newLower) 84 [(0, .ref h), (1, vI p0), (2, vI p1), (3, vI t46), (5, vI x5_84), (6, vI x6_84), (7, vI x7_84)] [] := by
                intro n
                induction n with
                | zero => intros; exfalso; omega
                | succ n ih84 =>
                  intro x5_84 x6_84 x7_84 lineNow_84 r_lineNow_84 w84_0 w84_1 w84_2 wm84
                  refine g_iload X dX10_triangle_84 6 rfl ?_
                  refine g_if_lt X (tgt := 119) dX10_triangle_86 (by decide) (by omega) (fun c86 => ?_) (fun c86 => ?_)
                  · refine g_iload_n X dX10_triangle_119 2 rfl ?_
                    refine g_bipush X (z := 100) dX10_triangle_120 (by decide) ?_
                    refine g_icmp_ne X (tgt := 128) dX10_triangle_122 (by decide) (by omega) (by omega) (fun c122 => ?_) (fun c122 => ?_)
                    · refine g_iload_n X dX10_triangle_128 1 rfl ?_
                      refine g_iconst X dX10_triangle_129 ?_
                      refine g_isub X dX10_triangle_130 ?_
                      refine g_istore X (lv' := [(7, vI (p0 - 1)), (0, .ref h), (1, vI p0), (2, vI p1), (3, vI t46), (5, vI x5_84), (6, vI x6_84)]) dX10_triangle_131 (by decide) rfl ?_
                      have L133 : ∀ (n : Nat) (x6_133 : Int) (x7_133 : Int), (0 ≤ x7_133 ∧ x7_133 ≤ p0) → (IR x6_133) → (x7_133).toNat < n → GG p l e ⟨2, 0, 0, 48⟩ s m args below meth c 0 0 Q D A s.heap 8 (wX10 cI cB cJ h q v_stalls v_claimMany v_taped v_place0 v_length0 v_fault v_number0 v_open v_codeMany v_waiting v_saidMany v_clauses v_newMany v_newStalls v_lines v_salesNow v_outNow v_isKept v_keptStalls v_now v_aside v_kept v_oneOf v_otherOf v_signOf v_byOf v_tape v_said v_waitsAt v_saidLetter v_saidFrom v_saidHalf v_saidTo v_codes v_clauseOf v_codeFrom v_codeHalf v_codeTo v_stack v_facts v_newOne v_newOther v_newSign v_newBy v_moreOf v_firstOf v_toldOf v_mostOf v_mostThen v_sumTo v_rowFrom v_ordersOf v_lessOf v_weightOf v_rowNow v_slowRow v_fastRow lineNow_84 v_firstLine v_freeBy v_heldBy v_heightOf v_upTo v_downTo v_oftenOf v_newUpper v_newLower) 133 [(2, vI p1), (3, vI t46), (6, vI x6_133), (7, vI x7_133)] [] := by
                        intro n
                        induction n with
                        | zero => intros; exfalso; omega
                        | succ n ih133 =>
                          intro x6_133 x7_133 w133_0 w133_1 wm133
                          refine g_iload X dX10_triangle_133 3 rfl ?_
                          refine g_iload_n X dX10_triangle_135 0 rfl ?_
                          refine g_icmp_le X (tgt := 151) dX10_triangle_136 (by decide) (by omega) (by omega) (fun c136 => ?_) (fun c136 => ?_)
                          · refine g_iload X dX10_triangle_151 2 rfl ?_
                            refine g_iload_n X dX10_triangle_153 1 rfl ?_
                            refine g_iremT X dX10_triangle_154 (by omega) (by omega) ?_
                            refine g_nr (fun t154 e154 r154 => ?_)
                            refine g_iconst X dX10_triangle_155 ?_
                            refine g_iadd X dX10_triangle_156 ?_
                            refine g_nr (fun t156 e156 r156 => ?_)
                            exact hQ _ _ _ _ dX10_triangle_157 ⟨lineNow_84, r_lineNow_84, (by omega), rfl⟩
                          · refine g_iload X dX10_triangle_139 2 rfl ?_
                            refine g_iload_n X dX10_triangle_141 1 rfl ?_
                            refine g_idivT X dX10_triangle_142 (by omega) (by omega) ?_
                            refine g_nr (fun t142 e142 r142 => ?_)
                            refine g_istore X (lv' := [(6, vI t142), (2, vI p1), (3, vI t46), (7, vI x7_133)]) dX10_triangle_143 (by decide) rfl ?_
                            refine g_iinc X (lv' := [(7, vI (x7_133 + (-1))), (6, vI t142), (2, vI p1), (3, vI t46)]) dX10_triangle_145 3 rfl (by decide) rfl ?_
                            refine g_goto X (tgt := 133) dX10_triangle_148 (by decide) ?_
                            refine g_lv [2, 3, 1, 0] rfl ?_
                            exact ih133 t142 (x7_133 + (-1)) (by first | assumption | omega) (by first | assumption | omega) (by omega)
                      refine g_lv [3, 4, 6, 0] rfl ?_
                      exact L133 _ x6_84 (p0 - 1) (by first | assumption | omega) (by first | assumption | omega) (Nat.lt_succ_self _)
                    · refine g_iload X dX10_triangle_125 4 rfl ?_
                      exact hQ _ _ _ _ dX10_triangle_127 ⟨lineNow_84, r_lineNow_84, (by omega), rfl⟩
                  · refine g_aload_n X dX10_triangle_89 0 rfl ?_
                    refine g_iload_n X dX10_triangle_90 1 rfl ?_
                    refine g_iload X dX10_triangle_91 6 rfl ?_
                    refine g_iload_n X dX10_triangle_93 3 rfl ?_
                    refine g_callVI0 X (c_X10_isTriangle l D cI cB cJ h q (p0 := p0) (p1 := x7_84) (p2 := t46) r_lineNow_84 (by first | assumption | omega) (by first | assumption | omega) (by first | assumption | omega) (by first | assumption | omega) (by first | assumption | omega) (by first | assumption | omega)) cv_X10_isTriangle uw1686 ⟨rfl, rfl, by decide, by decide⟩ 0 rfl rfl rfl rfl rfl (Nat.le_of_ble_eq_true rfl) ⟨Nat.zero_le _, Nat.zero_le _⟩ dX10_triangle_94 (fun t94 ws94 k94 => ?_)
                    obtain ⟨kb_94, ⟨lineNow_94, r_lineNow_94, rfl⟩⟩ := k94
                    refine g_if_ne X (tgt := 103) dX10_triangle_97 (by decide) (by omega) (fun c97 => ?_) (fun c97 => ?_)
                    · refine g_iload X dX10_triangle_103 4 rfl ?_
                      refine g_iconst X dX10_triangle_105 ?_
                      refine g_iadd X dX10_triangle_106 ?_
                      refine g_istore X (lv' := [(5, vI (x5_84 + 1)), (0, .ref h), (1, vI p0), (2, vI p1), (3, vI t46), (6, vI x6_84), (7, vI x7_84)]) dX10_triangle_107 (by decide) rfl ?_
                      refine g_iload X dX10_triangle_109 6 rfl ?_
                      refine g_istore X (lv' := [(6, vI x7_84), (5, vI (x5_84 + 1)), (0, .ref h), (1, vI p0), (2, vI p1), (3, vI t46), (7, vI x7_84)]) dX10_triangle_111 (by decide) rfl ?_
                      refine g_iinc X (lv' := [(7, vI (x7_84 + (-1))), (6, vI x7_84), (5, vI (x5_84 + 1)), (0, .ref h), (1, vI p0), (2, vI p1), (3, vI t46)]) dX10_triangle_113 6 rfl (by decide) rfl ?_
                      refine g_goto X (tgt := 84) dX10_triangle_116 (by decide) ?_
                      refine g_lv [3, 4, 5, 6, 2, 1, 0] rfl ?_
                      exact ih84 (x5_84 + 1) x7_84 (x7_84 + (-1)) lineNow_94 r_lineNow_94 (by first | assumption | omega) (by first | assumption | omega) (by first | assumption | omega) (by omega)
                    · refine g_goto X (tgt := 113) dX10_triangle_100 (by decide) ?_
                      refine g_iinc X (lv' := [(7, vI (x7_84 + (-1))), (0, .ref h), (1, vI p0), (2, vI p1), (3, vI t46), (5, vI x5_84), (6, vI x6_84)]) dX10_triangle_113 6 rfl (by decide) rfl ?_
                      refine g_goto X (tgt := 84) dX10_triangle_116 (by decide) ?_
                      refine g_lv [1, 2, 3, 4, 5, 6, 0] rfl ?_
                      exact ih84 x5_84 x6_84 (x7_84 + (-1)) lineNow_94 r_lineNow_94 (by first | assumption | omega) (by first | assumption | omega) (by first | assumption | omega) (by omega)
              refine g_lv [3, 4, 5, 6, 2, 1, 0] rfl ?_
              exact L84 _ 0 (-1) (x4_54 - 1) v_lineNow r_v_lineNow (by first | assumption | omega) (by first | assumption | omega) (by first | assumption | omega) (Nat.lt_succ_self _)
            · refine g_iload X dX10_triangle_60 4 rfl ?_
              refine g_iload_n X dX10_triangle_62 3 rfl ?_
              have hq : 0 ≤ x4_54 * t46 ∧ x4_54 * t46 ≤ x4_54 * 10 := ⟨Int.mul_nonneg (by omega) (by omega), Int.mul_le_mul_of_nonneg_left (by omega) (by omega)⟩
              refine g_imul X dX10_triangle_63 ?_
              refine g_nm (fun t63 e63 => ?_)
              refine g_istore X (lv' := [(4, vI t63), (0, .ref h), (1, vI p0), (2, vI p1), (3, vI t46), (5, vI x5_54)]) dX10_triangle_64 (by decide) rfl ?_
              refine g_iinc X (lv' := [(5, vI (x5_54 + 1)), (4, vI t63), (0, .ref h), (1, vI p0), (2, vI p1), (3, vI t46)]) dX10_triangle_66 5 rfl (by decide) rfl ?_
              refine g_goto X (tgt := 54) dX10_triangle_69 (by decide) ?_
              refine g_lv [2, 3, 4, 5, 1, 0] rfl ?_
              exact ih54 t63 (x5_54 + 1) (by first | assumption | omega) (by first | assumption | omega) (by omega)
        refine g_lv [3, 4, 5, 2, 1, 0] rfl ?_
        exact L54 _ 1 0 (by first | assumption | omega) (by first | assumption | omega) (Nat.lt_succ_self _)
      · refine g_iload_n X dX10_triangle_32 2 rfl ?_
        refine g_iload_n X dX10_triangle_33 1 rfl ?_
        refine g_icmp_lt X (tgt := 40) dX10_triangle_34 (by decide) (by omega) (by omega) (fun c34 => ?_) (fun c34 => ?_)
        · refine g_iload_n X dX10_triangle_40 1 rfl ?_
          refine g_iload_n X dX10_triangle_41 1 rfl ?_
          refine g_iconst X dX10_triangle_42 ?_
          refine g_iadd X dX10_triangle_43 ?_
          refine g_imul X dX10_triangle_44 ?_
          refine g_nm (fun t44 e44 => ?_)
          refine g_iconst X dX10_triangle_45 ?_
          have hm : t44 ≤ 20 ∧ 2 ≤ t44 := by rcases (show p0 = 1 ∨ p0 = 2 ∨ p0 = 3 ∨ p0 = 4 by omega) with h | h | h | h <;> (rw [e44, h]; decide)
          refine g_idiv X dX10_triangle_46 (by omega) (by omega) ?_
          refine g_nm (fun t46 e46 => ?_)
          refine g_istore_n X (lv' := [(3, vI t46), (0, .ref h), (1, vI p0), (2, vI p1)]) dX10_triangle_47 (by decide) rfl ?_
          refine g_iconst X dX10_triangle_48 ?_
          refine g_istore X (lv' := [(4, vI 1), (3, vI t46), (0, .ref h), (1, vI p0), (2, vI p1)]) dX10_triangle_49 (by decide) rfl ?_
          refine g_iconst X dX10_triangle_51 ?_
          refine g_istore X (lv' := [(5, vI 0), (4, vI 1), (3, vI t46), (0, .ref h), (1, vI p0), (2, vI p1)]) dX10_triangle_52 (by decide) rfl ?_
          have L54 : ∀ (n : Nat) (x4_54 : Int) (x5_54 : Int), (0 ≤ x5_54 ∧ x5_54 ≤ p0) → ((x5_54 = 0 ∧ x4_54 = 1) ∨ (x5_54 = 1 ∧ 0 ≤ x4_54 ∧ x4_54 ≤ 10) ∨ (x5_54 = 2 ∧ 0 ≤ x4_54 ∧ x4_54 ≤ 100) ∨ (x5_54 = 3 ∧ 0 ≤ x4_54 ∧ x4_54 ≤ 1000) ∨ (x5_54 = 4 ∧ 0 ≤ x4_54 ∧ x4_54 ≤ 10000)) → (p0 - x5_54).toNat < n → GG p l e ⟨2, 0, 0, 48⟩ s m args below meth c 0 0 Q D A s.heap 8 (wX10 cI cB cJ h q v_stalls v_claimMany v_taped v_place0 v_length0 v_fault v_number0 v_open v_codeMany v_waiting v_saidMany v_clauses v_newMany v_newStalls v_lines v_salesNow v_outNow v_isKept v_keptStalls v_now v_aside v_kept v_oneOf v_otherOf v_signOf v_byOf v_tape v_said v_waitsAt v_saidLetter v_saidFrom v_saidHalf v_saidTo v_codes v_clauseOf v_codeFrom v_codeHalf v_codeTo v_stack v_facts v_newOne v_newOther v_newSign v_newBy v_moreOf v_firstOf v_toldOf v_mostOf v_mostThen v_sumTo v_rowFrom v_ordersOf v_lessOf v_weightOf v_rowNow v_slowRow v_fastRow v_lineNow v_firstLine v_freeBy v_heldBy v_heightOf v_upTo v_downTo v_oftenOf v_newUpper v_newLower) 54 [(0, .ref h), (1, vI p0), (2, vI p1), (3, vI t46), (4, vI x4_54), (5, vI x5_54)] [] := by
            intro n
            induction n with
            | zero => intros; exfalso; omega
            | succ n ih54 =>
              intro x4_54 x5_54 w54_0 w54_1 wm54
              refine g_iload X dX10_triangle_54 5 rfl ?_
              refine g_iload_n X dX10_triangle_56 1 rfl ?_
              refine g_icmp_ge X (tgt := 72) dX10_triangle_57 (by decide) (by omega) (by omega) (fun c57 => ?_) (fun c57 => ?_)
              · refine g_iconst X dX10_triangle_72 ?_
                refine g_istore X (lv' := [(5, vI 0), (0, .ref h), (1, vI p0), (2, vI p1), (3, vI t46), (4, vI x4_54)]) dX10_triangle_73 (by decide) rfl ?_
                refine g_iconst X dX10_triangle_75 ?_
                refine g_istore X (lv' := [(6, vI (-1)), (5, vI 0), (0, .ref h), (1, vI p0), (2, vI p1), (3, vI t46), (4, vI x4_54)]) dX10_triangle_76 (by decide) rfl ?_
                refine g_iload X dX10_triangle_78 6 rfl ?_
                refine g_iconst X dX10_triangle_80 ?_
                refine g_isub X dX10_triangle_81 ?_
                refine g_istore X (lv' := [(7, vI (x4_54 - 1)), (6, vI (-1)), (5, vI 0), (0, .ref h), (1, vI p0), (2, vI p1), (3, vI t46), (4, vI x4_54)]) dX10_triangle_82 (by decide) rfl ?_
                have L84 : ∀ (n : Nat) (x5_84 : Int) (x6_84 : Int) (x7_84 : Int) (lineNow_84 : Nat → Int), (RA 0 10 lineNow_84) → (-1 ≤ x7_84 ∧ x7_84 ≤ 2147483647) → (0 ≤ x5_84 ∧ x5_84 + x7_84 ≤ 2147483646) → (-1 ≤ x6_84 ∧ x6_84 ≤ 2147483647) → (x7_84 + 1).toNat < n → GG p l e ⟨2, 0, 0, 48⟩ s m args below meth c 0 0 Q D A s.heap 8 (wX10 cI cB cJ h q v_stalls v_claimMany v_taped v_place0 v_length0 v_fault v_number0 v_open v_codeMany v_waiting v_saidMany v_clauses v_newMany v_newStalls v_lines v_salesNow v_outNow v_isKept v_keptStalls v_now v_aside v_kept v_oneOf v_otherOf v_signOf v_byOf v_tape v_said v_waitsAt v_saidLetter v_saidFrom v_saidHalf v_saidTo v_codes v_clauseOf v_codeFrom v_codeHalf v_codeTo v_stack v_facts v_newOne v_newOther v_newSign v_newBy v_moreOf v_firstOf v_toldOf v_mostOf v_mostThen v_sumTo v_rowFrom v_ordersOf v_lessOf v_weightOf v_rowNow v_slowRow v_fastRow lineNow_84 v_firstLine v_freeBy v_heldBy v_heightOf v_upTo v_downTo v_oftenOf v_newUpper v_newLower) 84 [(0, .ref h), (1, vI p0), (2, vI p1), (3, vI t46), (5, vI x5_84), (6, vI x6_84), (7, vI x7_84)] [] := by
                  intro n
                  induction n with
                  | zero => intros; exfalso; omega
                  | succ n ih84 =>
                    intro x5_84 x6_84 x7_84 lineNow_84 r_lineNow_84 w84_0 w84_1 w84_2 wm84
                    refine g_iload X dX10_triangle_84 6 rfl ?_
                    refine g_if_lt X (tgt := 119) dX10_triangle_86 (by decide) (by omega) (fun c86 => ?_) (fun c86 => ?_)
                    · refine g_iload_n X dX10_triangle_119 2 rfl ?_
                      refine g_bipush X (z := 100) dX10_triangle_120 (by decide) ?_
                      refine g_icmp_ne X (tgt := 128) dX10_triangle_122 (by decide) (by omega) (by omega) (fun c122 => ?_) (fun c122 => ?_)
                      · refine g_iload_n X dX10_triangle_128 1 rfl ?_
                        refine g_iconst X dX10_triangle_129 ?_
                        refine g_isub X dX10_triangle_130 ?_
                        refine g_istore X (lv' := [(7, vI (p0 - 1)), (0, .ref h), (1, vI p0), (2, vI p1), (3, vI t46), (5, vI x5_84), (6, vI x6_84)]) dX10_triangle_131 (by decide) rfl ?_
                        have L133 : ∀ (n : Nat) (x6_133 : Int) (x7_133 : Int), (0 ≤ x7_133 ∧ x7_133 ≤ p0) → (IR x6_133) → (x7_133).toNat < n → GG p l e ⟨2, 0, 0, 48⟩ s m args below meth c 0 0 Q D A s.heap 8 (wX10 cI cB cJ h q v_stalls v_claimMany v_taped v_place0 v_length0 v_fault v_number0 v_open v_codeMany v_waiting v_saidMany v_clauses v_newMany v_newStalls v_lines v_salesNow v_outNow v_isKept v_keptStalls v_now v_aside v_kept v_oneOf v_otherOf v_signOf v_byOf v_tape v_said v_waitsAt v_saidLetter v_saidFrom v_saidHalf v_saidTo v_codes v_clauseOf v_codeFrom v_codeHalf v_codeTo v_stack v_facts v_newOne v_newOther v_newSign v_newBy v_moreOf v_firstOf v_toldOf v_mostOf v_mostThen v_sumTo v_rowFrom v_ordersOf v_lessOf v_weightOf v_rowNow v_slowRow v_fastRow lineNow_84 v_firstLine v_freeBy v_heldBy v_heightOf v_upTo v_downTo v_oftenOf v_newUpper v_newLower) 133 [(2, vI p1), (3, vI t46), (6, vI x6_133), (7, vI x7_133)] [] := by
                          intro n
                          induction n with
                          | zero => intros; exfalso; omega
                          | succ n ih133 =>
                            intro x6_133 x7_133 w133_0 w133_1 wm133
                            refine g_iload X dX10_triangle_133 3 rfl ?_
                            refine g_iload_n X dX10_triangle_135 0 rfl ?_
                            refine g_icmp_le X (tgt := 151) dX10_triangle_136 (by decide) (by omega) (by omega) (fun c136 => ?_) (fun c136 => ?_)
                            · refine g_iload X dX10_triangle_151 2 rfl ?_
                              refine g_iload_n X dX10_triangle_153 1 rfl ?_
                              refine g_iremT X dX10_triangle_154 (by omega) (by omega) ?_
                              refine g_nr (fun t154 e154 r154 => ?_)
                              refine g_iconst X dX10_triangle_155 ?_
                              refine g_iadd X dX10_triangle_156 ?_
                              refine g_nr (fun t156 e156 r156 => ?_)
                              exact hQ _ _ _ _ dX10_triangle_157 ⟨lineNow_84, r_lineNow_84, (by omega), rfl⟩
                            · refine g_iload X dX10_triangle_139 2 rfl ?_
                              refine g_iload_n X dX10_triangle_141 1 rfl ?_
                              refine g_idivT X dX10_triangle_142 (by omega) (by omega) ?_
                              refine g_nr (fun t142 e142 r142 => ?_)
                              refine g_istore X (lv' := [(6, vI t142), (2, vI p1), (3, vI t46), (7, vI x7_133)]) dX10_triangle_143 (by decide) rfl ?_
                              refine g_iinc X (lv' := [(7, vI (x7_133 + (-1))), (6, vI t142), (2, vI p1), (3, vI t46)]) dX10_triangle_145 3 rfl (by decide) rfl ?_
                              refine g_goto X (tgt := 133) dX10_triangle_148 (by decide) ?_
                              refine g_lv [2, 3, 1, 0] rfl ?_
                              exact ih133 t142 (x7_133 + (-1)) (by first | assumption | omega) (by first | assumption | omega) (by omega)
                        refine g_lv [3, 4, 6, 0] rfl ?_
                        exact L133 _ x6_84 (p0 - 1) (by first | assumption | omega) (by first | assumption | omega) (Nat.lt_succ_self _)
                      · refine g_iload X dX10_triangle_125 4 rfl ?_
                        exact hQ _ _ _ _ dX10_triangle_127 ⟨lineNow_84, r_lineNow_84, (by omega), rfl⟩
                    · refine g_aload_n X dX10_triangle_89 0 rfl ?_
                      refine g_iload_n X dX10_triangle_90 1 rfl ?_
                      refine g_iload X dX10_triangle_91 6 rfl ?_
                      refine g_iload_n X dX10_triangle_93 3 rfl ?_
                      refine g_callVI0 X (c_X10_isTriangle l D cI cB cJ h q (p0 := p0) (p1 := x7_84) (p2 := t46) r_lineNow_84 (by first | assumption | omega) (by first | assumption | omega) (by first | assumption | omega) (by first | assumption | omega) (by first | assumption | omega) (by first | assumption | omega)) cv_X10_isTriangle uw1686 ⟨rfl, rfl, by decide, by decide⟩ 0 rfl rfl rfl rfl rfl (Nat.le_of_ble_eq_true rfl) ⟨Nat.zero_le _, Nat.zero_le _⟩ dX10_triangle_94 (fun t94 ws94 k94 => ?_)
                      obtain ⟨kb_94, ⟨lineNow_94, r_lineNow_94, rfl⟩⟩ := k94
                      refine g_if_ne X (tgt := 103) dX10_triangle_97 (by decide) (by omega) (fun c97 => ?_) (fun c97 => ?_)
                      · refine g_iload X dX10_triangle_103 4 rfl ?_
                        refine g_iconst X dX10_triangle_105 ?_
                        refine g_iadd X dX10_triangle_106 ?_
                        refine g_istore X (lv' := [(5, vI (x5_84 + 1)), (0, .ref h), (1, vI p0), (2, vI p1), (3, vI t46), (6, vI x6_84), (7, vI x7_84)]) dX10_triangle_107 (by decide) rfl ?_
                        refine g_iload X dX10_triangle_109 6 rfl ?_
                        refine g_istore X (lv' := [(6, vI x7_84), (5, vI (x5_84 + 1)), (0, .ref h), (1, vI p0), (2, vI p1), (3, vI t46), (7, vI x7_84)]) dX10_triangle_111 (by decide) rfl ?_
                        refine g_iinc X (lv' := [(7, vI (x7_84 + (-1))), (6, vI x7_84), (5, vI (x5_84 + 1)), (0, .ref h), (1, vI p0), (2, vI p1), (3, vI t46)]) dX10_triangle_113 6 rfl (by decide) rfl ?_
                        refine g_goto X (tgt := 84) dX10_triangle_116 (by decide) ?_
                        refine g_lv [3, 4, 5, 6, 2, 1, 0] rfl ?_
                        exact ih84 (x5_84 + 1) x7_84 (x7_84 + (-1)) lineNow_94 r_lineNow_94 (by first | assumption | omega) (by first | assumption | omega) (by first | assumption | omega) (by omega)
                      · refine g_goto X (tgt := 113) dX10_triangle_100 (by decide) ?_
                        refine g_iinc X (lv' := [(7, vI (x7_84 + (-1))), (0, .ref h), (1, vI p0), (2, vI p1), (3, vI t46), (5, vI x5_84), (6, vI x6_84)]) dX10_triangle_113 6 rfl (by decide) rfl ?_
                        refine g_goto X (tgt := 84) dX10_triangle_116 (by decide) ?_
                        refine g_lv [1, 2, 3, 4, 5, 6, 0] rfl ?_
                        exact ih84 x5_84 x6_84 (x7_84 + (-1)) lineNow_94 r_lineNow_94 (by first | assumption | omega) (by first | assumption | omega) (by first | assumption | omega) (by omega)
                refine g_lv [3, 4, 5, 6, 2, 1, 0] rfl ?_
                exact L84 _ 0 (-1) (x4_54 - 1) v_lineNow r_v_lineNow (by first | assumption | omega) (by first | assumption | omega) (by first | assumption | omega) (Nat.lt_succ_self _)
              · refine g_iload X dX10_triangle_60 4 rfl ?_
                refine g_iload_n X dX10_triangle_62 3 rfl ?_
                have hq : 0 ≤ x4_54 * t46 ∧ x4_54 * t46 ≤ x4_54 * 10 := ⟨Int.mul_nonneg (by omega) (by omega), Int.mul_le_mul_of_nonneg_left (by omega) (by omega)⟩
                refine g_imul X dX10_triangle_63 ?_
                refine g_nm (fun t63 e63 => ?_)
                refine g_istore X (lv' := [(4, vI t63), (0, .ref h), (1, vI p0), (2, vI p1), (3, vI t46), (5, vI x5_54)]) dX10_triangle_64 (by decide) rfl ?_
                refine g_iinc X (lv' := [(5, vI (x5_54 + 1)), (4, vI t63), (0, .ref h), (1, vI p0), (2, vI p1), (3, vI t46)]) dX10_triangle_66 5 rfl (by decide) rfl ?_
                refine g_goto X (tgt := 54) dX10_triangle_69 (by decide) ?_
                refine g_lv [2, 3, 4, 5, 1, 0] rfl ?_
                exact ih54 t63 (x5_54 + 1) (by first | assumption | omega) (by first | assumption | omega) (by omega)
          refine g_lv [3, 4, 5, 2, 1, 0] rfl ?_
          exact L54 _ 1 0 (by first | assumption | omega) (by first | assumption | omega) (Nat.lt_succ_self _)
        · refine g_bipush X (z := (-4)) dX10_triangle_37 (by decide) ?_
          exact hQ _ _ _ _ dX10_triangle_39 ⟨v_lineNow, r_v_lineNow, (by omega), rfl⟩
    · refine g_iload_n X dX10_triangle_18 2 rfl ?_
      refine g_bipush X (z := 100) dX10_triangle_19 (by decide) ?_
      refine g_icmp_eq X (tgt := 26) dX10_triangle_21 (by decide) (by omega) (by omega) (fun c21 => ?_) (fun c21 => ?_)
      · refine g_iload_n X dX10_triangle_26 2 rfl ?_
        refine g_bipush X (z := 100) dX10_triangle_27 (by decide) ?_
        refine g_icmp_eq X (tgt := 40) dX10_triangle_29 (by decide) (by omega) (by omega) (fun c29 => ?_) (fun c29 => ?_)
        · refine g_iload_n X dX10_triangle_40 1 rfl ?_
          refine g_iload_n X dX10_triangle_41 1 rfl ?_
          refine g_iconst X dX10_triangle_42 ?_
          refine g_iadd X dX10_triangle_43 ?_
          refine g_imul X dX10_triangle_44 ?_
          refine g_nm (fun t44 e44 => ?_)
          refine g_iconst X dX10_triangle_45 ?_
          have hm : t44 ≤ 20 ∧ 2 ≤ t44 := by rcases (show p0 = 1 ∨ p0 = 2 ∨ p0 = 3 ∨ p0 = 4 by omega) with h | h | h | h <;> (rw [e44, h]; decide)
          refine g_idiv X dX10_triangle_46 (by omega) (by omega) ?_
          refine g_nm (fun t46 e46 => ?_)
          refine g_istore_n X (lv' := [(3, vI t46), (0, .ref h), (1, vI p0), (2, vI p1)]) dX10_triangle_47 (by decide) rfl ?_
          refine g_iconst X dX10_triangle_48 ?_
          refine g_istore X (lv' := [(4, vI 1), (3, vI t46), (0, .ref h), (1, vI p0), (2, vI p1)]) dX10_triangle_49 (by decide) rfl ?_
          refine g_iconst X dX10_triangle_51 ?_
          refine g_istore X (lv' := [(5, vI 0), (4, vI 1), (3, vI t46), (0, .ref h), (1, vI p0), (2, vI p1)]) dX10_triangle_52 (by decide) rfl ?_
          have L54 : ∀ (n : Nat) (x4_54 : Int) (x5_54 : Int), (0 ≤ x5_54 ∧ x5_54 ≤ p0) → ((x5_54 = 0 ∧ x4_54 = 1) ∨ (x5_54 = 1 ∧ 0 ≤ x4_54 ∧ x4_54 ≤ 10) ∨ (x5_54 = 2 ∧ 0 ≤ x4_54 ∧ x4_54 ≤ 100) ∨ (x5_54 = 3 ∧ 0 ≤ x4_54 ∧ x4_54 ≤ 1000) ∨ (x5_54 = 4 ∧ 0 ≤ x4_54 ∧ x4_54 ≤ 10000)) → (p0 - x5_54).toNat < n → GG p l e ⟨2, 0, 0, 48⟩ s m args below meth c 0 0 Q D A s.heap 8 (wX10 cI cB cJ h q v_stalls v_claimMany v_taped v_place0 v_length0 v_fault v_number0 v_open v_codeMany v_waiting v_saidMany v_clauses v_newMany v_newStalls v_lines v_salesNow v_outNow v_isKept v_keptStalls v_now v_aside v_kept v_oneOf v_otherOf v_signOf v_byOf v_tape v_said v_waitsAt v_saidLetter v_saidFrom v_saidHalf v_saidTo v_codes v_clauseOf v_codeFrom v_codeHalf v_codeTo v_stack v_facts v_newOne v_newOther v_newSign v_newBy v_moreOf v_firstOf v_toldOf v_mostOf v_mostThen v_sumTo v_rowFrom v_ordersOf v_lessOf v_weightOf v_rowNow v_slowRow v_fastRow v_lineNow v_firstLine v_freeBy v_heldBy v_heightOf v_upTo v_downTo v_oftenOf v_newUpper v_newLower) 54 [(0, .ref h), (1, vI p0), (2, vI p1), (3, vI t46), (4, vI x4_54), (5, vI x5_54)] [] := by
            intro n
            induction n with
            | zero => intros; exfalso; omega
            | succ n ih54 =>
              intro x4_54 x5_54 w54_0 w54_1 wm54
              refine g_iload X dX10_triangle_54 5 rfl ?_
              refine g_iload_n X dX10_triangle_56 1 rfl ?_
              refine g_icmp_ge X (tgt := 72) dX10_triangle_57 (by decide) (by omega) (by omega) (fun c57 => ?_) (fun c57 => ?_)
              · refine g_iconst X dX10_triangle_72 ?_
                refine g_istore X (lv' := [(5, vI 0), (0, .ref h), (1, vI p0), (2, vI p1), (3, vI t46), (4, vI x4_54)]) dX10_triangle_73 (by decide) rfl ?_
                refine g_iconst X dX10_triangle_75 ?_
                refine g_istore X (lv' := [(6, vI (-1)), (5, vI 0), (0, .ref h), (1, vI p0), (2, vI p1), (3, vI t46), (4, vI x4_54)]) dX10_triangle_76 (by decide) rfl ?_
                refine g_iload X dX10_triangle_78 6 rfl ?_
                refine g_iconst X dX10_triangle_80 ?_
                refine g_isub X dX10_triangle_81 ?_
                refine g_istore X (lv' := [(7, vI (x4_54 - 1)), (6, vI (-1)), (5, vI 0), (0, .ref h), (1, vI p0), (2, vI p1), (3, vI t46), (4, vI x4_54)]) dX10_triangle_82 (by decide) rfl ?_
                have L84 : ∀ (n : Nat) (x5_84 : Int) (x6_84 : Int) (x7_84 : Int) (lineNow_84 : Nat → Int), (RA 0 10 lineNow_84) → (-1 ≤ x7_84 ∧ x7_84 ≤ 2147483647) → (0 ≤ x5_84 ∧ x5_84 + x7_84 ≤ 2147483646) → (-1 ≤ x6_84 ∧ x6_84 ≤ 2147483647) → (x7_84 + 1).toNat < n → GG p l e ⟨2, 0, 0, 48⟩ s m args below meth c 0 0 Q D A s.heap 8 (wX10 cI cB cJ h q v_stalls v_claimMany v_taped v_place0 v_length0 v_fault v_number0 v_open v_codeMany v_waiting v_saidMany v_clauses v_newMany v_newStalls v_lines v_salesNow v_outNow v_isKept v_keptStalls v_now v_aside v_kept v_oneOf v_otherOf v_signOf v_byOf v_tape v_said v_waitsAt v_saidLetter v_saidFrom v_saidHalf v_saidTo v_codes v_clauseOf v_codeFrom v_codeHalf v_codeTo v_stack v_facts v_newOne v_newOther v_newSign v_newBy v_moreOf v_firstOf v_toldOf v_mostOf v_mostThen v_sumTo v_rowFrom v_ordersOf v_lessOf v_weightOf v_rowNow v_slowRow v_fastRow lineNow_84 v_firstLine v_freeBy v_heldBy v_heightOf v_upTo v_downTo v_oftenOf v_newUpper v_newLower) 84 [(0, .ref h), (1, vI p0), (2, vI p1), (3, vI t46), (5, vI x5_84), (6, vI x6_84), (7, vI x7_84)] [] := by
                  intro n
                  induction n with
                  | zero => intros; exfalso; omega
                  | succ n ih84 =>
                    intro x5_84 x6_84 x7_84 lineNow_84 r_lineNow_84 w84_0 w84_1 w84_2 wm84
                    refine g_iload X dX10_triangle_84 6 rfl ?_
                    refine g_if_lt X (tgt := 119) dX10_triangle_86 (by decide) (by omega) (fun c86 => ?_) (fun c86 => ?_)
                    · refine g_iload_n X dX10_triangle_119 2 rfl ?_
                      refine g_bipush X (z := 100) dX10_triangle_120 (by decide) ?_
                      refine g_icmp_ne X (tgt := 128) dX10_triangle_122 (by decide) (by omega) (by omega) (fun c122 => ?_) (fun c122 => ?_)
                      · refine g_iload_n X dX10_triangle_128 1 rfl ?_
                        refine g_iconst X dX10_triangle_129 ?_
                        refine g_isub X dX10_triangle_130 ?_
                        refine g_istore X (lv' := [(7, vI (p0 - 1)), (0, .ref h), (1, vI p0), (2, vI p1), (3, vI t46), (5, vI x5_84), (6, vI x6_84)]) dX10_triangle_131 (by decide) rfl ?_
                        have L133 : ∀ (n : Nat) (x6_133 : Int) (x7_133 : Int), (0 ≤ x7_133 ∧ x7_133 ≤ p0) → (IR x6_133) → (x7_133).toNat < n → GG p l e ⟨2, 0, 0, 48⟩ s m args below meth c 0 0 Q D A s.heap 8 (wX10 cI cB cJ h q v_stalls v_claimMany v_taped v_place0 v_length0 v_fault v_number0 v_open v_codeMany v_waiting v_saidMany v_clauses v_newMany v_newStalls v_lines v_salesNow v_outNow v_isKept v_keptStalls v_now v_aside v_kept v_oneOf v_otherOf v_signOf v_byOf v_tape v_said v_waitsAt v_saidLetter v_saidFrom v_saidHalf v_saidTo v_codes v_clauseOf v_codeFrom v_codeHalf v_codeTo v_stack v_facts v_newOne v_newOther v_newSign v_newBy v_moreOf v_firstOf v_toldOf v_mostOf v_mostThen v_sumTo v_rowFrom v_ordersOf v_lessOf v_weightOf v_rowNow v_slowRow v_fastRow lineNow_84 v_firstLine v_freeBy v_heldBy v_heightOf v_upTo v_downTo v_oftenOf v_newUpper v_newLower) 133 [(2, vI p1), (3, vI t46), (6, vI x6_133), (7, vI x7_133)] [] := by
                          intro n
                          induction n with
                          | zero => intros; exfalso; omega
                          | succ n ih133 =>
                            intro x6_133 x7_133 w133_0 w133_1 wm133
                            refine g_iload X dX10_triangle_133 3 rfl ?_
                            refine g_iload_n X dX10_triangle_135 0 rfl ?_
                            refine g_icmp_le X (tgt := 151) dX10_triangle_136 (by decide) (by omega) (by omega) (fun c136 => ?_) (fun c136 => ?_)
                            · refine g_iload X dX10_triangle_151 2 rfl ?_
                              refine g_iload_n X dX10_triangle_153 1 rfl ?_
                              refine g_iremT X dX10_triangle_154 (by omega) (by omega) ?_
                              refine g_nr (fun t154 e154 r154 => ?_)
                              refine g_iconst X dX10_triangle_155 ?_
                              refine g_iadd X dX10_triangle_156 ?_
                              refine g_nr (fun t156 e156 r156 => ?_)
                              exact hQ _ _ _ _ dX10_triangle_157 ⟨lineNow_84, r_lineNow_84, (by omega), rfl⟩
                            · refine g_iload X dX10_triangle_139 2 rfl ?_
                              refine g_iload_n X dX10_triangle_141 1 rfl ?_
                              refine g_idivT X dX10_triangle_142 (by omega) (by omega) ?_
                              refine g_nr (fun t142 e142 r142 => ?_)
                              refine g_istore X (lv' := [(6, vI t142), (2, vI p1), (3, vI t46), (7, vI x7_133)]) dX10_triangle_143 (by decide) rfl ?_
                              refine g_iinc X (lv' := [(7, vI (x7_133 + (-1))), (6, vI t142), (2, vI p1), (3, vI t46)]) dX10_triangle_145 3 rfl (by decide) rfl ?_
                              refine g_goto X (tgt := 133) dX10_triangle_148 (by decide) ?_
                              refine g_lv [2, 3, 1, 0] rfl ?_
                              exact ih133 t142 (x7_133 + (-1)) (by first | assumption | omega) (by first | assumption | omega) (by omega)
                        refine g_lv [3, 4, 6, 0] rfl ?_
                        exact L133 _ x6_84 (p0 - 1) (by first | assumption | omega) (by first | assumption | omega) (Nat.lt_succ_self _)
                      · refine g_iload X dX10_triangle_125 4 rfl ?_
                        exact hQ _ _ _ _ dX10_triangle_127 ⟨lineNow_84, r_lineNow_84, (by omega), rfl⟩
                    · refine g_aload_n X dX10_triangle_89 0 rfl ?_
                      refine g_iload_n X dX10_triangle_90 1 rfl ?_
                      refine g_iload X dX10_triangle_91 6 rfl ?_
                      refine g_iload_n X dX10_triangle_93 3 rfl ?_
                      refine g_callVI0 X (c_X10_isTriangle l D cI cB cJ h q (p0 := p0) (p1 := x7_84) (p2 := t46) r_lineNow_84 (by first | assumption | omega) (by first | assumption | omega) (by first | assumption | omega) (by first | assumption | omega) (by first | assumption | omega) (by first | assumption | omega)) cv_X10_isTriangle uw1686 ⟨rfl, rfl, by decide, by decide⟩ 0 rfl rfl rfl rfl rfl (Nat.le_of_ble_eq_true rfl) ⟨Nat.zero_le _, Nat.zero_le _⟩ dX10_triangle_94 (fun t94 ws94 k94 => ?_)
                      obtain ⟨kb_94, ⟨lineNow_94, r_lineNow_94, rfl⟩⟩ := k94
                      refine g_if_ne X (tgt := 103) dX10_triangle_97 (by decide) (by omega) (fun c97 => ?_) (fun c97 => ?_)
                      · refine g_iload X dX10_triangle_103 4 rfl ?_
                        refine g_iconst X dX10_triangle_105 ?_
                        refine g_iadd X dX10_triangle_106 ?_
                        refine g_istore X (lv' := [(5, vI (x5_84 + 1)), (0, .ref h), (1, vI p0), (2, vI p1), (3, vI t46), (6, vI x6_84), (7, vI x7_84)]) dX10_triangle_107 (by decide) rfl ?_
                        refine g_iload X dX10_triangle_109 6 rfl ?_
                        refine g_istore X (lv' := [(6, vI x7_84), (5, vI (x5_84 + 1)), (0, .ref h), (1, vI p0), (2, vI p1), (3, vI t46), (7, vI x7_84)]) dX10_triangle_111 (by decide) rfl ?_
                        refine g_iinc X (lv' := [(7, vI (x7_84 + (-1))), (6, vI x7_84), (5, vI (x5_84 + 1)), (0, .ref h), (1, vI p0), (2, vI p1), (3, vI t46)]) dX10_triangle_113 6 rfl (by decide) rfl ?_
                        refine g_goto X (tgt := 84) dX10_triangle_116 (by decide) ?_
                        refine g_lv [3, 4, 5, 6, 2, 1, 0] rfl ?_
                        exact ih84 (x5_84 + 1) x7_84 (x7_84 + (-1)) lineNow_94 r_lineNow_94 (by first | assumption | omega) (by first | assumption | omega) (by first | assumption | omega) (by omega)
                      · refine g_goto X (tgt := 113) dX10_triangle_100 (by decide) ?_
                        refine g_iinc X (lv' := [(7, vI (x7_84 + (-1))), (0, .ref h), (1, vI p0), (2, vI p1), (3, vI t46), (5, vI x5_84), (6, vI x6_84)]) dX10_triangle_113 6 rfl (by decide) rfl ?_
                        refine g_goto X (tgt := 84) dX10_triangle_116 (by decide) ?_
                        refine g_lv [1, 2, 3, 4, 5, 6, 0] rfl ?_
                        exact ih84 x5_84 x6_84 (x7_84 + (-1)) lineNow_94 r_lineNow_94 (by first | assumption | omega) (by first | assumption | omega) (by first | assumption | omega) (by omega)
                refine g_lv [3, 4, 5, 6, 2, 1, 0] rfl ?_
                exact L84 _ 0 (-1) (x4_54 - 1) v_lineNow r_v_lineNow (by first | assumption | omega) (by first | assumption | omega) (by first | assumption | omega) (Nat.lt_succ_self _)
              · refine g_iload X dX10_triangle_60 4 rfl ?_
                refine g_iload_n X dX10_triangle_62 3 rfl ?_
                have hq : 0 ≤ x4_54 * t46 ∧ x4_54 * t46 ≤ x4_54 * 10 := ⟨Int.mul_nonneg (by omega) (by omega), Int.mul_le_mul_of_nonneg_left (by omega) (by omega)⟩
                refine g_imul X dX10_triangle_63 ?_
                refine g_nm (fun t63 e63 => ?_)
                refine g_istore X (lv' := [(4, vI t63), (0, .ref h), (1, vI p0), (2, vI p1), (3, vI t46), (5, vI x5_54)]) dX10_triangle_64 (by decide) rfl ?_
                refine g_iinc X (lv' := [(5, vI (x5_54 + 1)), (4, vI t63), (0, .ref h), (1, vI p0), (2, vI p1), (3, vI t46)]) dX10_triangle_66 5 rfl (by decide) rfl ?_
                refine g_goto X (tgt := 54) dX10_triangle_69 (by decide) ?_
                refine g_lv [2, 3, 4, 5, 1, 0] rfl ?_
                exact ih54 t63 (x5_54 + 1) (by first | assumption | omega) (by first | assumption | omega) (by omega)
          refine g_lv [3, 4, 5, 2, 1, 0] rfl ?_
          exact L54 _ 1 0 (by first | assumption | omega) (by first | assumption | omega) (Nat.lt_succ_self _)
        · refine g_iload_n X dX10_triangle_32 2 rfl ?_
          refine g_iload_n X dX10_triangle_33 1 rfl ?_
          refine g_icmp_lt X (tgt := 40) dX10_triangle_34 (by decide) (by omega) (by omega) (fun c34 => ?_) (fun c34 => ?_)
          · refine g_iload_n X dX10_triangle_40 1 rfl ?_
            refine g_iload_n X dX10_triangle_41 1 rfl ?_
            refine g_iconst X dX10_triangle_42 ?_
            refine g_iadd X dX10_triangle_43 ?_
            refine g_imul X dX10_triangle_44 ?_
            refine g_nm (fun t44 e44 => ?_)
            refine g_iconst X dX10_triangle_45 ?_
            have hm : t44 ≤ 20 ∧ 2 ≤ t44 := by rcases (show p0 = 1 ∨ p0 = 2 ∨ p0 = 3 ∨ p0 = 4 by omega) with h | h | h | h <;> (rw [e44, h]; decide)
            refine g_idiv X dX10_triangle_46 (by omega) (by omega) ?_
            refine g_nm (fun t46 e46 => ?_)
            refine g_istore_n X (lv' := [(3, vI t46), (0, .ref h), (1, vI p0), (2, vI p1)]) dX10_triangle_47 (by decide) rfl ?_
            refine g_iconst X dX10_triangle_48 ?_
            refine g_istore X (lv' := [(4, vI 1), (3, vI t46), (0, .ref h), (1, vI p0), (2, vI p1)]) dX10_triangle_49 (by decide) rfl ?_
            refine g_iconst X dX10_triangle_51 ?_
            refine g_istore X (lv' := [(5, vI 0), (4, vI 1), (3, vI t46), (0, .ref h), (1, vI p0), (2, vI p1)]) dX10_triangle_52 (by decide) rfl ?_
            have L54 : ∀ (n : Nat) (x4_54 : Int) (x5_54 : Int), (0 ≤ x5_54 ∧ x5_54 ≤ p0) → ((x5_54 = 0 ∧ x4_54 = 1) ∨ (x5_54 = 1 ∧ 0 ≤ x4_54 ∧ x4_54 ≤ 10) ∨ (x5_54 = 2 ∧ 0 ≤ x4_54 ∧ x4_54 ≤ 100) ∨ (x5_54 = 3 ∧ 0 ≤ x4_54 ∧ x4_54 ≤ 1000) ∨ (x5_54 = 4 ∧ 0 ≤ x4_54 ∧ x4_54 ≤ 10000)) → (p0 - x5_54).toNat < n → GG p l e ⟨2, 0, 0, 48⟩ s m args below meth c 0 0 Q D A s.heap 8 (wX10 cI cB cJ h q v_stalls v_claimMany v_taped v_place0 v_length0 v_fault v_number0 v_open v_codeMany v_waiting v_saidMany v_clauses v_newMany v_newStalls v_lines v_salesNow v_outNow v_isKept v_keptStalls v_now v_aside v_kept v_oneOf v_otherOf v_signOf v_byOf v_tape v_said v_waitsAt v_saidLetter v_saidFrom v_saidHalf v_saidTo v_codes v_clauseOf v_codeFrom v_codeHalf v_codeTo v_stack v_facts v_newOne v_newOther v_newSign v_newBy v_moreOf v_firstOf v_toldOf v_mostOf v_mostThen v_sumTo v_rowFrom v_ordersOf v_lessOf v_weightOf v_rowNow v_slowRow v_fastRow v_lineNow v_firstLine v_freeBy v_heldBy v_heightOf v_upTo v_downTo v_oftenOf v_newUpper v_newLower) 54 [(0, .ref h), (1, vI p0), (2, vI p1), (3, vI t46), (4, vI x4_54), (5, vI x5_54)] [] := by
              intro n
              induction n with
              | zero => intros; exfalso; omega
              | succ n ih54 =>
                intro x4_54 x5_54 w54_0 w54_1 wm54
                refine g_iload X dX10_triangle_54 5 rfl ?_
                refine g_iload_n X dX10_triangle_56 1 rfl ?_
                refine g_icmp_ge X (tgt := 72) dX10_triangle_57 (by decide) (by omega) (by omega) (fun c57 => ?_) (fun c57 => ?_)
                · refine g_iconst X dX10_triangle_72 ?_
                  refine g_istore X (lv' := [(5, vI 0), (0, .ref h), (1, vI p0), (2, vI p1), (3, vI t46), (4, vI x4_54)]) dX10_triangle_73 (by decide) rfl ?_
                  refine g_iconst X dX10_triangle_75 ?_
                  refine g_istore X (lv' := [(6, vI (-1)), (5, vI 0), (0, .ref h), (1, vI p0), (2, vI p1), (3, vI t46), (4, vI x4_54)]) dX10_triangle_76 (by decide) rfl ?_
                  refine g_iload X dX10_triangle_78 6 rfl ?_
                  refine g_iconst X dX10_triangle_80 ?_
                  refine g_isub X dX10_triangle_81 ?_
                  refine g_istore X (lv' := [(7, vI (x4_54 - 1)), (6, vI (-1)), (5, vI 0), (0, .ref h), (1, vI p0), (2, vI p1), (3, vI t46), (4, vI x4_54)]) dX10_triangle_82 (by decide) rfl ?_
                  have L84 : ∀ (n : Nat) (x5_84 : Int) (x6_84 : Int) (x7_84 : Int) (lineNow_84 : Nat → Int), (RA 0 10 lineNow_84) → (-1 ≤ x7_84 ∧ x7_84 ≤ 2147483647) → (0 ≤ x5_84 ∧ x5_84 + x7_84 ≤ 2147483646) → (-1 ≤ x6_84 ∧ x6_84 ≤ 2147483647) → (x7_84 + 1).toNat < n → GG p l e ⟨2, 0, 0, 48⟩ s m args below meth c 0 0 Q D A s.heap 8 (wX10 cI cB cJ h q v_stalls v_claimMany v_taped v_place0 v_length0 v_fault v_number0 v_open v_codeMany v_waiting v_saidMany v_clauses v_newMany v_newStalls v_lines v_salesNow v_outNow v_isKept v_keptStalls v_now v_aside v_kept v_oneOf v_otherOf v_signOf v_byOf v_tape v_said v_waitsAt v_saidLetter v_saidFrom v_saidHalf v_saidTo v_codes v_clauseOf v_codeFrom v_codeHalf v_codeTo v_stack v_facts v_newOne v_newOther v_newSign v_newBy v_moreOf v_firstOf v_toldOf v_mostOf v_mostThen v_sumTo v_rowFrom v_ordersOf v_lessOf v_weightOf v_rowNow v_slowRow v_fastRow lineNow_84 v_firstLine v_freeBy v_heldBy v_heightOf v_upTo v_downTo v_oftenOf v_newUpper v_newLower) 84 [(0, .ref h), (1, vI p0), (2, vI p1), (3, vI t46), (5, vI x5_84), (6, vI x6_84), (7, vI x7_84)] [] := by
                    intro n
                    induction n with
                    | zero => intros; exfalso; omega
                    | succ n ih84 =>
                      intro x5_84 x6_84 x7_84 lineNow_84 r_lineNow_84 w84_0 w84_1 w84_2 wm84
                      refine g_iload X dX10_triangle_84 6 rfl ?_
                      refine g_if_lt X (tgt := 119) dX10_triangle_86 (by decide) (by omega) (fun c86 => ?_) (fun c86 => ?_)
                      · refine g_iload_n X dX10_triangle_119 2 rfl ?_
                        refine g_bipush X (z := 100) dX10_triangle_120 (by decide) ?_
                        refine g_icmp_ne X (tgt := 128) dX10_triangle_122 (by decide) (by omega) (by omega) (fun c122 => ?_) (fun c122 => ?_)
                        · refine g_iload_n X dX10_triangle_128 1 rfl ?_
                          refine g_iconst X dX10_triangle_129 ?_
                          refine g_isub X dX10_triangle_130 ?_
                          refine g_istore X (lv' := [(7, vI (p0 - 1)), (0, .ref h), (1, vI p0), (2, vI p1), (3, vI t46), (5, vI x5_84), (6, vI x6_84)]) dX10_triangle_131 (by decide) rfl ?_
                          have L133 : ∀ (n : Nat) (x6_133 : Int) (x7_133 : Int), (0 ≤ x7_133 ∧ x7_133 ≤ p0) → (IR x6_133) → (x7_133).toNat < n → GG p l e ⟨2, 0, 0, 48⟩ s m args below meth c 0 0 Q D A s.heap 8 (wX10 cI cB cJ h q v_stalls v_claimMany v_taped v_place0 v_length0 v_fault v_number0 v_open v_codeMany v_waiting v_saidMany v_clauses v_newMany v_newStalls v_lines v_salesNow v_outNow v_isKept v_keptStalls v_now v_aside v_kept v_oneOf v_otherOf v_signOf v_byOf v_tape v_said v_waitsAt v_saidLetter v_saidFrom v_saidHalf v_saidTo v_codes v_clauseOf v_codeFrom v_codeHalf v_codeTo v_stack v_facts v_newOne v_newOther v_newSign v_newBy v_moreOf v_firstOf v_toldOf v_mostOf v_mostThen v_sumTo v_rowFrom v_ordersOf v_lessOf v_weightOf v_rowNow v_slowRow v_fastRow lineNow_84 v_firstLine v_freeBy v_heldBy v_heightOf v_upTo v_downTo v_oftenOf v_newUpper v_newLower) 133 [(2, vI p1), (3, vI t46), (6, vI x6_133), (7, vI x7_133)] [] := by
                            intro n
                            induction n with
                            | zero => intros; exfalso; omega
                            | succ n ih133 =>
                              intro x6_133 x7_133 w133_0 w133_1 wm133
                              refine g_iload X dX10_triangle_133 3 rfl ?_
                              refine g_iload_n X dX10_triangle_135 0 rfl ?_
                              refine g_icmp_le X (tgt := 151) dX10_triangle_136 (by decide) (by omega) (by omega) (fun c136 => ?_) (fun c136 => ?_)
                              · refine g_iload X dX10_triangle_151 2 rfl ?_
                                refine g_iload_n X dX10_triangle_153 1 rfl ?_
                                refine g_iremT X dX10_triangle_154 (by omega) (by omega) ?_
                                refine g_nr (fun t154 e154 r154 => ?_)
                                refine g_iconst X dX10_triangle_155 ?_
                                refine g_iadd X dX10_triangle_156 ?_
                                refine g_nr (fun t156 e156 r156 => ?_)
                                exact hQ _ _ _ _ dX10_triangle_157 ⟨lineNow_84, r_lineNow_84, (by omega), rfl⟩
                              · refine g_iload X dX10_triangle_139 2 rfl ?_
                                refine g_iload_n X dX10_triangle_141 1 rfl ?_
                                refine g_idivT X dX10_triangle_142 (by omega) (by omega) ?_
                                refine g_nr (fun t142 e142 r142 => ?_)
                                refine g_istore X (lv' := [(6, vI t142), (2, vI p1), (3, vI t46), (7, vI x7_133)]) dX10_triangle_143 (by decide) rfl ?_
                                refine g_iinc X (lv' := [(7, vI (x7_133 + (-1))), (6, vI t142), (2, vI p1), (3, vI t46)]) dX10_triangle_145 3 rfl (by decide) rfl ?_
                                refine g_goto X (tgt := 133) dX10_triangle_148 (by decide) ?_
                                refine g_lv [2, 3, 1, 0] rfl ?_
                                exact ih133 t142 (x7_133 + (-1)) (by first | assumption | omega) (by first | assumption | omega) (by omega)
                          refine g_lv [3, 4, 6, 0] rfl ?_
                          exact L133 _ x6_84 (p0 - 1) (by first | assumption | omega) (by first | assumption | omega) (Nat.lt_succ_self _)
                        · refine g_iload X dX10_triangle_125 4 rfl ?_
                          exact hQ _ _ _ _ dX10_triangle_127 ⟨lineNow_84, r_lineNow_84, (by omega), rfl⟩
                      · refine g_aload_n X dX10_triangle_89 0 rfl ?_
                        refine g_iload_n X dX10_triangle_90 1 rfl ?_
                        refine g_iload X dX10_triangle_91 6 rfl ?_
                        refine g_iload_n X dX10_triangle_93 3 rfl ?_
                        refine g_callVI0 X (c_X10_isTriangle l D cI cB cJ h q (p0 := p0) (p1 := x7_84) (p2 := t46) r_lineNow_84 (by first | assumption | omega) (by first | assumption | omega) (by first | assumption | omega) (by first | assumption | omega) (by first | assumption | omega) (by first | assumption | omega)) cv_X10_isTriangle uw1686 ⟨rfl, rfl, by decide, by decide⟩ 0 rfl rfl rfl rfl rfl (Nat.le_of_ble_eq_true rfl) ⟨Nat.zero_le _, Nat.zero_le _⟩ dX10_triangle_94 (fun t94 ws94 k94 => ?_)
                        obtain ⟨kb_94, ⟨lineNow_94, r_lineNow_94, rfl⟩⟩ := k94
                        refine g_if_ne X (tgt := 103) dX10_triangle_97 (by decide) (by omega) (fun c97 => ?_) (fun c97 => ?_)
                        · refine g_iload X dX10_triangle_103 4 rfl ?_
                          refine g_iconst X dX10_triangle_105 ?_
                          refine g_iadd X dX10_triangle_106 ?_
                          refine g_istore X (lv' := [(5, vI (x5_84 + 1)), (0, .ref h), (1, vI p0), (2, vI p1), (3, vI t46), (6, vI x6_84), (7, vI x7_84)]) dX10_triangle_107 (by decide) rfl ?_
                          refine g_iload X dX10_triangle_109 6 rfl ?_
                          refine g_istore X (lv' := [(6, vI x7_84), (5, vI (x5_84 + 1)), (0, .ref h), (1, vI p0), (2, vI p1), (3, vI t46), (7, vI x7_84)]) dX10_triangle_111 (by decide) rfl ?_
                          refine g_iinc X (lv' := [(7, vI (x7_84 + (-1))), (6, vI x7_84), (5, vI (x5_84 + 1)), (0, .ref h), (1, vI p0), (2, vI p1), (3, vI t46)]) dX10_triangle_113 6 rfl (by decide) rfl ?_
                          refine g_goto X (tgt := 84) dX10_triangle_116 (by decide) ?_
                          refine g_lv [3, 4, 5, 6, 2, 1, 0] rfl ?_
                          exact ih84 (x5_84 + 1) x7_84 (x7_84 + (-1)) lineNow_94 r_lineNow_94 (by first | assumption | omega) (by first | assumption | omega) (by first | assumption | omega) (by omega)
                        · refine g_goto X (tgt := 113) dX10_triangle_100 (by decide) ?_
                          refine g_iinc X (lv' := [(7, vI (x7_84 + (-1))), (0, .ref h), (1, vI p0), (2, vI p1), (3, vI t46), (5, vI x5_84), (6, vI x6_84)]) dX10_triangle_113 6 rfl (by decide) rfl ?_
                          refine g_goto X (tgt := 84) dX10_triangle_116 (by decide) ?_
                          refine g_lv [1, 2, 3, 4, 5, 6, 0] rfl ?_
                          exact ih84 x5_84 x6_84 (x7_84 + (-1)) lineNow_94 r_lineNow_94 (by first | assumption | omega) (by first | assumption | omega) (by first | assumption | omega) (by omega)
                  refine g_lv [3, 4, 5, 6, 2, 1, 0] rfl ?_
                  exact L84 _ 0 (-1) (x4_54 - 1) v_lineNow r_v_lineNow (by first | assumption | omega) (by first | assumption | omega) (by first | assumption | omega) (Nat.lt_succ_self _)
                · refine g_iload X dX10_triangle_60 4 rfl ?_
                  refine g_iload_n X dX10_triangle_62 3 rfl ?_
                  have hq : 0 ≤ x4_54 * t46 ∧ x4_54 * t46 ≤ x4_54 * 10 := ⟨Int.mul_nonneg (by omega) (by omega), Int.mul_le_mul_of_nonneg_left (by omega) (by omega)⟩
                  refine g_imul X dX10_triangle_63 ?_
                  refine g_nm (fun t63 e63 => ?_)
                  refine g_istore X (lv' := [(4, vI t63), (0, .ref h), (1, vI p0), (2, vI p1), (3, vI t46), (5, vI x5_54)]) dX10_triangle_64 (by decide) rfl ?_
                  refine g_iinc X (lv' := [(5, vI (x5_54 + 1)), (4, vI t63), (0, .ref h), (1, vI p0), (2, vI p1), (3, vI t46)]) dX10_triangle_66 5 rfl (by decide) rfl ?_
                  refine g_goto X (tgt := 54) dX10_triangle_69 (by decide) ?_
                  refine g_lv [2, 3, 4, 5, 1, 0] rfl ?_
                  exact ih54 t63 (x5_54 + 1) (by first | assumption | omega) (by first | assumption | omega) (by omega)
            refine g_lv [3, 4, 5, 2, 1, 0] rfl ?_
            exact L54 _ 1 0 (by first | assumption | omega) (by first | assumption | omega) (Nat.lt_succ_self _)
          · refine g_bipush X (z := (-4)) dX10_triangle_37 (by decide) ?_
            exact hQ _ _ _ _ dX10_triangle_39 ⟨v_lineNow, r_v_lineNow, (by omega), rfl⟩
      · refine g_iconst X dX10_triangle_24 ?_
        exact hQ _ _ _ _ dX10_triangle_25 ⟨v_lineNow, r_v_lineNow, (by omega), rfl⟩
