set_option maxHeartbeats 4000000 in
set_option maxRecDepth 100000 in
theorem c_X10_reckonsTo (l : Launch) (D : va_G) (cI cB cJ : ClassId) (h : Nat) (q : Nat → Nat) {v_stalls v_claimMany v_taped v_place0 v_length0 v_fault v_number0 v_open v_codeMany v_waiting v_saidMany v_clauses v_newMany v_newStalls v_lines v_salesNow v_outNow v_isKept v_keptStalls : Int} {v_now v_aside v_kept v_oneOf v_otherOf v_signOf v_byOf v_tape v_said v_waitsAt v_saidLetter v_saidFrom v_saidHalf v_saidTo v_codes v_clauseOf v_codeFrom v_codeHalf v_codeTo v_stack v_facts v_newOne v_newOther v_newSign v_newBy v_moreOf v_firstOf v_toldOf v_mostOf v_mostThen v_sumTo v_rowFrom v_ordersOf v_lessOf v_weightOf v_rowNow v_slowRow v_fastRow v_lineNow v_firstLine v_freeBy v_heldBy v_heightOf v_upTo v_downTo v_oftenOf v_newUpper v_newLower : Nat → Int} {p0 p1 : Int} (r_v_codes : RA 0 16777215 v_codes) (r_v_stack : RA (-2147483648) 2147483647 v_stack) (r_v_facts : RA (-2147483648) 2147483647 v_facts) (hp0 : IR p0) (hp1 : IR p1) (hp2 : clOK v_codes p0 p1) : CtI l yX10_reckonsTo cX10_reckonsTo 8 (some .int) ⟨1, 0, 0, 22⟩ D (TY cI cB cJ) (wX10 cI cB cJ h q v_stalls v_claimMany v_taped v_place0 v_length0 v_fault v_number0 v_open v_codeMany v_waiting v_saidMany v_clauses v_newMany v_newStalls v_lines v_salesNow v_outNow v_isKept v_keptStalls v_now v_aside v_kept v_oneOf v_otherOf v_signOf v_byOf v_tape v_said v_waitsAt v_saidLetter v_saidFrom v_saidHalf v_saidTo v_codes v_clauseOf v_codeFrom v_codeHalf v_codeTo v_stack v_facts v_newOne v_newOther v_newSign v_newBy v_moreOf v_firstOf v_toldOf v_mostOf v_mostThen v_sumTo v_rowFrom v_ordersOf v_lessOf v_weightOf v_rowNow v_slowRow v_fastRow v_lineNow v_firstLine v_freeBy v_heldBy v_heightOf v_upTo v_downTo v_oftenOf v_newUpper v_newLower) [.ref h, vI p0, vI p1] (fun z ws' => ∃ n_stack : Nat → Int, (RA (-2147483648) 2147483647 n_stack) ∧ (IR z) ∧ (ws' = (wX10 cI cB cJ h q v_stalls v_claimMany v_taped v_place0 v_length0 v_fault v_number0 v_open v_codeMany v_waiting v_saidMany v_clauses v_newMany v_newStalls v_lines v_salesNow v_outNow v_isKept v_keptStalls v_now v_aside v_kept v_oneOf v_otherOf v_signOf v_byOf v_tape v_said v_waitsAt v_saidLetter v_saidFrom v_saidHalf v_saidTo v_codes v_clauseOf v_codeFrom v_codeHalf v_codeTo n_stack v_facts v_newOne v_newOther v_newSign v_newBy v_moreOf v_firstOf v_toldOf v_mostOf v_mostThen v_sumTo v_rowFrom v_ordersOf v_lessOf v_weightOf v_rowNow v_slowRow v_fastRow v_lineNow v_firstLine v_freeBy v_heldBy v_heightOf v_upTo v_downTo v_oftenOf v_newUpper v_newLower))) := by
  refine hdrI (own := RX10) rfl (by decide +kernel) (Nat.le_of_ble_eq_true rfl) ?_
  intro p e s m args below meth c Q A X hQ
  refine g_lvE (lv2 := [(0, .ref h), (1, vI p0), (2, vI p1)]) rfl ?_
  obtain ⟨ht, h0, hb0, hb1, hb2, hW⟩ := hp2
  refine g_iconst X dX10_reckonsTo_0 ?_
  refine g_istore_n X (lv' := [(3, vI 0), (0, .ref h), (1, vI p0), (2, vI p1)]) dX10_reckonsTo_1 (by decide) rfl ?_
  refine g_sipush X (z := 260) dX10_reckonsTo_2 (by decide) ?_
  refine g_iload_n X dX10_reckonsTo_5 2 rfl ?_
  refine g_sipush X (z := 260) dX10_reckonsTo_6 (by decide) ?_
  refine g_idiv X dX10_reckonsTo_9 (by omega) (by omega) ?_
  refine g_nm (fun t9 e9 => ?_)
  refine g_imul X dX10_reckonsTo_10 ?_
  refine g_istore X (lv' := [(4, vI (260 * t9)), (3, vI 0), (0, .ref h), (1, vI p0), (2, vI p1)]) dX10_reckonsTo_11 (by decide) rfl ?_
  refine g_iload_n X dX10_reckonsTo_13 3 rfl ?_
  refine g_istore X (lv' := [(5, vI p0), (4, vI (260 * t9)), (3, vI 0), (0, .ref h), (1, vI p0), (2, vI p1)]) dX10_reckonsTo_14 (by decide) rfl ?_
  have L16 : ∀ (n : Nat) (x3_16 : Int) (x5_16 : Int) (stack_16 : Nat → Int), (RA (-2147483648) 2147483647 stack_16) → (p0 ≤ x5_16 ∧ x5_16 ≤ p1) → (x3_16 = ht x5_16) → (0 ≤ x3_16 ∧ x3_16 ≤ x5_16) → (p1 - x5_16).toNat < n → GG p l e ⟨1, 0, 0, 22⟩ s m args below meth c 0 0 Q D A s.heap 8 (wX10 cI cB cJ h q v_stalls v_claimMany v_taped v_place0 v_length0 v_fault v_number0 v_open v_codeMany v_waiting v_saidMany v_clauses v_newMany v_newStalls v_lines v_salesNow v_outNow v_isKept v_keptStalls v_now v_aside v_kept v_oneOf v_otherOf v_signOf v_byOf v_tape v_said v_waitsAt v_saidLetter v_saidFrom v_saidHalf v_saidTo v_codes v_clauseOf v_codeFrom v_codeHalf v_codeTo stack_16 v_facts v_newOne v_newOther v_newSign v_newBy v_moreOf v_firstOf v_toldOf v_mostOf v_mostThen v_sumTo v_rowFrom v_ordersOf v_lessOf v_weightOf v_rowNow v_slowRow v_fastRow v_lineNow v_firstLine v_freeBy v_heldBy v_heightOf v_upTo v_downTo v_oftenOf v_newUpper v_newLower) 16 [(0, .ref h), (2, vI p1), (3, vI x3_16), (4, vI (260 * t9)), (5, vI x5_16)] [] := by
    intro n
    induction n with
    | zero => intros; exfalso; omega
    | succ n ih16 =>
      intro x3_16 x5_16 stack_16 r_stack_16 w16_0 w16_1 w16_2 wm16
      refine g_iload X dX10_reckonsTo_16 4 rfl ?_
      refine g_iload_n X dX10_reckonsTo_18 1 rfl ?_
      refine g_icmp_ge X (tgt := 233) dX10_reckonsTo_19 (by decide) (by omega) (by omega) (fun c19 => ?_) (fun c19 => ?_)
      · refine g_aload_n X dX10_reckonsTo_233 0 rfl ?_
        refine gM_get X 0 rfl 31 (by decide) uw1210 rfl dX10_reckonsTo_234 ?_
        refine g_iconst X dX10_reckonsTo_237 ?_
        refine g_iald X 20 0 rfl rfl (by omega) (by decide) dX10_reckonsTo_238 (fun t238 e238 => ?_)
        have r238 := r_stack_16 (0 : Int).toNat; rw [← e238] at r238
        exact hQ _ _ _ _ dX10_reckonsTo_239 ⟨stack_16, r_stack_16, (by omega), rfl⟩
      · refine g_aload_n X dX10_reckonsTo_22 0 rfl ?_
        refine gM_get X 0 rfl 26 (by decide) uw1205 rfl dX10_reckonsTo_23 ?_
        refine g_iload X dX10_reckonsTo_26 4 rfl ?_
        refine g_iald X 15 0 rfl rfl (by omega) (by decide) dX10_reckonsTo_28 (fun t28 e28 => ?_)
        have r28 := r_v_codes (x5_16 : Int).toNat; rw [← e28] at r28
        refine g_ldc X (z := 1048576) dX10_reckonsTo_29 uw1425 (by decide) ?_
        refine g_idiv X dX10_reckonsTo_31 (by omega) (by omega) ?_
        refine g_nm (fun t31 e31 => ?_)
        refine g_istore X (lv' := [(6, vI t31), (0, .ref h), (2, vI p1), (3, vI x3_16), (4, vI (260 * t9)), (5, vI x5_16)]) dX10_reckonsTo_32 (by decide) rfl ?_
        refine g_aload_n X dX10_reckonsTo_34 1 rfl ?_
        refine gM_get X 0 rfl 26 (by decide) uw1205 rfl dX10_reckonsTo_35 ?_
        refine g_iload X dX10_reckonsTo_38 5 rfl ?_
        refine g_iald X 15 0 rfl rfl (by omega) (by decide) dX10_reckonsTo_40 (fun t40 e40 => ?_)
        have r40 := r_v_codes (x5_16 : Int).toNat; rw [← e40] at r40
        refine g_ldc X (z := 1048576) dX10_reckonsTo_41 uw1425 (by decide) ?_
        refine g_irem X dX10_reckonsTo_43 (by omega) (by omega) ?_
        refine g_nm (fun t43 e43 => ?_)
        have r43 : 0 ≤ t43 ∧ ((0 : Int) < 1048576 → t43 < 1048576) := by rw [e43]; exact ⟨Int.emod_nonneg _ (by omega), fun h => Int.emod_lt_of_pos _ h⟩
        refine g_istore X (lv' := [(7, vI t43), (6, vI t31), (0, .ref h), (2, vI p1), (3, vI x3_16), (4, vI (260 * t9)), (5, vI x5_16)]) dX10_reckonsTo_44 (by decide) rfl ?_
        have hs := hW x5_16 (by omega) (by omega)
        rw [← e28] at hs
        have h40 : t40 = t28 := by rw [e40, e28]
        unfold stepOK at hs
        rw [← e31, ← h40, ← e43] at hs
        refine g_iload X dX10_reckonsTo_46 6 rfl ?_
        refine g_iconst X dX10_reckonsTo_48 ?_
        refine g_iadd X dX10_reckonsTo_49 ?_
        refine g_istore X (lv' := [(5, vI (x5_16 + 1)), (7, vI t43), (6, vI t31), (0, .ref h), (2, vI p1), (3, vI x3_16), (4, vI (260 * t9))]) dX10_reckonsTo_50 (by decide) rfl ?_
        refine g_iload X dX10_reckonsTo_52 2 rfl ?_
        refine g_if_eq X (tgt := 63) dX10_reckonsTo_54 (by decide) (by omega) (fun c54 => ?_) (fun c54 => ?_)
        · refine g_aload_n X dX10_reckonsTo_63 3 rfl ?_
          refine gM_get X 0 rfl 31 (by decide) uw1210 rfl dX10_reckonsTo_64 ?_
          refine g_iload_n X dX10_reckonsTo_67 5 rfl ?_
          refine g_iload X dX10_reckonsTo_68 2 rfl ?_
          refine g_if_ne X (tgt := 78) dX10_reckonsTo_70 (by decide) (by omega) (fun c70 => ?_) (fun c70 => ?_)
          · refine g_aload_n X dX10_reckonsTo_78 3 rfl ?_
            refine gM_get X 0 rfl 32 (by decide) uw1211 rfl dX10_reckonsTo_79 ?_
            refine g_iload X dX10_reckonsTo_82 1 rfl ?_
            refine g_iald X 21 0 rfl rfl (by omega) (by decide) dX10_reckonsTo_84 (fun t84 e84 => ?_)
            have r84 := r_v_facts (t43 : Int).toNat; rw [← e84] at r84
            refine g_iast X 20 0 rfl rfl (by omega) (by decide) dX10_reckonsTo_85 (fun stack_85 e85 => ?_)
            have r_stack_85 : RA (-2147483648) 2147483647 stack_85 := by rw [e85]; exact RA_up r_stack_16 (by omega)
            refine g_ws (ws2 := (wX10 cI cB cJ h q v_stalls v_claimMany v_taped v_place0 v_length0 v_fault v_number0 v_open v_codeMany v_waiting v_saidMany v_clauses v_newMany v_newStalls v_lines v_salesNow v_outNow v_isKept v_keptStalls v_now v_aside v_kept v_oneOf v_otherOf v_signOf v_byOf v_tape v_said v_waitsAt v_saidLetter v_saidFrom v_saidHalf v_saidTo v_codes v_clauseOf v_codeFrom v_codeHalf v_codeTo stack_85 v_facts v_newOne v_newOther v_newSign v_newBy v_moreOf v_firstOf v_toldOf v_mostOf v_mostThen v_sumTo v_rowFrom v_ordersOf v_lessOf v_weightOf v_rowNow v_slowRow v_fastRow v_lineNow v_firstLine v_freeBy v_heldBy v_heightOf v_upTo v_downTo v_oftenOf v_newUpper v_newLower)) rfl ?_
            refine g_iload_n X dX10_reckonsTo_86 5 rfl ?_
            refine g_iconst X dX10_reckonsTo_87 ?_
            refine g_iadd X dX10_reckonsTo_88 ?_
            refine g_istore_n X (lv' := [(3, vI (x3_16 + 1)), (5, vI (x5_16 + 1)), (7, vI t43), (6, vI t31), (0, .ref h), (2, vI p1), (4, vI (260 * t9))]) dX10_reckonsTo_89 (by decide) rfl ?_
            refine g_goto X (tgt := 230) dX10_reckonsTo_90 (by decide) ?_
            refine g_goto X (tgt := 16) dX10_reckonsTo_230 (by decide) ?_
            refine g_lv [4, 5, 0, 6, 1] rfl ?_
            exact ih16 (x3_16 + 1) (x5_16 + 1) stack_85 r_stack_85 (by first | assumption | omega) (by first | assumption | omega) (by first | assumption | omega) (by omega)
          · refine g_iload X dX10_reckonsTo_73 1 rfl ?_
            refine g_goto X (tgt := 85) dX10_reckonsTo_75 (by decide) ?_
            refine g_iast X 20 0 rfl rfl (by omega) (by decide) dX10_reckonsTo_85 (fun stack_85 e85 => ?_)
            have r_stack_85 : RA (-2147483648) 2147483647 stack_85 := by rw [e85]; exact RA_up r_stack_16 (by omega)
            refine g_ws (ws2 := (wX10 cI cB cJ h q v_stalls v_claimMany v_taped v_place0 v_length0 v_fault v_number0 v_open v_codeMany v_waiting v_saidMany v_clauses v_newMany v_newStalls v_lines v_salesNow v_outNow v_isKept v_keptStalls v_now v_aside v_kept v_oneOf v_otherOf v_signOf v_byOf v_tape v_said v_waitsAt v_saidLetter v_saidFrom v_saidHalf v_saidTo v_codes v_clauseOf v_codeFrom v_codeHalf v_codeTo stack_85 v_facts v_newOne v_newOther v_newSign v_newBy v_moreOf v_firstOf v_toldOf v_mostOf v_mostThen v_sumTo v_rowFrom v_ordersOf v_lessOf v_weightOf v_rowNow v_slowRow v_fastRow v_lineNow v_firstLine v_freeBy v_heldBy v_heightOf v_upTo v_downTo v_oftenOf v_newUpper v_newLower)) rfl ?_
            refine g_iload_n X dX10_reckonsTo_86 5 rfl ?_
            refine g_iconst X dX10_reckonsTo_87 ?_
            refine g_iadd X dX10_reckonsTo_88 ?_
            refine g_istore_n X (lv' := [(3, vI (x3_16 + 1)), (5, vI (x5_16 + 1)), (7, vI t43), (6, vI t31), (0, .ref h), (2, vI p1), (4, vI (260 * t9))]) dX10_reckonsTo_89 (by decide) rfl ?_
            refine g_goto X (tgt := 230) dX10_reckonsTo_90 (by decide) ?_
            refine g_goto X (tgt := 16) dX10_reckonsTo_230 (by decide) ?_
            refine g_lv [4, 5, 0, 6, 1] rfl ?_
            exact ih16 (x3_16 + 1) (x5_16 + 1) stack_85 r_stack_85 (by first | assumption | omega) (by first | assumption | omega) (by first | assumption | omega) (by omega)
        · refine g_iload X dX10_reckonsTo_57 2 rfl ?_
          refine g_iconst X dX10_reckonsTo_59 ?_
          refine g_icmp_ne X (tgt := 93) dX10_reckonsTo_60 (by decide) (by omega) (by omega) (fun c60 => ?_) (fun c60 => ?_)
          · refine g_iload X dX10_reckonsTo_93 2 rfl ?_
            refine g_bipush X (z := 10) dX10_reckonsTo_95 (by decide) ?_
            refine g_icmp_ne X (tgt := 121) dX10_reckonsTo_97 (by decide) (by omega) (by omega) (fun c97 => ?_) (fun c97 => ?_)
            · refine g_iload X dX10_reckonsTo_121 2 rfl ?_
              refine g_bipush X (z := 11) dX10_reckonsTo_123 (by decide) ?_
              refine g_icmp_eq X (tgt := 135) dX10_reckonsTo_125 (by decide) (by omega) (by omega) (fun c125 => ?_) (fun c125 => ?_)
              · refine g_aload_n X dX10_reckonsTo_135 3 rfl ?_
                refine gM_get X 0 rfl 31 (by decide) uw1210 rfl dX10_reckonsTo_136 ?_
                refine g_iload_n X dX10_reckonsTo_139 5 rfl ?_
                refine g_iconst X dX10_reckonsTo_140 ?_
                refine g_isub X dX10_reckonsTo_141 ?_
                refine g_iald X 20 0 rfl rfl (by omega) (by decide) dX10_reckonsTo_142 (fun t142 e142 => ?_)
                have r142 := r_stack_16 (x3_16 - 1 : Int).toNat; rw [← e142] at r142
                refine g_iload X dX10_reckonsTo_143 2 rfl ?_
                refine g_bipush X (z := 12) dX10_reckonsTo_145 (by decide) ?_
                refine g_icmp_ne X (tgt := 154) dX10_reckonsTo_147 (by decide) (by omega) (by omega) (fun c147 => ?_) (fun c147 => ?_)
                · refine g_iconst X dX10_reckonsTo_154 ?_
                  refine g_icmp_ne X (tgt := 168) dX10_reckonsTo_155 (by decide) (by omega) (by omega) (fun c155 => ?_) (fun c155 => ?_)
                  · refine g_iload_n X dX10_reckonsTo_168 5 rfl ?_
                    refine g_iconst X dX10_reckonsTo_169 ?_
                    refine g_isub X dX10_reckonsTo_170 ?_
                    refine g_istore_n X (lv' := [(3, vI (x3_16 - 1)), (5, vI (x5_16 + 1)), (7, vI t43), (6, vI t31), (0, .ref h), (2, vI p1), (4, vI (260 * t9))]) dX10_reckonsTo_171 (by decide) rfl ?_
                    refine g_goto X (tgt := 230) dX10_reckonsTo_172 (by decide) ?_
                    refine g_goto X (tgt := 16) dX10_reckonsTo_230 (by decide) ?_
                    refine g_lv [4, 5, 0, 6, 1] rfl ?_
                    exact ih16 (x3_16 - 1) (x5_16 + 1) stack_16 r_stack_16 (by first | assumption | omega) (by first | assumption | omega) (by first | assumption | omega) (by omega)
                  · refine g_iload X dX10_reckonsTo_158 6 rfl ?_
                    refine g_iload X dX10_reckonsTo_160 1 rfl ?_
                    refine g_iadd X dX10_reckonsTo_162 ?_
                    rw [show ((260 * t9) + t43) = t43 by omega]
                    refine g_istore X (lv' := [(5, vI t43), (7, vI t43), (6, vI t31), (0, .ref h), (2, vI p1), (3, vI x3_16), (4, vI (260 * t9))]) dX10_reckonsTo_163 (by decide) rfl ?_
                    refine g_goto X (tgt := 230) dX10_reckonsTo_165 (by decide) ?_
                    refine g_goto X (tgt := 16) dX10_reckonsTo_230 (by decide) ?_
                    refine g_lv [3, 4, 5, 6, 0] rfl ?_
                    exact ih16 x3_16 t43 stack_16 r_stack_16 (by first | assumption | omega) (by first | assumption | omega) (by first | assumption | omega) (by omega)
                · refine g_iconst X dX10_reckonsTo_150 ?_
                  refine g_goto X (tgt := 155) dX10_reckonsTo_151 (by decide) ?_
                  refine g_icmp_ne X (tgt := 168) dX10_reckonsTo_155 (by decide) (by omega) (by omega) (fun c155 => ?_) (fun c155 => ?_)
                  · refine g_iload_n X dX10_reckonsTo_168 5 rfl ?_
                    refine g_iconst X dX10_reckonsTo_169 ?_
                    refine g_isub X dX10_reckonsTo_170 ?_
                    refine g_istore_n X (lv' := [(3, vI (x3_16 - 1)), (5, vI (x5_16 + 1)), (7, vI t43), (6, vI t31), (0, .ref h), (2, vI p1), (4, vI (260 * t9))]) dX10_reckonsTo_171 (by decide) rfl ?_
                    refine g_goto X (tgt := 230) dX10_reckonsTo_172 (by decide) ?_
                    refine g_goto X (tgt := 16) dX10_reckonsTo_230 (by decide) ?_
                    refine g_lv [4, 5, 0, 6, 1] rfl ?_
                    exact ih16 (x3_16 - 1) (x5_16 + 1) stack_16 r_stack_16 (by first | assumption | omega) (by first | assumption | omega) (by first | assumption | omega) (by omega)
                  · refine g_iload X dX10_reckonsTo_158 6 rfl ?_
                    refine g_iload X dX10_reckonsTo_160 1 rfl ?_
                    refine g_iadd X dX10_reckonsTo_162 ?_
                    rw [show ((260 * t9) + t43) = t43 by omega]
                    refine g_istore X (lv' := [(5, vI t43), (7, vI t43), (6, vI t31), (0, .ref h), (2, vI p1), (3, vI x3_16), (4, vI (260 * t9))]) dX10_reckonsTo_163 (by decide) rfl ?_
                    refine g_goto X (tgt := 230) dX10_reckonsTo_165 (by decide) ?_
                    refine g_goto X (tgt := 16) dX10_reckonsTo_230 (by decide) ?_
                    refine g_lv [3, 4, 5, 6, 0] rfl ?_
                    exact ih16 x3_16 t43 stack_16 r_stack_16 (by first | assumption | omega) (by first | assumption | omega) (by first | assumption | omega) (by omega)
              · refine g_iload X dX10_reckonsTo_128 2 rfl ?_
                refine g_bipush X (z := 12) dX10_reckonsTo_130 (by decide) ?_
                refine g_icmp_ne X (tgt := 175) dX10_reckonsTo_132 (by decide) (by omega) (by omega) (fun c132 => ?_) (fun c132 => ?_)
                · refine g_iload_n X dX10_reckonsTo_175 5 rfl ?_
                  refine g_iconst X dX10_reckonsTo_176 ?_
                  refine g_isub X dX10_reckonsTo_177 ?_
                  refine g_istore_n X (lv' := [(3, vI (x3_16 - 1)), (5, vI (x5_16 + 1)), (7, vI t43), (6, vI t31), (0, .ref h), (2, vI p1), (4, vI (260 * t9))]) dX10_reckonsTo_178 (by decide) rfl ?_
                  refine g_iload X dX10_reckonsTo_179 3 rfl ?_
                  refine g_iconst X dX10_reckonsTo_181 ?_
                  refine g_icmp_eq X (tgt := 192) dX10_reckonsTo_182 (by decide) (by omega) (by omega) (fun c182 => ?_) (fun c182 => ?_)
                  · refine g_aload_n X dX10_reckonsTo_192 4 rfl ?_
                    refine gM_get X 0 rfl 31 (by decide) uw1210 rfl dX10_reckonsTo_193 ?_
                    refine g_iload_n X dX10_reckonsTo_196 0 rfl ?_
                    refine g_iald X 20 0 rfl rfl (by omega) (by decide) dX10_reckonsTo_197 (fun t197 e197 => ?_)
                    have r197 := r_stack_16 (x3_16 - 1 : Int).toNat; rw [← e197] at r197
                    refine g_if_ne X (tgt := 203) dX10_reckonsTo_198 (by decide) (by omega) (fun c198 => ?_) (fun c198 => ?_)
                    · refine g_aload_n X dX10_reckonsTo_203 4 rfl ?_
                      refine gM_get X 0 rfl 31 (by decide) uw1210 rfl dX10_reckonsTo_204 ?_
                      refine g_iload_n X dX10_reckonsTo_207 0 rfl ?_
                      refine g_iconst X dX10_reckonsTo_208 ?_
                      refine g_isub X dX10_reckonsTo_209 ?_
                      refine g_iload X dX10_reckonsTo_210 3 rfl ?_
                      refine g_aload_n X dX10_reckonsTo_212 4 rfl ?_
                      refine gM_get X 0 rfl 31 (by decide) uw1210 rfl dX10_reckonsTo_213 ?_
                      refine g_iload_n X dX10_reckonsTo_216 0 rfl ?_
                      refine g_iconst X dX10_reckonsTo_217 ?_
                      refine g_isub X dX10_reckonsTo_218 ?_
                      refine g_iald X 20 0 rfl rfl (by omega) (by decide) dX10_reckonsTo_219 (fun t219 e219 => ?_)
                      have r219 := r_stack_16 ((x3_16 - 1) - 1 : Int).toNat; rw [← e219] at r219
                      refine g_aload_n X dX10_reckonsTo_220 4 rfl ?_
                      refine gM_get X 0 rfl 31 (by decide) uw1210 rfl dX10_reckonsTo_221 ?_
                      refine g_iload_n X dX10_reckonsTo_224 0 rfl ?_
                      refine g_iald X 20 0 rfl rfl (by omega) (by decide) dX10_reckonsTo_225 (fun t225 e225 => ?_)
                      have r225 := r_stack_16 (x3_16 - 1 : Int).toNat; rw [← e225] at r225
                      refine g_callSIE X (c_X10_reckon l D cI cB cJ (p0 := t31) (p1 := t219) (p2 := t225) (by first | assumption | omega) (by first | assumption | omega) (by first | assumption | omega) (by first | assumption | omega)) cv_X10_reckon uw1794 ⟨rfl, rfl, by decide, by decide⟩ rfl rfl (Nat.le_of_ble_eq_true rfl) ⟨Nat.zero_le _, Nat.zero_le _⟩ dX10_reckonsTo_226 (fun t226 ws226 k226 => ?_)
                      obtain ⟨kp0_226, rfl⟩ := k226
                      refine g_iast X 20 0 rfl rfl (by omega) (by decide) dX10_reckonsTo_229 (fun stack_229 e229 => ?_)
                      have r_stack_229 : RA (-2147483648) 2147483647 stack_229 := by rw [e229]; exact RA_up r_stack_16 (by omega)
                      refine g_ws (ws2 := (wX10 cI cB cJ h q v_stalls v_claimMany v_taped v_place0 v_length0 v_fault v_number0 v_open v_codeMany v_waiting v_saidMany v_clauses v_newMany v_newStalls v_lines v_salesNow v_outNow v_isKept v_keptStalls v_now v_aside v_kept v_oneOf v_otherOf v_signOf v_byOf v_tape v_said v_waitsAt v_saidLetter v_saidFrom v_saidHalf v_saidTo v_codes v_clauseOf v_codeFrom v_codeHalf v_codeTo stack_229 v_facts v_newOne v_newOther v_newSign v_newBy v_moreOf v_firstOf v_toldOf v_mostOf v_mostThen v_sumTo v_rowFrom v_ordersOf v_lessOf v_weightOf v_rowNow v_slowRow v_fastRow v_lineNow v_firstLine v_freeBy v_heldBy v_heightOf v_upTo v_downTo v_oftenOf v_newUpper v_newLower)) rfl ?_
                      refine g_goto X (tgt := 16) dX10_reckonsTo_230 (by decide) ?_
                      refine g_lv [4, 5, 0, 6, 1] rfl ?_
                      exact ih16 (x3_16 - 1) (x5_16 + 1) stack_229 r_stack_229 (by first | assumption | omega) (by first | assumption | omega) (by first | assumption | omega) (by omega)
                    · refine g_iconst X dX10_reckonsTo_201 ?_
                      exact hQ _ _ _ _ dX10_reckonsTo_202 ⟨stack_16, r_stack_16, (by omega), rfl⟩
                  · refine g_iload X dX10_reckonsTo_185 3 rfl ?_
                    refine g_bipush X (z := 6) dX10_reckonsTo_187 (by decide) ?_
                    refine g_icmp_ne X (tgt := 203) dX10_reckonsTo_189 (by decide) (by omega) (by omega) (fun c189 => ?_) (fun c189 => ?_)
                    · refine g_aload_n X dX10_reckonsTo_203 4 rfl ?_
                      refine gM_get X 0 rfl 31 (by decide) uw1210 rfl dX10_reckonsTo_204 ?_
                      refine g_iload_n X dX10_reckonsTo_207 0 rfl ?_
                      refine g_iconst X dX10_reckonsTo_208 ?_
                      refine g_isub X dX10_reckonsTo_209 ?_
                      refine g_iload X dX10_reckonsTo_210 3 rfl ?_
                      refine g_aload_n X dX10_reckonsTo_212 4 rfl ?_
                      refine gM_get X 0 rfl 31 (by decide) uw1210 rfl dX10_reckonsTo_213 ?_
                      refine g_iload_n X dX10_reckonsTo_216 0 rfl ?_
                      refine g_iconst X dX10_reckonsTo_217 ?_
                      refine g_isub X dX10_reckonsTo_218 ?_
                      refine g_iald X 20 0 rfl rfl (by omega) (by decide) dX10_reckonsTo_219 (fun t219 e219 => ?_)
                      have r219 := r_stack_16 ((x3_16 - 1) - 1 : Int).toNat; rw [← e219] at r219
                      refine g_aload_n X dX10_reckonsTo_220 4 rfl ?_
                      refine gM_get X 0 rfl 31 (by decide) uw1210 rfl dX10_reckonsTo_221 ?_
                      refine g_iload_n X dX10_reckonsTo_224 0 rfl ?_
                      refine g_iald X 20 0 rfl rfl (by omega) (by decide) dX10_reckonsTo_225 (fun t225 e225 => ?_)
                      have r225 := r_stack_16 (x3_16 - 1 : Int).toNat; rw [← e225] at r225
                      refine g_callSIE X (c_X10_reckon l D cI cB cJ (p0 := t31) (p1 := t219) (p2 := t225) (by first | assumption | omega) (by first | assumption | omega) (by first | assumption | omega) (by first | assumption | omega)) cv_X10_reckon uw1794 ⟨rfl, rfl, by decide, by decide⟩ rfl rfl (Nat.le_of_ble_eq_true rfl) ⟨Nat.zero_le _, Nat.zero_le _⟩ dX10_reckonsTo_226 (fun t226 ws226 k226 => ?_)
                      obtain ⟨kp0_226, rfl⟩ := k226
                      refine g_iast X 20 0 rfl rfl (by omega) (by decide) dX10_reckonsTo_229 (fun stack_229 e229 => ?_)
                      have r_stack_229 : RA (-2147483648) 2147483647 stack_229 := by rw [e229]; exact RA_up r_stack_16 (by omega)
                      refine g_ws (ws2 := (wX10 cI cB cJ h q v_stalls v_claimMany v_taped v_place0 v_length0 v_fault v_number0 v_open v_codeMany v_waiting v_saidMany v_clauses v_newMany v_newStalls v_lines v_salesNow v_outNow v_isKept v_keptStalls v_now v_aside v_kept v_oneOf v_otherOf v_signOf v_byOf v_tape v_said v_waitsAt v_saidLetter v_saidFrom v_saidHalf v_saidTo v_codes v_clauseOf v_codeFrom v_codeHalf v_codeTo stack_229 v_facts v_newOne v_newOther v_newSign v_newBy v_moreOf v_firstOf v_toldOf v_mostOf v_mostThen v_sumTo v_rowFrom v_ordersOf v_lessOf v_weightOf v_rowNow v_slowRow v_fastRow v_lineNow v_firstLine v_freeBy v_heldBy v_heightOf v_upTo v_downTo v_oftenOf v_newUpper v_newLower)) rfl ?_
                      refine g_goto X (tgt := 16) dX10_reckonsTo_230 (by decide) ?_
                      refine g_lv [4, 5, 0, 6, 1] rfl ?_
                      exact ih16 (x3_16 - 1) (x5_16 + 1) stack_229 r_stack_229 (by first | assumption | omega) (by first | assumption | omega) (by first | assumption | omega) (by omega)
                    · refine g_aload_n X dX10_reckonsTo_192 4 rfl ?_
                      refine gM_get X 0 rfl 31 (by decide) uw1210 rfl dX10_reckonsTo_193 ?_
                      refine g_iload_n X dX10_reckonsTo_196 0 rfl ?_
                      refine g_iald X 20 0 rfl rfl (by omega) (by decide) dX10_reckonsTo_197 (fun t197 e197 => ?_)
                      have r197 := r_stack_16 (x3_16 - 1 : Int).toNat; rw [← e197] at r197
                      refine g_if_ne X (tgt := 203) dX10_reckonsTo_198 (by decide) (by omega) (fun c198 => ?_) (fun c198 => ?_)
                      · refine g_aload_n X dX10_reckonsTo_203 4 rfl ?_
                        refine gM_get X 0 rfl 31 (by decide) uw1210 rfl dX10_reckonsTo_204 ?_
                        refine g_iload_n X dX10_reckonsTo_207 0 rfl ?_
                        refine g_iconst X dX10_reckonsTo_208 ?_
                        refine g_isub X dX10_reckonsTo_209 ?_
                        refine g_iload X dX10_reckonsTo_210 3 rfl ?_
                        refine g_aload_n X dX10_reckonsTo_212 4 rfl ?_
                        refine gM_get X 0 rfl 31 (by decide) uw1210 rfl dX10_reckonsTo_213 ?_
                        refine g_iload_n X dX10_reckonsTo_216 0 rfl ?_
                        refine g_iconst X dX10_reckonsTo_217 ?_
                        refine g_isub X dX10_reckonsTo_218 ?_
                        refine g_iald X 20 0 rfl rfl (by omega) (by decide) dX10_reckonsTo_219 (fun t219 e219 => ?_)
                        have r219 := r_stack_16 ((x3_16 - 1) - 1 : Int).toNat; rw [← e219] at r219
                        refine g_aload_n X dX10_reckonsTo_220 4 rfl ?_
                        refine gM_get X 0 rfl 31 (by decide) uw1210 rfl dX10_reckonsTo_221 ?_
                        refine g_iload_n X dX10_reckonsTo_224 0 rfl ?_
                        refine g_iald X 20 0 rfl rfl (by omega) (by decide) dX10_reckonsTo_225 (fun t225 e225 => ?_)
                        have r225 := r_stack_16 (x3_16 - 1 : Int).toNat; rw [← e225] at r225
                        refine g_callSIE X (c_X10_reckon l D cI cB cJ (p0 := t31) (p1 := t219) (p2 := t225) (by first | assumption | omega) (by first | assumption | omega) (by first | assumption | omega) (by first | assumption | omega)) cv_X10_reckon uw1794 ⟨rfl, rfl, by decide, by decide⟩ rfl rfl (Nat.le_of_ble_eq_true rfl) ⟨Nat.zero_le _, Nat.zero_le _⟩ dX10_reckonsTo_226 (fun t226 ws226 k226 => ?_)
                        obtain ⟨kp0_226, rfl⟩ := k226
                        refine g_iast X 20 0 rfl rfl (by omega) (by decide) dX10_reckonsTo_229 (fun stack_229 e229 => ?_)
                        have r_stack_229 : RA (-2147483648) 2147483647 stack_229 := by rw [e229]; exact RA_up r_stack_16 (by omega)
                        refine g_ws (ws2 := (wX10 cI cB cJ h q v_stalls v_claimMany v_taped v_place0 v_length0 v_fault v_number0 v_open v_codeMany v_waiting v_saidMany v_clauses v_newMany v_newStalls v_lines v_salesNow v_outNow v_isKept v_keptStalls v_now v_aside v_kept v_oneOf v_otherOf v_signOf v_byOf v_tape v_said v_waitsAt v_saidLetter v_saidFrom v_saidHalf v_saidTo v_codes v_clauseOf v_codeFrom v_codeHalf v_codeTo stack_229 v_facts v_newOne v_newOther v_newSign v_newBy v_moreOf v_firstOf v_toldOf v_mostOf v_mostThen v_sumTo v_rowFrom v_ordersOf v_lessOf v_weightOf v_rowNow v_slowRow v_fastRow v_lineNow v_firstLine v_freeBy v_heldBy v_heightOf v_upTo v_downTo v_oftenOf v_newUpper v_newLower)) rfl ?_
                        refine g_goto X (tgt := 16) dX10_reckonsTo_230 (by decide) ?_
                        refine g_lv [4, 5, 0, 6, 1] rfl ?_
                        exact ih16 (x3_16 - 1) (x5_16 + 1) stack_229 r_stack_229 (by first | assumption | omega) (by first | assumption | omega) (by first | assumption | omega) (by omega)
                      · refine g_iconst X dX10_reckonsTo_201 ?_
                        exact hQ _ _ _ _ dX10_reckonsTo_202 ⟨stack_16, r_stack_16, (by omega), rfl⟩
                · refine g_aload_n X dX10_reckonsTo_135 3 rfl ?_
                  refine gM_get X 0 rfl 31 (by decide) uw1210 rfl dX10_reckonsTo_136 ?_
                  refine g_iload_n X dX10_reckonsTo_139 5 rfl ?_
                  refine g_iconst X dX10_reckonsTo_140 ?_
                  refine g_isub X dX10_reckonsTo_141 ?_
                  refine g_iald X 20 0 rfl rfl (by omega) (by decide) dX10_reckonsTo_142 (fun t142 e142 => ?_)
                  have r142 := r_stack_16 (x3_16 - 1 : Int).toNat; rw [← e142] at r142
                  refine g_iload X dX10_reckonsTo_143 2 rfl ?_
                  refine g_bipush X (z := 12) dX10_reckonsTo_145 (by decide) ?_
                  refine g_icmp_ne X (tgt := 154) dX10_reckonsTo_147 (by decide) (by omega) (by omega) (fun c147 => ?_) (fun c147 => ?_)
                  · refine g_iconst X dX10_reckonsTo_154 ?_
                    refine g_icmp_ne X (tgt := 168) dX10_reckonsTo_155 (by decide) (by omega) (by omega) (fun c155 => ?_) (fun c155 => ?_)
                    · refine g_iload_n X dX10_reckonsTo_168 5 rfl ?_
                      refine g_iconst X dX10_reckonsTo_169 ?_
                      refine g_isub X dX10_reckonsTo_170 ?_
                      refine g_istore_n X (lv' := [(3, vI (x3_16 - 1)), (5, vI (x5_16 + 1)), (7, vI t43), (6, vI t31), (0, .ref h), (2, vI p1), (4, vI (260 * t9))]) dX10_reckonsTo_171 (by decide) rfl ?_
                      refine g_goto X (tgt := 230) dX10_reckonsTo_172 (by decide) ?_
                      refine g_goto X (tgt := 16) dX10_reckonsTo_230 (by decide) ?_
                      refine g_lv [4, 5, 0, 6, 1] rfl ?_
                      exact ih16 (x3_16 - 1) (x5_16 + 1) stack_16 r_stack_16 (by first | assumption | omega) (by first | assumption | omega) (by first | assumption | omega) (by omega)
                    · refine g_iload X dX10_reckonsTo_158 6 rfl ?_
                      refine g_iload X dX10_reckonsTo_160 1 rfl ?_
                      refine g_iadd X dX10_reckonsTo_162 ?_
                      rw [show ((260 * t9) + t43) = t43 by omega]
                      refine g_istore X (lv' := [(5, vI t43), (7, vI t43), (6, vI t31), (0, .ref h), (2, vI p1), (3, vI x3_16), (4, vI (260 * t9))]) dX10_reckonsTo_163 (by decide) rfl ?_
                      refine g_goto X (tgt := 230) dX10_reckonsTo_165 (by decide) ?_
                      refine g_goto X (tgt := 16) dX10_reckonsTo_230 (by decide) ?_
                      refine g_lv [3, 4, 5, 6, 0] rfl ?_
                      exact ih16 x3_16 t43 stack_16 r_stack_16 (by first | assumption | omega) (by first | assumption | omega) (by first | assumption | omega) (by omega)
                  · refine g_iconst X dX10_reckonsTo_150 ?_
                    refine g_goto X (tgt := 155) dX10_reckonsTo_151 (by decide) ?_
                    refine g_icmp_ne X (tgt := 168) dX10_reckonsTo_155 (by decide) (by omega) (by omega) (fun c155 => ?_) (fun c155 => ?_)
                    · refine g_iload_n X dX10_reckonsTo_168 5 rfl ?_
                      refine g_iconst X dX10_reckonsTo_169 ?_
                      refine g_isub X dX10_reckonsTo_170 ?_
                      refine g_istore_n X (lv' := [(3, vI (x3_16 - 1)), (5, vI (x5_16 + 1)), (7, vI t43), (6, vI t31), (0, .ref h), (2, vI p1), (4, vI (260 * t9))]) dX10_reckonsTo_171 (by decide) rfl ?_
                      refine g_goto X (tgt := 230) dX10_reckonsTo_172 (by decide) ?_
                      refine g_goto X (tgt := 16) dX10_reckonsTo_230 (by decide) ?_
                      refine g_lv [4, 5, 0, 6, 1] rfl ?_
                      exact ih16 (x3_16 - 1) (x5_16 + 1) stack_16 r_stack_16 (by first | assumption | omega) (by first | assumption | omega) (by first | assumption | omega) (by omega)
                    · refine g_iload X dX10_reckonsTo_158 6 rfl ?_
                      refine g_iload X dX10_reckonsTo_160 1 rfl ?_
                      refine g_iadd X dX10_reckonsTo_162 ?_
                      rw [show ((260 * t9) + t43) = t43 by omega]
                      refine g_istore X (lv' := [(5, vI t43), (7, vI t43), (6, vI t31), (0, .ref h), (2, vI p1), (3, vI x3_16), (4, vI (260 * t9))]) dX10_reckonsTo_163 (by decide) rfl ?_
                      refine g_goto X (tgt := 230) dX10_reckonsTo_165 (by decide) ?_
                      refine g_goto X (tgt := 16) dX10_reckonsTo_230 (by decide) ?_
                      refine g_lv [3, 4, 5, 6, 0] rfl ?_
                      exact ih16 x3_16 t43 stack_16 r_stack_16 (by first | assumption | omega) (by first | assumption | omega) (by first | assumption | omega) (by omega)
            · refine g_aload_n X dX10_reckonsTo_100 3 rfl ?_
              refine gM_get X 0 rfl 31 (by decide) uw1210 rfl dX10_reckonsTo_101 ?_
              refine g_iload_n X dX10_reckonsTo_104 5 rfl ?_
              refine g_iconst X dX10_reckonsTo_105 ?_
              refine g_isub X dX10_reckonsTo_106 ?_
              refine g_iconst X dX10_reckonsTo_107 ?_
              refine g_aload_n X dX10_reckonsTo_108 3 rfl ?_
              refine gM_get X 0 rfl 31 (by decide) uw1210 rfl dX10_reckonsTo_109 ?_
              refine g_iload_n X dX10_reckonsTo_112 5 rfl ?_
              refine g_iconst X dX10_reckonsTo_113 ?_
              refine g_isub X dX10_reckonsTo_114 ?_
              refine g_iald X 20 0 rfl rfl (by omega) (by decide) dX10_reckonsTo_115 (fun t115 e115 => ?_)
              have r115 := r_stack_16 (x3_16 - 1 : Int).toNat; rw [← e115] at r115
              refine g_isub X dX10_reckonsTo_116 ?_
              refine g_nr (fun t116 e116 r116 => ?_)
              refine g_iast X 20 0 rfl rfl (by omega) (by decide) dX10_reckonsTo_117 (fun stack_117 e117 => ?_)
              have r_stack_117 : RA (-2147483648) 2147483647 stack_117 := by rw [e117]; exact RA_up r_stack_16 (by omega)
              refine g_ws (ws2 := (wX10 cI cB cJ h q v_stalls v_claimMany v_taped v_place0 v_length0 v_fault v_number0 v_open v_codeMany v_waiting v_saidMany v_clauses v_newMany v_newStalls v_lines v_salesNow v_outNow v_isKept v_keptStalls v_now v_aside v_kept v_oneOf v_otherOf v_signOf v_byOf v_tape v_said v_waitsAt v_saidLetter v_saidFrom v_saidHalf v_saidTo v_codes v_clauseOf v_codeFrom v_codeHalf v_codeTo stack_117 v_facts v_newOne v_newOther v_newSign v_newBy v_moreOf v_firstOf v_toldOf v_mostOf v_mostThen v_sumTo v_rowFrom v_ordersOf v_lessOf v_weightOf v_rowNow v_slowRow v_fastRow v_lineNow v_firstLine v_freeBy v_heldBy v_heightOf v_upTo v_downTo v_oftenOf v_newUpper v_newLower)) rfl ?_
              refine g_goto X (tgt := 230) dX10_reckonsTo_118 (by decide) ?_
              refine g_goto X (tgt := 16) dX10_reckonsTo_230 (by decide) ?_
              refine g_lv [3, 4, 5, 6, 0] rfl ?_
              exact ih16 x3_16 (x5_16 + 1) stack_117 r_stack_117 (by first | assumption | omega) (by first | assumption | omega) (by first | assumption | omega) (by omega)
          · refine g_aload_n X dX10_reckonsTo_63 3 rfl ?_
            refine gM_get X 0 rfl 31 (by decide) uw1210 rfl dX10_reckonsTo_64 ?_
            refine g_iload_n X dX10_reckonsTo_67 5 rfl ?_
            refine g_iload X dX10_reckonsTo_68 2 rfl ?_
            refine g_if_ne X (tgt := 78) dX10_reckonsTo_70 (by decide) (by omega) (fun c70 => ?_) (fun c70 => ?_)
            · refine g_aload_n X dX10_reckonsTo_78 3 rfl ?_
              refine gM_get X 0 rfl 32 (by decide) uw1211 rfl dX10_reckonsTo_79 ?_
              refine g_iload X dX10_reckonsTo_82 1 rfl ?_
              refine g_iald X 21 0 rfl rfl (by omega) (by decide) dX10_reckonsTo_84 (fun t84 e84 => ?_)
              have r84 := r_v_facts (t43 : Int).toNat; rw [← e84] at r84
              refine g_iast X 20 0 rfl rfl (by omega) (by decide) dX10_reckonsTo_85 (fun stack_85 e85 => ?_)
              have r_stack_85 : RA (-2147483648) 2147483647 stack_85 := by rw [e85]; exact RA_up r_stack_16 (by omega)
              refine g_ws (ws2 := (wX10 cI cB cJ h q v_stalls v_claimMany v_taped v_place0 v_length0 v_fault v_number0 v_open v_codeMany v_waiting v_saidMany v_clauses v_newMany v_newStalls v_lines v_salesNow v_outNow v_isKept v_keptStalls v_now v_aside v_kept v_oneOf v_otherOf v_signOf v_byOf v_tape v_said v_waitsAt v_saidLetter v_saidFrom v_saidHalf v_saidTo v_codes v_clauseOf v_codeFrom v_codeHalf v_codeTo stack_85 v_facts v_newOne v_newOther v_newSign v_newBy v_moreOf v_firstOf v_toldOf v_mostOf v_mostThen v_sumTo v_rowFrom v_ordersOf v_lessOf v_weightOf v_rowNow v_slowRow v_fastRow v_lineNow v_firstLine v_freeBy v_heldBy v_heightOf v_upTo v_downTo v_oftenOf v_newUpper v_newLower)) rfl ?_
              refine g_iload_n X dX10_reckonsTo_86 5 rfl ?_
              refine g_iconst X dX10_reckonsTo_87 ?_
              refine g_iadd X dX10_reckonsTo_88 ?_
              refine g_istore_n X (lv' := [(3, vI (x3_16 + 1)), (5, vI (x5_16 + 1)), (7, vI t43), (6, vI t31), (0, .ref h), (2, vI p1), (4, vI (260 * t9))]) dX10_reckonsTo_89 (by decide) rfl ?_
              refine g_goto X (tgt := 230) dX10_reckonsTo_90 (by decide) ?_
              refine g_goto X (tgt := 16) dX10_reckonsTo_230 (by decide) ?_
              refine g_lv [4, 5, 0, 6, 1] rfl ?_
              exact ih16 (x3_16 + 1) (x5_16 + 1) stack_85 r_stack_85 (by first | assumption | omega) (by first | assumption | omega) (by first | assumption | omega) (by omega)
            · refine g_iload X dX10_reckonsTo_73 1 rfl ?_
              refine g_goto X (tgt := 85) dX10_reckonsTo_75 (by decide) ?_
              refine g_iast X 20 0 rfl rfl (by omega) (by decide) dX10_reckonsTo_85 (fun stack_85 e85 => ?_)
              have r_stack_85 : RA (-2147483648) 2147483647 stack_85 := by rw [e85]; exact RA_up r_stack_16 (by omega)
              refine g_ws (ws2 := (wX10 cI cB cJ h q v_stalls v_claimMany v_taped v_place0 v_length0 v_fault v_number0 v_open v_codeMany v_waiting v_saidMany v_clauses v_newMany v_newStalls v_lines v_salesNow v_outNow v_isKept v_keptStalls v_now v_aside v_kept v_oneOf v_otherOf v_signOf v_byOf v_tape v_said v_waitsAt v_saidLetter v_saidFrom v_saidHalf v_saidTo v_codes v_clauseOf v_codeFrom v_codeHalf v_codeTo stack_85 v_facts v_newOne v_newOther v_newSign v_newBy v_moreOf v_firstOf v_toldOf v_mostOf v_mostThen v_sumTo v_rowFrom v_ordersOf v_lessOf v_weightOf v_rowNow v_slowRow v_fastRow v_lineNow v_firstLine v_freeBy v_heldBy v_heightOf v_upTo v_downTo v_oftenOf v_newUpper v_newLower)) rfl ?_
              refine g_iload_n X dX10_reckonsTo_86 5 rfl ?_
              refine g_iconst X dX10_reckonsTo_87 ?_
              refine g_iadd X dX10_reckonsTo_88 ?_
              refine g_istore_n X (lv' := [(3, vI (x3_16 + 1)), (5, vI (x5_16 + 1)), (7, vI t43), (6, vI t31), (0, .ref h), (2, vI p1), (4, vI (260 * t9))]) dX10_reckonsTo_89 (by decide) rfl ?_
              refine g_goto X (tgt := 230) dX10_reckonsTo_90 (by decide) ?_
              refine g_goto X (tgt := 16) dX10_reckonsTo_230 (by decide) ?_
              refine g_lv [4, 5, 0, 6, 1] rfl ?_
              exact ih16 (x3_16 + 1) (x5_16 + 1) stack_85 r_stack_85 (by first | assumption | omega) (by first | assumption | omega) (by first | assumption | omega) (by omega)
  refine g_lv [3, 5, 2, 1, 0] rfl ?_
  exact L16 _ 0 p0 v_stack r_v_stack (by first | assumption | omega) (by first | assumption | omega) (by first | assumption | omega) (Nat.lt_succ_self _)
set_option maxHeartbeats 4000000 in
set_option maxRecDepth 100000 in
theorem c_X10_byLaw (l : Launch) (D : va_G) (cI cB cJ : ClassId) (h : Nat) (q : Nat → Nat) {v_stalls v_claimMany v_taped v_place0 v_length0 v_fault v_number0 v_open v_codeMany v_waiting v_saidMany v_clauses v_newMany v_newStalls v_lines v_salesNow v_outNow v_isKept v_keptStalls : Int} {v_now v_aside v_kept v_oneOf v_otherOf v_signOf v_byOf v_tape v_said v_waitsAt v_saidLetter v_saidFrom v_saidHalf v_saidTo v_codes v_clauseOf v_codeFrom v_codeHalf v_codeTo v_stack v_facts v_newOne v_newOther v_newSign v_newBy v_moreOf v_firstOf v_toldOf v_mostOf v_mostThen v_sumTo v_rowFrom v_ordersOf v_lessOf v_weightOf v_rowNow v_slowRow v_fastRow v_lineNow v_firstLine v_freeBy v_heldBy v_heightOf v_upTo v_downTo v_oftenOf v_newUpper v_newLower : Nat → Int} {p0 p1 p2 : Int} (kr_v_clauses : 0 ≤ v_clauses ∧ v_clauses ≤ 16) (r_v_codes : RA 0 16777215 v_codes) (r_v_clauseOf : RA (-2147483648) 2147483647 v_clauseOf) (r_v_codeFrom : RA 0 260 v_codeFrom) (r_v_codeHalf : RA 0 260 v_codeHalf) (r_v_codeTo : RA 0 260 v_codeTo) (r_v_stack : RA (-2147483648) 2147483647 v_stack) (r_v_facts : RA (-2147483648) 2147483647 v_facts) (hp0 : IR p0) (hp1 : IR p1) (hp2 : IR p2) (hp3 : LawOK v_codes v_clauses v_codeFrom v_codeHalf v_codeTo) : CtI l yX10_byLaw cX10_byLaw 6 (some .int) ⟨2, 0, 0, 49⟩ D (TY cI cB cJ) (wX10 cI cB cJ h q v_stalls v_claimMany v_taped v_place0 v_length0 v_fault v_number0 v_open v_codeMany v_waiting v_saidMany v_clauses v_newMany v_newStalls v_lines v_salesNow v_outNow v_isKept v_keptStalls v_now v_aside v_kept v_oneOf v_otherOf v_signOf v_byOf v_tape v_said v_waitsAt v_saidLetter v_saidFrom v_saidHalf v_saidTo v_codes v_clauseOf v_codeFrom v_codeHalf v_codeTo v_stack v_facts v_newOne v_newOther v_newSign v_newBy v_moreOf v_firstOf v_toldOf v_mostOf v_mostThen v_sumTo v_rowFrom v_ordersOf v_lessOf v_weightOf v_rowNow v_slowRow v_fastRow v_lineNow v_firstLine v_freeBy v_heldBy v_heightOf v_upTo v_downTo v_oftenOf v_newUpper v_newLower) [.ref h, vI p0, vI p1, vI p2] (fun z ws' => ∃ n_stack : Nat → Int, (RA (-2147483648) 2147483647 n_stack) ∧ (IR z) ∧ (ws' = (wX10 cI cB cJ h q v_stalls v_claimMany v_taped v_place0 v_length0 v_fault v_number0 v_open v_codeMany v_waiting v_saidMany v_clauses v_newMany v_newStalls v_lines v_salesNow v_outNow v_isKept v_keptStalls v_now v_aside v_kept v_oneOf v_otherOf v_signOf v_byOf v_tape v_said v_waitsAt v_saidLetter v_saidFrom v_saidHalf v_saidTo v_codes v_clauseOf v_codeFrom v_codeHalf v_codeTo n_stack v_facts v_newOne v_newOther v_newSign v_newBy v_moreOf v_firstOf v_toldOf v_mostOf v_mostThen v_sumTo v_rowFrom v_ordersOf v_lessOf v_weightOf v_rowNow v_slowRow v_fastRow v_lineNow v_firstLine v_freeBy v_heldBy v_heightOf v_upTo v_downTo v_oftenOf v_newUpper v_newLower))) := by
  refine hdrI (own := RX10) rfl (by decide +kernel) (Nat.le_of_ble_eq_true rfl) ?_
  intro p e s m args below meth c Q A X hQ
  refine g_lvE (lv2 := [(0, .ref h), (1, vI p0), (2, vI p1), (3, vI p2)]) rfl ?_
  refine g_iconst X dX10_byLaw_0 ?_
  refine g_istore X (lv' := [(4, vI 0), (0, .ref h), (1, vI p0), (2, vI p1), (3, vI p2)]) dX10_byLaw_1 (by decide) rfl ?_
  have L3 : ∀ (n : Nat) (x4_3 : Int) (stack_3 : Nat → Int), (RA (-2147483648) 2147483647 stack_3) → (0 ≤ x4_3 ∧ x4_3 ≤ v_clauses) → (v_clauses - x4_3).toNat < n → GG p l e ⟨2, 0, 0, 49⟩ s m args below meth c 0 0 Q D A s.heap 6 (wX10 cI cB cJ h q v_stalls v_claimMany v_taped v_place0 v_length0 v_fault v_number0 v_open v_codeMany v_waiting v_saidMany v_clauses v_newMany v_newStalls v_lines v_salesNow v_outNow v_isKept v_keptStalls v_now v_aside v_kept v_oneOf v_otherOf v_signOf v_byOf v_tape v_said v_waitsAt v_saidLetter v_saidFrom v_saidHalf v_saidTo v_codes v_clauseOf v_codeFrom v_codeHalf v_codeTo stack_3 v_facts v_newOne v_newOther v_newSign v_newBy v_moreOf v_firstOf v_toldOf v_mostOf v_mostThen v_sumTo v_rowFrom v_ordersOf v_lessOf v_weightOf v_rowNow v_slowRow v_fastRow v_lineNow v_firstLine v_freeBy v_heldBy v_heightOf v_upTo v_downTo v_oftenOf v_newUpper v_newLower) 3 [(0, .ref h), (1, vI p0), (2, vI p1), (3, vI p2), (4, vI x4_3)] [] := by
    intro n
    induction n with
    | zero => intros; exfalso; omega
    | succ n ih3 =>
      intro x4_3 stack_3 r_stack_3 w3_0 wm3
      refine g_iload X dX10_byLaw_3 4 rfl ?_
      refine g_aload_n X dX10_byLaw_5 0 rfl ?_
      refine gM_get X 0 rfl 19 (by decide) uw1198 rfl dX10_byLaw_6 ?_
      refine g_icmp_ge X (tgt := 96) dX10_byLaw_9 (by decide) (by omega) (by omega) (fun c9 => ?_) (fun c9 => ?_)
      · refine g_iload_n X dX10_byLaw_96 3 rfl ?_
        exact hQ _ _ _ _ dX10_byLaw_97 ⟨stack_3, r_stack_3, (by omega), rfl⟩
      · refine g_aload_n X dX10_byLaw_12 0 rfl ?_
        refine gM_get X 0 rfl 27 (by decide) uw1206 rfl dX10_byLaw_13 ?_
        refine g_iload X dX10_byLaw_16 4 rfl ?_
        refine g_iald X 16 0 rfl rfl (by omega) (by decide) dX10_byLaw_18 (fun t18 e18 => ?_)
        have r18 := r_v_clauseOf (x4_3 : Int).toNat; rw [← e18] at r18
        refine g_iload_n X dX10_byLaw_19 1 rfl ?_
        refine g_icmp_ne X (tgt := 90) dX10_byLaw_20 (by decide) (by omega) (by omega) (fun c20 => ?_) (fun c20 => ?_)
        · refine g_iinc X (lv' := [(4, vI (x4_3 + 1)), (0, .ref h), (1, vI p0), (2, vI p1), (3, vI p2)]) dX10_byLaw_90 4 rfl (by decide) rfl ?_
          refine g_goto X (tgt := 3) dX10_byLaw_93 (by decide) ?_
          refine g_lv [1, 2, 3, 4, 0] rfl ?_
          exact ih3 (x4_3 + 1) stack_3 r_stack_3 (by first | assumption | omega) (by omega)
        · refine g_aload_n X dX10_byLaw_23 0 rfl ?_
          refine g_aload_n X dX10_byLaw_24 0 rfl ?_
          refine gM_get X 0 rfl 29 (by decide) uw1208 rfl dX10_byLaw_25 ?_
          refine g_iload X dX10_byLaw_28 4 rfl ?_
          refine g_iald X 18 0 rfl rfl (by omega) (by decide) dX10_byLaw_30 (fun t30 e30 => ?_)
          have r30 := r_v_codeHalf (x4_3 : Int).toNat; rw [← e30] at r30
          refine g_aload_n X dX10_byLaw_31 0 rfl ?_
          refine gM_get X 0 rfl 30 (by decide) uw1209 rfl dX10_byLaw_32 ?_
          refine g_iload X dX10_byLaw_35 4 rfl ?_
          refine g_iald X 19 0 rfl rfl (by omega) (by decide) dX10_byLaw_37 (fun t37 e37 => ?_)
          have r37 := r_v_codeTo (x4_3 : Int).toNat; rw [← e37] at r37
          have hc := (hp3 x4_3.toNat (by omega)).2
          rw [← e30, ← e37] at hc
          refine g_callVI0 X (c_X10_reckonsTo l D cI cB cJ h q (p0 := t30) (p1 := t37) r_v_codes r_stack_3 r_v_facts (by first | assumption | omega) (by first | assumption | omega) (by first | assumption | omega)) cv_X10_reckonsTo uw1790 ⟨rfl, rfl, by decide, by decide⟩ 0 rfl rfl rfl rfl rfl (Nat.le_of_ble_eq_true rfl) ⟨Nat.zero_le _, Nat.zero_le _⟩ dX10_byLaw_38 (fun t38 ws38 k38 => ?_)
          obtain ⟨stack_38, r_stack_38, kp0_38, rfl⟩ := k38
          refine g_iconst X dX10_byLaw_41 ?_
          refine g_icmp_eq X (tgt := 48) dX10_byLaw_42 (by decide) (by omega) (by omega) (fun c42 => ?_) (fun c42 => ?_)
          · refine g_aload_n X dX10_byLaw_48 0 rfl ?_
            refine g_aload_n X dX10_byLaw_49 0 rfl ?_
            refine gM_get X 0 rfl 28 (by decide) uw1207 rfl dX10_byLaw_50 ?_
            refine g_iload X dX10_byLaw_53 4 rfl ?_
            refine g_iald X 17 0 rfl rfl (by omega) (by decide) dX10_byLaw_55 (fun t55 e55 => ?_)
            have r55 := r_v_codeFrom (x4_3 : Int).toNat; rw [← e55] at r55
            refine g_aload_n X dX10_byLaw_56 0 rfl ?_
            refine gM_get X 0 rfl 29 (by decide) uw1208 rfl dX10_byLaw_57 ?_
            refine g_iload X dX10_byLaw_60 4 rfl ?_
            refine g_iald X 18 0 rfl rfl (by omega) (by decide) dX10_byLaw_62 (fun t62 e62 => ?_)
            have r62 := r_v_codeHalf (x4_3 : Int).toNat; rw [← e62] at r62
            have hd := (hp3 x4_3.toNat (by omega)).1
            rw [← e55, ← e62] at hd
            refine g_callVI0 X (c_X10_reckonsTo l D cI cB cJ h q (p0 := t55) (p1 := t62) r_v_codes r_stack_38 r_v_facts (by first | assumption | omega) (by first | assumption | omega) (by first | assumption | omega)) cv_X10_reckonsTo uw1790 ⟨rfl, rfl, by decide, by decide⟩ 0 rfl rfl rfl rfl rfl (Nat.le_of_ble_eq_true rfl) ⟨Nat.zero_le _, Nat.zero_le _⟩ dX10_byLaw_63 (fun t63 ws63 k63 => ?_)
            obtain ⟨stack_63, r_stack_63, kp0_63, rfl⟩ := k63
            refine g_istore X (lv' := [(5, vI t63), (0, .ref h), (1, vI p0), (2, vI p1), (3, vI p2), (4, vI x4_3)]) dX10_byLaw_66 (by decide) rfl ?_
            refine g_iload X dX10_byLaw_68 0 rfl ?_
            refine g_if_ge X (tgt := 77) dX10_byLaw_70 (by decide) (by omega) (fun c70 => ?_) (fun c70 => ?_)
            · refine g_iload X dX10_byLaw_77 0 rfl ?_
              refine g_iload_n X dX10_byLaw_79 3 rfl ?_
              refine g_icmp_le X (tgt := 87) dX10_byLaw_80 (by decide) (by omega) (by omega) (fun c80 => ?_) (fun c80 => ?_)
              · refine g_iload X dX10_byLaw_87 0 rfl ?_
                exact hQ _ _ _ _ dX10_byLaw_89 ⟨stack_63, r_stack_63, (by omega), rfl⟩
              · refine g_iload_n X dX10_byLaw_83 3 rfl ?_
                refine g_goto X (tgt := 89) dX10_byLaw_84 (by decide) ?_
                exact hQ _ _ _ _ dX10_byLaw_89 ⟨stack_63, r_stack_63, (by omega), rfl⟩
            · refine g_iconst X dX10_byLaw_73 ?_
              refine g_goto X (tgt := 89) dX10_byLaw_74 (by decide) ?_
              exact hQ _ _ _ _ dX10_byLaw_89 ⟨stack_63, r_stack_63, (by omega), rfl⟩
          · refine g_goto X (tgt := 90) dX10_byLaw_45 (by decide) ?_
            refine g_iinc X (lv' := [(4, vI (x4_3 + 1)), (0, .ref h), (1, vI p0), (2, vI p1), (3, vI p2)]) dX10_byLaw_90 4 rfl (by decide) rfl ?_
            refine g_goto X (tgt := 3) dX10_byLaw_93 (by decide) ?_
            refine g_lv [1, 2, 3, 4, 0] rfl ?_
            exact ih3 (x4_3 + 1) stack_38 r_stack_38 (by first | assumption | omega) (by omega)
  refine g_lv [1, 2, 3, 4, 0] rfl ?_
  exact L3 _ 0 v_stack r_v_stack (by first | assumption | omega) (Nat.lt_succ_self _)
set_option maxHeartbeats 4000000 in
set_option maxRecDepth 100000 in
theorem c_X10_holdsAny (l : Launch) (D : va_G) (cI cB cJ : ClassId) (h : Nat) (q : Nat → Nat) {v_stalls v_claimMany v_taped v_place0 v_length0 v_fault v_number0 v_open v_codeMany v_waiting v_saidMany v_clauses v_newMany v_newStalls v_lines v_salesNow v_outNow v_isKept v_keptStalls : Int} {v_now v_aside v_kept v_oneOf v_otherOf v_signOf v_byOf v_tape v_said v_waitsAt v_saidLetter v_saidFrom v_saidHalf v_saidTo v_codes v_clauseOf v_codeFrom v_codeHalf v_codeTo v_stack v_facts v_newOne v_newOther v_newSign v_newBy v_moreOf v_firstOf v_toldOf v_mostOf v_mostThen v_sumTo v_rowFrom v_ordersOf v_lessOf v_weightOf v_rowNow v_slowRow v_fastRow v_lineNow v_firstLine v_freeBy v_heldBy v_heightOf v_upTo v_downTo v_oftenOf v_newUpper v_newLower : Nat → Int} {p0 : Int} (kr_v_clauses : 0 ≤ v_clauses ∧ v_clauses ≤ 16) (r_v_codes : RA 0 16777215 v_codes) (r_v_clauseOf : RA (-2147483648) 2147483647 v_clauseOf) (r_v_codeFrom : RA 0 260 v_codeFrom) (r_v_codeHalf : RA 0 260 v_codeHalf) (r_v_codeTo : RA 0 260 v_codeTo) (r_v_stack : RA (-2147483648) 2147483647 v_stack) (r_v_facts : RA (-2147483648) 2147483647 v_facts) (hp0 : IR p0) (hp1 : LawOK v_codes v_clauses v_codeFrom v_codeHalf v_codeTo) : CtI l yX10_holdsAny cX10_holdsAny 3 (some .boolean) ⟨2, 0, 0, 49⟩ D (TY cI cB cJ) (wX10 cI cB cJ h q v_stalls v_claimMany v_taped v_place0 v_length0 v_fault v_number0 v_open v_codeMany v_waiting v_saidMany v_clauses v_newMany v_newStalls v_lines v_salesNow v_outNow v_isKept v_keptStalls v_now v_aside v_kept v_oneOf v_otherOf v_signOf v_byOf v_tape v_said v_waitsAt v_saidLetter v_saidFrom v_saidHalf v_saidTo v_codes v_clauseOf v_codeFrom v_codeHalf v_codeTo v_stack v_facts v_newOne v_newOther v_newSign v_newBy v_moreOf v_firstOf v_toldOf v_mostOf v_mostThen v_sumTo v_rowFrom v_ordersOf v_lessOf v_weightOf v_rowNow v_slowRow v_fastRow v_lineNow v_firstLine v_freeBy v_heldBy v_heightOf v_upTo v_downTo v_oftenOf v_newUpper v_newLower) [.ref h, vI p0] (fun z ws' => (z = 0 ∨ z = 1) ∧ ∃ n_stack : Nat → Int, (RA (-2147483648) 2147483647 n_stack) ∧ (ws' = (wX10 cI cB cJ h q v_stalls v_claimMany v_taped v_place0 v_length0 v_fault v_number0 v_open v_codeMany v_waiting v_saidMany v_clauses v_newMany v_newStalls v_lines v_salesNow v_outNow v_isKept v_keptStalls v_now v_aside v_kept v_oneOf v_otherOf v_signOf v_byOf v_tape v_said v_waitsAt v_saidLetter v_saidFrom v_saidHalf v_saidTo v_codes v_clauseOf v_codeFrom v_codeHalf v_codeTo n_stack v_facts v_newOne v_newOther v_newSign v_newBy v_moreOf v_firstOf v_toldOf v_mostOf v_mostThen v_sumTo v_rowFrom v_ordersOf v_lessOf v_weightOf v_rowNow v_slowRow v_fastRow v_lineNow v_firstLine v_freeBy v_heldBy v_heightOf v_upTo v_downTo v_oftenOf v_newUpper v_newLower))) := by
  refine hdrZ (own := RX10) rfl (by decide +kernel) (Nat.le_of_ble_eq_true rfl) ?_
  intro p e s m args below meth c Q A X hQ
  refine g_lvE (lv2 := [(0, .ref h), (1, vI p0)]) rfl ?_
  refine g_iconst X dX10_holdsAny_0 ?_
  refine g_istore_n X (lv' := [(2, vI 0), (0, .ref h), (1, vI p0)]) dX10_holdsAny_1 (by decide) rfl ?_
  have L2 : ∀ (n : Nat) (x2_2 : Int) (stack_2 : Nat → Int), (RA (-2147483648) 2147483647 stack_2) → (0 ≤ x2_2 ∧ x2_2 ≤ v_clauses) → (v_clauses - x2_2).toNat < n → GG p l e ⟨2, 0, 0, 49⟩ s m args below meth c 0 0 Q D A s.heap 3 (wX10 cI cB cJ h q v_stalls v_claimMany v_taped v_place0 v_length0 v_fault v_number0 v_open v_codeMany v_waiting v_saidMany v_clauses v_newMany v_newStalls v_lines v_salesNow v_outNow v_isKept v_keptStalls v_now v_aside v_kept v_oneOf v_otherOf v_signOf v_byOf v_tape v_said v_waitsAt v_saidLetter v_saidFrom v_saidHalf v_saidTo v_codes v_clauseOf v_codeFrom v_codeHalf v_codeTo stack_2 v_facts v_newOne v_newOther v_newSign v_newBy v_moreOf v_firstOf v_toldOf v_mostOf v_mostThen v_sumTo v_rowFrom v_ordersOf v_lessOf v_weightOf v_rowNow v_slowRow v_fastRow v_lineNow v_firstLine v_freeBy v_heldBy v_heightOf v_upTo v_downTo v_oftenOf v_newUpper v_newLower) 2 [(0, .ref h), (1, vI p0), (2, vI x2_2)] [] := by
    intro n
    induction n with
    | zero => intros; exfalso; omega
    | succ n ih2 =>
      intro x2_2 stack_2 r_stack_2 w2_0 wm2
      refine g_iload_n X dX10_holdsAny_2 2 rfl ?_
      refine g_aload_n X dX10_holdsAny_3 0 rfl ?_
      refine gM_get X 0 rfl 19 (by decide) uw1198 rfl dX10_holdsAny_4 ?_
      refine g_icmp_ge X (tgt := 48) dX10_holdsAny_7 (by decide) (by omega) (by omega) (fun c7 => ?_) (fun c7 => ?_)
      · refine g_iconst X dX10_holdsAny_48 ?_
        exact hQ _ _ _ _ dX10_holdsAny_49 ⟨by omega, ⟨stack_2, r_stack_2, rfl⟩⟩
      · refine g_aload_n X dX10_holdsAny_10 0 rfl ?_
        refine gM_get X 0 rfl 27 (by decide) uw1206 rfl dX10_holdsAny_11 ?_
        refine g_iload_n X dX10_holdsAny_14 2 rfl ?_
        refine g_iald X 16 0 rfl rfl (by omega) (by decide) dX10_holdsAny_15 (fun t15 e15 => ?_)
        have r15 := r_v_clauseOf (x2_2 : Int).toNat; rw [← e15] at r15
        refine g_iload_n X dX10_holdsAny_16 1 rfl ?_
        refine g_icmp_ne X (tgt := 42) dX10_holdsAny_17 (by decide) (by omega) (by omega) (fun c17 => ?_) (fun c17 => ?_)
        · refine g_iinc X (lv' := [(2, vI (x2_2 + 1)), (0, .ref h), (1, vI p0)]) dX10_holdsAny_42 2 rfl (by decide) rfl ?_
          refine g_goto X (tgt := 2) dX10_holdsAny_45 (by decide) ?_
          refine g_lv [1, 2, 0] rfl ?_
          exact ih2 (x2_2 + 1) stack_2 r_stack_2 (by first | assumption | omega) (by omega)
        · refine g_aload_n X dX10_holdsAny_20 0 rfl ?_
          refine g_aload_n X dX10_holdsAny_21 0 rfl ?_
          refine gM_get X 0 rfl 29 (by decide) uw1208 rfl dX10_holdsAny_22 ?_
          refine g_iload_n X dX10_holdsAny_25 2 rfl ?_
          refine g_iald X 18 0 rfl rfl (by omega) (by decide) dX10_holdsAny_26 (fun t26 e26 => ?_)
          have r26 := r_v_codeHalf (x2_2 : Int).toNat; rw [← e26] at r26
          refine g_aload_n X dX10_holdsAny_27 0 rfl ?_
          refine gM_get X 0 rfl 30 (by decide) uw1209 rfl dX10_holdsAny_28 ?_
          refine g_iload_n X dX10_holdsAny_31 2 rfl ?_
          refine g_iald X 19 0 rfl rfl (by omega) (by decide) dX10_holdsAny_32 (fun t32 e32 => ?_)
          have r32 := r_v_codeTo (x2_2 : Int).toNat; rw [← e32] at r32
          have hc := (hp1 x2_2.toNat (by omega)).2
          rw [← e26, ← e32] at hc
          refine g_callVI0 X (c_X10_reckonsTo l D cI cB cJ h q (p0 := t26) (p1 := t32) r_v_codes r_stack_2 r_v_facts (by first | assumption | omega) (by first | assumption | omega) (by first | assumption | omega)) cv_X10_reckonsTo uw1790 ⟨rfl, rfl, by decide, by decide⟩ 0 rfl rfl rfl rfl rfl (Nat.le_of_ble_eq_true rfl) ⟨Nat.zero_le _, Nat.zero_le _⟩ dX10_holdsAny_33 (fun t33 ws33 k33 => ?_)
          obtain ⟨stack_33, r_stack_33, kp0_33, rfl⟩ := k33
          refine g_iconst X dX10_holdsAny_36 ?_
          refine g_icmp_ne X (tgt := 42) dX10_holdsAny_37 (by decide) (by omega) (by omega) (fun c37 => ?_) (fun c37 => ?_)
          · refine g_iinc X (lv' := [(2, vI (x2_2 + 1)), (0, .ref h), (1, vI p0)]) dX10_holdsAny_42 2 rfl (by decide) rfl ?_
            refine g_goto X (tgt := 2) dX10_holdsAny_45 (by decide) ?_
            refine g_lv [1, 2, 0] rfl ?_
            exact ih2 (x2_2 + 1) stack_33 r_stack_33 (by first | assumption | omega) (by omega)
          · refine g_iconst X dX10_holdsAny_40 ?_
            exact hQ _ _ _ _ dX10_holdsAny_41 ⟨by omega, ⟨stack_33, r_stack_33, rfl⟩⟩
  refine g_lv [1, 2, 0] rfl ?_
  exact L2 _ 0 v_stack r_v_stack (by first | assumption | omega) (Nat.lt_succ_self _)
