set_option maxHeartbeats 4000000 in
set_option maxRecDepth 100000 in
theorem c_X10_readsStall (l : Launch) (D : va_G) (cI cB cJ : ClassId) (h : Nat) (q : Nat → Nat) {v_stalls v_claimMany v_taped v_place0 v_length0 v_fault v_number0 v_open v_codeMany v_waiting v_saidMany v_clauses v_newMany v_newStalls v_lines v_salesNow v_outNow v_isKept v_keptStalls : Int} {v_now v_aside v_kept v_oneOf v_otherOf v_signOf v_byOf v_tape v_said v_waitsAt v_saidLetter v_saidFrom v_saidHalf v_saidTo v_codes v_clauseOf v_codeFrom v_codeHalf v_codeTo v_stack v_facts v_newOne v_newOther v_newSign v_newBy v_moreOf v_firstOf v_toldOf v_mostOf v_mostThen v_sumTo v_rowFrom v_ordersOf v_lessOf v_weightOf v_rowNow v_slowRow v_fastRow v_lineNow v_firstLine v_freeBy v_heldBy v_heightOf v_upTo v_downTo v_oftenOf v_newUpper v_newLower : Nat → Int} (kr_v_place0 : 0 ≤ v_place0 ∧ v_place0 ≤ 260) (kr_v_length0 : 0 ≤ v_length0 ∧ v_length0 ≤ 260) (kr_v_fault : (-1000000) ≤ v_fault ∧ v_fault ≤ 1000000) (kr_v_number0 : 0 ≤ v_number0 ∧ v_number0 ≤ 99999) (kr_v_newStalls : 0 ≤ v_newStalls ∧ v_newStalls ≤ 255) (kr_v_lines : (-2147483648) ≤ v_lines ∧ v_lines ≤ 2147483647) (r_v_tape : RA (-128) 127 v_tape) (r_v_newUpper : RA 0 9999 v_newUpper) (r_v_newLower : RA 0 9999 v_newLower) : CtI l yX10_readsStall cX10_readsStall 3 (some .boolean) ⟨3, 0, 0, 61⟩ D (TY cI cB cJ) (wX10 cI cB cJ h q v_stalls v_claimMany v_taped v_place0 v_length0 v_fault v_number0 v_open v_codeMany v_waiting v_saidMany v_clauses v_newMany v_newStalls v_lines v_salesNow v_outNow v_isKept v_keptStalls v_now v_aside v_kept v_oneOf v_otherOf v_signOf v_byOf v_tape v_said v_waitsAt v_saidLetter v_saidFrom v_saidHalf v_saidTo v_codes v_clauseOf v_codeFrom v_codeHalf v_codeTo v_stack v_facts v_newOne v_newOther v_newSign v_newBy v_moreOf v_firstOf v_toldOf v_mostOf v_mostThen v_sumTo v_rowFrom v_ordersOf v_lessOf v_weightOf v_rowNow v_slowRow v_fastRow v_lineNow v_firstLine v_freeBy v_heldBy v_heightOf v_upTo v_downTo v_oftenOf v_newUpper v_newLower) [.ref h] (fun z ws' => (z = 0 ∨ z = 1) ∧ ∃ n_place0 : Int, ∃ n_fault : Int, ∃ n_number0 : Int, ∃ n_newStalls : Int, ∃ n_lines : Int, ∃ n_newUpper : Nat → Int, ∃ n_newLower : Nat → Int, (0 ≤ n_place0 ∧ n_place0 ≤ 260) ∧ ((-1000000) ≤ n_fault ∧ n_fault ≤ 1000000) ∧ (0 ≤ n_number0 ∧ n_number0 ≤ 99999) ∧ (0 ≤ n_newStalls ∧ n_newStalls ≤ 255) ∧ ((-2147483648) ≤ n_lines ∧ n_lines ≤ 2147483647) ∧ (RA 0 9999 n_newUpper) ∧ (RA 0 9999 n_newLower) ∧ (v_place0 ≤ n_place0) ∧ (z = 1 → v_place0 < n_place0) ∧ (RSt (sgP v_length0 (oct v_tape)) z n_fault n_place0 n_newStalls n_lines v_place0 v_newStalls v_lines) ∧ (ws' = (wX10 cI cB cJ h q v_stalls v_claimMany v_taped n_place0 v_length0 n_fault n_number0 v_open v_codeMany v_waiting v_saidMany v_clauses v_newMany n_newStalls n_lines v_salesNow v_outNow v_isKept v_keptStalls v_now v_aside v_kept v_oneOf v_otherOf v_signOf v_byOf v_tape v_said v_waitsAt v_saidLetter v_saidFrom v_saidHalf v_saidTo v_codes v_clauseOf v_codeFrom v_codeHalf v_codeTo v_stack v_facts v_newOne v_newOther v_newSign v_newBy v_moreOf v_firstOf v_toldOf v_mostOf v_mostThen v_sumTo v_rowFrom v_ordersOf v_lessOf v_weightOf v_rowNow v_slowRow v_fastRow v_lineNow v_firstLine v_freeBy v_heldBy v_heightOf v_upTo v_downTo v_oftenOf n_newUpper n_newLower))) := by
  refine hdrZ (own := RX10) rfl (by decide +kernel) (Nat.le_of_ble_eq_true rfl) ?_
  intro p e s m args below meth c Q A X hQ
  refine g_lvE (lv2 := [(0, .ref h)]) rfl ?_
  have hS := stC_s (sgP v_length0 (oct v_tape)) v_newStalls v_place0
  have hO := oneC_e (sgP v_length0 (oct v_tape)) 48 8 v_place0
  have hD := tdC_e v_newStalls (sgP v_length0 (oct v_tape) v_place0 - 48) v_place0
  have hL := ltC_e (aV (sgP v_length0 (oct v_tape)) 4 (v_place0 + 1 + 1)) (aV (sgP v_length0 (oct v_tape)) 4 (sQ2 (sgP v_length0 (oct v_tape)) v_place0 + 1)) (sQ2 (sgP v_length0 (oct v_tape)) v_place0 + 1)
  have hH : sgP v_length0 (oct v_tape) v_place0 = hereZ v_place0 v_length0 v_tape := rfl
  have hAQ : aQ (sgP v_length0 (oct v_tape)) 4 (v_place0 + 1 + 1) = sQ2 (sgP v_length0 (oct v_tape)) v_place0 := rfl
  have hAQ2 : aQ (sgP v_length0 (oct v_tape)) 4 (sQ2 (sgP v_length0 (oct v_tape)) v_place0 + 1) = stQ (sgP v_length0 (oct v_tape)) v_place0 := rfl
  refine g_aload_n X dX10_readsStall_0 0 rfl ?_
  refine g_callVI0 X (c_X10_here l D cI cB cJ h q  (by omega) (by omega) r_v_tape) cv_X10_here uw1405 ⟨rfl, rfl, by decide, by decide⟩ 0 rfl rfl rfl rfl rfl (Nat.le_of_ble_eq_true rfl) ⟨Nat.zero_le _, Nat.zero_le _⟩ dX10_readsStall_1 (fun t1 ws1 k1 => ?_)
  obtain ⟨kp0_1, kp1_1, kp2_1, rfl⟩ := k1
  refine g_bipush X (z := 48) dX10_readsStall_4 (by decide) ?_
  refine g_isub X dX10_readsStall_6 ?_
  refine g_istore_n X (lv' := [(1, vI (t1 - 48)), (0, .ref h)]) dX10_readsStall_7 (by decide) rfl ?_
  refine g_iload_n X dX10_readsStall_8 0 rfl ?_
  refine g_iconst X dX10_readsStall_9 ?_
  refine g_bipush X (z := 7) dX10_readsStall_10 (by decide) ?_
  refine g_callSIE X (c_X10_in l D cI cB cJ (p0 := t1 - 48) (p1 := 0) (p2 := 7) (by first | assumption | omega) (by first | assumption | omega) (by first | assumption | omega)) cv_X10_in uw1394 ⟨rfl, rfl, by decide, by decide⟩ rfl rfl (Nat.le_of_ble_eq_true rfl) ⟨Nat.zero_le _, Nat.zero_le _⟩ dX10_readsStall_12 (fun t12 ws12 k12 => ?_)
  obtain ⟨kb_12, ⟨kp0_12, rfl⟩⟩ := k12
  refine g_if_ne X (tgt := 28) dX10_readsStall_15 (by decide) (by omega) (fun c15 => ?_) (fun c15 => ?_)
  · replace kb_12 := kb_12.resolve_left (fun h => c15 h)
    replace kp0_12 := kp0_12.resolve_right (fun h => c15 h.1)
    refine g_aload_n X dX10_readsStall_28 1 rfl ?_
    refine gM_get X 0 rfl 61 (by decide) uw1240 rfl dX10_readsStall_29 ?_
    refine g_iload_n X dX10_readsStall_32 0 rfl ?_
    refine g_callSIE X (c_X10_has l D cI cB cJ (p0 := v_newStalls) (p1 := t1 - 48) (by first | assumption | omega) (by first | assumption | omega)) cv_X10_has uw1531 ⟨rfl, rfl, by decide, by decide⟩ rfl rfl (Nat.le_of_ble_eq_true rfl) ⟨Nat.zero_le _, Nat.zero_le _⟩ dX10_readsStall_33 (fun t33 ws33 k33 => ?_)
    obtain ⟨kb_33, ⟨kp0_33, rfl⟩⟩ := k33
    have hk : hasZ v_newStalls (sgP v_length0 (oct v_tape) v_place0 - 48) = hasZ v_newStalls ((t1 - 48)) := by congr 1; omega
    refine g_if_eq X (tgt := 50) dX10_readsStall_36 (by decide) (by omega) (fun c36 => ?_) (fun c36 => ?_)
    · clear kb_33
      replace kp0_33 := (kp0_33.resolve_left (fun h => absurd h.1 (by omega))).2
      refine g_aload_n X dX10_readsStall_50 1 rfl ?_
      refine g_aload_n X dX10_readsStall_51 1 rfl ?_
      refine gM_get X 0 rfl 11 (by decide) uw1190 rfl dX10_readsStall_52 ?_
      refine g_iconst X dX10_readsStall_55 ?_
      refine g_iadd X dX10_readsStall_56 ?_
      refine gM_put X 0 rfl 11 (by decide) uw1190 rfl rfl rfl (Nat.le_of_ble_eq_true rfl) dX10_readsStall_57 (ws2 := (wX10 cI cB cJ h q v_stalls v_claimMany v_taped (v_place0 + 1) v_length0 v_fault v_number0 v_open v_codeMany v_waiting v_saidMany v_clauses v_newMany v_newStalls v_lines v_salesNow v_outNow v_isKept v_keptStalls v_now v_aside v_kept v_oneOf v_otherOf v_signOf v_byOf v_tape v_said v_waitsAt v_saidLetter v_saidFrom v_saidHalf v_saidTo v_codes v_clauseOf v_codeFrom v_codeHalf v_codeTo v_stack v_facts v_newOne v_newOther v_newSign v_newBy v_moreOf v_firstOf v_toldOf v_mostOf v_mostThen v_sumTo v_rowFrom v_ordersOf v_lessOf v_weightOf v_rowNow v_slowRow v_fastRow v_lineNow v_firstLine v_freeBy v_heldBy v_heightOf v_upTo v_downTo v_oftenOf v_newUpper v_newLower)) rfl ?_
      refine g_aload_n X dX10_readsStall_60 1 rfl ?_
      refine g_bipush X (z := 58) dX10_readsStall_61 (by decide) ?_
      refine g_callVI0 X (c_X10_takes l D cI cB cJ h q (p0 := 58) (by omega) (by omega) (by omega) r_v_tape (by first | assumption | omega) (by first | assumption | omega)) cv_X10_takes uw1476 ⟨rfl, rfl, by decide, by decide⟩ 0 rfl rfl rfl rfl rfl (Nat.le_of_ble_eq_true rfl) ⟨Nat.zero_le _, Nat.zero_le _⟩ dX10_readsStall_63 (fun t63 ws63 k63 => ?_)
      obtain ⟨kb_63, ⟨place0_63, fault_63, kr_place0_63, kr_fault_63, kp0_63, kp1_63, rfl⟩⟩ := k63
      refine g_if_eq X (tgt := 76) dX10_readsStall_66 (by decide) (by omega) (fun c66 => ?_) (fun c66 => ?_)
      · clear kb_63
        replace kp0_63 := (kp0_63.resolve_left (fun h => absurd h.1 (by omega))).2
        replace kp1_63 := (kp1_63.resolve_left (fun h => absurd h.1 (by omega))).2
        refine g_iconst X dX10_readsStall_76 ?_
        exact hQ _ _ _ _ dX10_readsStall_77 ⟨by omega, ⟨place0_63, fault_63, v_number0, v_newStalls, v_lines, v_newUpper, v_newLower, (by omega), (by omega), (by omega), (by omega), (by omega), r_v_newUpper, r_v_newLower, (by first | assumption | omega), (by first | assumption | omega), (by first | exact Or.inr ⟨by omega, by omega, by omega⟩ | exact Or.inl ⟨by omega, by omega, by omega, hbT, by omega⟩), rfl⟩⟩
      · replace kb_63 := kb_63.resolve_left (fun h => c66 h)
        replace kp0_63 := kp0_63.resolve_right (fun h => c66 h.1)
        replace kp1_63 := kp1_63.resolve_right (fun h => c66 h.1)
        have hp1 : place0_63 = v_place0 + 1 + 1 := by omega
        refine g_aload_n X dX10_readsStall_69 1 rfl ?_
        refine g_callVI0 X (c_X10_readsAmount l D cI cB cJ h q  (by omega) (by omega) (by omega) (by omega) r_v_tape) cv_X10_readsAmount uw1494 ⟨rfl, rfl, by decide, by decide⟩ 0 rfl rfl rfl rfl rfl (Nat.le_of_ble_eq_true rfl) ⟨Nat.zero_le _, Nat.zero_le _⟩ dX10_readsStall_70 (fun t70 ws70 k70 => ?_)
        obtain ⟨kb_70, ⟨place0_70, fault_70, number0_70, kr_place0_70, kr_fault_70, kr_number0_70, kp0_70, kp1_70, kp2_70, kp3_70, rfl⟩⟩ := k70
        rw [hp1] at kp3_70
        refine g_if_ne X (tgt := 78) dX10_readsStall_73 (by decide) (by omega) (fun c73 => ?_) (fun c73 => ?_)
        · replace kb_70 := kb_70.resolve_left (fun h => c73 h)
          replace kp1_70 := kp1_70 kb_70
          replace kp2_70 := kp2_70 kb_70
          replace kp3_70 := kp3_70.resolve_right (fun h => c73 h.1)
          refine g_aload_n X dX10_readsStall_78 1 rfl ?_
          refine gM_get X 0 rfl 59 (by decide) uw1238 rfl dX10_readsStall_79 ?_
          refine g_iload_n X dX10_readsStall_82 0 rfl ?_
          refine g_aload_n X dX10_readsStall_83 1 rfl ?_
          refine gM_get X 0 rfl 14 (by decide) uw1193 rfl dX10_readsStall_84 ?_
          refine g_iast X 47 0 rfl rfl (by omega) (by decide) dX10_readsStall_87 (fun newUpper_87 e87 => ?_)
          have r_newUpper_87 : RA 0 9999 newUpper_87 := by rw [e87]; exact RA_up r_v_newUpper (by omega)
          refine g_ws (ws2 := (wX10 cI cB cJ h q v_stalls v_claimMany v_taped place0_70 v_length0 fault_70 number0_70 v_open v_codeMany v_waiting v_saidMany v_clauses v_newMany v_newStalls v_lines v_salesNow v_outNow v_isKept v_keptStalls v_now v_aside v_kept v_oneOf v_otherOf v_signOf v_byOf v_tape v_said v_waitsAt v_saidLetter v_saidFrom v_saidHalf v_saidTo v_codes v_clauseOf v_codeFrom v_codeHalf v_codeTo v_stack v_facts v_newOne v_newOther v_newSign v_newBy v_moreOf v_firstOf v_toldOf v_mostOf v_mostThen v_sumTo v_rowFrom v_ordersOf v_lessOf v_weightOf v_rowNow v_slowRow v_fastRow v_lineNow v_firstLine v_freeBy v_heldBy v_heightOf v_upTo v_downTo v_oftenOf newUpper_87 v_newLower)) rfl ?_
          have hp2 : place0_70 = sQ2 (sgP v_length0 (oct v_tape)) v_place0 := by omega
          refine g_aload_n X dX10_readsStall_88 1 rfl ?_
          refine g_bipush X (z := 45) dX10_readsStall_89 (by decide) ?_
          refine g_callVI0 X (c_X10_takes l D cI cB cJ h q (p0 := 45) (by omega) (by omega) (by omega) r_v_tape (by first | assumption | omega) (by first | assumption | omega)) cv_X10_takes uw1476 ⟨rfl, rfl, by decide, by decide⟩ 0 rfl rfl rfl rfl rfl (Nat.le_of_ble_eq_true rfl) ⟨Nat.zero_le _, Nat.zero_le _⟩ dX10_readsStall_91 (fun t91 ws91 k91 => ?_)
          obtain ⟨kb_91, ⟨place0_91, fault_91, kr_place0_91, kr_fault_91, kp0_91, kp1_91, rfl⟩⟩ := k91
          rw [hp2] at kp1_91
          refine g_if_ne X (tgt := 99) dX10_readsStall_94 (by decide) (by omega) (fun c94 => ?_) (fun c94 => ?_)
          · replace kb_91 := kb_91.resolve_left (fun h => c94 h)
            replace kp0_91 := kp0_91.resolve_right (fun h => c94 h.1)
            replace kp1_91 := kp1_91.resolve_right (fun h => c94 h.1)
            have hp3 : place0_91 = sQ2 (sgP v_length0 (oct v_tape)) v_place0 + 1 := by omega
            refine g_aload_n X dX10_readsStall_99 1 rfl ?_
            refine gM_get X 0 rfl 11 (by decide) uw1190 rfl dX10_readsStall_100 ?_
            refine g_istore_n X (lv' := [(2, vI place0_91), (1, vI (t1 - 48)), (0, .ref h)]) dX10_readsStall_103 (by decide) rfl ?_
            refine g_aload_n X dX10_readsStall_104 2 rfl ?_
            refine g_callVI0 X (c_X10_readsAmount l D cI cB cJ h q  (by omega) (by omega) (by omega) (by omega) r_v_tape) cv_X10_readsAmount uw1494 ⟨rfl, rfl, by decide, by decide⟩ 0 rfl rfl rfl rfl rfl (Nat.le_of_ble_eq_true rfl) ⟨Nat.zero_le _, Nat.zero_le _⟩ dX10_readsStall_105 (fun t105 ws105 k105 => ?_)
            obtain ⟨kb_105, ⟨place0_105, fault_105, number0_105, kr_place0_105, kr_fault_105, kr_number0_105, kp0_105, kp1_105, kp2_105, kp3_105, rfl⟩⟩ := k105
            rw [hp3] at kp3_105
            refine g_if_ne X (tgt := 113) dX10_readsStall_108 (by decide) (by omega) (fun c108 => ?_) (fun c108 => ?_)
            · replace kb_105 := kb_105.resolve_left (fun h => c108 h)
              replace kp1_105 := kp1_105 kb_105
              replace kp2_105 := kp2_105 kb_105
              replace kp3_105 := kp3_105.resolve_right (fun h => c108 h.1)
              refine g_aload_n X dX10_readsStall_113 2 rfl ?_
              refine gM_get X 0 rfl 14 (by decide) uw1193 rfl dX10_readsStall_114 ?_
              refine g_aload_n X dX10_readsStall_117 2 rfl ?_
              refine gM_get X 0 rfl 59 (by decide) uw1238 rfl dX10_readsStall_118 ?_
              refine g_iload_n X dX10_readsStall_121 1 rfl ?_
              refine g_iald X 47 0 rfl rfl (by omega) (by decide) dX10_readsStall_122 (fun t122 e122 => ?_)
              have r122 := r_newUpper_87 (t1 - 48 : Int).toNat; rw [← e122] at r122
              have hu : t122 = number0_70 := by rw [e122, e87, updZ_s]
              refine g_icmp_le X (tgt := 133) dX10_readsStall_123 (by decide) (by omega) (by omega) (fun c123 => ?_) (fun c123 => ?_)
              · refine g_aload_n X dX10_readsStall_133 2 rfl ?_
                refine gM_get X 0 rfl 60 (by decide) uw1239 rfl dX10_readsStall_134 ?_
                refine g_iload_n X dX10_readsStall_137 1 rfl ?_
                refine g_aload_n X dX10_readsStall_138 2 rfl ?_
                refine gM_get X 0 rfl 14 (by decide) uw1193 rfl dX10_readsStall_139 ?_
                refine g_iast X 48 0 rfl rfl (by omega) (by decide) dX10_readsStall_142 (fun newLower_142 e142 => ?_)
                have r_newLower_142 : RA 0 9999 newLower_142 := by rw [e142]; exact RA_up r_v_newLower (by omega)
                refine g_ws (ws2 := (wX10 cI cB cJ h q v_stalls v_claimMany v_taped place0_105 v_length0 fault_105 number0_105 v_open v_codeMany v_waiting v_saidMany v_clauses v_newMany v_newStalls v_lines v_salesNow v_outNow v_isKept v_keptStalls v_now v_aside v_kept v_oneOf v_otherOf v_signOf v_byOf v_tape v_said v_waitsAt v_saidLetter v_saidFrom v_saidHalf v_saidTo v_codes v_clauseOf v_codeFrom v_codeHalf v_codeTo v_stack v_facts v_newOne v_newOther v_newSign v_newBy v_moreOf v_firstOf v_toldOf v_mostOf v_mostThen v_sumTo v_rowFrom v_ordersOf v_lessOf v_weightOf v_rowNow v_slowRow v_fastRow v_lineNow v_firstLine v_freeBy v_heldBy v_heightOf v_upTo v_downTo v_oftenOf newUpper_87 newLower_142)) rfl ?_
                refine g_aload_n X dX10_readsStall_143 2 rfl ?_
                refine g_aload_n X dX10_readsStall_144 2 rfl ?_
                refine gM_get X 0 rfl 61 (by decide) uw1240 rfl dX10_readsStall_145 ?_
                refine g_iconst X dX10_readsStall_148 ?_
                refine g_iload_n X dX10_readsStall_149 1 rfl ?_
                refine g_ishl X dX10_readsStall_150 ?_
                refine g_nm (fun t150 e150 => ?_)
                have r150 := z_shl1_7 (t1 - 48) (by omega); rw [← e150] at r150
                refine g_ior X dX10_readsStall_151 ?_
                refine g_nm (fun t151 e151 => ?_)
                have r151 := z_ior_255 v_newStalls t150 (by omega) (by omega); rw [← e151] at r151
                refine gM_put X 0 rfl 61 (by decide) uw1240 rfl rfl rfl (Nat.le_of_ble_eq_true rfl) dX10_readsStall_152 (ws2 := (wX10 cI cB cJ h q v_stalls v_claimMany v_taped place0_105 v_length0 fault_105 number0_105 v_open v_codeMany v_waiting v_saidMany v_clauses v_newMany t151 v_lines v_salesNow v_outNow v_isKept v_keptStalls v_now v_aside v_kept v_oneOf v_otherOf v_signOf v_byOf v_tape v_said v_waitsAt v_saidLetter v_saidFrom v_saidHalf v_saidTo v_codes v_clauseOf v_codeFrom v_codeHalf v_codeTo v_stack v_facts v_newOne v_newOther v_newSign v_newBy v_moreOf v_firstOf v_toldOf v_mostOf v_mostThen v_sumTo v_rowFrom v_ordersOf v_lessOf v_weightOf v_rowNow v_slowRow v_fastRow v_lineNow v_firstLine v_freeBy v_heldBy v_heightOf v_upTo v_downTo v_oftenOf newUpper_87 newLower_142)) rfl ?_
                refine g_aload_n X dX10_readsStall_155 2 rfl ?_
                refine g_aload_n X dX10_readsStall_156 2 rfl ?_
                refine gM_get X 0 rfl 62 (by decide) uw1241 rfl dX10_readsStall_157 ?_
                refine g_iconst X dX10_readsStall_160 ?_
                refine g_iadd X dX10_readsStall_161 ?_
                refine g_nr (fun t161 e161 r161 => ?_)
                have n161 := z_nr3 e161 r161 (by omega)
                refine gM_put X 0 rfl 62 (by decide) uw1241 rfl rfl rfl (Nat.le_of_ble_eq_true rfl) dX10_readsStall_162 (ws2 := (wX10 cI cB cJ h q v_stalls v_claimMany v_taped place0_105 v_length0 fault_105 number0_105 v_open v_codeMany v_waiting v_saidMany v_clauses v_newMany t151 t161 v_salesNow v_outNow v_isKept v_keptStalls v_now v_aside v_kept v_oneOf v_otherOf v_signOf v_byOf v_tape v_said v_waitsAt v_saidLetter v_saidFrom v_saidHalf v_saidTo v_codes v_clauseOf v_codeFrom v_codeHalf v_codeTo v_stack v_facts v_newOne v_newOther v_newSign v_newBy v_moreOf v_firstOf v_toldOf v_mostOf v_mostThen v_sumTo v_rowFrom v_ordersOf v_lessOf v_weightOf v_rowNow v_slowRow v_fastRow v_lineNow v_firstLine v_freeBy v_heldBy v_heightOf v_upTo v_downTo v_oftenOf newUpper_87 newLower_142)) rfl ?_
                refine g_iconst X dX10_readsStall_165 ?_
                have hbT : t151 = bitT (sgP v_length0 (oct v_tape)) v_newStalls v_place0 := by rw [e151, e150]; unfold bitT; congr 2; omega
                exact hQ _ _ _ _ dX10_readsStall_166 ⟨by omega, ⟨place0_105, fault_105, number0_105, t151, t161, newUpper_87, newLower_142, (by omega), (by omega), (by omega), (by omega), (by omega), r_newUpper_87, r_newLower_142, (by first | assumption | omega), (by first | assumption | omega), (by first | exact Or.inr ⟨by omega, by omega, by omega⟩ | exact Or.inl ⟨by omega, by omega, by omega, hbT, by omega⟩), rfl⟩⟩
              · refine g_aload_n X dX10_readsStall_126 2 rfl ?_
                refine g_iconst X dX10_readsStall_127 ?_
                refine g_iload_n X dX10_readsStall_128 0 rfl ?_
                refine g_callVI0 X (c_X10_wrongAt l D cI cB cJ h q (p0 := 3) (p1 := place0_91) (by omega) (by first | assumption | omega) (by first | assumption | omega) (by first | assumption | omega) (by first | assumption | omega)) cv_X10_wrongAt uw1409 ⟨rfl, rfl, by decide, by decide⟩ 0 rfl rfl rfl rfl rfl (Nat.le_of_ble_eq_true rfl) ⟨Nat.zero_le _, Nat.zero_le _⟩ dX10_readsStall_129 (fun t129 ws129 k129 => ?_)
                obtain ⟨kb_129, ⟨fault_129, kr_fault_129, kp0_129, kp1_129, rfl⟩⟩ := k129
                exact hQ _ _ _ _ dX10_readsStall_132 ⟨by omega, ⟨place0_105, fault_129, number0_105, v_newStalls, v_lines, newUpper_87, v_newLower, (by omega), (by omega), (by omega), (by omega), (by omega), r_newUpper_87, r_v_newLower, (by first | assumption | omega), (by first | assumption | omega), (by first | exact Or.inr ⟨by omega, by omega, by omega⟩ | exact Or.inl ⟨by omega, by omega, by omega, hbT, by omega⟩), rfl⟩⟩
            · clear kb_105
              clear kp1_105
              clear kp2_105
              replace kp3_105 := (kp3_105.resolve_left (fun h => absurd h.1 (by omega))).2
              refine g_iconst X dX10_readsStall_111 ?_
              exact hQ _ _ _ _ dX10_readsStall_112 ⟨by omega, ⟨place0_105, fault_105, number0_105, v_newStalls, v_lines, newUpper_87, v_newLower, (by omega), (by omega), (by omega), (by omega), (by omega), r_newUpper_87, r_v_newLower, (by first | assumption | omega), (by first | assumption | omega), (by first | exact Or.inr ⟨by omega, by omega, by omega⟩ | exact Or.inl ⟨by omega, by omega, by omega, hbT, by omega⟩), rfl⟩⟩
          · clear kb_91
            replace kp0_91 := (kp0_91.resolve_left (fun h => absurd h.1 (by omega))).2
            replace kp1_91 := (kp1_91.resolve_left (fun h => absurd h.1 (by omega))).2
            refine g_iconst X dX10_readsStall_97 ?_
            exact hQ _ _ _ _ dX10_readsStall_98 ⟨by omega, ⟨place0_91, fault_91, number0_70, v_newStalls, v_lines, newUpper_87, v_newLower, (by omega), (by omega), (by omega), (by omega), (by omega), r_newUpper_87, r_v_newLower, (by first | assumption | omega), (by first | assumption | omega), (by first | exact Or.inr ⟨by omega, by omega, by omega⟩ | exact Or.inl ⟨by omega, by omega, by omega, hbT, by omega⟩), rfl⟩⟩
        · clear kb_70
          clear kp1_70
          clear kp2_70
          replace kp3_70 := (kp3_70.resolve_left (fun h => absurd h.1 (by omega))).2
          refine g_iconst X dX10_readsStall_76 ?_
          exact hQ _ _ _ _ dX10_readsStall_77 ⟨by omega, ⟨place0_70, fault_70, number0_70, v_newStalls, v_lines, v_newUpper, v_newLower, (by omega), (by omega), (by omega), (by omega), (by omega), r_v_newUpper, r_v_newLower, (by first | assumption | omega), (by first | assumption | omega), (by first | exact Or.inr ⟨by omega, by omega, by omega⟩ | exact Or.inl ⟨by omega, by omega, by omega, hbT, by omega⟩), rfl⟩⟩
    · replace kb_33 := kb_33.resolve_left (fun h => c36 h)
      replace kp0_33 := kp0_33.resolve_right (fun h => c36 h.1)
      refine g_aload_n X dX10_readsStall_39 1 rfl ?_
      refine g_bipush X (z := 6) dX10_readsStall_40 (by decide) ?_
      refine g_aload_n X dX10_readsStall_42 1 rfl ?_
      refine gM_get X 0 rfl 11 (by decide) uw1190 rfl dX10_readsStall_43 ?_
      refine g_callVI0 X (c_X10_wrongAt l D cI cB cJ h q (p0 := 6) (p1 := v_place0) (by omega) (by first | assumption | omega) (by first | assumption | omega) (by first | assumption | omega) (by first | assumption | omega)) cv_X10_wrongAt uw1409 ⟨rfl, rfl, by decide, by decide⟩ 0 rfl rfl rfl rfl rfl (Nat.le_of_ble_eq_true rfl) ⟨Nat.zero_le _, Nat.zero_le _⟩ dX10_readsStall_46 (fun t46 ws46 k46 => ?_)
      obtain ⟨kb_46, ⟨fault_46, kr_fault_46, kp0_46, kp1_46, rfl⟩⟩ := k46
      exact hQ _ _ _ _ dX10_readsStall_49 ⟨by omega, ⟨v_place0, fault_46, v_number0, v_newStalls, v_lines, v_newUpper, v_newLower, (by omega), (by omega), (by omega), (by omega), (by omega), r_v_newUpper, r_v_newLower, (by first | assumption | omega), (by first | assumption | omega), (by first | exact Or.inr ⟨by omega, by omega, by omega⟩ | exact Or.inl ⟨by omega, by omega, by omega, hbT, by omega⟩), rfl⟩⟩
  · clear kb_12
    replace kp0_12 := (kp0_12.resolve_left (fun h => absurd h.1 (by omega))).2
    refine g_aload_n X dX10_readsStall_18 1 rfl ?_
    refine g_iconst X dX10_readsStall_19 ?_
    refine g_aload_n X dX10_readsStall_20 1 rfl ?_
    refine gM_get X 0 rfl 11 (by decide) uw1190 rfl dX10_readsStall_21 ?_
    refine g_callVI0 X (c_X10_wrongAt l D cI cB cJ h q (p0 := 1) (p1 := v_place0) (by omega) (by first | assumption | omega) (by first | assumption | omega) (by first | assumption | omega) (by first | assumption | omega)) cv_X10_wrongAt uw1409 ⟨rfl, rfl, by decide, by decide⟩ 0 rfl rfl rfl rfl rfl (Nat.le_of_ble_eq_true rfl) ⟨Nat.zero_le _, Nat.zero_le _⟩ dX10_readsStall_24 (fun t24 ws24 k24 => ?_)
    obtain ⟨kb_24, ⟨fault_24, kr_fault_24, kp0_24, kp1_24, rfl⟩⟩ := k24
    exact hQ _ _ _ _ dX10_readsStall_27 ⟨by omega, ⟨v_place0, fault_24, v_number0, v_newStalls, v_lines, v_newUpper, v_newLower, (by omega), (by omega), (by omega), (by omega), (by omega), r_v_newUpper, r_v_newLower, (by first | assumption | omega), (by first | assumption | omega), (by first | exact Or.inr ⟨by omega, by omega, by omega⟩ | exact Or.inl ⟨by omega, by omega, by omega, hbT, by omega⟩), rfl⟩⟩
set_option maxHeartbeats 4000000 in
set_option maxRecDepth 100000 in
theorem c_X10_stock (l : Launch) (D : va_G) (cI cB cJ : ClassId) (h : Nat) (q : Nat → Nat) {v_stalls v_claimMany v_taped v_place0 v_length0 v_fault v_number0 v_open v_codeMany v_waiting v_saidMany v_clauses v_newMany v_newStalls v_lines v_salesNow v_outNow v_isKept v_keptStalls : Int} {v_now v_aside v_kept v_oneOf v_otherOf v_signOf v_byOf v_tape v_said v_waitsAt v_saidLetter v_saidFrom v_saidHalf v_saidTo v_codes v_clauseOf v_codeFrom v_codeHalf v_codeTo v_stack v_facts v_newOne v_newOther v_newSign v_newBy v_moreOf v_firstOf v_toldOf v_mostOf v_mostThen v_sumTo v_rowFrom v_ordersOf v_lessOf v_weightOf v_rowNow v_slowRow v_fastRow v_lineNow v_firstLine v_freeBy v_heldBy v_heightOf v_upTo v_downTo v_oftenOf v_newUpper v_newLower : Nat → Int} {p0 : Int} (kr_v_stalls : 0 ≤ v_stalls ∧ v_stalls ≤ 255) (kr_v_taped : 0 ≤ v_taped ∧ v_taped ≤ 260) (kr_v_place0 : 0 ≤ v_place0 ∧ v_place0 ≤ 260) (kr_v_length0 : 0 ≤ v_length0 ∧ v_length0 ≤ 260) (kr_v_fault : (-1000000) ≤ v_fault ∧ v_fault ≤ 1000000) (kr_v_number0 : 0 ≤ v_number0 ∧ v_number0 ≤ 99999) (kr_v_codeMany : 0 ≤ v_codeMany ∧ v_codeMany ≤ 260) (kr_v_saidMany : 0 ≤ v_saidMany ∧ v_saidMany ≤ 16) (kr_v_newStalls : 0 ≤ v_newStalls ∧ v_newStalls ≤ 255) (kr_v_lines : (-2147483648) ≤ v_lines ∧ v_lines ≤ 2147483647) (r_v_now : RA (-2147483648) 2147483647 v_now) (r_v_tape : RA (-128) 127 v_tape) (r_v_newUpper : RA 0 9999 v_newUpper) (r_v_newLower : RA 0 9999 v_newLower) (hp0 : IR p0) : CtI l yX10_stock cX10_stock 5 (some .int) ⟨4, 0, 0, 83⟩ D (TY cI cB cJ) (wX10 cI cB cJ h q v_stalls v_claimMany v_taped v_place0 v_length0 v_fault v_number0 v_open v_codeMany v_waiting v_saidMany v_clauses v_newMany v_newStalls v_lines v_salesNow v_outNow v_isKept v_keptStalls v_now v_aside v_kept v_oneOf v_otherOf v_signOf v_byOf v_tape v_said v_waitsAt v_saidLetter v_saidFrom v_saidHalf v_saidTo v_codes v_clauseOf v_codeFrom v_codeHalf v_codeTo v_stack v_facts v_newOne v_newOther v_newSign v_newBy v_moreOf v_firstOf v_toldOf v_mostOf v_mostThen v_sumTo v_rowFrom v_ordersOf v_lessOf v_weightOf v_rowNow v_slowRow v_fastRow v_lineNow v_firstLine v_freeBy v_heldBy v_heightOf v_upTo v_downTo v_oftenOf v_newUpper v_newLower) [.ref h, vI p0] (fun z ws' => ∃ n_stalls : Int, ∃ n_taped : Int, ∃ n_place0 : Int, ∃ n_length0 : Int, ∃ n_fault : Int, ∃ n_number0 : Int, ∃ n_codeMany : Int, ∃ n_saidMany : Int, ∃ n_newStalls : Int, ∃ n_lines : Int, ∃ n_now : Nat → Int, ∃ n_newUpper : Nat → Int, ∃ n_newLower : Nat → Int, (0 ≤ n_stalls ∧ n_stalls ≤ 255) ∧ (0 ≤ n_taped ∧ n_taped ≤ 260) ∧ (0 ≤ n_place0 ∧ n_place0 ≤ 260) ∧ (0 ≤ n_length0 ∧ n_length0 ≤ 260) ∧ ((-1000000) ≤ n_fault ∧ n_fault ≤ 1000000) ∧ (0 ≤ n_number0 ∧ n_number0 ≤ 99999) ∧ (0 ≤ n_codeMany ∧ n_codeMany ≤ 260) ∧ (0 ≤ n_saidMany ∧ n_saidMany ≤ 16) ∧ (0 ≤ n_newStalls ∧ n_newStalls ≤ 255) ∧ ((-2147483648) ≤ n_lines ∧ n_lines ≤ 2147483647) ∧ (RA (-2147483648) 2147483647 n_now) ∧ (RA 0 9999 n_newUpper) ∧ (RA 0 9999 n_newLower) ∧ (IR z) ∧ (n_now 32 = v_now 32) ∧ ((1 ≤ p0 ∧ p0 ≤ 160 ∧ p0 ≤ v_taped ∧ n_taped = 0) ∨ (¬ (1 ≤ p0 ∧ p0 ≤ 160 ∧ p0 ≤ v_taped) ∧ n_taped = v_taped)) ∧ (((1 ≤ p0 ∧ p0 ≤ 160 ∧ p0 ≤ v_taped) ∧ z = skA (sgP p0 (oct v_tape)) p0) ∨ (¬ (1 ≤ p0 ∧ p0 ≤ 160 ∧ p0 ≤ v_taped) ∧ z = -1)) ∧ (ws' = (wX10 cI cB cJ h q n_stalls v_claimMany n_taped n_place0 n_length0 n_fault n_number0 v_open n_codeMany v_waiting n_saidMany v_clauses v_newMany n_newStalls n_lines v_salesNow v_outNow v_isKept v_keptStalls n_now v_aside v_kept v_oneOf v_otherOf v_signOf v_byOf v_tape v_said v_waitsAt v_saidLetter v_saidFrom v_saidHalf v_saidTo v_codes v_clauseOf v_codeFrom v_codeHalf v_codeTo v_stack v_facts v_newOne v_newOther v_newSign v_newBy v_moreOf v_firstOf v_toldOf v_mostOf v_mostThen v_sumTo v_rowFrom v_ordersOf v_lessOf v_weightOf v_rowNow v_slowRow v_fastRow v_lineNow v_firstLine v_freeBy v_heldBy v_heightOf v_upTo v_downTo v_oftenOf n_newUpper n_newLower))) := by
  refine hdrI (own := RX10) rfl (by decide +kernel) (Nat.le_of_ble_eq_true rfl) ?_
  intro p e s m args below meth c Q A X hQ
  refine g_lvE (lv2 := [(0, .ref h), (1, vI p0)]) rfl ?_
  refine g_iload_n X dX10_stock_0 1 rfl ?_
  refine g_iconst X dX10_stock_1 ?_
  refine g_sipush X (z := 160) dX10_stock_2 (by decide) ?_
  refine g_callSIE X (c_X10_in l D cI cB cJ (p0 := p0) (p1 := 1) (p2 := 160) (by first | assumption | omega) (by first | assumption | omega) (by first | assumption | omega)) cv_X10_in uw1394 ⟨rfl, rfl, by decide, by decide⟩ rfl rfl (Nat.le_of_ble_eq_true rfl) ⟨Nat.zero_le _, Nat.zero_le _⟩ dX10_stock_5 (fun t5 ws5 k5 => ?_)
  obtain ⟨kb_5, ⟨kp0_5, rfl⟩⟩ := k5
  refine g_if_eq X (tgt := 19) dX10_stock_8 (by decide) (by omega) (fun c8 => ?_) (fun c8 => ?_)
  · clear kb_5
    replace kp0_5 := (kp0_5.resolve_left (fun h => absurd h.1 (by omega))).2
    refine g_iconst X dX10_stock_19 ?_
    exact hQ _ _ _ _ dX10_stock_20 ⟨v_stalls, v_taped, v_place0, v_length0, v_fault, v_number0, v_codeMany, v_saidMany, v_newStalls, v_lines, v_now, v_newUpper, v_newLower, (by omega), (by omega), (by omega), (by omega), (by omega), (by omega), (by omega), (by omega), (by omega), (by omega), r_v_now, r_v_newUpper, r_v_newLower, (by first | assumption | omega), (by first | assumption | omega), (by first | assumption | omega), (by first | assumption | omega), rfl⟩
  · replace kb_5 := kb_5.resolve_left (fun h => c8 h)
    replace kp0_5 := kp0_5.resolve_right (fun h => c8 h.1)
    refine g_iload_n X dX10_stock_11 1 rfl ?_
    refine g_aload_n X dX10_stock_12 0 rfl ?_
    refine gM_get X 0 rfl 10 (by decide) uw1189 rfl dX10_stock_13 ?_
    refine g_icmp_le X (tgt := 21) dX10_stock_16 (by decide) (by omega) (by omega) (fun c16 => ?_) (fun c16 => ?_)
    · refine g_aload_n X dX10_stock_21 0 rfl ?_
      refine g_iload_n X dX10_stock_22 1 rfl ?_
      refine g_callVV0 X (c_X10_beginsText l D cI cB cJ h q (p0 := p0) (by omega) (by omega) (by omega) (by omega) (by first | assumption | omega) (by first | assumption | omega)) cv_X10_beginsText uw1397 ⟨rfl, rfl, by decide, by decide⟩ 0 rfl rfl rfl rfl rfl (Nat.le_of_ble_eq_true rfl) ⟨Nat.zero_le _, Nat.zero_le _⟩ dX10_stock_23 (fun ws23 k23 => ?_)
      obtain ⟨place0_23, length0_23, codeMany_23, saidMany_23, kr_place0_23, kr_length0_23, kr_codeMany_23, kr_saidMany_23, kp0_23, kp1_23, kp2_23, kp3_23, rfl⟩ := k23
      refine g_aload_n X dX10_stock_26 0 rfl ?_
      refine g_iconst X dX10_stock_27 ?_
      refine gM_put X 0 rfl 61 (by decide) uw1240 rfl rfl rfl (Nat.le_of_ble_eq_true rfl) dX10_stock_28 (ws2 := (wX10 cI cB cJ h q v_stalls v_claimMany v_taped place0_23 length0_23 v_fault v_number0 v_open codeMany_23 v_waiting saidMany_23 v_clauses v_newMany 0 v_lines v_salesNow v_outNow v_isKept v_keptStalls v_now v_aside v_kept v_oneOf v_otherOf v_signOf v_byOf v_tape v_said v_waitsAt v_saidLetter v_saidFrom v_saidHalf v_saidTo v_codes v_clauseOf v_codeFrom v_codeHalf v_codeTo v_stack v_facts v_newOne v_newOther v_newSign v_newBy v_moreOf v_firstOf v_toldOf v_mostOf v_mostThen v_sumTo v_rowFrom v_ordersOf v_lessOf v_weightOf v_rowNow v_slowRow v_fastRow v_lineNow v_firstLine v_freeBy v_heldBy v_heightOf v_upTo v_downTo v_oftenOf v_newUpper v_newLower)) rfl ?_
      refine g_aload_n X dX10_stock_31 0 rfl ?_
      refine g_iconst X dX10_stock_32 ?_
      refine gM_put X 0 rfl 62 (by decide) uw1241 rfl rfl rfl (Nat.le_of_ble_eq_true rfl) dX10_stock_33 (ws2 := (wX10 cI cB cJ h q v_stalls v_claimMany v_taped place0_23 length0_23 v_fault v_number0 v_open codeMany_23 v_waiting saidMany_23 v_clauses v_newMany 0 0 v_salesNow v_outNow v_isKept v_keptStalls v_now v_aside v_kept v_oneOf v_otherOf v_signOf v_byOf v_tape v_said v_waitsAt v_saidLetter v_saidFrom v_saidHalf v_saidTo v_codes v_clauseOf v_codeFrom v_codeHalf v_codeTo v_stack v_facts v_newOne v_newOther v_newSign v_newBy v_moreOf v_firstOf v_toldOf v_mostOf v_mostThen v_sumTo v_rowFrom v_ordersOf v_lessOf v_weightOf v_rowNow v_slowRow v_fastRow v_lineNow v_firstLine v_freeBy v_heldBy v_heightOf v_upTo v_downTo v_oftenOf v_newUpper v_newLower)) rfl ?_
      refine g_aload_n X dX10_stock_36 0 rfl ?_
      have hL0 : length0_23 = p0 := by omega
      refine g_callVI0 X (c_X10_readsStall l D cI cB cJ h q  (by omega) (by omega) (by omega) (by omega) (by omega) (by omega) r_v_tape r_v_newUpper r_v_newLower) cv_X10_readsStall uw1749 ⟨rfl, rfl, by decide, by decide⟩ 0 rfl rfl rfl rfl rfl (Nat.le_of_ble_eq_true rfl) ⟨Nat.zero_le _, Nat.zero_le _⟩ dX10_stock_37 (fun t37 ws37 k37 => ?_)
      obtain ⟨kb_37, ⟨place0_37, fault_37, number0_37, newStalls_37, lines_37, newUpper_37, newLower_37, kr_place0_37, kr_fault_37, kr_number0_37, kr_newStalls_37, kr_lines_37, r_newUpper_37, r_newLower_37, kp0_37, kp1_37, kp2_37, rfl⟩⟩ := k37
      rw [hL0] at kp2_37
      refine g_istore_n X (lv' := [(2, vI t37), (0, .ref h), (1, vI p0)]) dX10_stock_40 (by decide) rfl ?_
      have L41 : ∀ (n : Nat) (x2_41 : Int) (place0_41 : Int) (fault_41 : Int) (number0_41 : Int) (newStalls_41 : Int) (lines_41 : Int) (newUpper_41 : Nat → Int) (newLower_41 : Nat → Int), (0 ≤ place0_41 ∧ place0_41 ≤ 260) → ((-1000000) ≤ fault_41 ∧ fault_41 ≤ 1000000) → (0 ≤ number0_41 ∧ number0_41 ≤ 99999) → (0 ≤ newStalls_41 ∧ newStalls_41 ≤ 255) → ((-2147483648) ≤ lines_41 ∧ lines_41 ≤ 2147483647) → (RA 0 9999 newUpper_41) → (RA 0 9999 newLower_41) → (length0_23 = p0) → (0 ≤ x2_41 ∧ x2_41 ≤ 1) → (SRI (sgP p0 (oct v_tape)) p0 x2_41 place0_41 newStalls_41 lines_41 fault_41) → (p0 - place0_41 + x2_41).toNat < n → GG p l e ⟨4, 0, 0, 83⟩ s m args below meth c 0 0 Q D A s.heap 5 (wX10 cI cB cJ h q v_stalls v_claimMany v_taped place0_41 length0_23 fault_41 number0_41 v_open codeMany_23 v_waiting saidMany_23 v_clauses v_newMany newStalls_41 lines_41 v_salesNow v_outNow v_isKept v_keptStalls v_now v_aside v_kept v_oneOf v_otherOf v_signOf v_byOf v_tape v_said v_waitsAt v_saidLetter v_saidFrom v_saidHalf v_saidTo v_codes v_clauseOf v_codeFrom v_codeHalf v_codeTo v_stack v_facts v_newOne v_newOther v_newSign v_newBy v_moreOf v_firstOf v_toldOf v_mostOf v_mostThen v_sumTo v_rowFrom v_ordersOf v_lessOf v_weightOf v_rowNow v_slowRow v_fastRow v_lineNow v_firstLine v_freeBy v_heldBy v_heightOf v_upTo v_downTo v_oftenOf newUpper_41 newLower_41) 41 [(0, .ref h), (2, vI x2_41)] [] := by
        intro n
        induction n with
        | zero => intros; exfalso; omega
        | succ n ih41 =>
          intro x2_41 place0_41 fault_41 number0_41 newStalls_41 lines_41 newUpper_41 newLower_41 kr_place0_41 kr_fault_41 kr_number0_41 kr_newStalls_41 kr_lines_41 r_newUpper_41 r_newLower_41 w41_0 w41_1 w41_2 wm41
          refine g_iload_n X dX10_stock_41 1 rfl ?_
          refine g_if_eq X (tgt := 81) dX10_stock_42 (by decide) (by omega) (fun c42 => ?_) (fun c42 => ?_)
          · have hA := SRI.out w41_2 (fun h => by omega)
            refine g_aload_n X dX10_stock_81 0 rfl ?_
            refine g_iconst X dX10_stock_82 ?_
            refine gM_put X 0 rfl 10 (by decide) uw1189 rfl rfl rfl (Nat.le_of_ble_eq_true rfl) dX10_stock_83 (ws2 := (wX10 cI cB cJ h q v_stalls v_claimMany 0 place0_41 length0_23 fault_41 number0_41 v_open codeMany_23 v_waiting saidMany_23 v_clauses v_newMany newStalls_41 lines_41 v_salesNow v_outNow v_isKept v_keptStalls v_now v_aside v_kept v_oneOf v_otherOf v_signOf v_byOf v_tape v_said v_waitsAt v_saidLetter v_saidFrom v_saidHalf v_saidTo v_codes v_clauseOf v_codeFrom v_codeHalf v_codeTo v_stack v_facts v_newOne v_newOther v_newSign v_newBy v_moreOf v_firstOf v_toldOf v_mostOf v_mostThen v_sumTo v_rowFrom v_ordersOf v_lessOf v_weightOf v_rowNow v_slowRow v_fastRow v_lineNow v_firstLine v_freeBy v_heldBy v_heightOf v_upTo v_downTo v_oftenOf newUpper_41 newLower_41)) rfl ?_
            refine g_iload_n X dX10_stock_86 1 rfl ?_
            refine g_if_ne X (tgt := 95) dX10_stock_87 (by decide) (by omega) (fun c87 => ?_) (fun c87 => ?_)
            · refine g_aload_n X dX10_stock_95 0 rfl ?_
              refine g_aload_n X dX10_stock_96 0 rfl ?_
              refine gM_get X 0 rfl 61 (by decide) uw1240 rfl dX10_stock_97 ?_
              refine gM_put X 0 rfl 7 (by decide) uw1186 rfl rfl rfl (Nat.le_of_ble_eq_true rfl) dX10_stock_100 (ws2 := (wX10 cI cB cJ h q newStalls_41 v_claimMany 0 place0_41 length0_23 fault_41 number0_41 v_open codeMany_23 v_waiting saidMany_23 v_clauses v_newMany newStalls_41 lines_41 v_salesNow v_outNow v_isKept v_keptStalls v_now v_aside v_kept v_oneOf v_otherOf v_signOf v_byOf v_tape v_said v_waitsAt v_saidLetter v_saidFrom v_saidHalf v_saidTo v_codes v_clauseOf v_codeFrom v_codeHalf v_codeTo v_stack v_facts v_newOne v_newOther v_newSign v_newBy v_moreOf v_firstOf v_toldOf v_mostOf v_mostThen v_sumTo v_rowFrom v_ordersOf v_lessOf v_weightOf v_rowNow v_slowRow v_fastRow v_lineNow v_firstLine v_freeBy v_heldBy v_heightOf v_upTo v_downTo v_oftenOf newUpper_41 newLower_41)) rfl ?_
              refine g_iconst X dX10_stock_103 ?_
              refine g_istore_n X (lv' := [(3, vI 0), (0, .ref h), (2, vI x2_41)]) dX10_stock_104 (by decide) rfl ?_
              have L105 : ∀ (n : Nat) (x3_105 : Int) (now_105 : Nat → Int), (RA (-2147483648) 2147483647 now_105) → (0 ≤ x3_105 ∧ x3_105 ≤ 8) → (now_105 32 = v_now 32) → (8 - x3_105).toNat < n → GG p l e ⟨4, 0, 0, 83⟩ s m args below meth c 0 0 Q D A s.heap 5 (wX10 cI cB cJ h q newStalls_41 v_claimMany 0 place0_41 length0_23 fault_41 number0_41 v_open codeMany_23 v_waiting saidMany_23 v_clauses v_newMany newStalls_41 lines_41 v_salesNow v_outNow v_isKept v_keptStalls now_105 v_aside v_kept v_oneOf v_otherOf v_signOf v_byOf v_tape v_said v_waitsAt v_saidLetter v_saidFrom v_saidHalf v_saidTo v_codes v_clauseOf v_codeFrom v_codeHalf v_codeTo v_stack v_facts v_newOne v_newOther v_newSign v_newBy v_moreOf v_firstOf v_toldOf v_mostOf v_mostThen v_sumTo v_rowFrom v_ordersOf v_lessOf v_weightOf v_rowNow v_slowRow v_fastRow v_lineNow v_firstLine v_freeBy v_heldBy v_heightOf v_upTo v_downTo v_oftenOf newUpper_41 newLower_41) 105 [(0, .ref h), (3, vI x3_105)] [] := by
                intro n
                induction n with
                | zero => intros; exfalso; omega
                | succ n ih105 =>
                  intro x3_105 now_105 r_now_105 w105_0 w105_1 wm105
                  refine g_iload_n X dX10_stock_105 1 rfl ?_
                  refine g_bipush X (z := 8) dX10_stock_106 (by decide) ?_
                  refine g_icmp_ge X (tgt := 194) dX10_stock_108 (by decide) (by omega) (by omega) (fun c108 => ?_) (fun c108 => ?_)
                  · refine g_aload_n X dX10_stock_194 0 rfl ?_
                    refine gM_get X 0 rfl 62 (by decide) uw1241 rfl dX10_stock_195 ?_
                    exact hQ _ _ _ _ dX10_stock_198 ⟨newStalls_41, 0, place0_41, length0_23, fault_41, number0_41, codeMany_23, saidMany_23, newStalls_41, lines_41, now_105, newUpper_41, newLower_41, (by omega), (by omega), (by omega), (by omega), (by omega), (by omega), (by omega), (by omega), (by omega), (by omega), r_now_105, r_newUpper_41, r_newLower_41, (by first | assumption | omega), (by first | assumption | omega), (by first | assumption | omega), (by first | assumption | omega), rfl⟩
                  · refine g_aload_n X dX10_stock_111 0 rfl ?_
                    refine gM_get X 0 rfl 7 (by decide) uw1186 rfl dX10_stock_112 ?_
                    refine g_iload_n X dX10_stock_115 1 rfl ?_
                    refine g_callSIE X (c_X10_has l D cI cB cJ (p0 := newStalls_41) (p1 := x3_105) (by first | assumption | omega) (by first | assumption | omega)) cv_X10_has uw1531 ⟨rfl, rfl, by decide, by decide⟩ rfl rfl (Nat.le_of_ble_eq_true rfl) ⟨Nat.zero_le _, Nat.zero_le _⟩ dX10_stock_116 (fun t116 ws116 k116 => ?_)
                    obtain ⟨kb_116, ⟨kp0_116, rfl⟩⟩ := k116
                    refine g_istore X (lv' := [(4, vI t116), (0, .ref h), (3, vI x3_105)]) dX10_stock_119 (by decide) rfl ?_
                    refine g_aload_n X dX10_stock_121 1 rfl ?_
                    refine gM_get X 0 rfl 0 (by decide) uw1179 rfl dX10_stock_122 ?_
                    refine g_iconst X dX10_stock_125 ?_
                    refine g_iload_n X dX10_stock_126 2 rfl ?_
                    refine g_iadd X dX10_stock_127 ?_
                    refine g_iload X dX10_stock_128 0 rfl ?_
                    refine g_if_eq X (tgt := 142) dX10_stock_130 (by decide) (by omega) (fun c130 => ?_) (fun c130 => ?_)
                    · clear kb_116
                      replace kp0_116 := (kp0_116.resolve_left (fun h => absurd h.1 (by omega))).2
                      refine g_iconst X dX10_stock_142 ?_
                      refine g_iast X 1 0 rfl rfl (by omega) (by decide) dX10_stock_143 (fun now_143 e143 => ?_)
                      have r_now_143 : RA (-2147483648) 2147483647 now_143 := by rw [e143]; exact RA_up r_now_105 (by omega)
                      have qnow_143_32 : now_143 32 = now_105 32 := by rw [e143]; exact updZ_n _ _ (by omega)
                      refine g_ws (ws2 := (wX10 cI cB cJ h q newStalls_41 v_claimMany 0 place0_41 length0_23 fault_41 number0_41 v_open codeMany_23 v_waiting saidMany_23 v_clauses v_newMany newStalls_41 lines_41 v_salesNow v_outNow v_isKept v_keptStalls now_143 v_aside v_kept v_oneOf v_otherOf v_signOf v_byOf v_tape v_said v_waitsAt v_saidLetter v_saidFrom v_saidHalf v_saidTo v_codes v_clauseOf v_codeFrom v_codeHalf v_codeTo v_stack v_facts v_newOne v_newOther v_newSign v_newBy v_moreOf v_firstOf v_toldOf v_mostOf v_mostThen v_sumTo v_rowFrom v_ordersOf v_lessOf v_weightOf v_rowNow v_slowRow v_fastRow v_lineNow v_firstLine v_freeBy v_heldBy v_heightOf v_upTo v_downTo v_oftenOf newUpper_41 newLower_41)) rfl ?_
                      refine g_aload_n X dX10_stock_144 1 rfl ?_
                      refine gM_get X 0 rfl 0 (by decide) uw1179 rfl dX10_stock_145 ?_
                      refine g_bipush X (z := 8) dX10_stock_148 (by decide) ?_
                      refine g_iload_n X dX10_stock_150 2 rfl ?_
                      refine g_iadd X dX10_stock_151 ?_
                      refine g_iload X dX10_stock_152 0 rfl ?_
                      refine g_if_eq X (tgt := 166) dX10_stock_154 (by decide) (by omega) (fun c154 => ?_) (fun c154 => ?_)
                      · refine g_iconst X dX10_stock_166 ?_
                        refine g_iast X 1 0 rfl rfl (by omega) (by decide) dX10_stock_167 (fun now_167 e167 => ?_)
                        have r_now_167 : RA (-2147483648) 2147483647 now_167 := by rw [e167]; exact RA_up r_now_143 (by omega)
                        have qnow_167_32 : now_167 32 = now_143 32 := by rw [e167]; exact updZ_n _ _ (by omega)
                        refine g_ws (ws2 := (wX10 cI cB cJ h q newStalls_41 v_claimMany 0 place0_41 length0_23 fault_41 number0_41 v_open codeMany_23 v_waiting saidMany_23 v_clauses v_newMany newStalls_41 lines_41 v_salesNow v_outNow v_isKept v_keptStalls now_167 v_aside v_kept v_oneOf v_otherOf v_signOf v_byOf v_tape v_said v_waitsAt v_saidLetter v_saidFrom v_saidHalf v_saidTo v_codes v_clauseOf v_codeFrom v_codeHalf v_codeTo v_stack v_facts v_newOne v_newOther v_newSign v_newBy v_moreOf v_firstOf v_toldOf v_mostOf v_mostThen v_sumTo v_rowFrom v_ordersOf v_lessOf v_weightOf v_rowNow v_slowRow v_fastRow v_lineNow v_firstLine v_freeBy v_heldBy v_heightOf v_upTo v_downTo v_oftenOf newUpper_41 newLower_41)) rfl ?_
                        refine g_aload_n X dX10_stock_168 1 rfl ?_
                        refine gM_get X 0 rfl 0 (by decide) uw1179 rfl dX10_stock_169 ?_
                        refine g_bipush X (z := 16) dX10_stock_172 (by decide) ?_
                        refine g_iload_n X dX10_stock_174 2 rfl ?_
                        refine g_iadd X dX10_stock_175 ?_
                        refine g_iconst X dX10_stock_176 ?_
                        refine g_iast X 1 0 rfl rfl (by omega) (by decide) dX10_stock_177 (fun now_177 e177 => ?_)
                        have r_now_177 : RA (-2147483648) 2147483647 now_177 := by rw [e177]; exact RA_up r_now_167 (by omega)
                        have qnow_177_32 : now_177 32 = now_167 32 := by rw [e177]; exact updZ_n _ _ (by omega)
                        refine g_ws (ws2 := (wX10 cI cB cJ h q newStalls_41 v_claimMany 0 place0_41 length0_23 fault_41 number0_41 v_open codeMany_23 v_waiting saidMany_23 v_clauses v_newMany newStalls_41 lines_41 v_salesNow v_outNow v_isKept v_keptStalls now_177 v_aside v_kept v_oneOf v_otherOf v_signOf v_byOf v_tape v_said v_waitsAt v_saidLetter v_saidFrom v_saidHalf v_saidTo v_codes v_clauseOf v_codeFrom v_codeHalf v_codeTo v_stack v_facts v_newOne v_newOther v_newSign v_newBy v_moreOf v_firstOf v_toldOf v_mostOf v_mostThen v_sumTo v_rowFrom v_ordersOf v_lessOf v_weightOf v_rowNow v_slowRow v_fastRow v_lineNow v_firstLine v_freeBy v_heldBy v_heightOf v_upTo v_downTo v_oftenOf newUpper_41 newLower_41)) rfl ?_
                        refine g_aload_n X dX10_stock_178 1 rfl ?_
                        refine gM_get X 0 rfl 0 (by decide) uw1179 rfl dX10_stock_179 ?_
                        refine g_bipush X (z := 24) dX10_stock_182 (by decide) ?_
                        refine g_iload_n X dX10_stock_184 2 rfl ?_
                        refine g_iadd X dX10_stock_185 ?_
                        refine g_iconst X dX10_stock_186 ?_
                        refine g_iast X 1 0 rfl rfl (by omega) (by decide) dX10_stock_187 (fun now_187 e187 => ?_)
                        have r_now_187 : RA (-2147483648) 2147483647 now_187 := by rw [e187]; exact RA_up r_now_177 (by omega)
                        have qnow_187_32 : now_187 32 = now_177 32 := by rw [e187]; exact updZ_n _ _ (by omega)
                        refine g_ws (ws2 := (wX10 cI cB cJ h q newStalls_41 v_claimMany 0 place0_41 length0_23 fault_41 number0_41 v_open codeMany_23 v_waiting saidMany_23 v_clauses v_newMany newStalls_41 lines_41 v_salesNow v_outNow v_isKept v_keptStalls now_187 v_aside v_kept v_oneOf v_otherOf v_signOf v_byOf v_tape v_said v_waitsAt v_saidLetter v_saidFrom v_saidHalf v_saidTo v_codes v_clauseOf v_codeFrom v_codeHalf v_codeTo v_stack v_facts v_newOne v_newOther v_newSign v_newBy v_moreOf v_firstOf v_toldOf v_mostOf v_mostThen v_sumTo v_rowFrom v_ordersOf v_lessOf v_weightOf v_rowNow v_slowRow v_fastRow v_lineNow v_firstLine v_freeBy v_heldBy v_heightOf v_upTo v_downTo v_oftenOf newUpper_41 newLower_41)) rfl ?_
                        refine g_iinc X (lv' := [(3, vI (x3_105 + 1)), (4, vI t116), (0, .ref h)]) dX10_stock_188 2 rfl (by decide) rfl ?_
                        refine g_goto X (tgt := 105) dX10_stock_191 (by decide) ?_
                        refine g_lv [2, 0] rfl ?_
                        exact ih105 (x3_105 + 1) now_187 r_now_187 (by first | assumption | omega) (by first | assumption | omega) (by omega)
                      · refine g_aload_n X dX10_stock_157 1 rfl ?_
                        refine gM_get X 0 rfl 60 (by decide) uw1239 rfl dX10_stock_158 ?_
                        refine g_iload_n X dX10_stock_161 2 rfl ?_
                        refine g_iald X 48 0 rfl rfl (by omega) (by decide) dX10_stock_162 (fun t162 e162 => ?_)
                        have r162 := r_newLower_41 (x3_105 : Int).toNat; rw [← e162] at r162
                        refine g_goto X (tgt := 167) dX10_stock_163 (by decide) ?_
                        refine g_iast X 1 0 rfl rfl (by omega) (by decide) dX10_stock_167 (fun now_167 e167 => ?_)
                        have r_now_167 : RA (-2147483648) 2147483647 now_167 := by rw [e167]; exact RA_up r_now_143 (by omega)
                        have qnow_167_32 : now_167 32 = now_143 32 := by rw [e167]; exact updZ_n _ _ (by omega)
                        refine g_ws (ws2 := (wX10 cI cB cJ h q newStalls_41 v_claimMany 0 place0_41 length0_23 fault_41 number0_41 v_open codeMany_23 v_waiting saidMany_23 v_clauses v_newMany newStalls_41 lines_41 v_salesNow v_outNow v_isKept v_keptStalls now_167 v_aside v_kept v_oneOf v_otherOf v_signOf v_byOf v_tape v_said v_waitsAt v_saidLetter v_saidFrom v_saidHalf v_saidTo v_codes v_clauseOf v_codeFrom v_codeHalf v_codeTo v_stack v_facts v_newOne v_newOther v_newSign v_newBy v_moreOf v_firstOf v_toldOf v_mostOf v_mostThen v_sumTo v_rowFrom v_ordersOf v_lessOf v_weightOf v_rowNow v_slowRow v_fastRow v_lineNow v_firstLine v_freeBy v_heldBy v_heightOf v_upTo v_downTo v_oftenOf newUpper_41 newLower_41)) rfl ?_
                        refine g_aload_n X dX10_stock_168 1 rfl ?_
                        refine gM_get X 0 rfl 0 (by decide) uw1179 rfl dX10_stock_169 ?_
                        refine g_bipush X (z := 16) dX10_stock_172 (by decide) ?_
                        refine g_iload_n X dX10_stock_174 2 rfl ?_
                        refine g_iadd X dX10_stock_175 ?_
                        refine g_iconst X dX10_stock_176 ?_
                        refine g_iast X 1 0 rfl rfl (by omega) (by decide) dX10_stock_177 (fun now_177 e177 => ?_)
                        have r_now_177 : RA (-2147483648) 2147483647 now_177 := by rw [e177]; exact RA_up r_now_167 (by omega)
                        have qnow_177_32 : now_177 32 = now_167 32 := by rw [e177]; exact updZ_n _ _ (by omega)
                        refine g_ws (ws2 := (wX10 cI cB cJ h q newStalls_41 v_claimMany 0 place0_41 length0_23 fault_41 number0_41 v_open codeMany_23 v_waiting saidMany_23 v_clauses v_newMany newStalls_41 lines_41 v_salesNow v_outNow v_isKept v_keptStalls now_177 v_aside v_kept v_oneOf v_otherOf v_signOf v_byOf v_tape v_said v_waitsAt v_saidLetter v_saidFrom v_saidHalf v_saidTo v_codes v_clauseOf v_codeFrom v_codeHalf v_codeTo v_stack v_facts v_newOne v_newOther v_newSign v_newBy v_moreOf v_firstOf v_toldOf v_mostOf v_mostThen v_sumTo v_rowFrom v_ordersOf v_lessOf v_weightOf v_rowNow v_slowRow v_fastRow v_lineNow v_firstLine v_freeBy v_heldBy v_heightOf v_upTo v_downTo v_oftenOf newUpper_41 newLower_41)) rfl ?_
                        refine g_aload_n X dX10_stock_178 1 rfl ?_
                        refine gM_get X 0 rfl 0 (by decide) uw1179 rfl dX10_stock_179 ?_
                        refine g_bipush X (z := 24) dX10_stock_182 (by decide) ?_
                        refine g_iload_n X dX10_stock_184 2 rfl ?_
                        refine g_iadd X dX10_stock_185 ?_
                        refine g_iconst X dX10_stock_186 ?_
                        refine g_iast X 1 0 rfl rfl (by omega) (by decide) dX10_stock_187 (fun now_187 e187 => ?_)
                        have r_now_187 : RA (-2147483648) 2147483647 now_187 := by rw [e187]; exact RA_up r_now_177 (by omega)
                        have qnow_187_32 : now_187 32 = now_177 32 := by rw [e187]; exact updZ_n _ _ (by omega)
                        refine g_ws (ws2 := (wX10 cI cB cJ h q newStalls_41 v_claimMany 0 place0_41 length0_23 fault_41 number0_41 v_open codeMany_23 v_waiting saidMany_23 v_clauses v_newMany newStalls_41 lines_41 v_salesNow v_outNow v_isKept v_keptStalls now_187 v_aside v_kept v_oneOf v_otherOf v_signOf v_byOf v_tape v_said v_waitsAt v_saidLetter v_saidFrom v_saidHalf v_saidTo v_codes v_clauseOf v_codeFrom v_codeHalf v_codeTo v_stack v_facts v_newOne v_newOther v_newSign v_newBy v_moreOf v_firstOf v_toldOf v_mostOf v_mostThen v_sumTo v_rowFrom v_ordersOf v_lessOf v_weightOf v_rowNow v_slowRow v_fastRow v_lineNow v_firstLine v_freeBy v_heldBy v_heightOf v_upTo v_downTo v_oftenOf newUpper_41 newLower_41)) rfl ?_
                        refine g_iinc X (lv' := [(3, vI (x3_105 + 1)), (4, vI t116), (0, .ref h)]) dX10_stock_188 2 rfl (by decide) rfl ?_
                        refine g_goto X (tgt := 105) dX10_stock_191 (by decide) ?_
                        refine g_lv [2, 0] rfl ?_
                        exact ih105 (x3_105 + 1) now_187 r_now_187 (by first | assumption | omega) (by first | assumption | omega) (by omega)
                    · replace kb_116 := kb_116.resolve_left (fun h => c130 h)
                      replace kp0_116 := kp0_116.resolve_right (fun h => c130 h.1)
                      refine g_aload_n X dX10_stock_133 1 rfl ?_
                      refine gM_get X 0 rfl 59 (by decide) uw1238 rfl dX10_stock_134 ?_
                      refine g_iload_n X dX10_stock_137 2 rfl ?_
                      refine g_iald X 47 0 rfl rfl (by omega) (by decide) dX10_stock_138 (fun t138 e138 => ?_)
                      have r138 := r_newUpper_41 (x3_105 : Int).toNat; rw [← e138] at r138
                      refine g_goto X (tgt := 143) dX10_stock_139 (by decide) ?_
                      refine g_iast X 1 0 rfl rfl (by omega) (by decide) dX10_stock_143 (fun now_143 e143 => ?_)
                      have r_now_143 : RA (-2147483648) 2147483647 now_143 := by rw [e143]; exact RA_up r_now_105 (by omega)
                      have qnow_143_32 : now_143 32 = now_105 32 := by rw [e143]; exact updZ_n _ _ (by omega)
                      refine g_ws (ws2 := (wX10 cI cB cJ h q newStalls_41 v_claimMany 0 place0_41 length0_23 fault_41 number0_41 v_open codeMany_23 v_waiting saidMany_23 v_clauses v_newMany newStalls_41 lines_41 v_salesNow v_outNow v_isKept v_keptStalls now_143 v_aside v_kept v_oneOf v_otherOf v_signOf v_byOf v_tape v_said v_waitsAt v_saidLetter v_saidFrom v_saidHalf v_saidTo v_codes v_clauseOf v_codeFrom v_codeHalf v_codeTo v_stack v_facts v_newOne v_newOther v_newSign v_newBy v_moreOf v_firstOf v_toldOf v_mostOf v_mostThen v_sumTo v_rowFrom v_ordersOf v_lessOf v_weightOf v_rowNow v_slowRow v_fastRow v_lineNow v_firstLine v_freeBy v_heldBy v_heightOf v_upTo v_downTo v_oftenOf newUpper_41 newLower_41)) rfl ?_
                      refine g_aload_n X dX10_stock_144 1 rfl ?_
                      refine gM_get X 0 rfl 0 (by decide) uw1179 rfl dX10_stock_145 ?_
                      refine g_bipush X (z := 8) dX10_stock_148 (by decide) ?_
                      refine g_iload_n X dX10_stock_150 2 rfl ?_
                      refine g_iadd X dX10_stock_151 ?_
                      refine g_iload X dX10_stock_152 0 rfl ?_
                      refine g_if_eq X (tgt := 166) dX10_stock_154 (by decide) (by omega) (fun c154 => ?_) (fun c154 => ?_)
                      · refine g_iconst X dX10_stock_166 ?_
                        refine g_iast X 1 0 rfl rfl (by omega) (by decide) dX10_stock_167 (fun now_167 e167 => ?_)
                        have r_now_167 : RA (-2147483648) 2147483647 now_167 := by rw [e167]; exact RA_up r_now_143 (by omega)
                        have qnow_167_32 : now_167 32 = now_143 32 := by rw [e167]; exact updZ_n _ _ (by omega)
                        refine g_ws (ws2 := (wX10 cI cB cJ h q newStalls_41 v_claimMany 0 place0_41 length0_23 fault_41 number0_41 v_open codeMany_23 v_waiting saidMany_23 v_clauses v_newMany newStalls_41 lines_41 v_salesNow v_outNow v_isKept v_keptStalls now_167 v_aside v_kept v_oneOf v_otherOf v_signOf v_byOf v_tape v_said v_waitsAt v_saidLetter v_saidFrom v_saidHalf v_saidTo v_codes v_clauseOf v_codeFrom v_codeHalf v_codeTo v_stack v_facts v_newOne v_newOther v_newSign v_newBy v_moreOf v_firstOf v_toldOf v_mostOf v_mostThen v_sumTo v_rowFrom v_ordersOf v_lessOf v_weightOf v_rowNow v_slowRow v_fastRow v_lineNow v_firstLine v_freeBy v_heldBy v_heightOf v_upTo v_downTo v_oftenOf newUpper_41 newLower_41)) rfl ?_
                        refine g_aload_n X dX10_stock_168 1 rfl ?_
                        refine gM_get X 0 rfl 0 (by decide) uw1179 rfl dX10_stock_169 ?_
                        refine g_bipush X (z := 16) dX10_stock_172 (by decide) ?_
                        refine g_iload_n X dX10_stock_174 2 rfl ?_
                        refine g_iadd X dX10_stock_175 ?_
                        refine g_iconst X dX10_stock_176 ?_
                        refine g_iast X 1 0 rfl rfl (by omega) (by decide) dX10_stock_177 (fun now_177 e177 => ?_)
                        have r_now_177 : RA (-2147483648) 2147483647 now_177 := by rw [e177]; exact RA_up r_now_167 (by omega)
                        have qnow_177_32 : now_177 32 = now_167 32 := by rw [e177]; exact updZ_n _ _ (by omega)
                        refine g_ws (ws2 := (wX10 cI cB cJ h q newStalls_41 v_claimMany 0 place0_41 length0_23 fault_41 number0_41 v_open codeMany_23 v_waiting saidMany_23 v_clauses v_newMany newStalls_41 lines_41 v_salesNow v_outNow v_isKept v_keptStalls now_177 v_aside v_kept v_oneOf v_otherOf v_signOf v_byOf v_tape v_said v_waitsAt v_saidLetter v_saidFrom v_saidHalf v_saidTo v_codes v_clauseOf v_codeFrom v_codeHalf v_codeTo v_stack v_facts v_newOne v_newOther v_newSign v_newBy v_moreOf v_firstOf v_toldOf v_mostOf v_mostThen v_sumTo v_rowFrom v_ordersOf v_lessOf v_weightOf v_rowNow v_slowRow v_fastRow v_lineNow v_firstLine v_freeBy v_heldBy v_heightOf v_upTo v_downTo v_oftenOf newUpper_41 newLower_41)) rfl ?_
                        refine g_aload_n X dX10_stock_178 1 rfl ?_
                        refine gM_get X 0 rfl 0 (by decide) uw1179 rfl dX10_stock_179 ?_
                        refine g_bipush X (z := 24) dX10_stock_182 (by decide) ?_
                        refine g_iload_n X dX10_stock_184 2 rfl ?_
                        refine g_iadd X dX10_stock_185 ?_
                        refine g_iconst X dX10_stock_186 ?_
                        refine g_iast X 1 0 rfl rfl (by omega) (by decide) dX10_stock_187 (fun now_187 e187 => ?_)
                        have r_now_187 : RA (-2147483648) 2147483647 now_187 := by rw [e187]; exact RA_up r_now_177 (by omega)
                        have qnow_187_32 : now_187 32 = now_177 32 := by rw [e187]; exact updZ_n _ _ (by omega)
                        refine g_ws (ws2 := (wX10 cI cB cJ h q newStalls_41 v_claimMany 0 place0_41 length0_23 fault_41 number0_41 v_open codeMany_23 v_waiting saidMany_23 v_clauses v_newMany newStalls_41 lines_41 v_salesNow v_outNow v_isKept v_keptStalls now_187 v_aside v_kept v_oneOf v_otherOf v_signOf v_byOf v_tape v_said v_waitsAt v_saidLetter v_saidFrom v_saidHalf v_saidTo v_codes v_clauseOf v_codeFrom v_codeHalf v_codeTo v_stack v_facts v_newOne v_newOther v_newSign v_newBy v_moreOf v_firstOf v_toldOf v_mostOf v_mostThen v_sumTo v_rowFrom v_ordersOf v_lessOf v_weightOf v_rowNow v_slowRow v_fastRow v_lineNow v_firstLine v_freeBy v_heldBy v_heightOf v_upTo v_downTo v_oftenOf newUpper_41 newLower_41)) rfl ?_
                        refine g_iinc X (lv' := [(3, vI (x3_105 + 1)), (4, vI t116), (0, .ref h)]) dX10_stock_188 2 rfl (by decide) rfl ?_
                        refine g_goto X (tgt := 105) dX10_stock_191 (by decide) ?_
                        refine g_lv [2, 0] rfl ?_
                        exact ih105 (x3_105 + 1) now_187 r_now_187 (by first | assumption | omega) (by first | assumption | omega) (by omega)
                      · refine g_aload_n X dX10_stock_157 1 rfl ?_
                        refine gM_get X 0 rfl 60 (by decide) uw1239 rfl dX10_stock_158 ?_
                        refine g_iload_n X dX10_stock_161 2 rfl ?_
                        refine g_iald X 48 0 rfl rfl (by omega) (by decide) dX10_stock_162 (fun t162 e162 => ?_)
                        have r162 := r_newLower_41 (x3_105 : Int).toNat; rw [← e162] at r162
                        refine g_goto X (tgt := 167) dX10_stock_163 (by decide) ?_
                        refine g_iast X 1 0 rfl rfl (by omega) (by decide) dX10_stock_167 (fun now_167 e167 => ?_)
                        have r_now_167 : RA (-2147483648) 2147483647 now_167 := by rw [e167]; exact RA_up r_now_143 (by omega)
                        have qnow_167_32 : now_167 32 = now_143 32 := by rw [e167]; exact updZ_n _ _ (by omega)
                        refine g_ws (ws2 := (wX10 cI cB cJ h q newStalls_41 v_claimMany 0 place0_41 length0_23 fault_41 number0_41 v_open codeMany_23 v_waiting saidMany_23 v_clauses v_newMany newStalls_41 lines_41 v_salesNow v_outNow v_isKept v_keptStalls now_167 v_aside v_kept v_oneOf v_otherOf v_signOf v_byOf v_tape v_said v_waitsAt v_saidLetter v_saidFrom v_saidHalf v_saidTo v_codes v_clauseOf v_codeFrom v_codeHalf v_codeTo v_stack v_facts v_newOne v_newOther v_newSign v_newBy v_moreOf v_firstOf v_toldOf v_mostOf v_mostThen v_sumTo v_rowFrom v_ordersOf v_lessOf v_weightOf v_rowNow v_slowRow v_fastRow v_lineNow v_firstLine v_freeBy v_heldBy v_heightOf v_upTo v_downTo v_oftenOf newUpper_41 newLower_41)) rfl ?_
                        refine g_aload_n X dX10_stock_168 1 rfl ?_
                        refine gM_get X 0 rfl 0 (by decide) uw1179 rfl dX10_stock_169 ?_
                        refine g_bipush X (z := 16) dX10_stock_172 (by decide) ?_
                        refine g_iload_n X dX10_stock_174 2 rfl ?_
                        refine g_iadd X dX10_stock_175 ?_
                        refine g_iconst X dX10_stock_176 ?_
                        refine g_iast X 1 0 rfl rfl (by omega) (by decide) dX10_stock_177 (fun now_177 e177 => ?_)
                        have r_now_177 : RA (-2147483648) 2147483647 now_177 := by rw [e177]; exact RA_up r_now_167 (by omega)
                        have qnow_177_32 : now_177 32 = now_167 32 := by rw [e177]; exact updZ_n _ _ (by omega)
                        refine g_ws (ws2 := (wX10 cI cB cJ h q newStalls_41 v_claimMany 0 place0_41 length0_23 fault_41 number0_41 v_open codeMany_23 v_waiting saidMany_23 v_clauses v_newMany newStalls_41 lines_41 v_salesNow v_outNow v_isKept v_keptStalls now_177 v_aside v_kept v_oneOf v_otherOf v_signOf v_byOf v_tape v_said v_waitsAt v_saidLetter v_saidFrom v_saidHalf v_saidTo v_codes v_clauseOf v_codeFrom v_codeHalf v_codeTo v_stack v_facts v_newOne v_newOther v_newSign v_newBy v_moreOf v_firstOf v_toldOf v_mostOf v_mostThen v_sumTo v_rowFrom v_ordersOf v_lessOf v_weightOf v_rowNow v_slowRow v_fastRow v_lineNow v_firstLine v_freeBy v_heldBy v_heightOf v_upTo v_downTo v_oftenOf newUpper_41 newLower_41)) rfl ?_
                        refine g_aload_n X dX10_stock_178 1 rfl ?_
                        refine gM_get X 0 rfl 0 (by decide) uw1179 rfl dX10_stock_179 ?_
                        refine g_bipush X (z := 24) dX10_stock_182 (by decide) ?_
                        refine g_iload_n X dX10_stock_184 2 rfl ?_
                        refine g_iadd X dX10_stock_185 ?_
                        refine g_iconst X dX10_stock_186 ?_
                        refine g_iast X 1 0 rfl rfl (by omega) (by decide) dX10_stock_187 (fun now_187 e187 => ?_)
                        have r_now_187 : RA (-2147483648) 2147483647 now_187 := by rw [e187]; exact RA_up r_now_177 (by omega)
                        have qnow_187_32 : now_187 32 = now_177 32 := by rw [e187]; exact updZ_n _ _ (by omega)
                        refine g_ws (ws2 := (wX10 cI cB cJ h q newStalls_41 v_claimMany 0 place0_41 length0_23 fault_41 number0_41 v_open codeMany_23 v_waiting saidMany_23 v_clauses v_newMany newStalls_41 lines_41 v_salesNow v_outNow v_isKept v_keptStalls now_187 v_aside v_kept v_oneOf v_otherOf v_signOf v_byOf v_tape v_said v_waitsAt v_saidLetter v_saidFrom v_saidHalf v_saidTo v_codes v_clauseOf v_codeFrom v_codeHalf v_codeTo v_stack v_facts v_newOne v_newOther v_newSign v_newBy v_moreOf v_firstOf v_toldOf v_mostOf v_mostThen v_sumTo v_rowFrom v_ordersOf v_lessOf v_weightOf v_rowNow v_slowRow v_fastRow v_lineNow v_firstLine v_freeBy v_heldBy v_heightOf v_upTo v_downTo v_oftenOf newUpper_41 newLower_41)) rfl ?_
                        refine g_iinc X (lv' := [(3, vI (x3_105 + 1)), (4, vI t116), (0, .ref h)]) dX10_stock_188 2 rfl (by decide) rfl ?_
                        refine g_goto X (tgt := 105) dX10_stock_191 (by decide) ?_
                        refine g_lv [2, 0] rfl ?_
                        exact ih105 (x3_105 + 1) now_187 r_now_187 (by first | assumption | omega) (by first | assumption | omega) (by omega)
              refine g_lv [1, 0] rfl ?_
              exact L105 _ 0 v_now r_v_now (by first | assumption | omega) (by first | assumption | omega) (Nat.lt_succ_self _)
            · refine g_aload_n X dX10_stock_90 0 rfl ?_
              refine gM_get X 0 rfl 13 (by decide) uw1192 rfl dX10_stock_91 ?_
              exact hQ _ _ _ _ dX10_stock_94 ⟨v_stalls, 0, place0_41, length0_23, fault_41, number0_41, codeMany_23, saidMany_23, newStalls_41, lines_41, v_now, newUpper_41, newLower_41, (by omega), (by omega), (by omega), (by omega), (by omega), (by omega), (by omega), (by omega), (by omega), (by omega), r_v_now, r_newUpper_41, r_newLower_41, (by first | assumption | omega), (by first | assumption | omega), (by first | assumption | omega), (by first | assumption | omega), rfl⟩
          · have hG := w41_2
            rw [show x2_41 = 1 by omega] at hG
            have h8 := psC_e (sgP p0 (oct v_tape)) 59 place0_41
            refine g_aload_n X dX10_stock_45 0 rfl ?_
            refine gM_get X 0 rfl 11 (by decide) uw1190 rfl dX10_stock_46 ?_
            refine g_aload_n X dX10_stock_49 0 rfl ?_
            refine gM_get X 0 rfl 12 (by decide) uw1191 rfl dX10_stock_50 ?_
            refine g_icmp_ge X (tgt := 81) dX10_stock_53 (by decide) (by omega) (by omega) (fun c53 => ?_) (fun c53 => ?_)
            · have hA := SRI.out w41_2 (fun h => by omega)
              refine g_aload_n X dX10_stock_81 0 rfl ?_
              refine g_iconst X dX10_stock_82 ?_
              refine gM_put X 0 rfl 10 (by decide) uw1189 rfl rfl rfl (Nat.le_of_ble_eq_true rfl) dX10_stock_83 (ws2 := (wX10 cI cB cJ h q v_stalls v_claimMany 0 place0_41 length0_23 fault_41 number0_41 v_open codeMany_23 v_waiting saidMany_23 v_clauses v_newMany newStalls_41 lines_41 v_salesNow v_outNow v_isKept v_keptStalls v_now v_aside v_kept v_oneOf v_otherOf v_signOf v_byOf v_tape v_said v_waitsAt v_saidLetter v_saidFrom v_saidHalf v_saidTo v_codes v_clauseOf v_codeFrom v_codeHalf v_codeTo v_stack v_facts v_newOne v_newOther v_newSign v_newBy v_moreOf v_firstOf v_toldOf v_mostOf v_mostThen v_sumTo v_rowFrom v_ordersOf v_lessOf v_weightOf v_rowNow v_slowRow v_fastRow v_lineNow v_firstLine v_freeBy v_heldBy v_heightOf v_upTo v_downTo v_oftenOf newUpper_41 newLower_41)) rfl ?_
              refine g_iload_n X dX10_stock_86 1 rfl ?_
              refine g_if_ne X (tgt := 95) dX10_stock_87 (by decide) (by omega) (fun c87 => ?_) (fun c87 => ?_)
              · refine g_aload_n X dX10_stock_95 0 rfl ?_
                refine g_aload_n X dX10_stock_96 0 rfl ?_
                refine gM_get X 0 rfl 61 (by decide) uw1240 rfl dX10_stock_97 ?_
                refine gM_put X 0 rfl 7 (by decide) uw1186 rfl rfl rfl (Nat.le_of_ble_eq_true rfl) dX10_stock_100 (ws2 := (wX10 cI cB cJ h q newStalls_41 v_claimMany 0 place0_41 length0_23 fault_41 number0_41 v_open codeMany_23 v_waiting saidMany_23 v_clauses v_newMany newStalls_41 lines_41 v_salesNow v_outNow v_isKept v_keptStalls v_now v_aside v_kept v_oneOf v_otherOf v_signOf v_byOf v_tape v_said v_waitsAt v_saidLetter v_saidFrom v_saidHalf v_saidTo v_codes v_clauseOf v_codeFrom v_codeHalf v_codeTo v_stack v_facts v_newOne v_newOther v_newSign v_newBy v_moreOf v_firstOf v_toldOf v_mostOf v_mostThen v_sumTo v_rowFrom v_ordersOf v_lessOf v_weightOf v_rowNow v_slowRow v_fastRow v_lineNow v_firstLine v_freeBy v_heldBy v_heightOf v_upTo v_downTo v_oftenOf newUpper_41 newLower_41)) rfl ?_
                refine g_iconst X dX10_stock_103 ?_
                refine g_istore_n X (lv' := [(3, vI 0), (0, .ref h), (2, vI x2_41)]) dX10_stock_104 (by decide) rfl ?_
                have L105 : ∀ (n : Nat) (x3_105 : Int) (now_105 : Nat → Int), (RA (-2147483648) 2147483647 now_105) → (0 ≤ x3_105 ∧ x3_105 ≤ 8) → (now_105 32 = v_now 32) → (8 - x3_105).toNat < n → GG p l e ⟨4, 0, 0, 83⟩ s m args below meth c 0 0 Q D A s.heap 5 (wX10 cI cB cJ h q newStalls_41 v_claimMany 0 place0_41 length0_23 fault_41 number0_41 v_open codeMany_23 v_waiting saidMany_23 v_clauses v_newMany newStalls_41 lines_41 v_salesNow v_outNow v_isKept v_keptStalls now_105 v_aside v_kept v_oneOf v_otherOf v_signOf v_byOf v_tape v_said v_waitsAt v_saidLetter v_saidFrom v_saidHalf v_saidTo v_codes v_clauseOf v_codeFrom v_codeHalf v_codeTo v_stack v_facts v_newOne v_newOther v_newSign v_newBy v_moreOf v_firstOf v_toldOf v_mostOf v_mostThen v_sumTo v_rowFrom v_ordersOf v_lessOf v_weightOf v_rowNow v_slowRow v_fastRow v_lineNow v_firstLine v_freeBy v_heldBy v_heightOf v_upTo v_downTo v_oftenOf newUpper_41 newLower_41) 105 [(0, .ref h), (3, vI x3_105)] [] := by
                  intro n
                  induction n with
                  | zero => intros; exfalso; omega
                  | succ n ih105 =>
                    intro x3_105 now_105 r_now_105 w105_0 w105_1 wm105
                    refine g_iload_n X dX10_stock_105 1 rfl ?_
                    refine g_bipush X (z := 8) dX10_stock_106 (by decide) ?_
                    refine g_icmp_ge X (tgt := 194) dX10_stock_108 (by decide) (by omega) (by omega) (fun c108 => ?_) (fun c108 => ?_)
                    · refine g_aload_n X dX10_stock_194 0 rfl ?_
                      refine gM_get X 0 rfl 62 (by decide) uw1241 rfl dX10_stock_195 ?_
                      exact hQ _ _ _ _ dX10_stock_198 ⟨newStalls_41, 0, place0_41, length0_23, fault_41, number0_41, codeMany_23, saidMany_23, newStalls_41, lines_41, now_105, newUpper_41, newLower_41, (by omega), (by omega), (by omega), (by omega), (by omega), (by omega), (by omega), (by omega), (by omega), (by omega), r_now_105, r_newUpper_41, r_newLower_41, (by first | assumption | omega), (by first | assumption | omega), (by first | assumption | omega), (by first | assumption | omega), rfl⟩
                    · refine g_aload_n X dX10_stock_111 0 rfl ?_
                      refine gM_get X 0 rfl 7 (by decide) uw1186 rfl dX10_stock_112 ?_
                      refine g_iload_n X dX10_stock_115 1 rfl ?_
                      refine g_callSIE X (c_X10_has l D cI cB cJ (p0 := newStalls_41) (p1 := x3_105) (by first | assumption | omega) (by first | assumption | omega)) cv_X10_has uw1531 ⟨rfl, rfl, by decide, by decide⟩ rfl rfl (Nat.le_of_ble_eq_true rfl) ⟨Nat.zero_le _, Nat.zero_le _⟩ dX10_stock_116 (fun t116 ws116 k116 => ?_)
                      obtain ⟨kb_116, ⟨kp0_116, rfl⟩⟩ := k116
                      refine g_istore X (lv' := [(4, vI t116), (0, .ref h), (3, vI x3_105)]) dX10_stock_119 (by decide) rfl ?_
                      refine g_aload_n X dX10_stock_121 1 rfl ?_
                      refine gM_get X 0 rfl 0 (by decide) uw1179 rfl dX10_stock_122 ?_
                      refine g_iconst X dX10_stock_125 ?_
                      refine g_iload_n X dX10_stock_126 2 rfl ?_
                      refine g_iadd X dX10_stock_127 ?_
                      refine g_iload X dX10_stock_128 0 rfl ?_
                      refine g_if_eq X (tgt := 142) dX10_stock_130 (by decide) (by omega) (fun c130 => ?_) (fun c130 => ?_)
                      · clear kb_116
                        replace kp0_116 := (kp0_116.resolve_left (fun h => absurd h.1 (by omega))).2
                        refine g_iconst X dX10_stock_142 ?_
                        refine g_iast X 1 0 rfl rfl (by omega) (by decide) dX10_stock_143 (fun now_143 e143 => ?_)
                        have r_now_143 : RA (-2147483648) 2147483647 now_143 := by rw [e143]; exact RA_up r_now_105 (by omega)
                        have qnow_143_32 : now_143 32 = now_105 32 := by rw [e143]; exact updZ_n _ _ (by omega)
                        refine g_ws (ws2 := (wX10 cI cB cJ h q newStalls_41 v_claimMany 0 place0_41 length0_23 fault_41 number0_41 v_open codeMany_23 v_waiting saidMany_23 v_clauses v_newMany newStalls_41 lines_41 v_salesNow v_outNow v_isKept v_keptStalls now_143 v_aside v_kept v_oneOf v_otherOf v_signOf v_byOf v_tape v_said v_waitsAt v_saidLetter v_saidFrom v_saidHalf v_saidTo v_codes v_clauseOf v_codeFrom v_codeHalf v_codeTo v_stack v_facts v_newOne v_newOther v_newSign v_newBy v_moreOf v_firstOf v_toldOf v_mostOf v_mostThen v_sumTo v_rowFrom v_ordersOf v_lessOf v_weightOf v_rowNow v_slowRow v_fastRow v_lineNow v_firstLine v_freeBy v_heldBy v_heightOf v_upTo v_downTo v_oftenOf newUpper_41 newLower_41)) rfl ?_
                        refine g_aload_n X dX10_stock_144 1 rfl ?_
                        refine gM_get X 0 rfl 0 (by decide) uw1179 rfl dX10_stock_145 ?_
                        refine g_bipush X (z := 8) dX10_stock_148 (by decide) ?_
                        refine g_iload_n X dX10_stock_150 2 rfl ?_
                        refine g_iadd X dX10_stock_151 ?_
                        refine g_iload X dX10_stock_152 0 rfl ?_
                        refine g_if_eq X (tgt := 166) dX10_stock_154 (by decide) (by omega) (fun c154 => ?_) (fun c154 => ?_)
                        · refine g_iconst X dX10_stock_166 ?_
                          refine g_iast X 1 0 rfl rfl (by omega) (by decide) dX10_stock_167 (fun now_167 e167 => ?_)
                          have r_now_167 : RA (-2147483648) 2147483647 now_167 := by rw [e167]; exact RA_up r_now_143 (by omega)
                          have qnow_167_32 : now_167 32 = now_143 32 := by rw [e167]; exact updZ_n _ _ (by omega)
                          refine g_ws (ws2 := (wX10 cI cB cJ h q newStalls_41 v_claimMany 0 place0_41 length0_23 fault_41 number0_41 v_open codeMany_23 v_waiting saidMany_23 v_clauses v_newMany newStalls_41 lines_41 v_salesNow v_outNow v_isKept v_keptStalls now_167 v_aside v_kept v_oneOf v_otherOf v_signOf v_byOf v_tape v_said v_waitsAt v_saidLetter v_saidFrom v_saidHalf v_saidTo v_codes v_clauseOf v_codeFrom v_codeHalf v_codeTo v_stack v_facts v_newOne v_newOther v_newSign v_newBy v_moreOf v_firstOf v_toldOf v_mostOf v_mostThen v_sumTo v_rowFrom v_ordersOf v_lessOf v_weightOf v_rowNow v_slowRow v_fastRow v_lineNow v_firstLine v_freeBy v_heldBy v_heightOf v_upTo v_downTo v_oftenOf newUpper_41 newLower_41)) rfl ?_
                          refine g_aload_n X dX10_stock_168 1 rfl ?_
                          refine gM_get X 0 rfl 0 (by decide) uw1179 rfl dX10_stock_169 ?_
                          refine g_bipush X (z := 16) dX10_stock_172 (by decide) ?_
                          refine g_iload_n X dX10_stock_174 2 rfl ?_
                          refine g_iadd X dX10_stock_175 ?_
                          refine g_iconst X dX10_stock_176 ?_
                          refine g_iast X 1 0 rfl rfl (by omega) (by decide) dX10_stock_177 (fun now_177 e177 => ?_)
                          have r_now_177 : RA (-2147483648) 2147483647 now_177 := by rw [e177]; exact RA_up r_now_167 (by omega)
                          have qnow_177_32 : now_177 32 = now_167 32 := by rw [e177]; exact updZ_n _ _ (by omega)
                          refine g_ws (ws2 := (wX10 cI cB cJ h q newStalls_41 v_claimMany 0 place0_41 length0_23 fault_41 number0_41 v_open codeMany_23 v_waiting saidMany_23 v_clauses v_newMany newStalls_41 lines_41 v_salesNow v_outNow v_isKept v_keptStalls now_177 v_aside v_kept v_oneOf v_otherOf v_signOf v_byOf v_tape v_said v_waitsAt v_saidLetter v_saidFrom v_saidHalf v_saidTo v_codes v_clauseOf v_codeFrom v_codeHalf v_codeTo v_stack v_facts v_newOne v_newOther v_newSign v_newBy v_moreOf v_firstOf v_toldOf v_mostOf v_mostThen v_sumTo v_rowFrom v_ordersOf v_lessOf v_weightOf v_rowNow v_slowRow v_fastRow v_lineNow v_firstLine v_freeBy v_heldBy v_heightOf v_upTo v_downTo v_oftenOf newUpper_41 newLower_41)) rfl ?_
                          refine g_aload_n X dX10_stock_178 1 rfl ?_
                          refine gM_get X 0 rfl 0 (by decide) uw1179 rfl dX10_stock_179 ?_
                          refine g_bipush X (z := 24) dX10_stock_182 (by decide) ?_
                          refine g_iload_n X dX10_stock_184 2 rfl ?_
                          refine g_iadd X dX10_stock_185 ?_
                          refine g_iconst X dX10_stock_186 ?_
                          refine g_iast X 1 0 rfl rfl (by omega) (by decide) dX10_stock_187 (fun now_187 e187 => ?_)
                          have r_now_187 : RA (-2147483648) 2147483647 now_187 := by rw [e187]; exact RA_up r_now_177 (by omega)
                          have qnow_187_32 : now_187 32 = now_177 32 := by rw [e187]; exact updZ_n _ _ (by omega)
                          refine g_ws (ws2 := (wX10 cI cB cJ h q newStalls_41 v_claimMany 0 place0_41 length0_23 fault_41 number0_41 v_open codeMany_23 v_waiting saidMany_23 v_clauses v_newMany newStalls_41 lines_41 v_salesNow v_outNow v_isKept v_keptStalls now_187 v_aside v_kept v_oneOf v_otherOf v_signOf v_byOf v_tape v_said v_waitsAt v_saidLetter v_saidFrom v_saidHalf v_saidTo v_codes v_clauseOf v_codeFrom v_codeHalf v_codeTo v_stack v_facts v_newOne v_newOther v_newSign v_newBy v_moreOf v_firstOf v_toldOf v_mostOf v_mostThen v_sumTo v_rowFrom v_ordersOf v_lessOf v_weightOf v_rowNow v_slowRow v_fastRow v_lineNow v_firstLine v_freeBy v_heldBy v_heightOf v_upTo v_downTo v_oftenOf newUpper_41 newLower_41)) rfl ?_
                          refine g_iinc X (lv' := [(3, vI (x3_105 + 1)), (4, vI t116), (0, .ref h)]) dX10_stock_188 2 rfl (by decide) rfl ?_
                          refine g_goto X (tgt := 105) dX10_stock_191 (by decide) ?_
                          refine g_lv [2, 0] rfl ?_
                          exact ih105 (x3_105 + 1) now_187 r_now_187 (by first | assumption | omega) (by first | assumption | omega) (by omega)
                        · refine g_aload_n X dX10_stock_157 1 rfl ?_
                          refine gM_get X 0 rfl 60 (by decide) uw1239 rfl dX10_stock_158 ?_
                          refine g_iload_n X dX10_stock_161 2 rfl ?_
                          refine g_iald X 48 0 rfl rfl (by omega) (by decide) dX10_stock_162 (fun t162 e162 => ?_)
                          have r162 := r_newLower_41 (x3_105 : Int).toNat; rw [← e162] at r162
                          refine g_goto X (tgt := 167) dX10_stock_163 (by decide) ?_
                          refine g_iast X 1 0 rfl rfl (by omega) (by decide) dX10_stock_167 (fun now_167 e167 => ?_)
                          have r_now_167 : RA (-2147483648) 2147483647 now_167 := by rw [e167]; exact RA_up r_now_143 (by omega)
                          have qnow_167_32 : now_167 32 = now_143 32 := by rw [e167]; exact updZ_n _ _ (by omega)
                          refine g_ws (ws2 := (wX10 cI cB cJ h q newStalls_41 v_claimMany 0 place0_41 length0_23 fault_41 number0_41 v_open codeMany_23 v_waiting saidMany_23 v_clauses v_newMany newStalls_41 lines_41 v_salesNow v_outNow v_isKept v_keptStalls now_167 v_aside v_kept v_oneOf v_otherOf v_signOf v_byOf v_tape v_said v_waitsAt v_saidLetter v_saidFrom v_saidHalf v_saidTo v_codes v_clauseOf v_codeFrom v_codeHalf v_codeTo v_stack v_facts v_newOne v_newOther v_newSign v_newBy v_moreOf v_firstOf v_toldOf v_mostOf v_mostThen v_sumTo v_rowFrom v_ordersOf v_lessOf v_weightOf v_rowNow v_slowRow v_fastRow v_lineNow v_firstLine v_freeBy v_heldBy v_heightOf v_upTo v_downTo v_oftenOf newUpper_41 newLower_41)) rfl ?_
                          refine g_aload_n X dX10_stock_168 1 rfl ?_
                          refine gM_get X 0 rfl 0 (by decide) uw1179 rfl dX10_stock_169 ?_
                          refine g_bipush X (z := 16) dX10_stock_172 (by decide) ?_
                          refine g_iload_n X dX10_stock_174 2 rfl ?_
                          refine g_iadd X dX10_stock_175 ?_
                          refine g_iconst X dX10_stock_176 ?_
                          refine g_iast X 1 0 rfl rfl (by omega) (by decide) dX10_stock_177 (fun now_177 e177 => ?_)
                          have r_now_177 : RA (-2147483648) 2147483647 now_177 := by rw [e177]; exact RA_up r_now_167 (by omega)
                          have qnow_177_32 : now_177 32 = now_167 32 := by rw [e177]; exact updZ_n _ _ (by omega)
                          refine g_ws (ws2 := (wX10 cI cB cJ h q newStalls_41 v_claimMany 0 place0_41 length0_23 fault_41 number0_41 v_open codeMany_23 v_waiting saidMany_23 v_clauses v_newMany newStalls_41 lines_41 v_salesNow v_outNow v_isKept v_keptStalls now_177 v_aside v_kept v_oneOf v_otherOf v_signOf v_byOf v_tape v_said v_waitsAt v_saidLetter v_saidFrom v_saidHalf v_saidTo v_codes v_clauseOf v_codeFrom v_codeHalf v_codeTo v_stack v_facts v_newOne v_newOther v_newSign v_newBy v_moreOf v_firstOf v_toldOf v_mostOf v_mostThen v_sumTo v_rowFrom v_ordersOf v_lessOf v_weightOf v_rowNow v_slowRow v_fastRow v_lineNow v_firstLine v_freeBy v_heldBy v_heightOf v_upTo v_downTo v_oftenOf newUpper_41 newLower_41)) rfl ?_
                          refine g_aload_n X dX10_stock_178 1 rfl ?_
                          refine gM_get X 0 rfl 0 (by decide) uw1179 rfl dX10_stock_179 ?_
                          refine g_bipush X (z := 24) dX10_stock_182 (by decide) ?_
                          refine g_iload_n X dX10_stock_184 2 rfl ?_
                          refine g_iadd X dX10_stock_185 ?_
                          refine g_iconst X dX10_stock_186 ?_
                          refine g_iast X 1 0 rfl rfl (by omega) (by decide) dX10_stock_187 (fun now_187 e187 => ?_)
                          have r_now_187 : RA (-2147483648) 2147483647 now_187 := by rw [e187]; exact RA_up r_now_177 (by omega)
                          have qnow_187_32 : now_187 32 = now_177 32 := by rw [e187]; exact updZ_n _ _ (by omega)
                          refine g_ws (ws2 := (wX10 cI cB cJ h q newStalls_41 v_claimMany 0 place0_41 length0_23 fault_41 number0_41 v_open codeMany_23 v_waiting saidMany_23 v_clauses v_newMany newStalls_41 lines_41 v_salesNow v_outNow v_isKept v_keptStalls now_187 v_aside v_kept v_oneOf v_otherOf v_signOf v_byOf v_tape v_said v_waitsAt v_saidLetter v_saidFrom v_saidHalf v_saidTo v_codes v_clauseOf v_codeFrom v_codeHalf v_codeTo v_stack v_facts v_newOne v_newOther v_newSign v_newBy v_moreOf v_firstOf v_toldOf v_mostOf v_mostThen v_sumTo v_rowFrom v_ordersOf v_lessOf v_weightOf v_rowNow v_slowRow v_fastRow v_lineNow v_firstLine v_freeBy v_heldBy v_heightOf v_upTo v_downTo v_oftenOf newUpper_41 newLower_41)) rfl ?_
                          refine g_iinc X (lv' := [(3, vI (x3_105 + 1)), (4, vI t116), (0, .ref h)]) dX10_stock_188 2 rfl (by decide) rfl ?_
                          refine g_goto X (tgt := 105) dX10_stock_191 (by decide) ?_
                          refine g_lv [2, 0] rfl ?_
                          exact ih105 (x3_105 + 1) now_187 r_now_187 (by first | assumption | omega) (by first | assumption | omega) (by omega)
                      · replace kb_116 := kb_116.resolve_left (fun h => c130 h)
                        replace kp0_116 := kp0_116.resolve_right (fun h => c130 h.1)
                        refine g_aload_n X dX10_stock_133 1 rfl ?_
                        refine gM_get X 0 rfl 59 (by decide) uw1238 rfl dX10_stock_134 ?_
                        refine g_iload_n X dX10_stock_137 2 rfl ?_
                        refine g_iald X 47 0 rfl rfl (by omega) (by decide) dX10_stock_138 (fun t138 e138 => ?_)
                        have r138 := r_newUpper_41 (x3_105 : Int).toNat; rw [← e138] at r138
                        refine g_goto X (tgt := 143) dX10_stock_139 (by decide) ?_
                        refine g_iast X 1 0 rfl rfl (by omega) (by decide) dX10_stock_143 (fun now_143 e143 => ?_)
                        have r_now_143 : RA (-2147483648) 2147483647 now_143 := by rw [e143]; exact RA_up r_now_105 (by omega)
                        have qnow_143_32 : now_143 32 = now_105 32 := by rw [e143]; exact updZ_n _ _ (by omega)
                        refine g_ws (ws2 := (wX10 cI cB cJ h q newStalls_41 v_claimMany 0 place0_41 length0_23 fault_41 number0_41 v_open codeMany_23 v_waiting saidMany_23 v_clauses v_newMany newStalls_41 lines_41 v_salesNow v_outNow v_isKept v_keptStalls now_143 v_aside v_kept v_oneOf v_otherOf v_signOf v_byOf v_tape v_said v_waitsAt v_saidLetter v_saidFrom v_saidHalf v_saidTo v_codes v_clauseOf v_codeFrom v_codeHalf v_codeTo v_stack v_facts v_newOne v_newOther v_newSign v_newBy v_moreOf v_firstOf v_toldOf v_mostOf v_mostThen v_sumTo v_rowFrom v_ordersOf v_lessOf v_weightOf v_rowNow v_slowRow v_fastRow v_lineNow v_firstLine v_freeBy v_heldBy v_heightOf v_upTo v_downTo v_oftenOf newUpper_41 newLower_41)) rfl ?_
                        refine g_aload_n X dX10_stock_144 1 rfl ?_
                        refine gM_get X 0 rfl 0 (by decide) uw1179 rfl dX10_stock_145 ?_
                        refine g_bipush X (z := 8) dX10_stock_148 (by decide) ?_
                        refine g_iload_n X dX10_stock_150 2 rfl ?_
                        refine g_iadd X dX10_stock_151 ?_
                        refine g_iload X dX10_stock_152 0 rfl ?_
                        refine g_if_eq X (tgt := 166) dX10_stock_154 (by decide) (by omega) (fun c154 => ?_) (fun c154 => ?_)
                        · refine g_iconst X dX10_stock_166 ?_
                          refine g_iast X 1 0 rfl rfl (by omega) (by decide) dX10_stock_167 (fun now_167 e167 => ?_)
                          have r_now_167 : RA (-2147483648) 2147483647 now_167 := by rw [e167]; exact RA_up r_now_143 (by omega)
                          have qnow_167_32 : now_167 32 = now_143 32 := by rw [e167]; exact updZ_n _ _ (by omega)
                          refine g_ws (ws2 := (wX10 cI cB cJ h q newStalls_41 v_claimMany 0 place0_41 length0_23 fault_41 number0_41 v_open codeMany_23 v_waiting saidMany_23 v_clauses v_newMany newStalls_41 lines_41 v_salesNow v_outNow v_isKept v_keptStalls now_167 v_aside v_kept v_oneOf v_otherOf v_signOf v_byOf v_tape v_said v_waitsAt v_saidLetter v_saidFrom v_saidHalf v_saidTo v_codes v_clauseOf v_codeFrom v_codeHalf v_codeTo v_stack v_facts v_newOne v_newOther v_newSign v_newBy v_moreOf v_firstOf v_toldOf v_mostOf v_mostThen v_sumTo v_rowFrom v_ordersOf v_lessOf v_weightOf v_rowNow v_slowRow v_fastRow v_lineNow v_firstLine v_freeBy v_heldBy v_heightOf v_upTo v_downTo v_oftenOf newUpper_41 newLower_41)) rfl ?_
                          refine g_aload_n X dX10_stock_168 1 rfl ?_
                          refine gM_get X 0 rfl 0 (by decide) uw1179 rfl dX10_stock_169 ?_
                          refine g_bipush X (z := 16) dX10_stock_172 (by decide) ?_
                          refine g_iload_n X dX10_stock_174 2 rfl ?_
                          refine g_iadd X dX10_stock_175 ?_
                          refine g_iconst X dX10_stock_176 ?_
                          refine g_iast X 1 0 rfl rfl (by omega) (by decide) dX10_stock_177 (fun now_177 e177 => ?_)
                          have r_now_177 : RA (-2147483648) 2147483647 now_177 := by rw [e177]; exact RA_up r_now_167 (by omega)
                          have qnow_177_32 : now_177 32 = now_167 32 := by rw [e177]; exact updZ_n _ _ (by omega)
                          refine g_ws (ws2 := (wX10 cI cB cJ h q newStalls_41 v_claimMany 0 place0_41 length0_23 fault_41 number0_41 v_open codeMany_23 v_waiting saidMany_23 v_clauses v_newMany newStalls_41 lines_41 v_salesNow v_outNow v_isKept v_keptStalls now_177 v_aside v_kept v_oneOf v_otherOf v_signOf v_byOf v_tape v_said v_waitsAt v_saidLetter v_saidFrom v_saidHalf v_saidTo v_codes v_clauseOf v_codeFrom v_codeHalf v_codeTo v_stack v_facts v_newOne v_newOther v_newSign v_newBy v_moreOf v_firstOf v_toldOf v_mostOf v_mostThen v_sumTo v_rowFrom v_ordersOf v_lessOf v_weightOf v_rowNow v_slowRow v_fastRow v_lineNow v_firstLine v_freeBy v_heldBy v_heightOf v_upTo v_downTo v_oftenOf newUpper_41 newLower_41)) rfl ?_
                          refine g_aload_n X dX10_stock_178 1 rfl ?_
                          refine gM_get X 0 rfl 0 (by decide) uw1179 rfl dX10_stock_179 ?_
                          refine g_bipush X (z := 24) dX10_stock_182 (by decide) ?_
                          refine g_iload_n X dX10_stock_184 2 rfl ?_
                          refine g_iadd X dX10_stock_185 ?_
                          refine g_iconst X dX10_stock_186 ?_
                          refine g_iast X 1 0 rfl rfl (by omega) (by decide) dX10_stock_187 (fun now_187 e187 => ?_)
                          have r_now_187 : RA (-2147483648) 2147483647 now_187 := by rw [e187]; exact RA_up r_now_177 (by omega)
                          have qnow_187_32 : now_187 32 = now_177 32 := by rw [e187]; exact updZ_n _ _ (by omega)
                          refine g_ws (ws2 := (wX10 cI cB cJ h q newStalls_41 v_claimMany 0 place0_41 length0_23 fault_41 number0_41 v_open codeMany_23 v_waiting saidMany_23 v_clauses v_newMany newStalls_41 lines_41 v_salesNow v_outNow v_isKept v_keptStalls now_187 v_aside v_kept v_oneOf v_otherOf v_signOf v_byOf v_tape v_said v_waitsAt v_saidLetter v_saidFrom v_saidHalf v_saidTo v_codes v_clauseOf v_codeFrom v_codeHalf v_codeTo v_stack v_facts v_newOne v_newOther v_newSign v_newBy v_moreOf v_firstOf v_toldOf v_mostOf v_mostThen v_sumTo v_rowFrom v_ordersOf v_lessOf v_weightOf v_rowNow v_slowRow v_fastRow v_lineNow v_firstLine v_freeBy v_heldBy v_heightOf v_upTo v_downTo v_oftenOf newUpper_41 newLower_41)) rfl ?_
                          refine g_iinc X (lv' := [(3, vI (x3_105 + 1)), (4, vI t116), (0, .ref h)]) dX10_stock_188 2 rfl (by decide) rfl ?_
                          refine g_goto X (tgt := 105) dX10_stock_191 (by decide) ?_
                          refine g_lv [2, 0] rfl ?_
                          exact ih105 (x3_105 + 1) now_187 r_now_187 (by first | assumption | omega) (by first | assumption | omega) (by omega)
                        · refine g_aload_n X dX10_stock_157 1 rfl ?_
                          refine gM_get X 0 rfl 60 (by decide) uw1239 rfl dX10_stock_158 ?_
                          refine g_iload_n X dX10_stock_161 2 rfl ?_
                          refine g_iald X 48 0 rfl rfl (by omega) (by decide) dX10_stock_162 (fun t162 e162 => ?_)
                          have r162 := r_newLower_41 (x3_105 : Int).toNat; rw [← e162] at r162
                          refine g_goto X (tgt := 167) dX10_stock_163 (by decide) ?_
                          refine g_iast X 1 0 rfl rfl (by omega) (by decide) dX10_stock_167 (fun now_167 e167 => ?_)
                          have r_now_167 : RA (-2147483648) 2147483647 now_167 := by rw [e167]; exact RA_up r_now_143 (by omega)
                          have qnow_167_32 : now_167 32 = now_143 32 := by rw [e167]; exact updZ_n _ _ (by omega)
                          refine g_ws (ws2 := (wX10 cI cB cJ h q newStalls_41 v_claimMany 0 place0_41 length0_23 fault_41 number0_41 v_open codeMany_23 v_waiting saidMany_23 v_clauses v_newMany newStalls_41 lines_41 v_salesNow v_outNow v_isKept v_keptStalls now_167 v_aside v_kept v_oneOf v_otherOf v_signOf v_byOf v_tape v_said v_waitsAt v_saidLetter v_saidFrom v_saidHalf v_saidTo v_codes v_clauseOf v_codeFrom v_codeHalf v_codeTo v_stack v_facts v_newOne v_newOther v_newSign v_newBy v_moreOf v_firstOf v_toldOf v_mostOf v_mostThen v_sumTo v_rowFrom v_ordersOf v_lessOf v_weightOf v_rowNow v_slowRow v_fastRow v_lineNow v_firstLine v_freeBy v_heldBy v_heightOf v_upTo v_downTo v_oftenOf newUpper_41 newLower_41)) rfl ?_
                          refine g_aload_n X dX10_stock_168 1 rfl ?_
                          refine gM_get X 0 rfl 0 (by decide) uw1179 rfl dX10_stock_169 ?_
                          refine g_bipush X (z := 16) dX10_stock_172 (by decide) ?_
                          refine g_iload_n X dX10_stock_174 2 rfl ?_
                          refine g_iadd X dX10_stock_175 ?_
                          refine g_iconst X dX10_stock_176 ?_
                          refine g_iast X 1 0 rfl rfl (by omega) (by decide) dX10_stock_177 (fun now_177 e177 => ?_)
                          have r_now_177 : RA (-2147483648) 2147483647 now_177 := by rw [e177]; exact RA_up r_now_167 (by omega)
                          have qnow_177_32 : now_177 32 = now_167 32 := by rw [e177]; exact updZ_n _ _ (by omega)
                          refine g_ws (ws2 := (wX10 cI cB cJ h q newStalls_41 v_claimMany 0 place0_41 length0_23 fault_41 number0_41 v_open codeMany_23 v_waiting saidMany_23 v_clauses v_newMany newStalls_41 lines_41 v_salesNow v_outNow v_isKept v_keptStalls now_177 v_aside v_kept v_oneOf v_otherOf v_signOf v_byOf v_tape v_said v_waitsAt v_saidLetter v_saidFrom v_saidHalf v_saidTo v_codes v_clauseOf v_codeFrom v_codeHalf v_codeTo v_stack v_facts v_newOne v_newOther v_newSign v_newBy v_moreOf v_firstOf v_toldOf v_mostOf v_mostThen v_sumTo v_rowFrom v_ordersOf v_lessOf v_weightOf v_rowNow v_slowRow v_fastRow v_lineNow v_firstLine v_freeBy v_heldBy v_heightOf v_upTo v_downTo v_oftenOf newUpper_41 newLower_41)) rfl ?_
                          refine g_aload_n X dX10_stock_178 1 rfl ?_
                          refine gM_get X 0 rfl 0 (by decide) uw1179 rfl dX10_stock_179 ?_
                          refine g_bipush X (z := 24) dX10_stock_182 (by decide) ?_
                          refine g_iload_n X dX10_stock_184 2 rfl ?_
                          refine g_iadd X dX10_stock_185 ?_
                          refine g_iconst X dX10_stock_186 ?_
                          refine g_iast X 1 0 rfl rfl (by omega) (by decide) dX10_stock_187 (fun now_187 e187 => ?_)
                          have r_now_187 : RA (-2147483648) 2147483647 now_187 := by rw [e187]; exact RA_up r_now_177 (by omega)
                          have qnow_187_32 : now_187 32 = now_177 32 := by rw [e187]; exact updZ_n _ _ (by omega)
                          refine g_ws (ws2 := (wX10 cI cB cJ h q newStalls_41 v_claimMany 0 place0_41 length0_23 fault_41 number0_41 v_open codeMany_23 v_waiting saidMany_23 v_clauses v_newMany newStalls_41 lines_41 v_salesNow v_outNow v_isKept v_keptStalls now_187 v_aside v_kept v_oneOf v_otherOf v_signOf v_byOf v_tape v_said v_waitsAt v_saidLetter v_saidFrom v_saidHalf v_saidTo v_codes v_clauseOf v_codeFrom v_codeHalf v_codeTo v_stack v_facts v_newOne v_newOther v_newSign v_newBy v_moreOf v_firstOf v_toldOf v_mostOf v_mostThen v_sumTo v_rowFrom v_ordersOf v_lessOf v_weightOf v_rowNow v_slowRow v_fastRow v_lineNow v_firstLine v_freeBy v_heldBy v_heightOf v_upTo v_downTo v_oftenOf newUpper_41 newLower_41)) rfl ?_
                          refine g_iinc X (lv' := [(3, vI (x3_105 + 1)), (4, vI t116), (0, .ref h)]) dX10_stock_188 2 rfl (by decide) rfl ?_
                          refine g_goto X (tgt := 105) dX10_stock_191 (by decide) ?_
                          refine g_lv [2, 0] rfl ?_
                          exact ih105 (x3_105 + 1) now_187 r_now_187 (by first | assumption | omega) (by first | assumption | omega) (by omega)
                refine g_lv [1, 0] rfl ?_
                exact L105 _ 0 v_now r_v_now (by first | assumption | omega) (by first | assumption | omega) (Nat.lt_succ_self _)
              · refine g_aload_n X dX10_stock_90 0 rfl ?_
                refine gM_get X 0 rfl 13 (by decide) uw1192 rfl dX10_stock_91 ?_
                exact hQ _ _ _ _ dX10_stock_94 ⟨v_stalls, 0, place0_41, length0_23, fault_41, number0_41, codeMany_23, saidMany_23, newStalls_41, lines_41, v_now, newUpper_41, newLower_41, (by omega), (by omega), (by omega), (by omega), (by omega), (by omega), (by omega), (by omega), (by omega), (by omega), r_v_now, r_newUpper_41, r_newLower_41, (by first | assumption | omega), (by first | assumption | omega), (by first | assumption | omega), (by first | assumption | omega), rfl⟩
            · refine g_aload_n X dX10_stock_56 0 rfl ?_
              refine g_bipush X (z := 59) dX10_stock_57 (by decide) ?_
              refine g_callVI0 X (c_X10_takes l D cI cB cJ h q (p0 := 59) (by omega) (by omega) (by omega) r_v_tape (by first | assumption | omega) (by first | assumption | omega)) cv_X10_takes uw1476 ⟨rfl, rfl, by decide, by decide⟩ 0 rfl rfl rfl rfl rfl (Nat.le_of_ble_eq_true rfl) ⟨Nat.zero_le _, Nat.zero_le _⟩ dX10_stock_59 (fun t59 ws59 k59 => ?_)
              obtain ⟨kb_59, ⟨place0_59, fault_59, kr_place0_59, kr_fault_59, kp0_59, kp1_59, rfl⟩⟩ := k59
              rw [hL0] at kp1_59
              refine g_if_eq X (tgt := 76) dX10_stock_62 (by decide) (by omega) (fun c62 => ?_) (fun c62 => ?_)
              · clear kb_59
                replace kp0_59 := (kp0_59.resolve_left (fun h => absurd h.1 (by omega))).2
                replace kp1_59 := (kp1_59.resolve_left (fun h => absurd h.1 (by omega))).2
                refine g_iconst X dX10_stock_76 ?_
                refine g_istore_n X (lv' := [(2, vI 0), (0, .ref h)]) dX10_stock_77 (by decide) rfl ?_
                refine g_goto X (tgt := 41) dX10_stock_78 (by decide) ?_
                refine g_lv [1, 0] rfl ?_
                exact ih41 0 place0_59 fault_59 number0_41 newStalls_41 lines_41 newUpper_41 newLower_41 (by omega) (by omega) (by omega) (by omega) (by omega) r_newUpper_41 r_newLower_41 (by first | assumption | omega) (by first | assumption | omega) (by first | exact SRI.ini kp2_37 (by omega) (by omega) (by omega) | exact SRI.bad hG (by omega) (by omega) (by omega) rfl _ _ _ | exact SRI.step hG (by omega) (by omega) (by omega) (by omega) (by have h9 := kp2_66; rw [show t66 = 1 by omega] at h9; exact h9) (by omega) | exact SRI.step hG (by omega) (by omega) (by omega) (by omega) (by have h9 := kp2_66; rw [show t66 = 0 by omega] at h9; exact h9) (by omega)) (by omega)
              · replace kb_59 := kb_59.resolve_left (fun h => c62 h)
                replace kp0_59 := kp0_59.resolve_right (fun h => c62 h.1)
                replace kp1_59 := kp1_59.resolve_right (fun h => c62 h.1)
                refine g_aload_n X dX10_stock_65 0 rfl ?_
                refine g_callVI0 X (c_X10_readsStall l D cI cB cJ h q  (by omega) (by omega) (by omega) (by omega) (by omega) (by omega) r_v_tape r_newUpper_41 r_newLower_41) cv_X10_readsStall uw1749 ⟨rfl, rfl, by decide, by decide⟩ 0 rfl rfl rfl rfl rfl (Nat.le_of_ble_eq_true rfl) ⟨Nat.zero_le _, Nat.zero_le _⟩ dX10_stock_66 (fun t66 ws66 k66 => ?_)
                obtain ⟨kb_66, ⟨place0_66, fault_66, number0_66, newStalls_66, lines_66, newUpper_66, newLower_66, kr_place0_66, kr_fault_66, kr_number0_66, kr_newStalls_66, kr_lines_66, r_newUpper_66, r_newLower_66, kp0_66, kp1_66, kp2_66, rfl⟩⟩ := k66
                rw [hL0] at kp2_66
                refine g_if_eq X (tgt := 76) dX10_stock_69 (by decide) (by omega) (fun c69 => ?_) (fun c69 => ?_)
                · clear kb_66
                  clear kp1_66
                  refine g_iconst X dX10_stock_76 ?_
                  refine g_istore_n X (lv' := [(2, vI 0), (0, .ref h)]) dX10_stock_77 (by decide) rfl ?_
                  refine g_goto X (tgt := 41) dX10_stock_78 (by decide) ?_
                  refine g_lv [1, 0] rfl ?_
                  exact ih41 0 place0_66 fault_66 number0_66 newStalls_66 lines_66 newUpper_66 newLower_66 (by omega) (by omega) (by omega) (by omega) (by omega) r_newUpper_66 r_newLower_66 (by first | assumption | omega) (by first | assumption | omega) (by first | exact SRI.ini kp2_37 (by omega) (by omega) (by omega) | exact SRI.bad hG (by omega) (by omega) (by omega) rfl _ _ _ | exact SRI.step hG (by omega) (by omega) (by omega) (by omega) (by have h9 := kp2_66; rw [show t66 = 1 by omega] at h9; exact h9) (by omega) | exact SRI.step hG (by omega) (by omega) (by omega) (by omega) (by have h9 := kp2_66; rw [show t66 = 0 by omega] at h9; exact h9) (by omega)) (by omega)
                · replace kb_66 := kb_66.resolve_left (fun h => c69 h)
                  replace kp1_66 := kp1_66 kb_66
                  refine g_iconst X dX10_stock_72 ?_
                  refine g_goto X (tgt := 77) dX10_stock_73 (by decide) ?_
                  refine g_istore_n X (lv' := [(2, vI 1), (0, .ref h)]) dX10_stock_77 (by decide) rfl ?_
                  refine g_goto X (tgt := 41) dX10_stock_78 (by decide) ?_
                  refine g_lv [1, 0] rfl ?_
                  exact ih41 1 place0_66 fault_66 number0_66 newStalls_66 lines_66 newUpper_66 newLower_66 (by omega) (by omega) (by omega) (by omega) (by omega) r_newUpper_66 r_newLower_66 (by first | assumption | omega) (by first | assumption | omega) (by first | exact SRI.ini kp2_37 (by omega) (by omega) (by omega) | exact SRI.bad hG (by omega) (by omega) (by omega) rfl _ _ _ | exact SRI.step hG (by omega) (by omega) (by omega) (by omega) (by have h9 := kp2_66; rw [show t66 = 1 by omega] at h9; exact h9) (by omega) | exact SRI.step hG (by omega) (by omega) (by omega) (by omega) (by have h9 := kp2_66; rw [show t66 = 0 by omega] at h9; exact h9) (by omega)) (by omega)
      refine g_lv [1, 0] rfl ?_
      exact L41 _ t37 place0_37 fault_37 number0_37 newStalls_37 lines_37 newUpper_37 newLower_37 (by omega) (by omega) (by omega) (by omega) (by omega) r_newUpper_37 r_newLower_37 (by first | assumption | omega) (by first | assumption | omega) (by first | exact SRI.ini kp2_37 (by omega) (by omega) (by omega) | exact SRI.bad hG (by omega) (by omega) (by omega) rfl _ _ _ | exact SRI.step hG (by omega) (by omega) (by omega) (by omega) (by have h9 := kp2_66; rw [show t66 = 1 by omega] at h9; exact h9) (by omega) | exact SRI.step hG (by omega) (by omega) (by omega) (by omega) (by have h9 := kp2_66; rw [show t66 = 0 by omega] at h9; exact h9) (by omega)) (Nat.lt_succ_self _)
    · refine g_iconst X dX10_stock_19 ?_
      exact hQ _ _ _ _ dX10_stock_20 ⟨v_stalls, v_taped, v_place0, v_length0, v_fault, v_number0, v_codeMany, v_saidMany, v_newStalls, v_lines, v_now, v_newUpper, v_newLower, (by omega), (by omega), (by omega), (by omega), (by omega), (by omega), (by omega), (by omega), (by omega), (by omega), r_v_now, r_v_newUpper, r_v_newLower, (by first | assumption | omega), (by first | assumption | omega), (by first | assumption | omega), (by first | assumption | omega), rfl⟩
