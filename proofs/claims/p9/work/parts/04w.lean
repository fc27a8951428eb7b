set_option maxHeartbeats 4000000 in
set_option maxRecDepth 100000 in
theorem c_X10_sumBy (l : Launch) (D : va_G) (cI cB cJ : ClassId) (h : Nat) (q : Nat → Nat) {v_stalls v_claimMany v_taped v_place0 v_length0 v_fault v_number0 v_open v_codeMany v_waiting v_saidMany v_clauses v_newMany v_newStalls v_lines v_salesNow v_outNow v_isKept v_keptStalls : Int} {v_now v_aside v_kept v_oneOf v_otherOf v_signOf v_byOf v_tape v_said v_waitsAt v_saidLetter v_saidFrom v_saidHalf v_saidTo v_codes v_clauseOf v_codeFrom v_codeHalf v_codeTo v_stack v_facts v_newOne v_newOther v_newSign v_newBy v_moreOf v_firstOf v_toldOf v_mostOf v_mostThen v_sumTo v_rowFrom v_ordersOf v_lessOf v_weightOf v_rowNow v_slowRow v_fastRow v_lineNow v_firstLine v_freeBy v_heldBy v_heightOf v_upTo v_downTo v_oftenOf v_newUpper v_newLower : Nat → Int} {p0 p1 : Int} (r_v_toldOf : RA (-9999) 1000000 v_toldOf) (r_v_sumTo : RA (-2147483648) 2147483647 v_sumTo) (hp0 : IR p0) (hp1 : IR p1) (hp2 : 1 ≤ p0 ∧ p0 ≤ 4095) (hp3 : 0 ≤ p1 ∧ p1 ≤ 11) (hp4 : hasZ p0 p1 = 1) (hp5 : TB v_toldOf) (hp6 : ∀ S p : Nat, 1 ≤ S → (S : Int) < p0 → p < 12 → riS v_toldOf S p (v_sumTo (12 * S + p))) : CtI l yX10_sumBy cX10_sumBy 6 (some .int) ⟨2, 0, 0, 42⟩ D (TY cI cB cJ) (wX10 cI cB cJ h q v_stalls v_claimMany v_taped v_place0 v_length0 v_fault v_number0 v_open v_codeMany v_waiting v_saidMany v_clauses v_newMany v_newStalls v_lines v_salesNow v_outNow v_isKept v_keptStalls v_now v_aside v_kept v_oneOf v_otherOf v_signOf v_byOf v_tape v_said v_waitsAt v_saidLetter v_saidFrom v_saidHalf v_saidTo v_codes v_clauseOf v_codeFrom v_codeHalf v_codeTo v_stack v_facts v_newOne v_newOther v_newSign v_newBy v_moreOf v_firstOf v_toldOf v_mostOf v_mostThen v_sumTo v_rowFrom v_ordersOf v_lessOf v_weightOf v_rowNow v_slowRow v_fastRow v_lineNow v_firstLine v_freeBy v_heldBy v_heightOf v_upTo v_downTo v_oftenOf v_newUpper v_newLower) [.ref h, vI p0, vI p1] (fun z ws' => (-109989 ≤ z ∧ z ≤ 1000000) ∧ (riS v_toldOf p0.toNat p1.toNat z) ∧ (ws' = (wX10 cI cB cJ h q v_stalls v_claimMany v_taped v_place0 v_length0 v_fault v_number0 v_open v_codeMany v_waiting v_saidMany v_clauses v_newMany v_newStalls v_lines v_salesNow v_outNow v_isKept v_keptStalls v_now v_aside v_kept v_oneOf v_otherOf v_signOf v_byOf v_tape v_said v_waitsAt v_saidLetter v_saidFrom v_saidHalf v_saidTo v_codes v_clauseOf v_codeFrom v_codeHalf v_codeTo v_stack v_facts v_newOne v_newOther v_newSign v_newBy v_moreOf v_firstOf v_toldOf v_mostOf v_mostThen v_sumTo v_rowFrom v_ordersOf v_lessOf v_weightOf v_rowNow v_slowRow v_fastRow v_lineNow v_firstLine v_freeBy v_heldBy v_heightOf v_upTo v_downTo v_oftenOf v_newUpper v_newLower))) := by
  refine hdrI (own := RX10) rfl (by decide +kernel) (Nat.le_of_ble_eq_true rfl) ?_
  intro p e s m args below meth c Q A X hQ
  refine g_lvE (lv2 := [(0, .ref h), (1, vI p0), (2, vI p1)]) rfl ?_
  have hlow := low_ex p0 (by omega)
  have hpb : p0.toNat.testBit p1.toNat = true := (tb_Z (by omega) (by omega)).mp hp4
  have hR : ∀ x : Nat, (sbN p0.toNat p1.toNat).testBit x = true ↔ p0.toNat.testBit x = true ∧ x ≠ p1.toNat := fun x => by rw [sbN_bit (show p0.toNat < 4096 by omega) (show p1.toNat < 12 by omega), Bool.and_eq_true, decide_eq_true_iff]
  have hR4 : (sbN p0.toNat p1.toNat) < p0.toNat := sbN_lt (by omega) (by omega) hpb
  refine g_iload_n X dX10_sumBy_0 1 rfl ?_
  refine g_iconst X dX10_sumBy_1 ?_
  refine g_iload_n X dX10_sumBy_2 2 rfl ?_
  refine g_ishl X dX10_sumBy_3 ?_
  refine g_nm (fun t3 e3 => ?_)
  have r3 : IR t3 := by rw [e3]; exact z_ir _
  refine g_iconst X dX10_sumBy_4 ?_
  refine g_ixor X dX10_sumBy_5 ?_
  refine g_nm (fun t5 e5 => ?_)
  have r5 : IR t5 := by rw [e5]; exact z_ir _
  refine g_iand X dX10_sumBy_6 ?_
  refine g_nm (fun t6 e6 => ?_)
  have r6 := z_iand_l p0 t5 (by omega) (by omega); rw [← e6] at r6
  have h6 : t6 = (((sbN p0.toNat p1.toNat) : Nat) : Int) := by rw [e6, e5, e3]; exact z_sb (by omega) (by omega)
  have n6 : (t6).toNat = (sbN p0.toNat p1.toNat) := by rw [h6]; exact Int.toNat_natCast _
  refine g_istore_n X (lv' := [(3, vI t6), (0, .ref h), (1, vI p0), (2, vI p1)]) dX10_sumBy_7 (by decide) rfl ?_
  refine g_iload_n X dX10_sumBy_8 0 rfl ?_
  refine g_if_ne X (tgt := 14) dX10_sumBy_9 (by decide) (by omega) (fun c9 => ?_) (fun c9 => ?_)
  · refine g_iload_n X dX10_sumBy_14 3 rfl ?_
    refine g_iload_n X dX10_sumBy_15 2 rfl ?_
    refine g_callSIE X (c_X10_lowest l D cI cB cJ (p0 := p0) (by first | assumption | omega) (by first | assumption | omega)) cv_X10_lowest uw1528 ⟨rfl, rfl, by decide, by decide⟩ rfl rfl (Nat.le_of_ble_eq_true rfl) ⟨Nat.zero_le _, Nat.zero_le _⟩ dX10_sumBy_16 (fun t16 ws16 k16 => ?_)
    obtain ⟨kp0_16, kp1_16, kp2_16, rfl⟩ := k16
    have hlw : riLow p0.toNat (t16).toNat := ⟨(tb_Z (by omega) (by omega)).mp kp1_16, fun k hk => by have h9 := kp2_16 (k : Int) (by omega) (by omega); have h8 := tb_Z (s := p0) (k := (k : Int)) (by omega) (by omega); rw [Int.toNat_natCast] at h8; rcases Bool.eq_false_or_eq_true (p0.toNat.testBit k) with h | h; exact absurd (h8.mpr h) h9; exact h⟩
    refine g_icmp_ne X (tgt := 26) dX10_sumBy_19 (by decide) (by omega) (by omega) (fun c19 => ?_) (fun c19 => ?_)
    · refine g_ldcw X (z := 1000000) dX10_sumBy_26 uw1546 (by decide) ?_
      refine g_istore X (lv' := [(4, vI 1000000), (3, vI t6), (0, .ref h), (1, vI p0), (2, vI p1)]) dX10_sumBy_29 (by decide) rfl ?_
      refine g_iconst X dX10_sumBy_31 ?_
      refine g_istore X (lv' := [(5, vI 0), (4, vI 1000000), (3, vI t6), (0, .ref h), (1, vI p0), (2, vI p1)]) dX10_sumBy_32 (by decide) rfl ?_
      have L34 : ∀ (n : Nat) (x4_34 : Int) (x5_34 : Int), (0 ≤ x5_34 ∧ x5_34 ≤ 12) → (-300000 ≤ x4_34 ∧ x4_34 ≤ 1000000) → (riY v_toldOf (sbN p0.toNat p1.toNat) p1.toNat (fun p => v_sumTo (12 * (sbN p0.toNat p1.toNat) + p)) (x5_34) x4_34) → (12 - x5_34).toNat < n → GG p l e ⟨2, 0, 0, 42⟩ s m args below meth c 0 0 Q D A s.heap 6 (wX10 cI cB cJ h q v_stalls v_claimMany v_taped v_place0 v_length0 v_fault v_number0 v_open v_codeMany v_waiting v_saidMany v_clauses v_newMany v_newStalls v_lines v_salesNow v_outNow v_isKept v_keptStalls v_now v_aside v_kept v_oneOf v_otherOf v_signOf v_byOf v_tape v_said v_waitsAt v_saidLetter v_saidFrom v_saidHalf v_saidTo v_codes v_clauseOf v_codeFrom v_codeHalf v_codeTo v_stack v_facts v_newOne v_newOther v_newSign v_newBy v_moreOf v_firstOf v_toldOf v_mostOf v_mostThen v_sumTo v_rowFrom v_ordersOf v_lessOf v_weightOf v_rowNow v_slowRow v_fastRow v_lineNow v_firstLine v_freeBy v_heldBy v_heightOf v_upTo v_downTo v_oftenOf v_newUpper v_newLower) 34 [(0, .ref h), (2, vI p1), (3, vI t6), (4, vI x4_34), (5, vI x5_34)] [] := by
        intro n
        induction n with
        | zero => intros; exfalso; omega
        | succ n ih34 =>
          intro x4_34 x5_34 w34_0 w34_1 w34_2 wm34
          refine g_iload X dX10_sumBy_34 4 rfl ?_
          refine g_bipush X (z := 12) dX10_sumBy_36 (by decide) ?_
          refine g_icmp_ge X (tgt := 114) dX10_sumBy_38 (by decide) (by omega) (by omega) (fun c38 => ?_) (fun c38 => ?_)
          · refine g_iload X dX10_sumBy_114 3 rfl ?_
            rw [show x5_34 = 12 by omega] at w34_2
            have hS : riS v_toldOf p0.toNat p1.toNat x4_34 := riS.step hp5 (by omega) hpb hR (by omega) (fun h => absurd (hlw.u h) (by omega)) (fun p h1 h2 => hp6 _ p (by omega) (by omega) h1) w34_2
            exact hQ _ _ _ _ dX10_sumBy_116 ⟨(by first | omega | exact hS.r hp5 (by omega)), (by exact hS), rfl⟩
          · refine g_iload_n X dX10_sumBy_41 2 rfl ?_
            refine g_iload X dX10_sumBy_42 4 rfl ?_
            refine g_callSIE X (c_X10_has l D cI cB cJ (p0 := t6) (p1 := x5_34) (by first | assumption | omega) (by first | assumption | omega)) cv_X10_has uw1531 ⟨rfl, rfl, by decide, by decide⟩ rfl rfl (Nat.le_of_ble_eq_true rfl) ⟨Nat.zero_le _, Nat.zero_le _⟩ dX10_sumBy_44 (fun t44 ws44 k44 => ?_)
            obtain ⟨kb_44, ⟨kp0_44, rfl⟩⟩ := k44
            have hZ5 := tb_Z (s := t6) (k := x5_34) (by omega) (by omega)
            rw [n6] at hZ5
            refine g_if_eq X (tgt := 108) dX10_sumBy_47 (by decide) (by omega) (fun c47 => ?_) (fun c47 => ?_)
            · have hN34 : riY v_toldOf (sbN p0.toNat p1.toNat) p1.toNat (fun p => v_sumTo (12 * (sbN p0.toNat p1.toNat) + p)) (x5_34 + 1) x4_34 := by first | exact riY.yes w34_2 (by omega) (hZ5.mp (by omega)) (by rw [← h61]; omega) (by rw [← kp1_72]; omega) (by rw [← h61, ← kp1_72, show t72 = t99 by rw [kp1_72, kp1_99]]; omega) | exact riY.no w34_2 (by omega) (fun h => by have g1 := hZ5.mpr h.1; have g2 := h.2.1; have g3 := h.2.2; rw [← kp1_72] at g3; omega) | exact riY.no w34_2 (by omega) (fun h => by have g1 := hZ5.mpr h.1; have g2 := h.2.1; rw [← h61] at g2; omega) | exact riY.no w34_2 (by omega) (fun h => by have g1 := hZ5.mpr h.1; omega)
              refine g_iinc X (lv' := [(5, vI (x5_34 + 1)), (0, .ref h), (2, vI p1), (3, vI t6), (4, vI x4_34)]) dX10_sumBy_108 4 rfl (by decide) rfl ?_
              refine g_goto X (tgt := 34) dX10_sumBy_111 (by decide) ?_
              refine g_lv [1, 2, 3, 4, 0] rfl ?_
              exact ih34 x4_34 (x5_34 + 1) (by first | assumption | omega) (by first | assumption | omega) (by first | exact hN34 | exact riY.ini) (by omega)
            · refine g_aload_n X dX10_sumBy_50 0 rfl ?_
              refine gM_get X 0 rfl 43 (by decide) uw1222 rfl dX10_sumBy_51 ?_
              refine g_bipush X (z := 12) dX10_sumBy_54 (by decide) ?_
              refine g_iload_n X dX10_sumBy_56 2 rfl ?_
              refine g_imul X dX10_sumBy_57 ?_
              refine g_iload X dX10_sumBy_58 4 rfl ?_
              refine g_iadd X dX10_sumBy_60 ?_
              refine g_iald X 31 0 rfl rfl (by omega) (by decide) dX10_sumBy_61 (fun t61 e61 => ?_)
              have r61 := r_v_sumTo ((12 * t6) + x5_34 : Int).toNat; rw [← e61] at r61
              refine g_ldcw X (z := 1000000) dX10_sumBy_62 uw1546 (by decide) ?_
              have h61 : t61 = v_sumTo (12 * (sbN p0.toNat p1.toNat) + (x5_34).toNat) := by rw [e61]; congr 1; omega
              have b61 := (hp6 (sbN p0.toNat p1.toNat) (x5_34).toNat (by omega) (by omega) (by omega)).r hp5 (by omega)
              rw [show v_sumTo (12 * (sbN p0.toNat p1.toNat) + (x5_34).toNat) = t61 from h61.symm] at b61
              refine g_icmp_ge X (tgt := 108) dX10_sumBy_65 (by decide) (by omega) (by omega) (fun c65 => ?_) (fun c65 => ?_)
              · have hN34 : riY v_toldOf (sbN p0.toNat p1.toNat) p1.toNat (fun p => v_sumTo (12 * (sbN p0.toNat p1.toNat) + p)) (x5_34 + 1) x4_34 := by first | exact riY.yes w34_2 (by omega) (hZ5.mp (by omega)) (by rw [← h61]; omega) (by rw [← kp1_72]; omega) (by rw [← h61, ← kp1_72, show t72 = t99 by rw [kp1_72, kp1_99]]; omega) | exact riY.no w34_2 (by omega) (fun h => by have g1 := hZ5.mpr h.1; have g2 := h.2.1; have g3 := h.2.2; rw [← kp1_72] at g3; omega) | exact riY.no w34_2 (by omega) (fun h => by have g1 := hZ5.mpr h.1; have g2 := h.2.1; rw [← h61] at g2; omega) | exact riY.no w34_2 (by omega) (fun h => by have g1 := hZ5.mpr h.1; omega)
                refine g_iinc X (lv' := [(5, vI (x5_34 + 1)), (0, .ref h), (2, vI p1), (3, vI t6), (4, vI x4_34)]) dX10_sumBy_108 4 rfl (by decide) rfl ?_
                refine g_goto X (tgt := 34) dX10_sumBy_111 (by decide) ?_
                refine g_lv [1, 2, 3, 4, 0] rfl ?_
                exact ih34 x4_34 (x5_34 + 1) (by first | assumption | omega) (by first | assumption | omega) (by first | exact hN34 | exact riY.ini) (by omega)
              · refine g_aload_n X dX10_sumBy_68 0 rfl ?_
                refine g_iload X dX10_sumBy_69 4 rfl ?_
                refine g_iload_n X dX10_sumBy_71 1 rfl ?_
                refine g_callVI0 X (c_X10_told l D cI cB cJ h q (p0 := x5_34) (p1 := p1) r_v_toldOf (by first | assumption | omega) (by first | assumption | omega) (by first | assumption | omega) (by first | assumption | omega)) cv_X10_told uw1581 ⟨rfl, rfl, by decide, by decide⟩ 0 rfl rfl rfl rfl rfl (Nat.le_of_ble_eq_true rfl) ⟨Nat.zero_le _, Nat.zero_le _⟩ dX10_sumBy_72 (fun t72 ws72 k72 => ?_)
                obtain ⟨kp0_72, kp1_72, rfl⟩ := k72
                refine g_ldcw X (z := 1000000) dX10_sumBy_75 uw1546 (by decide) ?_
                refine g_icmp_ge X (tgt := 108) dX10_sumBy_78 (by decide) (by omega) (by omega) (fun c78 => ?_) (fun c78 => ?_)
                · have hN34 : riY v_toldOf (sbN p0.toNat p1.toNat) p1.toNat (fun p => v_sumTo (12 * (sbN p0.toNat p1.toNat) + p)) (x5_34 + 1) x4_34 := by first | exact riY.yes w34_2 (by omega) (hZ5.mp (by omega)) (by rw [← h61]; omega) (by rw [← kp1_72]; omega) (by rw [← h61, ← kp1_72, show t72 = t99 by rw [kp1_72, kp1_99]]; omega) | exact riY.no w34_2 (by omega) (fun h => by have g1 := hZ5.mpr h.1; have g2 := h.2.1; have g3 := h.2.2; rw [← kp1_72] at g3; omega) | exact riY.no w34_2 (by omega) (fun h => by have g1 := hZ5.mpr h.1; have g2 := h.2.1; rw [← h61] at g2; omega) | exact riY.no w34_2 (by omega) (fun h => by have g1 := hZ5.mpr h.1; omega)
                  refine g_iinc X (lv' := [(5, vI (x5_34 + 1)), (0, .ref h), (2, vI p1), (3, vI t6), (4, vI x4_34)]) dX10_sumBy_108 4 rfl (by decide) rfl ?_
                  refine g_goto X (tgt := 34) dX10_sumBy_111 (by decide) ?_
                  refine g_lv [1, 2, 3, 4, 0] rfl ?_
                  exact ih34 x4_34 (x5_34 + 1) (by first | assumption | omega) (by first | assumption | omega) (by first | exact hN34 | exact riY.ini) (by omega)
                · refine g_iload X dX10_sumBy_81 3 rfl ?_
                  refine g_aload_n X dX10_sumBy_83 0 rfl ?_
                  refine gM_get X 0 rfl 43 (by decide) uw1222 rfl dX10_sumBy_84 ?_
                  refine g_bipush X (z := 12) dX10_sumBy_87 (by decide) ?_
                  refine g_iload_n X dX10_sumBy_89 2 rfl ?_
                  refine g_imul X dX10_sumBy_90 ?_
                  refine g_iload X dX10_sumBy_91 4 rfl ?_
                  refine g_iadd X dX10_sumBy_93 ?_
                  refine g_iald X 31 0 rfl rfl (by omega) (by decide) dX10_sumBy_94 (fun t94 e94 => ?_)
                  have r94 := r_v_sumTo ((12 * t6) + x5_34 : Int).toNat; rw [← e94] at r94
                  refine g_aload_n X dX10_sumBy_95 0 rfl ?_
                  refine g_iload X dX10_sumBy_96 4 rfl ?_
                  refine g_iload_n X dX10_sumBy_98 1 rfl ?_
                  refine g_callVI0 X (c_X10_told l D cI cB cJ h q (p0 := x5_34) (p1 := p1) r_v_toldOf (by first | assumption | omega) (by first | assumption | omega) (by first | assumption | omega) (by first | assumption | omega)) cv_X10_told uw1581 ⟨rfl, rfl, by decide, by decide⟩ 0 rfl rfl rfl rfl rfl (Nat.le_of_ble_eq_true rfl) ⟨Nat.zero_le _, Nat.zero_le _⟩ dX10_sumBy_99 (fun t99 ws99 k99 => ?_)
                  obtain ⟨kp0_99, kp1_99, rfl⟩ := k99
                  have h94 : t94 = t61 := by rw [e94, e61]
                  refine g_iadd X dX10_sumBy_102 ?_
                  refine g_callSIE X (c_X10_min l D cI cB cJ (p0 := x4_34) (p1 := t94 + t99) (by first | assumption | omega) (by first | assumption | omega)) cv_X10_min uw1551 ⟨rfl, rfl, by decide, by decide⟩ rfl rfl (Nat.le_of_ble_eq_true rfl) ⟨Nat.zero_le _, Nat.zero_le _⟩ dX10_sumBy_103 (fun t103 ws103 k103 => ?_)
                  obtain ⟨kp0_103, rfl⟩ := k103
                  refine g_istore X (lv' := [(4, vI t103), (0, .ref h), (2, vI p1), (3, vI t6), (5, vI x5_34)]) dX10_sumBy_106 (by decide) rfl ?_
                  have hN34 : riY v_toldOf (sbN p0.toNat p1.toNat) p1.toNat (fun p => v_sumTo (12 * (sbN p0.toNat p1.toNat) + p)) (x5_34 + 1) t103 := by first | exact riY.yes w34_2 (by omega) (hZ5.mp (by omega)) (by rw [← h61]; omega) (by rw [← kp1_72]; omega) (by rw [← h61, ← kp1_72, show t72 = t99 by rw [kp1_72, kp1_99]]; omega) | exact riY.no w34_2 (by omega) (fun h => by have g1 := hZ5.mpr h.1; have g2 := h.2.1; have g3 := h.2.2; rw [← kp1_72] at g3; omega) | exact riY.no w34_2 (by omega) (fun h => by have g1 := hZ5.mpr h.1; have g2 := h.2.1; rw [← h61] at g2; omega) | exact riY.no w34_2 (by omega) (fun h => by have g1 := hZ5.mpr h.1; omega)
                  refine g_iinc X (lv' := [(5, vI (x5_34 + 1)), (4, vI t103), (0, .ref h), (2, vI p1), (3, vI t6)]) dX10_sumBy_108 4 rfl (by decide) rfl ?_
                  refine g_goto X (tgt := 34) dX10_sumBy_111 (by decide) ?_
                  refine g_lv [2, 3, 4, 1, 0] rfl ?_
                  exact ih34 t103 (x5_34 + 1) (by first | assumption | omega) (by first | assumption | omega) (by first | exact hN34 | exact riY.ini) (by omega)
      refine g_lv [3, 5, 2, 1, 0] rfl ?_
      exact L34 _ 1000000 0 (by first | assumption | omega) (by first | assumption | omega) (by first | exact hN34 | exact riY.ini) (Nat.lt_succ_self _)
    · refine g_ldcw X (z := 1000000) dX10_sumBy_22 uw1546 (by decide) ?_
      have hS : riS v_toldOf p0.toNat p1.toNat 1000000 := riS.low (by rw [show p1.toNat = (t16).toNat by omega]; exact hlw) (by obtain ⟨k1, g1, g2, g3⟩ := low_ex t6 (by omega); have h9 := (tb_Z (by omega) (by omega)).mp g3; rw [n6] at h9; exact ⟨k1.toNat, (hR _).mp h9⟩)
      exact hQ _ _ _ _ dX10_sumBy_25 ⟨(by first | omega | exact hS.r hp5 (by omega)), (by exact hS), rfl⟩
  · refine g_iconst X dX10_sumBy_12 ?_
    have hS : riS v_toldOf p0.toNat p1.toNat 0 := riS.one (by omega) hpb (fun x hx => by by_cases e : x = p1.toNat; exact e; (have h9 := (hR x).mpr ⟨hx, e⟩; rw [show (sbN p0.toNat p1.toNat) = 0 by omega, Nat.zero_testBit] at h9; exact absurd h9 (by decide)))
    exact hQ _ _ _ _ dX10_sumBy_13 ⟨(by first | omega | exact hS.r hp5 (by omega)), (by exact hS), rfl⟩
set_option maxHeartbeats 4000000 in
set_option maxRecDepth 100000 in
theorem c_X10_laysRings (l : Launch) (D : va_G) (cI cB cJ : ClassId) (h : Nat) (q : Nat → Nat) {v_stalls v_claimMany v_taped v_place0 v_length0 v_fault v_number0 v_open v_codeMany v_waiting v_saidMany v_clauses v_newMany v_newStalls v_lines v_salesNow v_outNow v_isKept v_keptStalls : Int} {v_now v_aside v_kept v_oneOf v_otherOf v_signOf v_byOf v_tape v_said v_waitsAt v_saidLetter v_saidFrom v_saidHalf v_saidTo v_codes v_clauseOf v_codeFrom v_codeHalf v_codeTo v_stack v_facts v_newOne v_newOther v_newSign v_newBy v_moreOf v_firstOf v_toldOf v_mostOf v_mostThen v_sumTo v_rowFrom v_ordersOf v_lessOf v_weightOf v_rowNow v_slowRow v_fastRow v_lineNow v_firstLine v_freeBy v_heldBy v_heightOf v_upTo v_downTo v_oftenOf v_newUpper v_newLower : Nat → Int} (r_v_toldOf : RA (-9999) 1000000 v_toldOf) (r_v_sumTo : RA (-2147483648) 2147483647 v_sumTo) (hp0 : TB v_toldOf) : CtV l yX10_laysRings cX10_laysRings 3 none ⟨3, 0, 0, 67⟩ D (TY cI cB cJ) (wX10 cI cB cJ h q v_stalls v_claimMany v_taped v_place0 v_length0 v_fault v_number0 v_open v_codeMany v_waiting v_saidMany v_clauses v_newMany v_newStalls v_lines v_salesNow v_outNow v_isKept v_keptStalls v_now v_aside v_kept v_oneOf v_otherOf v_signOf v_byOf v_tape v_said v_waitsAt v_saidLetter v_saidFrom v_saidHalf v_saidTo v_codes v_clauseOf v_codeFrom v_codeHalf v_codeTo v_stack v_facts v_newOne v_newOther v_newSign v_newBy v_moreOf v_firstOf v_toldOf v_mostOf v_mostThen v_sumTo v_rowFrom v_ordersOf v_lessOf v_weightOf v_rowNow v_slowRow v_fastRow v_lineNow v_firstLine v_freeBy v_heldBy v_heightOf v_upTo v_downTo v_oftenOf v_newUpper v_newLower) [.ref h] (fun ws' => ∃ n_sumTo : Nat → Int, (RA (-2147483648) 2147483647 n_sumTo) ∧ (∀ S p : Nat, 1 ≤ S → (S : Int) < 4096 → p < 12 → riS v_toldOf S p (n_sumTo (12 * S + p))) ∧ (ws' = (wX10 cI cB cJ h q v_stalls v_claimMany v_taped v_place0 v_length0 v_fault v_number0 v_open v_codeMany v_waiting v_saidMany v_clauses v_newMany v_newStalls v_lines v_salesNow v_outNow v_isKept v_keptStalls v_now v_aside v_kept v_oneOf v_otherOf v_signOf v_byOf v_tape v_said v_waitsAt v_saidLetter v_saidFrom v_saidHalf v_saidTo v_codes v_clauseOf v_codeFrom v_codeHalf v_codeTo v_stack v_facts v_newOne v_newOther v_newSign v_newBy v_moreOf v_firstOf v_toldOf v_mostOf v_mostThen n_sumTo v_rowFrom v_ordersOf v_lessOf v_weightOf v_rowNow v_slowRow v_fastRow v_lineNow v_firstLine v_freeBy v_heldBy v_heightOf v_upTo v_downTo v_oftenOf v_newUpper v_newLower))) := by
  refine hdrV (own := RX10) rfl (by decide +kernel) (Nat.le_of_ble_eq_true rfl) ?_
  intro p e s m args below meth c Q A X hQ
  refine g_lvE (lv2 := [(0, .ref h)]) rfl ?_
  refine g_iconst X dX10_laysRings_0 ?_
  refine g_istore_n X (lv' := [(1, vI 1), (0, .ref h)]) dX10_laysRings_1 (by decide) rfl ?_
  have L2 : ∀ (n : Nat) (x1_2 : Int) (sumTo_2 : Nat → Int), (RA (-2147483648) 2147483647 sumTo_2) → (1 ≤ x1_2 ∧ x1_2 ≤ 4096) → (∀ S p : Nat, 1 ≤ S → (S : Int) < x1_2 → p < 12 → riS v_toldOf S p (sumTo_2 (12 * S + p))) → (4096 - x1_2).toNat < n → GG p l e ⟨3, 0, 0, 67⟩ s m args below meth c 0 0 Q D A s.heap 3 (wX10 cI cB cJ h q v_stalls v_claimMany v_taped v_place0 v_length0 v_fault v_number0 v_open v_codeMany v_waiting v_saidMany v_clauses v_newMany v_newStalls v_lines v_salesNow v_outNow v_isKept v_keptStalls v_now v_aside v_kept v_oneOf v_otherOf v_signOf v_byOf v_tape v_said v_waitsAt v_saidLetter v_saidFrom v_saidHalf v_saidTo v_codes v_clauseOf v_codeFrom v_codeHalf v_codeTo v_stack v_facts v_newOne v_newOther v_newSign v_newBy v_moreOf v_firstOf v_toldOf v_mostOf v_mostThen sumTo_2 v_rowFrom v_ordersOf v_lessOf v_weightOf v_rowNow v_slowRow v_fastRow v_lineNow v_firstLine v_freeBy v_heldBy v_heightOf v_upTo v_downTo v_oftenOf v_newUpper v_newLower) 2 [(0, .ref h), (1, vI x1_2)] [] := by
    intro n
    induction n with
    | zero => intros; exfalso; omega
    | succ n ih2 =>
      intro x1_2 sumTo_2 r_sumTo_2 w2_0 w2_1 wm2
      refine g_iload_n X dX10_laysRings_2 1 rfl ?_
      refine g_sipush X (z := 4096) dX10_laysRings_3 (by decide) ?_
      refine g_icmp_ge X (tgt := 60) dX10_laysRings_6 (by decide) (by omega) (by omega) (fun c6 => ?_) (fun c6 => ?_)
      · exact hQ _ _ _ dX10_laysRings_60 ⟨sumTo_2, r_sumTo_2, (by intro S p h1 h2 h3; exact w2_1 S p h1 (by omega) h3), rfl⟩
      · refine g_iconst X dX10_laysRings_9 ?_
        refine g_istore_n X (lv' := [(2, vI 0), (0, .ref h), (1, vI x1_2)]) dX10_laysRings_10 (by decide) rfl ?_
        have L11 : ∀ (n : Nat) (x2_11 : Int) (sumTo_11 : Nat → Int), (RA (-2147483648) 2147483647 sumTo_11) → (0 ≤ x2_11 ∧ x2_11 ≤ 12) → (∀ S p : Nat, 1 ≤ S → (S : Int) < x1_2 → p < 12 → riS v_toldOf S p (sumTo_11 (12 * S + p))) → (∀ p : Nat, (p : Int) < x2_11 → riS v_toldOf (x1_2).toNat p (sumTo_11 (12 * (x1_2).toNat + p))) → (12 - x2_11).toNat < n → GG p l e ⟨3, 0, 0, 67⟩ s m args below meth c 0 0 Q D A s.heap 3 (wX10 cI cB cJ h q v_stalls v_claimMany v_taped v_place0 v_length0 v_fault v_number0 v_open v_codeMany v_waiting v_saidMany v_clauses v_newMany v_newStalls v_lines v_salesNow v_outNow v_isKept v_keptStalls v_now v_aside v_kept v_oneOf v_otherOf v_signOf v_byOf v_tape v_said v_waitsAt v_saidLetter v_saidFrom v_saidHalf v_saidTo v_codes v_clauseOf v_codeFrom v_codeHalf v_codeTo v_stack v_facts v_newOne v_newOther v_newSign v_newBy v_moreOf v_firstOf v_toldOf v_mostOf v_mostThen sumTo_11 v_rowFrom v_ordersOf v_lessOf v_weightOf v_rowNow v_slowRow v_fastRow v_lineNow v_firstLine v_freeBy v_heldBy v_heightOf v_upTo v_downTo v_oftenOf v_newUpper v_newLower) 11 [(0, .ref h), (1, vI x1_2), (2, vI x2_11)] [] := by
          intro n
          induction n with
          | zero => intros; exfalso; omega
          | succ n ih11 =>
            intro x2_11 sumTo_11 r_sumTo_11 w11_0 w11_1 w11_2 wm11
            refine g_iload_n X dX10_laysRings_11 2 rfl ?_
            refine g_bipush X (z := 12) dX10_laysRings_12 (by decide) ?_
            refine g_icmp_ge X (tgt := 54) dX10_laysRings_14 (by decide) (by omega) (by omega) (fun c14 => ?_) (fun c14 => ?_)
            · refine g_iinc X (lv' := [(1, vI (x1_2 + 1)), (0, .ref h), (2, vI x2_11)]) dX10_laysRings_54 1 rfl (by decide) rfl ?_
              refine g_goto X (tgt := 2) dX10_laysRings_57 (by decide) ?_
              refine g_lv [1, 0] rfl ?_
              exact ih2 (x1_2 + 1) sumTo_11 r_sumTo_11 (by first | assumption | omega) (by intro S p h1 h2 h3; first | (exfalso; omega) | (rcases (show (S : Int) < x1_2 ∨ S = (x1_2).toNat by omega) with h | h; exact w11_1 S p h1 h h3; (rw [h]; exact w11_2 p (by omega)))) (by omega)
            · refine g_aload_n X dX10_laysRings_17 0 rfl ?_
              refine gM_get X 0 rfl 43 (by decide) uw1222 rfl dX10_laysRings_18 ?_
              refine g_bipush X (z := 12) dX10_laysRings_21 (by decide) ?_
              refine g_iload_n X dX10_laysRings_23 1 rfl ?_
              refine g_imul X dX10_laysRings_24 ?_
              refine g_iload_n X dX10_laysRings_25 2 rfl ?_
              refine g_iadd X dX10_laysRings_26 ?_
              refine g_iload_n X dX10_laysRings_27 1 rfl ?_
              refine g_iload_n X dX10_laysRings_28 2 rfl ?_
              refine g_callSIE X (c_X10_has l D cI cB cJ (p0 := x1_2) (p1 := x2_11) (by first | assumption | omega) (by first | assumption | omega)) cv_X10_has uw1531 ⟨rfl, rfl, by decide, by decide⟩ rfl rfl (Nat.le_of_ble_eq_true rfl) ⟨Nat.zero_le _, Nat.zero_le _⟩ dX10_laysRings_29 (fun t29 ws29 k29 => ?_)
              obtain ⟨kb_29, ⟨kp0_29, rfl⟩⟩ := k29
              refine g_if_eq X (tgt := 44) dX10_laysRings_32 (by decide) (by omega) (fun c32 => ?_) (fun c32 => ?_)
              · refine g_ldcw X (z := 1000000) dX10_laysRings_44 uw1546 (by decide) ?_
                have hv : riS v_toldOf (x1_2).toNat (x2_11).toNat 1000000 := by first | exact kp1_38 | exact riS.off (fun h => by have h9 := (tb_Z (s := x1_2) (k := x2_11) (by omega) (by omega)).mpr h; omega)
                have hvr : -2147483648 ≤ 1000000 ∧ 1000000 ≤ 2147483647 := by omega
                refine g_iast X 31 0 rfl rfl (by omega) (by decide) dX10_laysRings_47 (fun sumTo_47 e47 => ?_)
                have r_sumTo_47 : RA (-2147483648) 2147483647 sumTo_47 := by rw [e47]; exact RA_up r_sumTo_11 (by omega)
                refine g_ws (ws2 := (wX10 cI cB cJ h q v_stalls v_claimMany v_taped v_place0 v_length0 v_fault v_number0 v_open v_codeMany v_waiting v_saidMany v_clauses v_newMany v_newStalls v_lines v_salesNow v_outNow v_isKept v_keptStalls v_now v_aside v_kept v_oneOf v_otherOf v_signOf v_byOf v_tape v_said v_waitsAt v_saidLetter v_saidFrom v_saidHalf v_saidTo v_codes v_clauseOf v_codeFrom v_codeHalf v_codeTo v_stack v_facts v_newOne v_newOther v_newSign v_newBy v_moreOf v_firstOf v_toldOf v_mostOf v_mostThen sumTo_47 v_rowFrom v_ordersOf v_lessOf v_weightOf v_rowNow v_slowRow v_fastRow v_lineNow v_firstLine v_freeBy v_heldBy v_heightOf v_upTo v_downTo v_oftenOf v_newUpper v_newLower)) rfl ?_
                refine g_iinc X (lv' := [(2, vI (x2_11 + 1)), (0, .ref h), (1, vI x1_2)]) dX10_laysRings_48 2 rfl (by decide) rfl ?_
                refine g_goto X (tgt := 11) dX10_laysRings_51 (by decide) ?_
                refine g_lv [1, 2, 0] rfl ?_
                exact ih11 (x2_11 + 1) sumTo_47 r_sumTo_47 (by first | assumption | omega) (by first | exact w2_1 | (intro S p h1 h2 h3; rw [e47, updZ_n _ _ (by omega)]; exact w11_1 S p h1 h2 h3)) (by intro p hp; first | (exfalso; omega) | (rcases (show (p : Int) < x2_11 ∨ p = (x2_11).toNat by omega) with h | h; (rw [e47, updZ_n _ _ (by omega)]; exact w11_2 p h); (rw [e47, h, show (12 * x1_2 + x2_11).toNat = 12 * (x1_2).toNat + (x2_11).toNat by omega, updZ_s]; exact hv))) (by omega)
              · refine g_aload_n X dX10_laysRings_35 0 rfl ?_
                refine g_iload_n X dX10_laysRings_36 1 rfl ?_
                refine g_iload_n X dX10_laysRings_37 2 rfl ?_
                refine g_callVI0 X (c_X10_sumBy l D cI cB cJ h q (p0 := x1_2) (p1 := x2_11) r_v_toldOf r_sumTo_11 (by first | assumption | omega) (by first | assumption | omega) (by first | assumption | omega) (by first | assumption | omega) (by first | assumption | omega) (by first | assumption | omega) (by first | assumption | omega)) cv_X10_sumBy uw1577 ⟨rfl, rfl, by decide, by decide⟩ 0 rfl rfl rfl rfl rfl (Nat.le_of_ble_eq_true rfl) ⟨Nat.zero_le _, Nat.zero_le _⟩ dX10_laysRings_38 (fun t38 ws38 k38 => ?_)
                obtain ⟨kp0_38, kp1_38, rfl⟩ := k38
                refine g_goto X (tgt := 47) dX10_laysRings_41 (by decide) ?_
                have hv : riS v_toldOf (x1_2).toNat (x2_11).toNat t38 := by first | exact kp1_38 | exact riS.off (fun h => by have h9 := (tb_Z (s := x1_2) (k := x2_11) (by omega) (by omega)).mpr h; omega)
                have hvr : -2147483648 ≤ t38 ∧ t38 ≤ 2147483647 := by omega
                refine g_iast X 31 0 rfl rfl (by omega) (by decide) dX10_laysRings_47 (fun sumTo_47 e47 => ?_)
                have r_sumTo_47 : RA (-2147483648) 2147483647 sumTo_47 := by rw [e47]; exact RA_up r_sumTo_11 (by omega)
                refine g_ws (ws2 := (wX10 cI cB cJ h q v_stalls v_claimMany v_taped v_place0 v_length0 v_fault v_number0 v_open v_codeMany v_waiting v_saidMany v_clauses v_newMany v_newStalls v_lines v_salesNow v_outNow v_isKept v_keptStalls v_now v_aside v_kept v_oneOf v_otherOf v_signOf v_byOf v_tape v_said v_waitsAt v_saidLetter v_saidFrom v_saidHalf v_saidTo v_codes v_clauseOf v_codeFrom v_codeHalf v_codeTo v_stack v_facts v_newOne v_newOther v_newSign v_newBy v_moreOf v_firstOf v_toldOf v_mostOf v_mostThen sumTo_47 v_rowFrom v_ordersOf v_lessOf v_weightOf v_rowNow v_slowRow v_fastRow v_lineNow v_firstLine v_freeBy v_heldBy v_heightOf v_upTo v_downTo v_oftenOf v_newUpper v_newLower)) rfl ?_
                refine g_iinc X (lv' := [(2, vI (x2_11 + 1)), (0, .ref h), (1, vI x1_2)]) dX10_laysRings_48 2 rfl (by decide) rfl ?_
                refine g_goto X (tgt := 11) dX10_laysRings_51 (by decide) ?_
                refine g_lv [1, 2, 0] rfl ?_
                exact ih11 (x2_11 + 1) sumTo_47 r_sumTo_47 (by first | assumption | omega) (by first | exact w2_1 | (intro S p h1 h2 h3; rw [e47, updZ_n _ _ (by omega)]; exact w11_1 S p h1 h2 h3)) (by intro p hp; first | (exfalso; omega) | (rcases (show (p : Int) < x2_11 ∨ p = (x2_11).toNat by omega) with h | h; (rw [e47, updZ_n _ _ (by omega)]; exact w11_2 p h); (rw [e47, h, show (12 * x1_2 + x2_11).toNat = 12 * (x1_2).toNat + (x2_11).toNat by omega, updZ_s]; exact hv))) (by omega)
        refine g_lv [1, 2, 0] rfl ?_
        exact L11 _ 0 sumTo_2 r_sumTo_2 (by first | assumption | omega) (by first | exact w2_1 | (intro S p h1 h2 h3; rw [e47, updZ_n _ _ (by omega)]; exact w11_1 S p h1 h2 h3)) (by intro p hp; first | (exfalso; omega) | (rcases (show (p : Int) < x2_11 ∨ p = (x2_11).toNat by omega) with h | h; (rw [e47, updZ_n _ _ (by omega)]; exact w11_2 p h); (rw [e47, h, show (12 * x1_2 + x2_11).toNat = 12 * (x1_2).toNat + (x2_11).toNat by omega, updZ_s]; exact hv))) (Nat.lt_succ_self _)
  refine g_lv [1, 0] rfl ?_
  exact L2 _ 1 v_sumTo r_v_sumTo (by first | assumption | omega) (by intro S p h1 h2 h3; first | (exfalso; omega) | (rcases (show (S : Int) < x1_2 ∨ S = (x1_2).toNat by omega) with h | h; exact w11_1 S p h1 h h3; (rw [h]; exact w11_2 p (by omega)))) (Nat.lt_succ_self _)
set_option maxHeartbeats 4000000 in
set_option maxRecDepth 100000 in
theorem c_X10_isRing (l : Launch) (D : va_G) (cI cB cJ : ClassId) (h : Nat) (q : Nat → Nat) {v_stalls v_claimMany v_taped v_place0 v_length0 v_fault v_number0 v_open v_codeMany v_waiting v_saidMany v_clauses v_newMany v_newStalls v_lines v_salesNow v_outNow v_isKept v_keptStalls : Int} {v_now v_aside v_kept v_oneOf v_otherOf v_signOf v_byOf v_tape v_said v_waitsAt v_saidLetter v_saidFrom v_saidHalf v_saidTo v_codes v_clauseOf v_codeFrom v_codeHalf v_codeTo v_stack v_facts v_newOne v_newOther v_newSign v_newBy v_moreOf v_firstOf v_toldOf v_mostOf v_mostThen v_sumTo v_rowFrom v_ordersOf v_lessOf v_weightOf v_rowNow v_slowRow v_fastRow v_lineNow v_firstLine v_freeBy v_heldBy v_heightOf v_upTo v_downTo v_oftenOf v_newUpper v_newLower : Nat → Int} {p0 : Int} (r_v_toldOf : RA (-9999) 1000000 v_toldOf) (r_v_sumTo : RA (-2147483648) 2147483647 v_sumTo) (hp0 : IR p0) (hp1 : 1 ≤ p0 ∧ p0 ≤ 4095) (hp2 : TB v_toldOf) (hp3 : ∀ p : Nat, p < 12 → riS v_toldOf p0.toNat p (v_sumTo (12 * p0.toNat + p))) : CtI l yX10_isRing cX10_isRing 4 (some .boolean) ⟨2, 0, 0, 42⟩ D (TY cI cB cJ) (wX10 cI cB cJ h q v_stalls v_claimMany v_taped v_place0 v_length0 v_fault v_number0 v_open v_codeMany v_waiting v_saidMany v_clauses v_newMany v_newStalls v_lines v_salesNow v_outNow v_isKept v_keptStalls v_now v_aside v_kept v_oneOf v_otherOf v_signOf v_byOf v_tape v_said v_waitsAt v_saidLetter v_saidFrom v_saidHalf v_saidTo v_codes v_clauseOf v_codeFrom v_codeHalf v_codeTo v_stack v_facts v_newOne v_newOther v_newSign v_newBy v_moreOf v_firstOf v_toldOf v_mostOf v_mostThen v_sumTo v_rowFrom v_ordersOf v_lessOf v_weightOf v_rowNow v_slowRow v_fastRow v_lineNow v_firstLine v_freeBy v_heldBy v_heightOf v_upTo v_downTo v_oftenOf v_newUpper v_newLower) [.ref h, vI p0] (fun z ws' => (z = 0 ∨ z = 1) ∧ ((z = 1 ∧ riG v_toldOf p0.toNat) ∨ (z = 0 ∧ ¬ riG v_toldOf p0.toNat)) ∧ (ws' = (wX10 cI cB cJ h q v_stalls v_claimMany v_taped v_place0 v_length0 v_fault v_number0 v_open v_codeMany v_waiting v_saidMany v_clauses v_newMany v_newStalls v_lines v_salesNow v_outNow v_isKept v_keptStalls v_now v_aside v_kept v_oneOf v_otherOf v_signOf v_byOf v_tape v_said v_waitsAt v_saidLetter v_saidFrom v_saidHalf v_saidTo v_codes v_clauseOf v_codeFrom v_codeHalf v_codeTo v_stack v_facts v_newOne v_newOther v_newSign v_newBy v_moreOf v_firstOf v_toldOf v_mostOf v_mostThen v_sumTo v_rowFrom v_ordersOf v_lessOf v_weightOf v_rowNow v_slowRow v_fastRow v_lineNow v_firstLine v_freeBy v_heldBy v_heightOf v_upTo v_downTo v_oftenOf v_newUpper v_newLower))) := by
  refine hdrZ (own := RX10) rfl (by decide +kernel) (Nat.le_of_ble_eq_true rfl) ?_
  intro p e s m args below meth c Q A X hQ
  refine g_lvE (lv2 := [(0, .ref h), (1, vI p0)]) rfl ?_
  have hlow := low_ex p0 (by omega)
  refine g_iload_n X dX10_isRing_0 1 rfl ?_
  refine g_callSIE X (c_X10_lowest l D cI cB cJ (p0 := p0) (by first | assumption | omega) (by first | assumption | omega)) cv_X10_lowest uw1528 ⟨rfl, rfl, by decide, by decide⟩ rfl rfl (Nat.le_of_ble_eq_true rfl) ⟨Nat.zero_le _, Nat.zero_le _⟩ dX10_isRing_1 (fun t1 ws1 k1 => ?_)
  obtain ⟨kp0_1, kp1_1, kp2_1, rfl⟩ := k1
  have hlw : riLow p0.toNat (t1).toNat := ⟨(tb_Z (by omega) (by omega)).mp kp1_1, fun k hk => by have h9 := kp2_1 (k : Int) (by omega) (by omega); have h8 := tb_Z (s := p0) (k := (k : Int)) (by omega) (by omega); rw [Int.toNat_natCast] at h8; rcases Bool.eq_false_or_eq_true (p0.toNat.testBit k) with h | h; exact absurd (h8.mpr h) h9; exact h⟩
  have hG := riG_iff (F := fun p => v_sumTo (12 * p0.toNat + p)) hp2 (show p0.toNat < 4096 by omega) hlw hp3
  refine g_istore_n X (lv' := [(2, vI t1), (0, .ref h), (1, vI p0)]) dX10_isRing_4 (by decide) rfl ?_
  refine g_iconst X dX10_isRing_5 ?_
  refine g_istore_n X (lv' := [(3, vI 0), (2, vI t1), (0, .ref h), (1, vI p0)]) dX10_isRing_6 (by decide) rfl ?_
  have L7 : ∀ (n : Nat) (x3_7 : Int), (0 ≤ x3_7 ∧ x3_7 ≤ 12) → (∀ p : Nat, (p : Int) < x3_7 → ¬ (p ≠ (t1).toNat ∧ v_sumTo (12 * p0.toNat + p) < 1000000 ∧ v_toldOf (12 * p + (t1).toNat) < 1000000 ∧ v_sumTo (12 * p0.toNat + p) + v_toldOf (12 * p + (t1).toNat) < 0)) → (12 - x3_7).toNat < n → GG p l e ⟨2, 0, 0, 42⟩ s m args below meth c 0 0 Q D A s.heap 4 (wX10 cI cB cJ h q v_stalls v_claimMany v_taped v_place0 v_length0 v_fault v_number0 v_open v_codeMany v_waiting v_saidMany v_clauses v_newMany v_newStalls v_lines v_salesNow v_outNow v_isKept v_keptStalls v_now v_aside v_kept v_oneOf v_otherOf v_signOf v_byOf v_tape v_said v_waitsAt v_saidLetter v_saidFrom v_saidHalf v_saidTo v_codes v_clauseOf v_codeFrom v_codeHalf v_codeTo v_stack v_facts v_newOne v_newOther v_newSign v_newBy v_moreOf v_firstOf v_toldOf v_mostOf v_mostThen v_sumTo v_rowFrom v_ordersOf v_lessOf v_weightOf v_rowNow v_slowRow v_fastRow v_lineNow v_firstLine v_freeBy v_heldBy v_heightOf v_upTo v_downTo v_oftenOf v_newUpper v_newLower) 7 [(0, .ref h), (1, vI p0), (2, vI t1), (3, vI x3_7)] [] := by
    intro n
    induction n with
    | zero => intros; exfalso; omega
    | succ n ih7 =>
      intro x3_7 w7_0 w7_1 wm7
      refine g_iload_n X dX10_isRing_7 3 rfl ?_
      refine g_bipush X (z := 12) dX10_isRing_8 (by decide) ?_
      refine g_icmp_ge X (tgt := 76) dX10_isRing_10 (by decide) (by omega) (by omega) (fun c10 => ?_) (fun c10 => ?_)
      · refine g_iconst X dX10_isRing_76 ?_
        have hNo : ¬ riG v_toldOf p0.toNat := fun h => by obtain ⟨p, p1, p2⟩ := hG.mp h; exact w7_1 p (by omega) p2
        exact hQ _ _ _ _ dX10_isRing_77 ⟨by omega, ⟨(by first | exact Or.inl ⟨rfl, hY⟩ | exact Or.inr ⟨rfl, hNo⟩), rfl⟩⟩
      · refine g_iload_n X dX10_isRing_13 3 rfl ?_
        refine g_iload_n X dX10_isRing_14 2 rfl ?_
        refine g_icmp_eq X (tgt := 70) dX10_isRing_15 (by decide) (by omega) (by omega) (fun c15 => ?_) (fun c15 => ?_)
        · have hN : ∀ p : Nat, (p : Int) < x3_7 + 1 → ¬ (p ≠ (t1).toNat ∧ v_sumTo (12 * p0.toNat + p) < 1000000 ∧ v_toldOf (12 * p + (t1).toNat) < 1000000 ∧ v_sumTo (12 * p0.toNat + p) + v_toldOf (12 * p + (t1).toNat) < 0) := fun p hp => by rcases (show (p : Int) < x3_7 ∨ p = (x3_7).toNat by omega) with h | h; exact w7_1 p h; (rw [h]; rintro ⟨g1, g2, g3, g4⟩; first | (rw [← h28] at g2 g4; rw [← kp1_38] at g3 g4; have h99 : t61 = t38 := (by rw [kp1_61, kp1_38]); omega) | (rw [← h28] at g2 g4; rw [← kp1_38] at g3 g4; omega) | (rw [← h28] at g2; omega) | omega)
          refine g_iinc X (lv' := [(3, vI (x3_7 + 1)), (0, .ref h), (1, vI p0), (2, vI t1)]) dX10_isRing_70 3 rfl (by decide) rfl ?_
          refine g_goto X (tgt := 7) dX10_isRing_73 (by decide) ?_
          refine g_lv [1, 2, 3, 0] rfl ?_
          exact ih7 (x3_7 + 1) (by first | assumption | omega) (by first | exact hN | exact fun p hp => absurd hp (by omega)) (by omega)
        · refine g_aload_n X dX10_isRing_18 0 rfl ?_
          refine gM_get X 0 rfl 43 (by decide) uw1222 rfl dX10_isRing_19 ?_
          refine g_bipush X (z := 12) dX10_isRing_22 (by decide) ?_
          refine g_iload_n X dX10_isRing_24 1 rfl ?_
          refine g_imul X dX10_isRing_25 ?_
          refine g_iload_n X dX10_isRing_26 3 rfl ?_
          refine g_iadd X dX10_isRing_27 ?_
          refine g_iald X 31 0 rfl rfl (by omega) (by decide) dX10_isRing_28 (fun t28 e28 => ?_)
          have r28 := r_v_sumTo ((12 * p0) + x3_7 : Int).toNat; rw [← e28] at r28
          refine g_ldcw X (z := 1000000) dX10_isRing_29 uw1546 (by decide) ?_
          have h28 : t28 = v_sumTo (12 * p0.toNat + (x3_7).toNat) := by rw [e28]; congr 1; omega
          have b28 := (hp3 (x3_7).toNat (by omega)).r hp2 (by omega)
          refine g_icmp_ge X (tgt := 70) dX10_isRing_32 (by decide) (by omega) (by omega) (fun c32 => ?_) (fun c32 => ?_)
          · have hN : ∀ p : Nat, (p : Int) < x3_7 + 1 → ¬ (p ≠ (t1).toNat ∧ v_sumTo (12 * p0.toNat + p) < 1000000 ∧ v_toldOf (12 * p + (t1).toNat) < 1000000 ∧ v_sumTo (12 * p0.toNat + p) + v_toldOf (12 * p + (t1).toNat) < 0) := fun p hp => by rcases (show (p : Int) < x3_7 ∨ p = (x3_7).toNat by omega) with h | h; exact w7_1 p h; (rw [h]; rintro ⟨g1, g2, g3, g4⟩; first | (rw [← h28] at g2 g4; rw [← kp1_38] at g3 g4; have h99 : t61 = t38 := (by rw [kp1_61, kp1_38]); omega) | (rw [← h28] at g2 g4; rw [← kp1_38] at g3 g4; omega) | (rw [← h28] at g2; omega) | omega)
            refine g_iinc X (lv' := [(3, vI (x3_7 + 1)), (0, .ref h), (1, vI p0), (2, vI t1)]) dX10_isRing_70 3 rfl (by decide) rfl ?_
            refine g_goto X (tgt := 7) dX10_isRing_73 (by decide) ?_
            refine g_lv [1, 2, 3, 0] rfl ?_
            exact ih7 (x3_7 + 1) (by first | assumption | omega) (by first | exact hN | exact fun p hp => absurd hp (by omega)) (by omega)
          · refine g_aload_n X dX10_isRing_35 0 rfl ?_
            refine g_iload_n X dX10_isRing_36 3 rfl ?_
            refine g_iload_n X dX10_isRing_37 2 rfl ?_
            refine g_callVI0 X (c_X10_told l D cI cB cJ h q (p0 := x3_7) (p1 := t1) r_v_toldOf (by first | assumption | omega) (by first | assumption | omega) (by first | assumption | omega) (by first | assumption | omega)) cv_X10_told uw1581 ⟨rfl, rfl, by decide, by decide⟩ 0 rfl rfl rfl rfl rfl (Nat.le_of_ble_eq_true rfl) ⟨Nat.zero_le _, Nat.zero_le _⟩ dX10_isRing_38 (fun t38 ws38 k38 => ?_)
            obtain ⟨kp0_38, kp1_38, rfl⟩ := k38
            refine g_ldcw X (z := 1000000) dX10_isRing_41 uw1546 (by decide) ?_
            refine g_icmp_ge X (tgt := 70) dX10_isRing_44 (by decide) (by omega) (by omega) (fun c44 => ?_) (fun c44 => ?_)
            · have hN : ∀ p : Nat, (p : Int) < x3_7 + 1 → ¬ (p ≠ (t1).toNat ∧ v_sumTo (12 * p0.toNat + p) < 1000000 ∧ v_toldOf (12 * p + (t1).toNat) < 1000000 ∧ v_sumTo (12 * p0.toNat + p) + v_toldOf (12 * p + (t1).toNat) < 0) := fun p hp => by rcases (show (p : Int) < x3_7 ∨ p = (x3_7).toNat by omega) with h | h; exact w7_1 p h; (rw [h]; rintro ⟨g1, g2, g3, g4⟩; first | (rw [← h28] at g2 g4; rw [← kp1_38] at g3 g4; have h99 : t61 = t38 := (by rw [kp1_61, kp1_38]); omega) | (rw [← h28] at g2 g4; rw [← kp1_38] at g3 g4; omega) | (rw [← h28] at g2; omega) | omega)
              refine g_iinc X (lv' := [(3, vI (x3_7 + 1)), (0, .ref h), (1, vI p0), (2, vI t1)]) dX10_isRing_70 3 rfl (by decide) rfl ?_
              refine g_goto X (tgt := 7) dX10_isRing_73 (by decide) ?_
              refine g_lv [1, 2, 3, 0] rfl ?_
              exact ih7 (x3_7 + 1) (by first | assumption | omega) (by first | exact hN | exact fun p hp => absurd hp (by omega)) (by omega)
            · refine g_aload_n X dX10_isRing_47 0 rfl ?_
              refine gM_get X 0 rfl 43 (by decide) uw1222 rfl dX10_isRing_48 ?_
              refine g_bipush X (z := 12) dX10_isRing_51 (by decide) ?_
              refine g_iload_n X dX10_isRing_53 1 rfl ?_
              refine g_imul X dX10_isRing_54 ?_
              refine g_iload_n X dX10_isRing_55 3 rfl ?_
              refine g_iadd X dX10_isRing_56 ?_
              refine g_iald X 31 0 rfl rfl (by omega) (by decide) dX10_isRing_57 (fun t57 e57 => ?_)
              have r57 := r_v_sumTo ((12 * p0) + x3_7 : Int).toNat; rw [← e57] at r57
              refine g_aload_n X dX10_isRing_58 0 rfl ?_
              refine g_iload_n X dX10_isRing_59 3 rfl ?_
              refine g_iload_n X dX10_isRing_60 2 rfl ?_
              refine g_callVI0 X (c_X10_told l D cI cB cJ h q (p0 := x3_7) (p1 := t1) r_v_toldOf (by first | assumption | omega) (by first | assumption | omega) (by first | assumption | omega) (by first | assumption | omega)) cv_X10_told uw1581 ⟨rfl, rfl, by decide, by decide⟩ 0 rfl rfl rfl rfl rfl (Nat.le_of_ble_eq_true rfl) ⟨Nat.zero_le _, Nat.zero_le _⟩ dX10_isRing_61 (fun t61 ws61 k61 => ?_)
              obtain ⟨kp0_61, kp1_61, rfl⟩ := k61
              have h57 : t57 = t28 := by rw [e57, e28]
              refine g_iadd X dX10_isRing_64 ?_
              refine g_if_ge X (tgt := 70) dX10_isRing_65 (by decide) (by omega) (fun c65 => ?_) (fun c65 => ?_)
              · have hN : ∀ p : Nat, (p : Int) < x3_7 + 1 → ¬ (p ≠ (t1).toNat ∧ v_sumTo (12 * p0.toNat + p) < 1000000 ∧ v_toldOf (12 * p + (t1).toNat) < 1000000 ∧ v_sumTo (12 * p0.toNat + p) + v_toldOf (12 * p + (t1).toNat) < 0) := fun p hp => by rcases (show (p : Int) < x3_7 ∨ p = (x3_7).toNat by omega) with h | h; exact w7_1 p h; (rw [h]; rintro ⟨g1, g2, g3, g4⟩; first | (rw [← h28] at g2 g4; rw [← kp1_38] at g3 g4; have h99 : t61 = t38 := (by rw [kp1_61, kp1_38]); omega) | (rw [← h28] at g2 g4; rw [← kp1_38] at g3 g4; omega) | (rw [← h28] at g2; omega) | omega)
                refine g_iinc X (lv' := [(3, vI (x3_7 + 1)), (0, .ref h), (1, vI p0), (2, vI t1)]) dX10_isRing_70 3 rfl (by decide) rfl ?_
                refine g_goto X (tgt := 7) dX10_isRing_73 (by decide) ?_
                refine g_lv [1, 2, 3, 0] rfl ?_
                exact ih7 (x3_7 + 1) (by first | assumption | omega) (by first | exact hN | exact fun p hp => absurd hp (by omega)) (by omega)
              · refine g_iconst X dX10_isRing_68 ?_
                have hY : riG v_toldOf p0.toNat := hG.mpr ⟨(x3_7).toNat, by omega, by omega, by rw [← h28]; omega, by rw [← kp1_38]; omega, by rw [← h28, ← kp1_38, show t38 = t61 by rw [kp1_38, kp1_61]]; omega⟩
                exact hQ _ _ _ _ dX10_isRing_69 ⟨by omega, ⟨(by first | exact Or.inl ⟨rfl, hY⟩ | exact Or.inr ⟨rfl, hNo⟩), rfl⟩⟩
  refine g_lv [2, 3, 1, 0] rfl ?_
  exact L7 _ 0 (by first | assumption | omega) (by first | exact hN | exact fun p hp => absurd hp (by omega)) (Nat.lt_succ_self _)
set_option maxHeartbeats 4000000 in
set_option maxRecDepth 100000 in
theorem c_X10_leastRing (l : Launch) (D : va_G) (cI cB cJ : ClassId) (h : Nat) (q : Nat → Nat) {v_stalls v_claimMany v_taped v_place0 v_length0 v_fault v_number0 v_open v_codeMany v_waiting v_saidMany v_clauses v_newMany v_newStalls v_lines v_salesNow v_outNow v_isKept v_keptStalls : Int} {v_now v_aside v_kept v_oneOf v_otherOf v_signOf v_byOf v_tape v_said v_waitsAt v_saidLetter v_saidFrom v_saidHalf v_saidTo v_codes v_clauseOf v_codeFrom v_codeHalf v_codeTo v_stack v_facts v_newOne v_newOther v_newSign v_newBy v_moreOf v_firstOf v_toldOf v_mostOf v_mostThen v_sumTo v_rowFrom v_ordersOf v_lessOf v_weightOf v_rowNow v_slowRow v_fastRow v_lineNow v_firstLine v_freeBy v_heldBy v_heightOf v_upTo v_downTo v_oftenOf v_newUpper v_newLower : Nat → Int} (kr_v_claimMany : 0 ≤ v_claimMany ∧ v_claimMany ≤ 40) (r_v_oneOf : RA 0 11 v_oneOf) (r_v_otherOf : RA 0 11 v_otherOf) (r_v_signOf : RA (-2147483648) 2147483647 v_signOf) (r_v_byOf : RA (-9999) 9999 v_byOf) (r_v_toldOf : RA (-9999) 1000000 v_toldOf) (r_v_sumTo : RA (-2147483648) 2147483647 v_sumTo) (hp0 : ∀ j : Nat, (j : Int) < v_claimMany → v_oneOf j ≠ v_otherOf j) : CtI l yX10_leastRing cX10_leastRing 3 (some .int) ⟨4, 0, 0, 89⟩ D (TY cI cB cJ) (wX10 cI cB cJ h q v_stalls v_claimMany v_taped v_place0 v_length0 v_fault v_number0 v_open v_codeMany v_waiting v_saidMany v_clauses v_newMany v_newStalls v_lines v_salesNow v_outNow v_isKept v_keptStalls v_now v_aside v_kept v_oneOf v_otherOf v_signOf v_byOf v_tape v_said v_waitsAt v_saidLetter v_saidFrom v_saidHalf v_saidTo v_codes v_clauseOf v_codeFrom v_codeHalf v_codeTo v_stack v_facts v_newOne v_newOther v_newSign v_newBy v_moreOf v_firstOf v_toldOf v_mostOf v_mostThen v_sumTo v_rowFrom v_ordersOf v_lessOf v_weightOf v_rowNow v_slowRow v_fastRow v_lineNow v_firstLine v_freeBy v_heldBy v_heightOf v_upTo v_downTo v_oftenOf v_newUpper v_newLower) [.ref h] (fun z ws' => ∃ n_toldOf : Nat → Int, ∃ n_sumTo : Nat → Int, (RA (-9999) 1000000 n_toldOf) ∧ (RA (-2147483648) 2147483647 n_sumTo) ∧ (1 ≤ z ∧ z ≤ 4095) ∧ (∀ c : Nat, c < 144 → n_toldOf c = (toF v_oneOf v_otherOf v_signOf v_byOf (-1) v_claimMany.toNat) c) ∧ (∀ k : Nat, riK n_toldOf k → riZ n_toldOf z) ∧ (ws' = (wX10 cI cB cJ h q v_stalls v_claimMany v_taped v_place0 v_length0 v_fault v_number0 v_open v_codeMany v_waiting v_saidMany v_clauses v_newMany v_newStalls v_lines v_salesNow v_outNow v_isKept v_keptStalls v_now v_aside v_kept v_oneOf v_otherOf v_signOf v_byOf v_tape v_said v_waitsAt v_saidLetter v_saidFrom v_saidHalf v_saidTo v_codes v_clauseOf v_codeFrom v_codeHalf v_codeTo v_stack v_facts v_newOne v_newOther v_newSign v_newBy v_moreOf v_firstOf n_toldOf v_mostOf v_mostThen n_sumTo v_rowFrom v_ordersOf v_lessOf v_weightOf v_rowNow v_slowRow v_fastRow v_lineNow v_firstLine v_freeBy v_heldBy v_heightOf v_upTo v_downTo v_oftenOf v_newUpper v_newLower))) := by
  refine hdrI (own := RX10) rfl (by decide +kernel) (Nat.le_of_ble_eq_true rfl) ?_
  intro p e s m args below meth c Q A X hQ
  refine g_lvE (lv2 := [(0, .ref h)]) rfl ?_
  have hT : TD (toF v_oneOf v_otherOf v_signOf v_byOf (-1) v_claimMany.toNat) := toF_T (-1) r_v_oneOf r_v_otherOf r_v_byOf _ (fun j hj => hp0 j (by omega))
  refine g_sipush X (z := 4095) dX10_leastRing_0 (by decide) ?_
  refine g_istore_n X (lv' := [(1, vI 4095), (0, .ref h)]) dX10_leastRing_3 (by decide) rfl ?_
  refine g_aload_n X dX10_leastRing_4 1 rfl ?_
  refine g_iconst X dX10_leastRing_5 ?_
  refine g_callVV0 X (c_X10_laysTold l D cI cB cJ h q (p0 := (-1)) (by omega) r_v_oneOf r_v_otherOf r_v_signOf r_v_byOf r_v_toldOf (by first | assumption | omega)) cv_X10_laysTold uw1542 ⟨rfl, rfl, by decide, by decide⟩ 0 rfl rfl rfl rfl rfl (Nat.le_of_ble_eq_true rfl) ⟨Nat.zero_le _, Nat.zero_le _⟩ dX10_leastRing_6 (fun ws6 k6 => ?_)
  obtain ⟨toldOf_6, r_toldOf_6, kp0_6, rfl⟩ := k6
  have hTD : TD toldOf_6 := TD_c kp0_6 hT
  have hTB9 : TB toldOf_6 := hTD.1
  refine g_aload_n X dX10_leastRing_9 1 rfl ?_
  refine g_callVV0 X (c_X10_laysRings l D cI cB cJ h q  r_toldOf_6 r_v_sumTo (by first | assumption | omega)) cv_X10_laysRings uw1573 ⟨rfl, rfl, by decide, by decide⟩ 0 rfl rfl rfl rfl rfl (Nat.le_of_ble_eq_true rfl) ⟨Nat.zero_le _, Nat.zero_le _⟩ dX10_leastRing_10 (fun ws10 k10 => ?_)
  obtain ⟨sumTo_10, r_sumTo_10, kp0_10, rfl⟩ := k10
  refine g_sipush X (z := 4095) dX10_leastRing_13 (by decide) ?_
  refine g_istore_n X (lv' := [(2, vI 4095), (1, vI 4095), (0, .ref h)]) dX10_leastRing_16 (by decide) rfl ?_
  have L17 : ∀ (n : Nat) (x1_17 : Int) (x2_17 : Int), (0 ≤ x2_17 ∧ x2_17 ≤ 4095) → (1 ≤ x1_17 ∧ x1_17 ≤ 4095) → (riD toldOf_6 x2_17 x1_17) → (x2_17).toNat < n → GG p l e ⟨4, 0, 0, 89⟩ s m args below meth c 0 0 Q D A s.heap 3 (wX10 cI cB cJ h q v_stalls v_claimMany v_taped v_place0 v_length0 v_fault v_number0 v_open v_codeMany v_waiting v_saidMany v_clauses v_newMany v_newStalls v_lines v_salesNow v_outNow v_isKept v_keptStalls v_now v_aside v_kept v_oneOf v_otherOf v_signOf v_byOf v_tape v_said v_waitsAt v_saidLetter v_saidFrom v_saidHalf v_saidTo v_codes v_clauseOf v_codeFrom v_codeHalf v_codeTo v_stack v_facts v_newOne v_newOther v_newSign v_newBy v_moreOf v_firstOf toldOf_6 v_mostOf v_mostThen sumTo_10 v_rowFrom v_ordersOf v_lessOf v_weightOf v_rowNow v_slowRow v_fastRow v_lineNow v_firstLine v_freeBy v_heldBy v_heightOf v_upTo v_downTo v_oftenOf v_newUpper v_newLower) 17 [(0, .ref h), (1, vI x1_17), (2, vI x2_17)] [] := by
    intro n
    induction n with
    | zero => intros; exfalso; omega
    | succ n ih17 =>
      intro x1_17 x2_17 w17_0 w17_1 w17_2 wm17
      refine g_iload_n X dX10_leastRing_17 2 rfl ?_
      refine g_if_le X (tgt := 56) dX10_leastRing_18 (by decide) (by omega) (fun c18 => ?_) (fun c18 => ?_)
      · refine g_iload_n X dX10_leastRing_56 1 rfl ?_
        rw [show x2_17 = 0 by omega] at w17_2
        exact hQ _ _ _ _ dX10_leastRing_57 ⟨toldOf_6, sumTo_10, r_toldOf_6, r_sumTo_10, (by first | assumption | omega), (by first | assumption | omega), (by exact fun k hk => w17_2.out hk), rfl⟩
      · refine g_iload_n X dX10_leastRing_21 2 rfl ?_
        refine g_callSIE X (c_X10_bits l D cI cB cJ (p0 := x2_17) (by first | assumption | omega)) cv_X10_bits uw1585 ⟨rfl, rfl, by decide, by decide⟩ rfl rfl (Nat.le_of_ble_eq_true rfl) ⟨Nat.zero_le _, Nat.zero_le _⟩ dX10_leastRing_22 (fun t22 ws22 k22 => ?_)
        obtain ⟨kp0_22, kp1_22, rfl⟩ := k22
        refine g_iload_n X dX10_leastRing_25 1 rfl ?_
        refine g_callSIE X (c_X10_bits l D cI cB cJ (p0 := x1_17) (by first | assumption | omega)) cv_X10_bits uw1585 ⟨rfl, rfl, by decide, by decide⟩ rfl rfl (Nat.le_of_ble_eq_true rfl) ⟨Nat.zero_le _, Nat.zero_le _⟩ dX10_leastRing_26 (fun t26 ws26 k26 => ?_)
        obtain ⟨kp0_26, kp1_26, rfl⟩ := k26
        have q1 := riB_bc (s := x2_17) (by omega)
        have q2 := riB_bc (s := x1_17) (by omega)
        refine g_icmp_gt X (tgt := 50) dX10_leastRing_29 (by decide) (by omega) (by omega) (fun c29 => ?_) (fun c29 => ?_)
        · have hN : riD toldOf_6 (x2_17 + (-1)) x1_17 := by first | exact riD.yes w17_2 (by omega) (by omega) (kp0_42.elim (fun h => h.2) (fun h => absurd h.1 (by omega))) (by omega) | exact riD.no w17_2 (by omega) (by omega) (fun h => absurd h (kp0_42.elim (fun g => absurd g.1 (by omega)) (fun g => g.2))) | exact riD.no w17_2 (by omega) (by omega) (fun h => by obtain ⟨m9, y9, g1, g2, _⟩ := h.n (show (x2_17).toNat < 4096 by omega); omega)
          refine g_iinc X (lv' := [(2, vI (x2_17 + (-1))), (0, .ref h), (1, vI x1_17)]) dX10_leastRing_50 2 rfl (by decide) rfl ?_
          refine g_goto X (tgt := 17) dX10_leastRing_53 (by decide) ?_
          refine g_lv [1, 2, 0] rfl ?_
          exact ih17 x1_17 (x2_17 + (-1)) (by first | assumption | omega) (by first | assumption | omega) (by first | exact riD.ini | exact hN) (by omega)
        · refine g_iload_n X dX10_leastRing_32 2 rfl ?_
          refine g_callSIE X (c_X10_bits l D cI cB cJ (p0 := x2_17) (by first | assumption | omega)) cv_X10_bits uw1585 ⟨rfl, rfl, by decide, by decide⟩ rfl rfl (Nat.le_of_ble_eq_true rfl) ⟨Nat.zero_le _, Nat.zero_le _⟩ dX10_leastRing_33 (fun t33 ws33 k33 => ?_)
          obtain ⟨kp0_33, kp1_33, rfl⟩ := k33
          refine g_iconst X dX10_leastRing_36 ?_
          refine g_icmp_le X (tgt := 50) dX10_leastRing_37 (by decide) (by omega) (by omega) (fun c37 => ?_) (fun c37 => ?_)
          · have hN : riD toldOf_6 (x2_17 + (-1)) x1_17 := by first | exact riD.yes w17_2 (by omega) (by omega) (kp0_42.elim (fun h => h.2) (fun h => absurd h.1 (by omega))) (by omega) | exact riD.no w17_2 (by omega) (by omega) (fun h => absurd h (kp0_42.elim (fun g => absurd g.1 (by omega)) (fun g => g.2))) | exact riD.no w17_2 (by omega) (by omega) (fun h => by obtain ⟨m9, y9, g1, g2, _⟩ := h.n (show (x2_17).toNat < 4096 by omega); omega)
            refine g_iinc X (lv' := [(2, vI (x2_17 + (-1))), (0, .ref h), (1, vI x1_17)]) dX10_leastRing_50 2 rfl (by decide) rfl ?_
            refine g_goto X (tgt := 17) dX10_leastRing_53 (by decide) ?_
            refine g_lv [1, 2, 0] rfl ?_
            exact ih17 x1_17 (x2_17 + (-1)) (by first | assumption | omega) (by first | assumption | omega) (by first | exact riD.ini | exact hN) (by omega)
          · have hS9 : ∀ p : Nat, p < 12 → riS toldOf_6 (x2_17).toNat p (sumTo_10 (12 * (x2_17).toNat + p)) := fun p hp => kp0_10 _ p (by omega) (by omega) hp
            refine g_aload_n X dX10_leastRing_40 0 rfl ?_
            refine g_iload_n X dX10_leastRing_41 2 rfl ?_
            refine g_callVI0 X (c_X10_isRing l D cI cB cJ h q (p0 := x2_17) r_toldOf_6 r_sumTo_10 (by first | assumption | omega) (by first | assumption | omega) (by first | assumption | omega) (by first | assumption | omega)) cv_X10_isRing uw1588 ⟨rfl, rfl, by decide, by decide⟩ 0 rfl rfl rfl rfl rfl (Nat.le_of_ble_eq_true rfl) ⟨Nat.zero_le _, Nat.zero_le _⟩ dX10_leastRing_42 (fun t42 ws42 k42 => ?_)
            obtain ⟨kb_42, ⟨kp0_42, rfl⟩⟩ := k42
            refine g_if_eq X (tgt := 50) dX10_leastRing_45 (by decide) (by omega) (fun c45 => ?_) (fun c45 => ?_)
            · have hN : riD toldOf_6 (x2_17 + (-1)) x1_17 := by first | exact riD.yes w17_2 (by omega) (by omega) (kp0_42.elim (fun h => h.2) (fun h => absurd h.1 (by omega))) (by omega) | exact riD.no w17_2 (by omega) (by omega) (fun h => absurd h (kp0_42.elim (fun g => absurd g.1 (by omega)) (fun g => g.2))) | exact riD.no w17_2 (by omega) (by omega) (fun h => by obtain ⟨m9, y9, g1, g2, _⟩ := h.n (show (x2_17).toNat < 4096 by omega); omega)
              refine g_iinc X (lv' := [(2, vI (x2_17 + (-1))), (0, .ref h), (1, vI x1_17)]) dX10_leastRing_50 2 rfl (by decide) rfl ?_
              refine g_goto X (tgt := 17) dX10_leastRing_53 (by decide) ?_
              refine g_lv [1, 2, 0] rfl ?_
              exact ih17 x1_17 (x2_17 + (-1)) (by first | assumption | omega) (by first | assumption | omega) (by first | exact riD.ini | exact hN) (by omega)
            · refine g_iload_n X dX10_leastRing_48 2 rfl ?_
              refine g_istore_n X (lv' := [(1, vI x2_17), (0, .ref h), (2, vI x2_17)]) dX10_leastRing_49 (by decide) rfl ?_
              have hN : riD toldOf_6 (x2_17 + (-1)) x2_17 := by first | exact riD.yes w17_2 (by omega) (by omega) (kp0_42.elim (fun h => h.2) (fun h => absurd h.1 (by omega))) (by omega) | exact riD.no w17_2 (by omega) (by omega) (fun h => absurd h (kp0_42.elim (fun g => absurd g.1 (by omega)) (fun g => g.2))) | exact riD.no w17_2 (by omega) (by omega) (fun h => by obtain ⟨m9, y9, g1, g2, _⟩ := h.n (show (x2_17).toNat < 4096 by omega); omega)
              refine g_iinc X (lv' := [(2, vI (x2_17 + (-1))), (1, vI x2_17), (0, .ref h)]) dX10_leastRing_50 2 rfl (by decide) rfl ?_
              refine g_goto X (tgt := 17) dX10_leastRing_53 (by decide) ?_
              refine g_lv [2, 1, 0] rfl ?_
              exact ih17 x2_17 (x2_17 + (-1)) (by first | assumption | omega) (by first | assumption | omega) (by first | exact riD.ini | exact hN) (by omega)
  refine g_lv [2, 1, 0] rfl ?_
  exact L17 _ 4095 4095 (by first | assumption | omega) (by first | assumption | omega) (by first | exact riD.ini | exact hN) (Nat.lt_succ_self _)
set_option maxHeartbeats 4000000 in
set_option maxRecDepth 100000 in
theorem c_X10_canBe (l : Launch) (D : va_G) (cI cB cJ : ClassId) (h : Nat) (q : Nat → Nat) {v_stalls v_claimMany v_taped v_place0 v_length0 v_fault v_number0 v_open v_codeMany v_waiting v_saidMany v_clauses v_newMany v_newStalls v_lines v_salesNow v_outNow v_isKept v_keptStalls : Int} {v_now v_aside v_kept v_oneOf v_otherOf v_signOf v_byOf v_tape v_said v_waitsAt v_saidLetter v_saidFrom v_saidHalf v_saidTo v_codes v_clauseOf v_codeFrom v_codeHalf v_codeTo v_stack v_facts v_newOne v_newOther v_newSign v_newBy v_moreOf v_firstOf v_toldOf v_mostOf v_mostThen v_sumTo v_rowFrom v_ordersOf v_lessOf v_weightOf v_rowNow v_slowRow v_fastRow v_lineNow v_firstLine v_freeBy v_heldBy v_heightOf v_upTo v_downTo v_oftenOf v_newUpper v_newLower : Nat → Int} {p0 : Int} (kr_v_claimMany : 0 ≤ v_claimMany ∧ v_claimMany ≤ 40) (r_v_oneOf : RA 0 11 v_oneOf) (r_v_otherOf : RA 0 11 v_otherOf) (r_v_signOf : RA (-2147483648) 2147483647 v_signOf) (r_v_byOf : RA (-9999) 9999 v_byOf) (r_v_toldOf : RA (-9999) 1000000 v_toldOf) (r_v_mostOf : RA (-1000000) 1000000 v_mostOf) (r_v_sumTo : RA (-2147483648) 2147483647 v_sumTo) (hp0 : IR p0) (hp1 : ∀ j : Nat, (j : Int) < v_claimMany → v_oneOf j ≠ v_otherOf j) : CtI l yX10_canBe cX10_canBe 4 (some .int) ⟨5, 0, 0, 111⟩ D (TY cI cB cJ) (wX10 cI cB cJ h q v_stalls v_claimMany v_taped v_place0 v_length0 v_fault v_number0 v_open v_codeMany v_waiting v_saidMany v_clauses v_newMany v_newStalls v_lines v_salesNow v_outNow v_isKept v_keptStalls v_now v_aside v_kept v_oneOf v_otherOf v_signOf v_byOf v_tape v_said v_waitsAt v_saidLetter v_saidFrom v_saidHalf v_saidTo v_codes v_clauseOf v_codeFrom v_codeHalf v_codeTo v_stack v_facts v_newOne v_newOther v_newSign v_newBy v_moreOf v_firstOf v_toldOf v_mostOf v_mostThen v_sumTo v_rowFrom v_ordersOf v_lessOf v_weightOf v_rowNow v_slowRow v_fastRow v_lineNow v_firstLine v_freeBy v_heldBy v_heightOf v_upTo v_downTo v_oftenOf v_newUpper v_newLower) [.ref h, vI p0] (fun z ws' => ∃ n_toldOf : Nat → Int, ∃ n_mostOf : Nat → Int, ∃ n_sumTo : Nat → Int, (RA (-9999) 1000000 n_toldOf) ∧ (RA (-1000000) 1000000 n_mostOf) ∧ (RA (-2147483648) 2147483647 n_sumTo) ∧ (IR z) ∧ (((0 ≤ p0 ∧ p0 ≤ 2) ∧ p0 = 0 ∧ z = (okZ (toF v_oneOf v_otherOf v_signOf v_byOf (-1) v_claimMany.toNat))) ∨ ((0 ≤ p0 ∧ p0 ≤ 2) ∧ p0 ≠ 0 ∧ (okZ (toF v_oneOf v_otherOf v_signOf v_byOf (-1) v_claimMany.toNat)) = 1 ∧ z = -2) ∨ ((0 ≤ p0 ∧ p0 ≤ 2) ∧ p0 = 1 ∧ (okZ (toF v_oneOf v_otherOf v_signOf v_byOf (-1) v_claimMany.toNat)) ≠ 1 ∧ z = ((riB (riA (toF v_oneOf v_otherOf v_signOf v_byOf (-1) v_claimMany.toNat)).toNat 12 : Nat) : Int)) ∨ ((0 ≤ p0 ∧ p0 ≤ 2) ∧ p0 = 2 ∧ (okZ (toF v_oneOf v_otherOf v_signOf v_byOf (-1) v_claimMany.toNat)) ≠ 1 ∧ z = riA (toF v_oneOf v_otherOf v_signOf v_byOf (-1) v_claimMany.toNat)) ∨ (¬ (0 ≤ p0 ∧ p0 ≤ 2) ∧ z = -1)) ∧ (ws' = (wX10 cI cB cJ h q v_stalls v_claimMany v_taped v_place0 v_length0 v_fault v_number0 v_open v_codeMany v_waiting v_saidMany v_clauses v_newMany v_newStalls v_lines v_salesNow v_outNow v_isKept v_keptStalls v_now v_aside v_kept v_oneOf v_otherOf v_signOf v_byOf v_tape v_said v_waitsAt v_saidLetter v_saidFrom v_saidHalf v_saidTo v_codes v_clauseOf v_codeFrom v_codeHalf v_codeTo v_stack v_facts v_newOne v_newOther v_newSign v_newBy v_moreOf v_firstOf n_toldOf n_mostOf v_mostThen n_sumTo v_rowFrom v_ordersOf v_lessOf v_weightOf v_rowNow v_slowRow v_fastRow v_lineNow v_firstLine v_freeBy v_heldBy v_heightOf v_upTo v_downTo v_oftenOf v_newUpper v_newLower))) := by
  refine hdrI (own := RX10) rfl (by decide +kernel) (Nat.le_of_ble_eq_true rfl) ?_
  intro p e s m args below meth c Q A X hQ
  refine g_lvE (lv2 := [(0, .ref h), (1, vI p0)]) rfl ?_
  refine g_iload_n X dX10_canBe_0 1 rfl ?_
  refine g_iconst X dX10_canBe_1 ?_
  refine g_iconst X dX10_canBe_2 ?_
  refine g_callSIE X (c_X10_in l D cI cB cJ (p0 := p0) (p1 := 0) (p2 := 2) (by first | assumption | omega) (by first | assumption | omega) (by first | assumption | omega)) cv_X10_in uw1394 ⟨rfl, rfl, by decide, by decide⟩ rfl rfl (Nat.le_of_ble_eq_true rfl) ⟨Nat.zero_le _, Nat.zero_le _⟩ dX10_canBe_3 (fun t3 ws3 k3 => ?_)
  obtain ⟨kb_3, ⟨kp0_3, rfl⟩⟩ := k3
  refine g_if_ne X (tgt := 11) dX10_canBe_6 (by decide) (by omega) (fun c6 => ?_) (fun c6 => ?_)
  · refine g_aload_n X dX10_canBe_11 0 rfl ?_
    refine g_iconst X dX10_canBe_12 ?_
    refine g_callVV0 X (c_X10_laysMost l D cI cB cJ h q (p0 := (-1)) (by omega) r_v_oneOf r_v_otherOf r_v_signOf r_v_byOf r_v_toldOf r_v_mostOf (by first | assumption | omega) (by first | assumption | omega)) cv_X10_laysMost uw1538 ⟨rfl, rfl, by decide, by decide⟩ 0 rfl rfl rfl rfl rfl (Nat.le_of_ble_eq_true rfl) ⟨Nat.zero_le _, Nat.zero_le _⟩ dX10_canBe_13 (fun ws13 k13 => ?_)
    obtain ⟨toldOf_13, mostOf_13, r_toldOf_13, r_mostOf_13, kp0_13, kp1_13, rfl⟩ := k13
    refine g_aload_n X dX10_canBe_16 0 rfl ?_
    refine g_callVI0 X (c_X10_canBeSo l D cI cB cJ h q  r_mostOf_13) cv_X10_canBeSo uw1557 ⟨rfl, rfl, by decide, by decide⟩ 0 rfl rfl rfl rfl rfl (Nat.le_of_ble_eq_true rfl) ⟨Nat.zero_le _, Nat.zero_le _⟩ dX10_canBe_17 (fun t17 ws17 k17 => ?_)
    obtain ⟨kb_17, ⟨kp0_17, rfl⟩⟩ := k17
    have hcan : (t17 = 1 ∧ okN (toF v_oneOf v_otherOf v_signOf v_byOf (-1) v_claimMany.toNat) 12 ∧ ∀ c : Nat, c < 144 → mostOf_13 c = fwN (toF v_oneOf v_otherOf v_signOf v_byOf (-1) v_claimMany.toNat) 12 c) ∨ (t17 = 0 ∧ ¬ okN (toF v_oneOf v_otherOf v_signOf v_byOf (-1) v_claimMany.toNat) 12) := can_e kp1_13 kp0_17
    have hoz := okZ_e (toF v_oneOf v_otherOf v_signOf v_byOf (-1) v_claimMany.toNat)
    have hok : t17 = okZ (toF v_oneOf v_otherOf v_signOf v_byOf (-1) v_claimMany.toNat) := by rcases hcan with ⟨g1, g2, _⟩ | ⟨g1, g2⟩; (rcases hoz with ⟨k1, k2⟩ | ⟨k1, k2⟩; omega; exact absurd g2 k1); (rcases hoz with ⟨k1, k2⟩ | ⟨k1, k2⟩; exact absurd k1 g2; omega)
    have hM9 : t17 = 1 → okN (toF v_oneOf v_otherOf v_signOf v_byOf (-1) v_claimMany.toNat) 12 ∧ ∀ c : Nat, c < 144 → mostOf_13 c = fwN (toF v_oneOf v_otherOf v_signOf v_byOf (-1) v_claimMany.toNat) 12 c := fun h => (hcan.resolve_right (fun g => by omega)).2
    clear hcan hoz kp1_13 kp0_17
    refine g_istore_n X (lv' := [(2, vI t17), (0, .ref h), (1, vI p0)]) dX10_canBe_20 (by decide) rfl ?_
    refine g_iload_n X dX10_canBe_21 2 rfl ?_
    refine g_if_ne X (tgt := 35) dX10_canBe_22 (by decide) (by omega) (fun c22 => ?_) (fun c22 => ?_)
    · refine g_iload_n X dX10_canBe_35 0 rfl ?_
      refine g_if_eq X (tgt := 42) dX10_canBe_36 (by decide) (by omega) (fun c36 => ?_) (fun c36 => ?_)
      · have hT9 : TD (toF v_oneOf v_otherOf v_signOf v_byOf (-1) v_claimMany.toNat) := toF_T (-1) r_v_oneOf r_v_otherOf r_v_byOf _ (fun j hj => hp1 j (by omega))
        have hnk : ¬ okN (toF v_oneOf v_otherOf v_signOf v_byOf (-1) v_claimMany.toNat) 12 := fun h => by have h9 := (okZ_e (toF v_oneOf v_otherOf v_signOf v_byOf (-1) v_claimMany.toNat)).resolve_right (fun g => g.1 h); omega
        obtain ⟨k9, hK9⟩ := riK.ex hT9 hnk
        refine g_aload_n X dX10_canBe_42 1 rfl ?_
        refine g_callVI0 X (c_X10_leastRing l D cI cB cJ h q  (by omega) r_v_oneOf r_v_otherOf r_v_signOf r_v_byOf r_toldOf_13 r_v_sumTo (by first | assumption | omega)) cv_X10_leastRing uw1569 ⟨rfl, rfl, by decide, by decide⟩ 0 rfl rfl rfl rfl rfl (Nat.le_of_ble_eq_true rfl) ⟨Nat.zero_le _, Nat.zero_le _⟩ dX10_canBe_43 (fun t43 ws43 k43 => ?_)
        obtain ⟨toldOf_43, sumTo_43, r_toldOf_43, r_sumTo_43, kp0_43, kp1_43, kp2_43, rfl⟩ := k43
        have hz9 : riZ (toF v_oneOf v_otherOf v_signOf v_byOf (-1) v_claimMany.toNat) t43 := riZ_t kp1_43 (kp2_43 k9 (riK_t (fun c hc => (kp1_43 c hc).symm) hK9))
        have hza := hz9.a
        have hbc9 : bcF t43 16 = ((riB (riA (toF v_oneOf v_otherOf v_signOf v_byOf (-1) v_claimMany.toNat)).toNat 12 : Nat) : Int) := by rw [← hza]; exact riB_bc (s := t43) (by omega)
        refine g_istore_n X (lv' := [(3, vI t43), (2, vI t17), (0, .ref h), (1, vI p0)]) dX10_canBe_46 (by decide) rfl ?_
        refine g_iload_n X dX10_canBe_47 3 rfl ?_
        refine g_iconst X dX10_canBe_48 ?_
        refine g_icmp_ne X (tgt := 59) dX10_canBe_49 (by decide) (by omega) (by omega) (fun c49 => ?_) (fun c49 => ?_)
        · refine g_iload_n X dX10_canBe_59 0 rfl ?_
          exact hQ _ _ _ _ dX10_canBe_60 ⟨toldOf_43, mostOf_13, sumTo_43, r_toldOf_43, r_mostOf_13, r_sumTo_43, (by first | assumption | omega), (by first | assumption | omega), rfl⟩
        · refine g_iload_n X dX10_canBe_52 0 rfl ?_
          refine g_callSIE X (c_X10_bits l D cI cB cJ (p0 := t43) (by first | assumption | omega)) cv_X10_bits uw1585 ⟨rfl, rfl, by decide, by decide⟩ rfl rfl (Nat.le_of_ble_eq_true rfl) ⟨Nat.zero_le _, Nat.zero_le _⟩ dX10_canBe_53 (fun t53 ws53 k53 => ?_)
          obtain ⟨kp0_53, kp1_53, rfl⟩ := k53
          refine g_goto X (tgt := 60) dX10_canBe_56 (by decide) ?_
          exact hQ _ _ _ _ dX10_canBe_60 ⟨toldOf_43, mostOf_13, sumTo_43, r_toldOf_43, r_mostOf_13, r_sumTo_43, (by first | assumption | omega), (by first | assumption | omega), rfl⟩
      · refine g_bipush X (z := (-2)) dX10_canBe_39 (by decide) ?_
        exact hQ _ _ _ _ dX10_canBe_41 ⟨toldOf_13, mostOf_13, v_sumTo, r_toldOf_13, r_mostOf_13, r_v_sumTo, (by first | assumption | omega), (by first | assumption | omega), rfl⟩
    · refine g_iload_n X dX10_canBe_25 0 rfl ?_
      refine g_if_eq X (tgt := 33) dX10_canBe_26 (by decide) (by omega) (fun c26 => ?_) (fun c26 => ?_)
      · refine g_iconst X dX10_canBe_33 ?_
        exact hQ _ _ _ _ dX10_canBe_34 ⟨toldOf_13, mostOf_13, v_sumTo, r_toldOf_13, r_mostOf_13, r_v_sumTo, (by first | assumption | omega), (by first | assumption | omega), rfl⟩
      · refine g_iconst X dX10_canBe_29 ?_
        refine g_goto X (tgt := 34) dX10_canBe_30 (by decide) ?_
        exact hQ _ _ _ _ dX10_canBe_34 ⟨toldOf_13, mostOf_13, v_sumTo, r_toldOf_13, r_mostOf_13, r_v_sumTo, (by first | assumption | omega), (by first | assumption | omega), rfl⟩
  · refine g_iconst X dX10_canBe_9 ?_
    exact hQ _ _ _ _ dX10_canBe_10 ⟨v_toldOf, v_mostOf, v_sumTo, r_v_toldOf, r_v_mostOf, r_v_sumTo, (by first | assumption | omega), (by first | assumption | omega), rfl⟩
