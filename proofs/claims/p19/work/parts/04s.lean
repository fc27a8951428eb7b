set_option maxHeartbeats 4000000 in
set_option maxRecDepth 100000 in
theorem c_X10_groupOf_b (l : Launch) (D : va_G) (cI cB cJ : ClassId) (h : Nat) (q : Nat → Nat) {v_stalls v_claimMany v_taped v_place0 v_length0 v_fault v_number0 v_open v_codeMany v_waiting v_saidMany v_clauses v_newMany v_newStalls v_lines v_salesNow v_outNow v_isKept v_keptStalls : Int} {v_now v_aside v_kept v_oneOf v_otherOf v_signOf v_byOf v_tape v_said v_waitsAt v_saidLetter v_saidFrom v_saidHalf v_saidTo v_codes v_clauseOf v_codeFrom v_codeHalf v_codeTo v_stack v_facts v_newOne v_newOther v_newSign v_newBy v_moreOf v_firstOf v_toldOf v_mostOf v_mostThen v_sumTo v_rowFrom v_ordersOf v_lessOf v_weightOf v_rowNow v_slowRow v_fastRow v_lineNow v_firstLine v_freeBy v_heldBy v_heightOf v_upTo v_downTo v_oftenOf v_newUpper v_newLower : Nat → Int} {p0 : Int} (r_v_firstOf : RA 0 11 v_firstOf) (hp0 : IR p0) (hp1 : 0 ≤ p0 ∧ p0 ≤ 11) : CtI l yX10_groupOf cX10_groupOf 4 (some .int) ⟨0, 0, 0, 0⟩ D (TY cI cB cJ) (wX10 cI cB cJ h q v_stalls v_claimMany v_taped v_place0 v_length0 v_fault v_number0 v_open v_codeMany v_waiting v_saidMany v_clauses v_newMany v_newStalls v_lines v_salesNow v_outNow v_isKept v_keptStalls v_now v_aside v_kept v_oneOf v_otherOf v_signOf v_byOf v_tape v_said v_waitsAt v_saidLetter v_saidFrom v_saidHalf v_saidTo v_codes v_clauseOf v_codeFrom v_codeHalf v_codeTo v_stack v_facts v_newOne v_newOther v_newSign v_newBy v_moreOf v_firstOf v_toldOf v_mostOf v_mostThen v_sumTo v_rowFrom v_ordersOf v_lessOf v_weightOf v_rowNow v_slowRow v_fastRow v_lineNow v_firstLine v_freeBy v_heldBy v_heightOf v_upTo v_downTo v_oftenOf v_newUpper v_newLower) [.ref h, vI p0] (fun z ws' => (0 ≤ z ∧ z ≤ 4095) ∧ (hasZ z p0 = 1) ∧ (ws' = (wX10 cI cB cJ h q v_stalls v_claimMany v_taped v_place0 v_length0 v_fault v_number0 v_open v_codeMany v_waiting v_saidMany v_clauses v_newMany v_newStalls v_lines v_salesNow v_outNow v_isKept v_keptStalls v_now v_aside v_kept v_oneOf v_otherOf v_signOf v_byOf v_tape v_said v_waitsAt v_saidLetter v_saidFrom v_saidHalf v_saidTo v_codes v_clauseOf v_codeFrom v_codeHalf v_codeTo v_stack v_facts v_newOne v_newOther v_newSign v_newBy v_moreOf v_firstOf v_toldOf v_mostOf v_mostThen v_sumTo v_rowFrom v_ordersOf v_lessOf v_weightOf v_rowNow v_slowRow v_fastRow v_lineNow v_firstLine v_freeBy v_heldBy v_heightOf v_upTo v_downTo v_oftenOf v_newUpper v_newLower))) := by
  refine hdrI (own := RX10) rfl (by decide +kernel) (Nat.le_of_ble_eq_true rfl) ?_
  intro p e s m args below meth c Q A X hQ
  refine g_lvE (lv2 := [(0, .ref h), (1, vI p0)]) rfl ?_
  refine g_iconst X dX10_groupOf_0 ?_
  refine g_istore_n X (lv' := [(2, vI 0), (0, .ref h), (1, vI p0)]) dX10_groupOf_1 (by decide) rfl ?_
  refine g_iconst X dX10_groupOf_2 ?_
  refine g_istore_n X (lv' := [(3, vI 0), (2, vI 0), (0, .ref h), (1, vI p0)]) dX10_groupOf_3 (by decide) rfl ?_
  have L4 : ∀ (n : Nat) (x2_4 : Int) (x3_4 : Int), (0 ≤ x3_4 ∧ x3_4 ≤ 12) → (0 ≤ x2_4 ∧ x2_4 ≤ 4095) → (p0 < x3_4 → hasZ x2_4 p0 = 1) → (12 - x3_4).toNat < n → GG p l e ⟨0, 0, 0, 0⟩ s m args below meth c 0 0 Q D A s.heap 4 (wX10 cI cB cJ h q v_stalls v_claimMany v_taped v_place0 v_length0 v_fault v_number0 v_open v_codeMany v_waiting v_saidMany v_clauses v_newMany v_newStalls v_lines v_salesNow v_outNow v_isKept v_keptStalls v_now v_aside v_kept v_oneOf v_otherOf v_signOf v_byOf v_tape v_said v_waitsAt v_saidLetter v_saidFrom v_saidHalf v_saidTo v_codes v_clauseOf v_codeFrom v_codeHalf v_codeTo v_stack v_facts v_newOne v_newOther v_newSign v_newBy v_moreOf v_firstOf v_toldOf v_mostOf v_mostThen v_sumTo v_rowFrom v_ordersOf v_lessOf v_weightOf v_rowNow v_slowRow v_fastRow v_lineNow v_firstLine v_freeBy v_heldBy v_heightOf v_upTo v_downTo v_oftenOf v_newUpper v_newLower) 4 [(0, .ref h), (1, vI p0), (2, vI x2_4), (3, vI x3_4)] [] := by
    intro n
    induction n with
    | zero => intros; exfalso; omega
    | succ n ih4 =>
      intro x2_4 x3_4 w4_0 w4_1 w4_2 wm4
      refine g_iload_n X dX10_groupOf_4 3 rfl ?_
      refine g_bipush X (z := 12) dX10_groupOf_5 (by decide) ?_
      refine g_icmp_ge X (tgt := 37) dX10_groupOf_7 (by decide) (by omega) (by omega) (fun c7 => ?_) (fun c7 => ?_)
      · refine g_iload_n X dX10_groupOf_37 2 rfl ?_
        have hz : hasZ x2_4 p0 = 1 := w4_2 (by omega)
        exact hQ _ _ _ _ dX10_groupOf_38 ⟨(by first | assumption | omega), (by first | assumption | omega), rfl⟩
      · refine g_aload_n X dX10_groupOf_10 0 rfl ?_
        refine gM_get X 0 rfl 39 (by decide) uw1218 rfl dX10_groupOf_11 ?_
        refine g_iload_n X dX10_groupOf_14 3 rfl ?_
        refine g_iald X 27 0 rfl rfl (by omega) (by decide) dX10_groupOf_15 (fun t15 e15 => ?_)
        have r15 := r_v_firstOf (x3_4 : Int).toNat; rw [← e15] at r15
        refine g_aload_n X dX10_groupOf_16 0 rfl ?_
        refine gM_get X 0 rfl 39 (by decide) uw1218 rfl dX10_groupOf_17 ?_
        refine g_iload_n X dX10_groupOf_20 1 rfl ?_
        refine g_iald X 27 0 rfl rfl (by omega) (by decide) dX10_groupOf_21 (fun t21 e21 => ?_)
        have r21 := r_v_firstOf (p0 : Int).toNat; rw [← e21] at r21
        refine g_icmp_ne X (tgt := 31) dX10_groupOf_22 (by decide) (by omega) (by omega) (fun c22 => ?_) (fun c22 => ?_)
        · refine g_iinc X (lv' := [(3, vI (x3_4 + 1)), (0, .ref h), (1, vI p0), (2, vI x2_4)]) dX10_groupOf_31 3 rfl (by decide) rfl ?_
          refine g_goto X (tgt := 4) dX10_groupOf_34 (by decide) ?_
          refine g_lv [1, 2, 3, 0] rfl ?_
          exact ih4 x2_4 (x3_4 + 1) (by first | assumption | omega) (by first | assumption | omega) (by intro hh; first | (exfalso; omega) | (rw [e29]; exact hasZ_or _ _ _ (by omega) (by omega) (by omega) (if hq : x3_4 = p0 then Or.inr (by rw [← hq]; exact r28.2.2) else Or.inl (w4_2 (by omega)))) | exact (if hq : x3_4 = p0 then absurd (by rw [e15, e21, hq]) c22 else w4_2 (by omega))) (by omega)
        · refine g_iload_n X dX10_groupOf_25 2 rfl ?_
          refine g_iconst X dX10_groupOf_26 ?_
          refine g_iload_n X dX10_groupOf_27 3 rfl ?_
          refine g_ishl X dX10_groupOf_28 ?_
          refine g_nm (fun t28 e28 => ?_)
          have r28 := z_shl1_11 x3_4 (by omega); rw [← e28] at r28
          refine g_ior X dX10_groupOf_29 ?_
          refine g_nm (fun t29 e29 => ?_)
          have r29 := z_ior_4095 x2_4 t28 (by omega) (by omega); rw [← e29] at r29
          refine g_istore_n X (lv' := [(2, vI t29), (0, .ref h), (1, vI p0), (3, vI x3_4)]) dX10_groupOf_30 (by decide) rfl ?_
          refine g_iinc X (lv' := [(3, vI (x3_4 + 1)), (2, vI t29), (0, .ref h), (1, vI p0)]) dX10_groupOf_31 3 rfl (by decide) rfl ?_
          refine g_goto X (tgt := 4) dX10_groupOf_34 (by decide) ?_
          refine g_lv [2, 3, 1, 0] rfl ?_
          exact ih4 t29 (x3_4 + 1) (by first | assumption | omega) (by first | assumption | omega) (by intro hh; first | (exfalso; omega) | (rw [e29]; exact hasZ_or _ _ _ (by omega) (by omega) (by omega) (if hq : x3_4 = p0 then Or.inr (by rw [← hq]; exact r28.2.2) else Or.inl (w4_2 (by omega)))) | exact (if hq : x3_4 = p0 then absurd (by rw [e15, e21, hq]) c22 else w4_2 (by omega))) (by omega)
  refine g_lv [2, 3, 1, 0] rfl ?_
  exact L4 _ 0 0 (by first | assumption | omega) (by first | assumption | omega) (by intro hh; first | (exfalso; omega) | (rw [e29]; exact hasZ_or _ _ _ (by omega) (by omega) (by omega) (if hq : x3_4 = p0 then Or.inr (by rw [← hq]; exact r28.2.2) else Or.inl (w4_2 (by omega)))) | exact (if hq : x3_4 = p0 then absurd (by rw [e15, e21, hq]) c22 else w4_2 (by omega))) (Nat.lt_succ_self _)
set_option maxHeartbeats 4000000 in
set_option maxRecDepth 100000 in
theorem c_X10_groups (l : Launch) (D : va_G) (cI cB cJ : ClassId) (h : Nat) (q : Nat → Nat) {v_stalls v_claimMany v_taped v_place0 v_length0 v_fault v_number0 v_open v_codeMany v_waiting v_saidMany v_clauses v_newMany v_newStalls v_lines v_salesNow v_outNow v_isKept v_keptStalls : Int} {v_now v_aside v_kept v_oneOf v_otherOf v_signOf v_byOf v_tape v_said v_waitsAt v_saidLetter v_saidFrom v_saidHalf v_saidTo v_codes v_clauseOf v_codeFrom v_codeHalf v_codeTo v_stack v_facts v_newOne v_newOther v_newSign v_newBy v_moreOf v_firstOf v_toldOf v_mostOf v_mostThen v_sumTo v_rowFrom v_ordersOf v_lessOf v_weightOf v_rowNow v_slowRow v_fastRow v_lineNow v_firstLine v_freeBy v_heldBy v_heightOf v_upTo v_downTo v_oftenOf v_newUpper v_newLower : Nat → Int} {p0 : Int} (kr_v_claimMany : 0 ≤ v_claimMany ∧ v_claimMany ≤ 40) (r_v_oneOf : RA 0 11 v_oneOf) (r_v_otherOf : RA 0 11 v_otherOf) (r_v_signOf : RA (-2147483648) 2147483647 v_signOf) (r_v_byOf : RA (-9999) 9999 v_byOf) (r_v_moreOf : RA (-2147483648) 2147483647 v_moreOf) (r_v_firstOf : RA 0 11 v_firstOf) (hp0 : IR p0) : CtI l yX10_groups cX10_groups 4 (some .int) ⟨2, 0, 0, 52⟩ D (TY cI cB cJ) (wX10 cI cB cJ h q v_stalls v_claimMany v_taped v_place0 v_length0 v_fault v_number0 v_open v_codeMany v_waiting v_saidMany v_clauses v_newMany v_newStalls v_lines v_salesNow v_outNow v_isKept v_keptStalls v_now v_aside v_kept v_oneOf v_otherOf v_signOf v_byOf v_tape v_said v_waitsAt v_saidLetter v_saidFrom v_saidHalf v_saidTo v_codes v_clauseOf v_codeFrom v_codeHalf v_codeTo v_stack v_facts v_newOne v_newOther v_newSign v_newBy v_moreOf v_firstOf v_toldOf v_mostOf v_mostThen v_sumTo v_rowFrom v_ordersOf v_lessOf v_weightOf v_rowNow v_slowRow v_fastRow v_lineNow v_firstLine v_freeBy v_heldBy v_heightOf v_upTo v_downTo v_oftenOf v_newUpper v_newLower) [.ref h, vI p0] (fun z ws' => ∃ n_moreOf : Nat → Int, ∃ n_firstOf : Nat → Int, (RA (-2147483648) 2147483647 n_moreOf) ∧ (RA 0 11 n_firstOf) ∧ (IR z) ∧ (ws' = (wX10 cI cB cJ h q v_stalls v_claimMany v_taped v_place0 v_length0 v_fault v_number0 v_open v_codeMany v_waiting v_saidMany v_clauses v_newMany v_newStalls v_lines v_salesNow v_outNow v_isKept v_keptStalls v_now v_aside v_kept v_oneOf v_otherOf v_signOf v_byOf v_tape v_said v_waitsAt v_saidLetter v_saidFrom v_saidHalf v_saidTo v_codes v_clauseOf v_codeFrom v_codeHalf v_codeTo v_stack v_facts v_newOne v_newOther v_newSign v_newBy n_moreOf n_firstOf v_toldOf v_mostOf v_mostThen v_sumTo v_rowFrom v_ordersOf v_lessOf v_weightOf v_rowNow v_slowRow v_fastRow v_lineNow v_firstLine v_freeBy v_heldBy v_heightOf v_upTo v_downTo v_oftenOf v_newUpper v_newLower))) := by
  refine hdrI (own := RX10) rfl (by decide +kernel) (Nat.le_of_ble_eq_true rfl) ?_
  intro p e s m args below meth c Q A X hQ
  refine g_lvE (lv2 := [(0, .ref h), (1, vI p0)]) rfl ?_
  refine g_iload_n X dX10_groups_0 1 rfl ?_
  refine g_bipush X (z := 100) dX10_groups_1 (by decide) ?_
  refine g_icmp_eq X (tgt := 15) dX10_groups_3 (by decide) (by omega) (by omega) (fun c3 => ?_) (fun c3 => ?_)
  · refine g_aload_n X dX10_groups_15 0 rfl ?_
    refine g_aload_n X dX10_groups_16 0 rfl ?_
    refine gM_get X 0 rfl 3 (by decide) uw1182 rfl dX10_groups_17 ?_
    refine g_aload_n X dX10_groups_20 0 rfl ?_
    refine gM_get X 0 rfl 4 (by decide) uw1183 rfl dX10_groups_21 ?_
    refine g_aload_n X dX10_groups_24 0 rfl ?_
    refine gM_get X 0 rfl 5 (by decide) uw1184 rfl dX10_groups_25 ?_
    refine g_aload_n X dX10_groups_28 0 rfl ?_
    refine gM_get X 0 rfl 6 (by decide) uw1185 rfl dX10_groups_29 ?_
    refine g_aload_n X dX10_groups_32 0 rfl ?_
    refine gM_get X 0 rfl 8 (by decide) uw1187 rfl dX10_groups_33 ?_
    refine g_callVV0 X (c_X10_laysKnown l D cI cB cJ h q (p4 := v_claimMany) r_v_oneOf r_v_otherOf r_v_signOf r_v_byOf r_v_moreOf r_v_firstOf (by first | assumption | omega) (by first | assumption | omega)) cv_X10_laysKnown uw1502 ⟨rfl, rfl, by decide, by decide⟩ 0 rfl rfl rfl rfl rfl (Nat.le_of_ble_eq_true rfl) ⟨Nat.zero_le _, Nat.zero_le _⟩ dX10_groups_36 (fun ws36 k36 => ?_)
    obtain ⟨moreOf_36, firstOf_36, r_moreOf_36, r_firstOf_36, rfl⟩ := k36
    refine g_iload_n X dX10_groups_39 1 rfl ?_
    refine g_bipush X (z := 100) dX10_groups_40 (by decide) ?_
    refine g_icmp_eq X (tgt := 51) dX10_groups_42 (by decide) (by omega) (by omega) (fun c42 => ?_) (fun c42 => ?_)
    · refine g_iconst X dX10_groups_51 ?_
      refine g_istore_n X (lv' := [(2, vI 0), (0, .ref h), (1, vI p0)]) dX10_groups_52 (by decide) rfl ?_
      refine g_iconst X dX10_groups_53 ?_
      refine g_istore_n X (lv' := [(3, vI 0), (2, vI 0), (0, .ref h), (1, vI p0)]) dX10_groups_54 (by decide) rfl ?_
      have L55 : ∀ (n : Nat) (x2_55 : Int) (x3_55 : Int), (0 ≤ x3_55 ∧ x3_55 ≤ 12) → (0 ≤ x2_55 ∧ x2_55 ≤ x3_55) → (12 - x3_55).toNat < n → GG p l e ⟨2, 0, 0, 52⟩ s m args below meth c 0 0 Q D A s.heap 4 (wX10 cI cB cJ h q v_stalls v_claimMany v_taped v_place0 v_length0 v_fault v_number0 v_open v_codeMany v_waiting v_saidMany v_clauses v_newMany v_newStalls v_lines v_salesNow v_outNow v_isKept v_keptStalls v_now v_aside v_kept v_oneOf v_otherOf v_signOf v_byOf v_tape v_said v_waitsAt v_saidLetter v_saidFrom v_saidHalf v_saidTo v_codes v_clauseOf v_codeFrom v_codeHalf v_codeTo v_stack v_facts v_newOne v_newOther v_newSign v_newBy moreOf_36 firstOf_36 v_toldOf v_mostOf v_mostThen v_sumTo v_rowFrom v_ordersOf v_lessOf v_weightOf v_rowNow v_slowRow v_fastRow v_lineNow v_firstLine v_freeBy v_heldBy v_heightOf v_upTo v_downTo v_oftenOf v_newUpper v_newLower) 55 [(0, .ref h), (2, vI x2_55), (3, vI x3_55)] [] := by
        intro n
        induction n with
        | zero => intros; exfalso; omega
        | succ n ih55 =>
          intro x2_55 x3_55 w55_0 w55_1 wm55
          refine g_iload_n X dX10_groups_55 2 rfl ?_
          refine g_bipush X (z := 12) dX10_groups_56 (by decide) ?_
          refine g_icmp_ge X (tgt := 83) dX10_groups_58 (by decide) (by omega) (by omega) (fun c58 => ?_) (fun c58 => ?_)
          · refine g_iload_n X dX10_groups_83 1 rfl ?_
            exact hQ _ _ _ _ dX10_groups_84 ⟨moreOf_36, firstOf_36, r_moreOf_36, r_firstOf_36, (by first | assumption | omega), rfl⟩
          · refine g_aload_n X dX10_groups_61 0 rfl ?_
            refine g_iload_n X dX10_groups_62 2 rfl ?_
            refine g_callVI0 X (c_X10_groupOf_b l D cI cB cJ h q (p0 := x3_55) r_firstOf_36 (by first | assumption | omega) (by first | assumption | omega)) cv_X10_groupOf uw1524 ⟨rfl, rfl, by decide, by decide⟩ 0 rfl rfl rfl rfl rfl (Nat.le_of_ble_eq_true rfl) ⟨Nat.zero_le _, Nat.zero_le _⟩ dX10_groups_63 (fun t63 ws63 k63 => ?_)
            obtain ⟨kp0_63, kp1_63, rfl⟩ := k63
            have hlow : ∃ k : Int, 0 ≤ k ∧ k ≤ 11 ∧ hasZ t63 k = 1 := ⟨x3_55, by omega, by omega, kp1_63⟩
            refine g_callSIE X (c_X10_lowest l D cI cB cJ (p0 := t63) (by first | assumption | omega) (by first | assumption | omega)) cv_X10_lowest uw1528 ⟨rfl, rfl, by decide, by decide⟩ rfl rfl (Nat.le_of_ble_eq_true rfl) ⟨Nat.zero_le _, Nat.zero_le _⟩ dX10_groups_66 (fun t66 ws66 k66 => ?_)
            obtain ⟨kp0_66, rfl⟩ := k66
            refine g_iload_n X dX10_groups_69 2 rfl ?_
            refine g_icmp_ne X (tgt := 77) dX10_groups_70 (by decide) (by omega) (by omega) (fun c70 => ?_) (fun c70 => ?_)
            · refine g_iinc X (lv' := [(3, vI (x3_55 + 1)), (0, .ref h), (2, vI x2_55)]) dX10_groups_77 2 rfl (by decide) rfl ?_
              refine g_goto X (tgt := 55) dX10_groups_80 (by decide) ?_
              refine g_lv [1, 2, 0] rfl ?_
              exact ih55 x2_55 (x3_55 + 1) (by first | assumption | omega) (by first | assumption | omega) (by omega)
            · refine g_iload_n X dX10_groups_73 1 rfl ?_
              refine g_iconst X dX10_groups_74 ?_
              refine g_iadd X dX10_groups_75 ?_
              refine g_istore_n X (lv' := [(2, vI (x2_55 + 1)), (0, .ref h), (3, vI x3_55)]) dX10_groups_76 (by decide) rfl ?_
              refine g_iinc X (lv' := [(3, vI (x3_55 + 1)), (2, vI (x2_55 + 1)), (0, .ref h)]) dX10_groups_77 2 rfl (by decide) rfl ?_
              refine g_goto X (tgt := 55) dX10_groups_80 (by decide) ?_
              refine g_lv [2, 1, 0] rfl ?_
              exact ih55 (x2_55 + 1) (x3_55 + 1) (by first | assumption | omega) (by first | assumption | omega) (by omega)
      refine g_lv [2, 1, 0] rfl ?_
      exact L55 _ 0 0 (by first | assumption | omega) (by first | assumption | omega) (Nat.lt_succ_self _)
    · refine g_aload_n X dX10_groups_45 0 rfl ?_
      refine g_iload_n X dX10_groups_46 1 rfl ?_
      refine g_callVI0 X (c_X10_groupOf_b l D cI cB cJ h q (p0 := p0) r_firstOf_36 (by first | assumption | omega) (by first | assumption | omega)) cv_X10_groupOf uw1524 ⟨rfl, rfl, by decide, by decide⟩ 0 rfl rfl rfl rfl rfl (Nat.le_of_ble_eq_true rfl) ⟨Nat.zero_le _, Nat.zero_le _⟩ dX10_groups_47 (fun t47 ws47 k47 => ?_)
      obtain ⟨kp0_47, kp1_47, rfl⟩ := k47
      exact hQ _ _ _ _ dX10_groups_50 ⟨moreOf_36, firstOf_36, r_moreOf_36, r_firstOf_36, (by first | assumption | omega), rfl⟩
  · refine g_iload_n X dX10_groups_6 1 rfl ?_
    refine g_callSIE X (c_X10_isThing l D cI cB cJ (p0 := p0) (by first | assumption | omega)) cv_X10_isThing uw1488 ⟨rfl, rfl, by decide, by decide⟩ rfl rfl (Nat.le_of_ble_eq_true rfl) ⟨Nat.zero_le _, Nat.zero_le _⟩ dX10_groups_7 (fun t7 ws7 k7 => ?_)
    obtain ⟨kb_7, ⟨kp0_7, rfl⟩⟩ := k7
    refine g_if_ne X (tgt := 15) dX10_groups_10 (by decide) (by omega) (fun c10 => ?_) (fun c10 => ?_)
    · refine g_aload_n X dX10_groups_15 0 rfl ?_
      refine g_aload_n X dX10_groups_16 0 rfl ?_
      refine gM_get X 0 rfl 3 (by decide) uw1182 rfl dX10_groups_17 ?_
      refine g_aload_n X dX10_groups_20 0 rfl ?_
      refine gM_get X 0 rfl 4 (by decide) uw1183 rfl dX10_groups_21 ?_
      refine g_aload_n X dX10_groups_24 0 rfl ?_
      refine gM_get X 0 rfl 5 (by decide) uw1184 rfl dX10_groups_25 ?_
      refine g_aload_n X dX10_groups_28 0 rfl ?_
      refine gM_get X 0 rfl 6 (by decide) uw1185 rfl dX10_groups_29 ?_
      refine g_aload_n X dX10_groups_32 0 rfl ?_
      refine gM_get X 0 rfl 8 (by decide) uw1187 rfl dX10_groups_33 ?_
      refine g_callVV0 X (c_X10_laysKnown l D cI cB cJ h q (p4 := v_claimMany) r_v_oneOf r_v_otherOf r_v_signOf r_v_byOf r_v_moreOf r_v_firstOf (by first | assumption | omega) (by first | assumption | omega)) cv_X10_laysKnown uw1502 ⟨rfl, rfl, by decide, by decide⟩ 0 rfl rfl rfl rfl rfl (Nat.le_of_ble_eq_true rfl) ⟨Nat.zero_le _, Nat.zero_le _⟩ dX10_groups_36 (fun ws36 k36 => ?_)
      obtain ⟨moreOf_36, firstOf_36, r_moreOf_36, r_firstOf_36, rfl⟩ := k36
      refine g_iload_n X dX10_groups_39 1 rfl ?_
      refine g_bipush X (z := 100) dX10_groups_40 (by decide) ?_
      refine g_icmp_eq X (tgt := 51) dX10_groups_42 (by decide) (by omega) (by omega) (fun c42 => ?_) (fun c42 => ?_)
      · refine g_iconst X dX10_groups_51 ?_
        refine g_istore_n X (lv' := [(2, vI 0), (0, .ref h), (1, vI p0)]) dX10_groups_52 (by decide) rfl ?_
        refine g_iconst X dX10_groups_53 ?_
        refine g_istore_n X (lv' := [(3, vI 0), (2, vI 0), (0, .ref h), (1, vI p0)]) dX10_groups_54 (by decide) rfl ?_
        have L55 : ∀ (n : Nat) (x2_55 : Int) (x3_55 : Int), (0 ≤ x3_55 ∧ x3_55 ≤ 12) → (0 ≤ x2_55 ∧ x2_55 ≤ x3_55) → (12 - x3_55).toNat < n → GG p l e ⟨2, 0, 0, 52⟩ s m args below meth c 0 0 Q D A s.heap 4 (wX10 cI cB cJ h q v_stalls v_claimMany v_taped v_place0 v_length0 v_fault v_number0 v_open v_codeMany v_waiting v_saidMany v_clauses v_newMany v_newStalls v_lines v_salesNow v_outNow v_isKept v_keptStalls v_now v_aside v_kept v_oneOf v_otherOf v_signOf v_byOf v_tape v_said v_waitsAt v_saidLetter v_saidFrom v_saidHalf v_saidTo v_codes v_clauseOf v_codeFrom v_codeHalf v_codeTo v_stack v_facts v_newOne v_newOther v_newSign v_newBy moreOf_36 firstOf_36 v_toldOf v_mostOf v_mostThen v_sumTo v_rowFrom v_ordersOf v_lessOf v_weightOf v_rowNow v_slowRow v_fastRow v_lineNow v_firstLine v_freeBy v_heldBy v_heightOf v_upTo v_downTo v_oftenOf v_newUpper v_newLower) 55 [(0, .ref h), (2, vI x2_55), (3, vI x3_55)] [] := by
          intro n
          induction n with
          | zero => intros; exfalso; omega
          | succ n ih55 =>
            intro x2_55 x3_55 w55_0 w55_1 wm55
            refine g_iload_n X dX10_groups_55 2 rfl ?_
            refine g_bipush X (z := 12) dX10_groups_56 (by decide) ?_
            refine g_icmp_ge X (tgt := 83) dX10_groups_58 (by decide) (by omega) (by omega) (fun c58 => ?_) (fun c58 => ?_)
            · refine g_iload_n X dX10_groups_83 1 rfl ?_
              exact hQ _ _ _ _ dX10_groups_84 ⟨moreOf_36, firstOf_36, r_moreOf_36, r_firstOf_36, (by first | assumption | omega), rfl⟩
            · refine g_aload_n X dX10_groups_61 0 rfl ?_
              refine g_iload_n X dX10_groups_62 2 rfl ?_
              refine g_callVI0 X (c_X10_groupOf_b l D cI cB cJ h q (p0 := x3_55) r_firstOf_36 (by first | assumption | omega) (by first | assumption | omega)) cv_X10_groupOf uw1524 ⟨rfl, rfl, by decide, by decide⟩ 0 rfl rfl rfl rfl rfl (Nat.le_of_ble_eq_true rfl) ⟨Nat.zero_le _, Nat.zero_le _⟩ dX10_groups_63 (fun t63 ws63 k63 => ?_)
              obtain ⟨kp0_63, kp1_63, rfl⟩ := k63
              have hlow : ∃ k : Int, 0 ≤ k ∧ k ≤ 11 ∧ hasZ t63 k = 1 := ⟨x3_55, by omega, by omega, kp1_63⟩
              refine g_callSIE X (c_X10_lowest l D cI cB cJ (p0 := t63) (by first | assumption | omega) (by first | assumption | omega)) cv_X10_lowest uw1528 ⟨rfl, rfl, by decide, by decide⟩ rfl rfl (Nat.le_of_ble_eq_true rfl) ⟨Nat.zero_le _, Nat.zero_le _⟩ dX10_groups_66 (fun t66 ws66 k66 => ?_)
              obtain ⟨kp0_66, rfl⟩ := k66
              refine g_iload_n X dX10_groups_69 2 rfl ?_
              refine g_icmp_ne X (tgt := 77) dX10_groups_70 (by decide) (by omega) (by omega) (fun c70 => ?_) (fun c70 => ?_)
              · refine g_iinc X (lv' := [(3, vI (x3_55 + 1)), (0, .ref h), (2, vI x2_55)]) dX10_groups_77 2 rfl (by decide) rfl ?_
                refine g_goto X (tgt := 55) dX10_groups_80 (by decide) ?_
                refine g_lv [1, 2, 0] rfl ?_
                exact ih55 x2_55 (x3_55 + 1) (by first | assumption | omega) (by first | assumption | omega) (by omega)
              · refine g_iload_n X dX10_groups_73 1 rfl ?_
                refine g_iconst X dX10_groups_74 ?_
                refine g_iadd X dX10_groups_75 ?_
                refine g_istore_n X (lv' := [(2, vI (x2_55 + 1)), (0, .ref h), (3, vI x3_55)]) dX10_groups_76 (by decide) rfl ?_
                refine g_iinc X (lv' := [(3, vI (x3_55 + 1)), (2, vI (x2_55 + 1)), (0, .ref h)]) dX10_groups_77 2 rfl (by decide) rfl ?_
                refine g_goto X (tgt := 55) dX10_groups_80 (by decide) ?_
                refine g_lv [2, 1, 0] rfl ?_
                exact ih55 (x2_55 + 1) (x3_55 + 1) (by first | assumption | omega) (by first | assumption | omega) (by omega)
        refine g_lv [2, 1, 0] rfl ?_
        exact L55 _ 0 0 (by first | assumption | omega) (by first | assumption | omega) (Nat.lt_succ_self _)
      · refine g_aload_n X dX10_groups_45 0 rfl ?_
        refine g_iload_n X dX10_groups_46 1 rfl ?_
        refine g_callVI0 X (c_X10_groupOf_b l D cI cB cJ h q (p0 := p0) r_firstOf_36 (by first | assumption | omega) (by first | assumption | omega)) cv_X10_groupOf uw1524 ⟨rfl, rfl, by decide, by decide⟩ 0 rfl rfl rfl rfl rfl (Nat.le_of_ble_eq_true rfl) ⟨Nat.zero_le _, Nat.zero_le _⟩ dX10_groups_47 (fun t47 ws47 k47 => ?_)
        obtain ⟨kp0_47, kp1_47, rfl⟩ := k47
        exact hQ _ _ _ _ dX10_groups_50 ⟨moreOf_36, firstOf_36, r_moreOf_36, r_firstOf_36, (by first | assumption | omega), rfl⟩
    · refine g_iconst X dX10_groups_13 ?_
      exact hQ _ _ _ _ dX10_groups_14 ⟨v_moreOf, v_firstOf, r_v_moreOf, r_v_firstOf, (by first | assumption | omega), rfl⟩
