set_option maxHeartbeats 4000000 in
set_option maxRecDepth 100000 in
theorem c_X10_groupOf_b (l : Launch) (D : va_G) (cI cB cJ : ClassId) (h : Nat) (q : Nat → Nat) {v_stalls v_claimMany v_taped v_place0 v_length0 v_fault v_number0 v_open v_codeMany v_waiting v_saidMany v_clauses v_newMany v_newStalls v_lines v_salesNow v_outNow v_isKept v_keptStalls : Int} {v_now v_aside v_kept v_oneOf v_otherOf v_signOf v_byOf v_tape v_said v_waitsAt v_saidLetter v_saidFrom v_saidHalf v_saidTo v_codes v_clauseOf v_codeFrom v_codeHalf v_codeTo v_stack v_facts v_newOne v_newOther v_newSign v_newBy v_moreOf v_firstOf v_toldOf v_mostOf v_mostThen v_sumTo v_rowFrom v_ordersOf v_lessOf v_weightOf v_rowNow v_slowRow v_fastRow v_lineNow v_firstLine v_freeBy v_heldBy v_heightOf v_upTo v_downTo v_oftenOf v_newUpper v_newLower : Nat → Int} {p0 : Int} (r_v_firstOf : RA 0 11 v_firstOf) (hp0 : IR p0) (hp1 : 0 ≤ p0 ∧ p0 ≤ 11) : CtI l yX10_groupOf cX10_groupOf 4 (some .int) ⟨0, 0, 0, 0⟩ D (TY cI cB cJ) (wX10 cI cB cJ h q v_stalls v_claimMany v_taped v_place0 v_length0 v_fault v_number0 v_open v_codeMany v_waiting v_saidMany v_clauses v_newMany v_newStalls v_lines v_salesNow v_outNow v_isKept v_keptStalls v_now v_aside v_kept v_oneOf v_otherOf v_signOf v_byOf v_tape v_said v_waitsAt v_saidLetter v_saidFrom v_saidHalf v_saidTo v_codes v_clauseOf v_codeFrom v_codeHalf v_codeTo v_stack v_facts v_newOne v_newOther v_newSign v_newBy v_moreOf v_firstOf v_toldOf v_mostOf v_mostThen v_sumTo v_rowFrom v_ordersOf v_lessOf v_weightOf v_rowNow v_slowRow v_fastRow v_lineNow v_firstLine v_freeBy v_heldBy v_heightOf v_upTo v_downTo v_oftenOf v_newUpper v_newLower) [.ref h, vI p0] (fun z ws' => (0 ≤ z ∧ z ≤ 4095) ∧ (hasZ z p0 = 1) ∧ (z = grB v_firstOf p0.toNat 12) ∧ (ws' = (wX10 cI cB cJ h q v_stalls v_claimMany v_taped v_place0 v_length0 v_fault v_number0 v_open v_codeMany v_waiting v_saidMany v_clauses v_newMany v_newStalls v_lines v_salesNow v_outNow v_isKept v_keptStalls v_now v_aside v_kept v_oneOf v_otherOf v_signOf v_byOf v_tape v_said v_waitsAt v_saidLetter v_saidFrom v_saidHalf v_saidTo v_codes v_clauseOf v_codeFrom v_codeHalf v_codeTo v_stack v_facts v_newOne v_newOther v_newSign v_newBy v_moreOf v_firstOf v_toldOf v_mostOf v_mostThen v_sumTo v_rowFrom v_ordersOf v_lessOf v_weightOf v_rowNow v_slowRow v_fastRow v_lineNow v_firstLine v_freeBy v_heldBy v_heightOf v_upTo v_downTo v_oftenOf v_newUpper v_newLower))) := by
  refine hdrI (own := RX10) rfl (by decide +kernel) (Nat.le_of_ble_eq_true rfl) ?_
  intro p e s m args below meth c Q A X hQ
  refine g_lvE (lv2 := [(0, .ref h), (1, vI p0)]) rfl ?_
  refine g_iconst X dX10_groupOf_0 ?_
  refine g_istore_n X (lv' := [(2, vI 0), (0, .ref h), (1, vI p0)]) dX10_groupOf_1 (by decide) rfl ?_
  refine g_iconst X dX10_groupOf_2 ?_
  refine g_istore_n X (lv' := [(3, vI 0), (2, vI 0), (0, .ref h), (1, vI p0)]) dX10_groupOf_3 (by decide) rfl ?_
  have h0 : grB v_firstOf p0.toNat (0 : Int).toNat = 0 := rfl
  have L4 : ∀ (n : Nat) (x2_4 : Int) (x3_4 : Int), (0 ≤ x3_4 ∧ x3_4 ≤ 12) → (0 ≤ x2_4 ∧ x2_4 ≤ 4095) → (p0 < x3_4 → hasZ x2_4 p0 = 1) → (x2_4 = grB v_firstOf p0.toNat (x3_4).toNat) → (12 - x3_4).toNat < n → GG p l e ⟨0, 0, 0, 0⟩ s m args below meth c 0 0 Q D A s.heap 4 (wX10 cI cB cJ h q v_stalls v_claimMany v_taped v_place0 v_length0 v_fault v_number0 v_open v_codeMany v_waiting v_saidMany v_clauses v_newMany v_newStalls v_lines v_salesNow v_outNow v_isKept v_keptStalls v_now v_aside v_kept v_oneOf v_otherOf v_signOf v_byOf v_tape v_said v_waitsAt v_saidLetter v_saidFrom v_saidHalf v_saidTo v_codes v_clauseOf v_codeFrom v_codeHalf v_codeTo v_stack v_facts v_newOne v_newOther v_newSign v_newBy v_moreOf v_firstOf v_toldOf v_mostOf v_mostThen v_sumTo v_rowFrom v_ordersOf v_lessOf v_weightOf v_rowNow v_slowRow v_fastRow v_lineNow v_firstLine v_freeBy v_heldBy v_heightOf v_upTo v_downTo v_oftenOf v_newUpper v_newLower) 4 [(0, .ref h), (1, vI p0), (2, vI x2_4), (3, vI x3_4)] [] := by
    intro n
    induction n with
    | zero => intros; exfalso; omega
    | succ n ih4 =>
      intro x2_4 x3_4 w4_0 w4_1 w4_2 w4_3 wm4
      have hS := grB_s v_firstOf p0.toNat (x := x3_4) (by omega)
      refine g_iload_n X dX10_groupOf_4 3 rfl ?_
      refine g_bipush X (z := 12) dX10_groupOf_5 (by decide) ?_
      refine g_icmp_ge X (tgt := 37) dX10_groupOf_7 (by decide) (by omega) (by omega) (fun c7 => ?_) (fun c7 => ?_)
      · refine g_iload_n X dX10_groupOf_37 2 rfl ?_
        have hz : hasZ x2_4 p0 = 1 := w4_2 (by omega)
        have hx : x3_4 = 12 := by omega
        have hF : x2_4 = grB v_firstOf p0.toNat 12 := by rw [w4_3, hx]; rfl
        exact hQ _ _ _ _ dX10_groupOf_38 ⟨(by first | assumption | omega), (by first | assumption | omega), (by first | assumption | omega), rfl⟩
      · refine g_aload_n X dX10_groupOf_10 0 rfl ?_
        refine gM_get X 0 rfl 39 (by decide) uw1218 rfl dX10_groupOf_11 ?_
        refine g_iload_n X dX10_groupOf_14 3 rfl ?_
        refine g_iald X 27 0 rfl rfl (by omega) (by decide) dX10_groupOf_15 (fun t15 e15 => ?_)
        have r15 := r_v_firstOf (x3_4 : Int).toNat; rw [← e15] at r15
        refine g_aload_n X dX10_groupOf_16 0 rfl ?_
        refine gM_get X 0 rfl 39 (by decide) uw1218 rfl dX10_groupOf_17 ?_
        refine g_iload_n X dX10_groupOf_20 1 rfl ?_
        refine g_iald X 27 0 rfl rfl (by omega) (by decide) dX10_groupOf_21 (fun t21 e21 => ?_)
        have r21 := r_v_firstOf (p0 : Int).toNat; rw [← e21] at r21
        refine g_icmp_ne X (tgt := 31) dX10_groupOf_22 (by decide) (by omega) (by omega) (fun c22 => ?_) (fun c22 => ?_)
        · refine g_iinc X (lv' := [(3, vI (x3_4 + 1)), (0, .ref h), (1, vI p0), (2, vI x2_4)]) dX10_groupOf_31 3 rfl (by decide) rfl ?_
          refine g_goto X (tgt := 4) dX10_groupOf_34 (by decide) ?_
          refine g_lv [1, 2, 3, 0] rfl ?_
          exact ih4 x2_4 (x3_4 + 1) (by first | assumption | omega) (by first | assumption | omega) (by intro hh; first | (exfalso; omega) | (rw [e29]; exact hasZ_or _ _ _ (by omega) (by omega) (by omega) (if hq : x3_4 = p0 then Or.inr (by rw [← hq]; exact r28.2.2) else Or.inl (w4_2 (by omega)))) | exact (if hq : x3_4 = p0 then absurd (by rw [e15, e21, hq]) c22 else w4_2 (by omega))) (by first | omega | (rw [e29, e28, w4_3]; omega)) (by omega)
        · refine g_iload_n X dX10_groupOf_25 2 rfl ?_
          refine g_iconst X dX10_groupOf_26 ?_
          refine g_iload_n X dX10_groupOf_27 3 rfl ?_
          refine g_ishl X dX10_groupOf_28 ?_
          refine g_nm (fun t28 e28 => ?_)
          have r28 := z_shl1_11 x3_4 (by omega); rw [← e28] at r28
          refine g_ior X dX10_groupOf_29 ?_
          refine g_nm (fun t29 e29 => ?_)
          have r29 := z_ior_4095 x2_4 t28 (by omega) (by omega); rw [← e29] at r29
          refine g_istore_n X (lv' := [(2, vI t29), (0, .ref h), (1, vI p0), (3, vI x3_4)]) dX10_groupOf_30 (by decide) rfl ?_
          refine g_iinc X (lv' := [(3, vI (x3_4 + 1)), (2, vI t29), (0, .ref h), (1, vI p0)]) dX10_groupOf_31 3 rfl (by decide) rfl ?_
          refine g_goto X (tgt := 4) dX10_groupOf_34 (by decide) ?_
          refine g_lv [2, 3, 1, 0] rfl ?_
          exact ih4 t29 (x3_4 + 1) (by first | assumption | omega) (by first | assumption | omega) (by intro hh; first | (exfalso; omega) | (rw [e29]; exact hasZ_or _ _ _ (by omega) (by omega) (by omega) (if hq : x3_4 = p0 then Or.inr (by rw [← hq]; exact r28.2.2) else Or.inl (w4_2 (by omega)))) | exact (if hq : x3_4 = p0 then absurd (by rw [e15, e21, hq]) c22 else w4_2 (by omega))) (by first | omega | (rw [e29, e28, w4_3]; omega)) (by omega)
  refine g_lv [2, 3, 1, 0] rfl ?_
  exact L4 _ 0 0 (by first | assumption | omega) (by first | assumption | omega) (by intro hh; first | (exfalso; omega) | (rw [e29]; exact hasZ_or _ _ _ (by omega) (by omega) (by omega) (if hq : x3_4 = p0 then Or.inr (by rw [← hq]; exact r28.2.2) else Or.inl (w4_2 (by omega)))) | exact (if hq : x3_4 = p0 then absurd (by rw [e15, e21, hq]) c22 else w4_2 (by omega))) (by first | omega | (rw [e29, e28, w4_3]; omega)) (Nat.lt_succ_self _)
set_option maxHeartbeats 4000000 in
set_option maxRecDepth 100000 in
theorem c_X10_groups (l : Launch) (D : va_G) (cI cB cJ : ClassId) (h : Nat) (q : Nat → Nat) {v_stalls v_claimMany v_taped v_place0 v_length0 v_fault v_number0 v_open v_codeMany v_waiting v_saidMany v_clauses v_newMany v_newStalls v_lines v_salesNow v_outNow v_isKept v_keptStalls : Int} {v_now v_aside v_kept v_oneOf v_otherOf v_signOf v_byOf v_tape v_said v_waitsAt v_saidLetter v_saidFrom v_saidHalf v_saidTo v_codes v_clauseOf v_codeFrom v_codeHalf v_codeTo v_stack v_facts v_newOne v_newOther v_newSign v_newBy v_moreOf v_firstOf v_toldOf v_mostOf v_mostThen v_sumTo v_rowFrom v_ordersOf v_lessOf v_weightOf v_rowNow v_slowRow v_fastRow v_lineNow v_firstLine v_freeBy v_heldBy v_heightOf v_upTo v_downTo v_oftenOf v_newUpper v_newLower : Nat → Int} {p0 : Int} (kr_v_claimMany : 0 ≤ v_claimMany ∧ v_claimMany ≤ 40) (r_v_oneOf : RA 0 11 v_oneOf) (r_v_otherOf : RA 0 11 v_otherOf) (r_v_signOf : RA (-2147483648) 2147483647 v_signOf) (r_v_byOf : RA (-9999) 9999 v_byOf) (r_v_moreOf : RA (-2147483648) 2147483647 v_moreOf) (r_v_firstOf : RA 0 11 v_firstOf) (hp0 : IR p0) : CtI l yX10_groups cX10_groups 4 (some .int) ⟨2, 0, 0, 52⟩ D (TY cI cB cJ) (wX10 cI cB cJ h q v_stalls v_claimMany v_taped v_place0 v_length0 v_fault v_number0 v_open v_codeMany v_waiting v_saidMany v_clauses v_newMany v_newStalls v_lines v_salesNow v_outNow v_isKept v_keptStalls v_now v_aside v_kept v_oneOf v_otherOf v_signOf v_byOf v_tape v_said v_waitsAt v_saidLetter v_saidFrom v_saidHalf v_saidTo v_codes v_clauseOf v_codeFrom v_codeHalf v_codeTo v_stack v_facts v_newOne v_newOther v_newSign v_newBy v_moreOf v_firstOf v_toldOf v_mostOf v_mostThen v_sumTo v_rowFrom v_ordersOf v_lessOf v_weightOf v_rowNow v_slowRow v_fastRow v_lineNow v_firstLine v_freeBy v_heldBy v_heightOf v_upTo v_downTo v_oftenOf v_newUpper v_newLower) [.ref h, vI p0] (fun z ws' => ∃ n_moreOf : Nat → Int, ∃ n_firstOf : Nat → Int, (RA (-2147483648) 2147483647 n_moreOf) ∧ (RA 0 11 n_firstOf) ∧ (IR z) ∧ ((p0 = 100 ∧ z = fcN (kn v_oneOf v_otherOf v_signOf v_byOf v_claimMany.toNat).1 12) ∨ (0 ≤ p0 ∧ p0 ≤ 11 ∧ z = grB (kn v_oneOf v_otherOf v_signOf v_byOf v_claimMany.toNat).1 p0.toNat 12) ∨ (¬ (p0 = 100 ∨ (0 ≤ p0 ∧ p0 ≤ 11)) ∧ z = -1)) ∧ (ws' = (wX10 cI cB cJ h q v_stalls v_claimMany v_taped v_place0 v_length0 v_fault v_number0 v_open v_codeMany v_waiting v_saidMany v_clauses v_newMany v_newStalls v_lines v_salesNow v_outNow v_isKept v_keptStalls v_now v_aside v_kept v_oneOf v_otherOf v_signOf v_byOf v_tape v_said v_waitsAt v_saidLetter v_saidFrom v_saidHalf v_saidTo v_codes v_clauseOf v_codeFrom v_codeHalf v_codeTo v_stack v_facts v_newOne v_newOther v_newSign v_newBy n_moreOf n_firstOf v_toldOf v_mostOf v_mostThen v_sumTo v_rowFrom v_ordersOf v_lessOf v_weightOf v_rowNow v_slowRow v_fastRow v_lineNow v_firstLine v_freeBy v_heldBy v_heightOf v_upTo v_downTo v_oftenOf v_newUpper v_newLower))) := by
  refine hdrI (own := RX10) rfl (by decide +kernel) (Nat.le_of_ble_eq_true rfl) ?_
  intro p e s m args below meth c Q A X hQ
  refine g_lvE (lv2 := [(0, .ref h), (1, vI p0)]) rfl ?_
  refine g_iload_n X dX10_groups_0 1 rfl ?_
  refine g_bipush X (z := 100) dX10_groups_1 (by decide) ?_
  refine g_icmp_eq X (tgt := 15) dX10_groups_3 (by decide) (by omega) (by omega) (fun c3 => ?_) (fun c3 => ?_)
  · refine g_aload_n X dX10_groups_15 0 rfl ?_
    refine g_aload_n X dX10_groups_16 0 rfl ?_
    refine gM_get X 0 rfl 3 (by decide) uw1182 rfl dX10_groups_17 ?_
    refine g_aload_n X dX10_groups_20 0 rfl ?_
    refine gM_get X 0 rfl 4 (by decide) uw1183 rfl dX10_groups_21 ?_
    refine g_aload_n X dX10_groups_24 0 rfl ?_
    refine gM_get X 0 rfl 5 (by decide) uw1184 rfl dX10_groups_25 ?_
    refine g_aload_n X dX10_groups_28 0 rfl ?_
    refine gM_get X 0 rfl 6 (by decide) uw1185 rfl dX10_groups_29 ?_
    refine g_aload_n X dX10_groups_32 0 rfl ?_
    refine gM_get X 0 rfl 8 (by decide) uw1187 rfl dX10_groups_33 ?_
    refine g_callVV0 X (c_X10_laysKnown l D cI cB cJ h q (p4 := v_claimMany) r_v_oneOf r_v_otherOf r_v_signOf r_v_byOf r_v_moreOf r_v_firstOf (by first | assumption | omega) (by first | assumption | omega)) cv_X10_laysKnown uw1502 ⟨rfl, rfl, by decide, by decide⟩ 0 rfl rfl rfl rfl rfl (Nat.le_of_ble_eq_true rfl) ⟨Nat.zero_le _, Nat.zero_le _⟩ dX10_groups_36 (fun ws36 k36 => ?_)
    obtain ⟨moreOf_36, firstOf_36, r_moreOf_36, r_firstOf_36, kp0_36, rfl⟩ := k36
    refine g_iload_n X dX10_groups_39 1 rfl ?_
    refine g_bipush X (z := 100) dX10_groups_40 (by decide) ?_
    refine g_icmp_eq X (tgt := 51) dX10_groups_42 (by decide) (by omega) (by omega) (fun c42 => ?_) (fun c42 => ?_)
    · refine g_iconst X dX10_groups_51 ?_
      refine g_istore_n X (lv' := [(2, vI 0), (0, .ref h), (1, vI p0)]) dX10_groups_52 (by decide) rfl ?_
      refine g_iconst X dX10_groups_53 ?_
      refine g_istore_n X (lv' := [(3, vI 0), (2, vI 0), (0, .ref h), (1, vI p0)]) dX10_groups_54 (by decide) rfl ?_
      have h0 : fcN firstOf_36 (0 : Int).toNat = 0 := rfl
      have L55 : ∀ (n : Nat) (x2_55 : Int) (x3_55 : Int), (0 ≤ x3_55 ∧ x3_55 ≤ 12) → (0 ≤ x2_55 ∧ x2_55 ≤ x3_55) → (x2_55 = fcN firstOf_36 (x3_55).toNat) → (12 - x3_55).toNat < n → GG p l e ⟨2, 0, 0, 52⟩ s m args below meth c 0 0 Q D A s.heap 4 (wX10 cI cB cJ h q v_stalls v_claimMany v_taped v_place0 v_length0 v_fault v_number0 v_open v_codeMany v_waiting v_saidMany v_clauses v_newMany v_newStalls v_lines v_salesNow v_outNow v_isKept v_keptStalls v_now v_aside v_kept v_oneOf v_otherOf v_signOf v_byOf v_tape v_said v_waitsAt v_saidLetter v_saidFrom v_saidHalf v_saidTo v_codes v_clauseOf v_codeFrom v_codeHalf v_codeTo v_stack v_facts v_newOne v_newOther v_newSign v_newBy moreOf_36 firstOf_36 v_toldOf v_mostOf v_mostThen v_sumTo v_rowFrom v_ordersOf v_lessOf v_weightOf v_rowNow v_slowRow v_fastRow v_lineNow v_firstLine v_freeBy v_heldBy v_heightOf v_upTo v_downTo v_oftenOf v_newUpper v_newLower) 55 [(0, .ref h), (2, vI x2_55), (3, vI x3_55)] [] := by
        intro n
        induction n with
        | zero => intros; exfalso; omega
        | succ n ih55 =>
          intro x2_55 x3_55 w55_0 w55_1 w55_2 wm55
          refine g_iload_n X dX10_groups_55 2 rfl ?_
          refine g_bipush X (z := 12) dX10_groups_56 (by decide) ?_
          refine g_icmp_ge X (tgt := 83) dX10_groups_58 (by decide) (by omega) (by omega) (fun c58 => ?_) (fun c58 => ?_)
          · refine g_iload_n X dX10_groups_83 1 rfl ?_
            have hF : fcN firstOf_36 12 = fcN (kn v_oneOf v_otherOf v_signOf v_byOf v_claimMany.toNat).1 12 := fcN_c 12 (fun c d hc hd => by rw [(kp0_36 c hc).1, (kp0_36 d hd).1])
            have hx : x3_55 = 12 := by omega
            have hF2 : x2_55 = fcN firstOf_36 12 := by rw [w55_2, hx]; rfl
            exact hQ _ _ _ _ dX10_groups_84 ⟨moreOf_36, firstOf_36, r_moreOf_36, r_firstOf_36, (by first | assumption | omega), (by first | assumption | omega), rfl⟩
          · refine g_aload_n X dX10_groups_61 0 rfl ?_
            refine g_iload_n X dX10_groups_62 2 rfl ?_
            refine g_callVI0 X (c_X10_groupOf_b l D cI cB cJ h q (p0 := x3_55) r_firstOf_36 (by first | assumption | omega) (by first | assumption | omega)) cv_X10_groupOf uw1524 ⟨rfl, rfl, by decide, by decide⟩ 0 rfl rfl rfl rfl rfl (Nat.le_of_ble_eq_true rfl) ⟨Nat.zero_le _, Nat.zero_le _⟩ dX10_groups_63 (fun t63 ws63 k63 => ?_)
            obtain ⟨kp0_63, kp1_63, kp2_63, rfl⟩ := k63
            have hlow : ∃ k : Int, 0 ≤ k ∧ k ≤ 11 ∧ hasZ t63 k = 1 := ⟨x3_55, by omega, by omega, kp1_63⟩
            refine g_callSIE X (c_X10_lowest l D cI cB cJ (p0 := t63) (by first | assumption | omega) (by first | assumption | omega)) cv_X10_lowest uw1528 ⟨rfl, rfl, by decide, by decide⟩ rfl rfl (Nat.le_of_ble_eq_true rfl) ⟨Nat.zero_le _, Nat.zero_le _⟩ dX10_groups_66 (fun t66 ws66 k66 => ?_)
            obtain ⟨kp0_66, kp1_66, kp2_66, rfl⟩ := k66
            have hlo := low_gr (f := firstOf_36) (x := x3_55) (by omega) kp2_63 (by omega) kp1_66 kp2_66
            refine g_iload_n X dX10_groups_69 2 rfl ?_
            refine g_icmp_ne X (tgt := 77) dX10_groups_70 (by decide) (by omega) (by omega) (fun c70 => ?_) (fun c70 => ?_)
            · refine g_iinc X (lv' := [(3, vI (x3_55 + 1)), (0, .ref h), (2, vI x2_55)]) dX10_groups_77 2 rfl (by decide) rfl ?_
              refine g_goto X (tgt := 55) dX10_groups_80 (by decide) ?_
              refine g_lv [1, 2, 0] rfl ?_
              exact ih55 x2_55 (x3_55 + 1) (by first | assumption | omega) (by first | assumption | omega) (by first | assumption | omega) (by omega)
            · refine g_iload_n X dX10_groups_73 1 rfl ?_
              refine g_iconst X dX10_groups_74 ?_
              refine g_iadd X dX10_groups_75 ?_
              refine g_istore_n X (lv' := [(2, vI (x2_55 + 1)), (0, .ref h), (3, vI x3_55)]) dX10_groups_76 (by decide) rfl ?_
              refine g_iinc X (lv' := [(3, vI (x3_55 + 1)), (2, vI (x2_55 + 1)), (0, .ref h)]) dX10_groups_77 2 rfl (by decide) rfl ?_
              refine g_goto X (tgt := 55) dX10_groups_80 (by decide) ?_
              refine g_lv [2, 1, 0] rfl ?_
              exact ih55 (x2_55 + 1) (x3_55 + 1) (by first | assumption | omega) (by first | assumption | omega) (by first | assumption | omega) (by omega)
      refine g_lv [2, 1, 0] rfl ?_
      exact L55 _ 0 0 (by first | assumption | omega) (by first | assumption | omega) (by first | assumption | omega) (Nat.lt_succ_self _)
    · refine g_aload_n X dX10_groups_45 0 rfl ?_
      refine g_iload_n X dX10_groups_46 1 rfl ?_
      refine g_callVI0 X (c_X10_groupOf_b l D cI cB cJ h q (p0 := p0) r_firstOf_36 (by first | assumption | omega) (by first | assumption | omega)) cv_X10_groupOf uw1524 ⟨rfl, rfl, by decide, by decide⟩ 0 rfl rfl rfl rfl rfl (Nat.le_of_ble_eq_true rfl) ⟨Nat.zero_le _, Nat.zero_le _⟩ dX10_groups_47 (fun t47 ws47 k47 => ?_)
      obtain ⟨kp0_47, kp1_47, kp2_47, rfl⟩ := k47
      have hG : 0 ≤ p0 ∧ p0 ≤ 11 → t47 = grB (kn v_oneOf v_otherOf v_signOf v_byOf v_claimMany.toNat).1 p0.toNat 12 := fun h => by rw [kp2_47]; exact grB_c 12 (fun c hc => by rw [(kp0_36 c hc).1, (kp0_36 p0.toNat (by omega)).1])
      exact hQ _ _ _ _ dX10_groups_50 ⟨moreOf_36, firstOf_36, r_moreOf_36, r_firstOf_36, (by first | assumption | omega), (by first | assumption | omega), rfl⟩
  · refine g_iload_n X dX10_groups_6 1 rfl ?_
    refine g_callSIE X (c_X10_isThing l D cI cB cJ (p0 := p0) (by first | assumption | omega)) cv_X10_isThing uw1488 ⟨rfl, rfl, by decide, by decide⟩ rfl rfl (Nat.le_of_ble_eq_true rfl) ⟨Nat.zero_le _, Nat.zero_le _⟩ dX10_groups_7 (fun t7 ws7 k7 => ?_)
    obtain ⟨kb_7, ⟨kp0_7, rfl⟩⟩ := k7
    refine g_if_ne X (tgt := 15) dX10_groups_10 (by decide) (by omega) (fun c10 => ?_) (fun c10 => ?_)
    · refine g_aload_n X dX10_groups_15 0 rfl ?_
      refine g_aload_n X dX10_groups_16 0 rfl ?_
      refine gM_get X 0 rfl 3 (by decide) uw1182 rfl dX10_groups_17 ?_
      refine g_aload_n X dX10_groups_20 0 rfl ?_
      refine gM_get X 0 rfl 4 (by decide) uw1183 rfl dX10_groups_21 ?_
      refine g_aload_n X dX10_groups_24 0 rfl ?_
      refine gM_get X 0 rfl 5 (by decide) uw1184 rfl dX10_groups_25 ?_
      refine g_aload_n X dX10_groups_28 0 rfl ?_
      refine gM_get X 0 rfl 6 (by decide) uw1185 rfl dX10_groups_29 ?_
      refine g_aload_n X dX10_groups_32 0 rfl ?_
      refine gM_get X 0 rfl 8 (by decide) uw1187 rfl dX10_groups_33 ?_
      refine g_callVV0 X (c_X10_laysKnown l D cI cB cJ h q (p4 := v_claimMany) r_v_oneOf r_v_otherOf r_v_signOf r_v_byOf r_v_moreOf r_v_firstOf (by first | assumption | omega) (by first | assumption | omega)) cv_X10_laysKnown uw1502 ⟨rfl, rfl, by decide, by decide⟩ 0 rfl rfl rfl rfl rfl (Nat.le_of_ble_eq_true rfl) ⟨Nat.zero_le _, Nat.zero_le _⟩ dX10_groups_36 (fun ws36 k36 => ?_)
      obtain ⟨moreOf_36, firstOf_36, r_moreOf_36, r_firstOf_36, kp0_36, rfl⟩ := k36
      refine g_iload_n X dX10_groups_39 1 rfl ?_
      refine g_bipush X (z := 100) dX10_groups_40 (by decide) ?_
      refine g_icmp_eq X (tgt := 51) dX10_groups_42 (by decide) (by omega) (by omega) (fun c42 => ?_) (fun c42 => ?_)
      · refine g_iconst X dX10_groups_51 ?_
        refine g_istore_n X (lv' := [(2, vI 0), (0, .ref h), (1, vI p0)]) dX10_groups_52 (by decide) rfl ?_
        refine g_iconst X dX10_groups_53 ?_
        refine g_istore_n X (lv' := [(3, vI 0), (2, vI 0), (0, .ref h), (1, vI p0)]) dX10_groups_54 (by decide) rfl ?_
        have h0 : fcN firstOf_36 (0 : Int).toNat = 0 := rfl
        have L55 : ∀ (n : Nat) (x2_55 : Int) (x3_55 : Int), (0 ≤ x3_55 ∧ x3_55 ≤ 12) → (0 ≤ x2_55 ∧ x2_55 ≤ x3_55) → (x2_55 = fcN firstOf_36 (x3_55).toNat) → (12 - x3_55).toNat < n → GG p l e ⟨2, 0, 0, 52⟩ s m args below meth c 0 0 Q D A s.heap 4 (wX10 cI cB cJ h q v_stalls v_claimMany v_taped v_place0 v_length0 v_fault v_number0 v_open v_codeMany v_waiting v_saidMany v_clauses v_newMany v_newStalls v_lines v_salesNow v_outNow v_isKept v_keptStalls v_now v_aside v_kept v_oneOf v_otherOf v_signOf v_byOf v_tape v_said v_waitsAt v_saidLetter v_saidFrom v_saidHalf v_saidTo v_codes v_clauseOf v_codeFrom v_codeHalf v_codeTo v_stack v_facts v_newOne v_newOther v_newSign v_newBy moreOf_36 firstOf_36 v_toldOf v_mostOf v_mostThen v_sumTo v_rowFrom v_ordersOf v_lessOf v_weightOf v_rowNow v_slowRow v_fastRow v_lineNow v_firstLine v_freeBy v_heldBy v_heightOf v_upTo v_downTo v_oftenOf v_newUpper v_newLower) 55 [(0, .ref h), (2, vI x2_55), (3, vI x3_55)] [] := by
          intro n
          induction n with
          | zero => intros; exfalso; omega
          | succ n ih55 =>
            intro x2_55 x3_55 w55_0 w55_1 w55_2 wm55
            refine g_iload_n X dX10_groups_55 2 rfl ?_
            refine g_bipush X (z := 12) dX10_groups_56 (by decide) ?_
            refine g_icmp_ge X (tgt := 83) dX10_groups_58 (by decide) (by omega) (by omega) (fun c58 => ?_) (fun c58 => ?_)
            · refine g_iload_n X dX10_groups_83 1 rfl ?_
              have hF : fcN firstOf_36 12 = fcN (kn v_oneOf v_otherOf v_signOf v_byOf v_claimMany.toNat).1 12 := fcN_c 12 (fun c d hc hd => by rw [(kp0_36 c hc).1, (kp0_36 d hd).1])
              have hx : x3_55 = 12 := by omega
              have hF2 : x2_55 = fcN firstOf_36 12 := by rw [w55_2, hx]; rfl
              exact hQ _ _ _ _ dX10_groups_84 ⟨moreOf_36, firstOf_36, r_moreOf_36, r_firstOf_36, (by first | assumption | omega), (by first | assumption | omega), rfl⟩
            · refine g_aload_n X dX10_groups_61 0 rfl ?_
              refine g_iload_n X dX10_groups_62 2 rfl ?_
              refine g_callVI0 X (c_X10_groupOf_b l D cI cB cJ h q (p0 := x3_55) r_firstOf_36 (by first | assumption | omega) (by first | assumption | omega)) cv_X10_groupOf uw1524 ⟨rfl, rfl, by decide, by decide⟩ 0 rfl rfl rfl rfl rfl (Nat.le_of_ble_eq_true rfl) ⟨Nat.zero_le _, Nat.zero_le _⟩ dX10_groups_63 (fun t63 ws63 k63 => ?_)
              obtain ⟨kp0_63, kp1_63, kp2_63, rfl⟩ := k63
              have hlow : ∃ k : Int, 0 ≤ k ∧ k ≤ 11 ∧ hasZ t63 k = 1 := ⟨x3_55, by omega, by omega, kp1_63⟩
              refine g_callSIE X (c_X10_lowest l D cI cB cJ (p0 := t63) (by first | assumption | omega) (by first | assumption | omega)) cv_X10_lowest uw1528 ⟨rfl, rfl, by decide, by decide⟩ rfl rfl (Nat.le_of_ble_eq_true rfl) ⟨Nat.zero_le _, Nat.zero_le _⟩ dX10_groups_66 (fun t66 ws66 k66 => ?_)
              obtain ⟨kp0_66, kp1_66, kp2_66, rfl⟩ := k66
              have hlo := low_gr (f := firstOf_36) (x := x3_55) (by omega) kp2_63 (by omega) kp1_66 kp2_66
              refine g_iload_n X dX10_groups_69 2 rfl ?_
              refine g_icmp_ne X (tgt := 77) dX10_groups_70 (by decide) (by omega) (by omega) (fun c70 => ?_) (fun c70 => ?_)
              · refine g_iinc X (lv' := [(3, vI (x3_55 + 1)), (0, .ref h), (2, vI x2_55)]) dX10_groups_77 2 rfl (by decide) rfl ?_
                refine g_goto X (tgt := 55) dX10_groups_80 (by decide) ?_
                refine g_lv [1, 2, 0] rfl ?_
                exact ih55 x2_55 (x3_55 + 1) (by first | assumption | omega) (by first | assumption | omega) (by first | assumption | omega) (by omega)
              · refine g_iload_n X dX10_groups_73 1 rfl ?_
                refine g_iconst X dX10_groups_74 ?_
                refine g_iadd X dX10_groups_75 ?_
                refine g_istore_n X (lv' := [(2, vI (x2_55 + 1)), (0, .ref h), (3, vI x3_55)]) dX10_groups_76 (by decide) rfl ?_
                refine g_iinc X (lv' := [(3, vI (x3_55 + 1)), (2, vI (x2_55 + 1)), (0, .ref h)]) dX10_groups_77 2 rfl (by decide) rfl ?_
                refine g_goto X (tgt := 55) dX10_groups_80 (by decide) ?_
                refine g_lv [2, 1, 0] rfl ?_
                exact ih55 (x2_55 + 1) (x3_55 + 1) (by first | assumption | omega) (by first | assumption | omega) (by first | assumption | omega) (by omega)
        refine g_lv [2, 1, 0] rfl ?_
        exact L55 _ 0 0 (by first | assumption | omega) (by first | assumption | omega) (by first | assumption | omega) (Nat.lt_succ_self _)
      · refine g_aload_n X dX10_groups_45 0 rfl ?_
        refine g_iload_n X dX10_groups_46 1 rfl ?_
        refine g_callVI0 X (c_X10_groupOf_b l D cI cB cJ h q (p0 := p0) r_firstOf_36 (by first | assumption | omega) (by first | assumption | omega)) cv_X10_groupOf uw1524 ⟨rfl, rfl, by decide, by decide⟩ 0 rfl rfl rfl rfl rfl (Nat.le_of_ble_eq_true rfl) ⟨Nat.zero_le _, Nat.zero_le _⟩ dX10_groups_47 (fun t47 ws47 k47 => ?_)
        obtain ⟨kp0_47, kp1_47, kp2_47, rfl⟩ := k47
        have hG : 0 ≤ p0 ∧ p0 ≤ 11 → t47 = grB (kn v_oneOf v_otherOf v_signOf v_byOf v_claimMany.toNat).1 p0.toNat 12 := fun h => by rw [kp2_47]; exact grB_c 12 (fun c hc => by rw [(kp0_36 c hc).1, (kp0_36 p0.toNat (by omega)).1])
        exact hQ _ _ _ _ dX10_groups_50 ⟨moreOf_36, firstOf_36, r_moreOf_36, r_firstOf_36, (by first | assumption | omega), (by first | assumption | omega), rfl⟩
    · refine g_iconst X dX10_groups_13 ?_
      exact hQ _ _ _ _ dX10_groups_14 ⟨v_moreOf, v_firstOf, r_v_moreOf, r_v_firstOf, (by first | assumption | omega), (by first | assumption | omega), rfl⟩
set_option maxHeartbeats 4000000 in
set_option maxRecDepth 100000 in
theorem c_X10_chain (l : Launch) (D : va_G) (cI cB cJ : ClassId) (h : Nat) (q : Nat → Nat) {v_stalls v_claimMany v_taped v_place0 v_length0 v_fault v_number0 v_open v_codeMany v_waiting v_saidMany v_clauses v_newMany v_newStalls v_lines v_salesNow v_outNow v_isKept v_keptStalls : Int} {v_now v_aside v_kept v_oneOf v_otherOf v_signOf v_byOf v_tape v_said v_waitsAt v_saidLetter v_saidFrom v_saidHalf v_saidTo v_codes v_clauseOf v_codeFrom v_codeHalf v_codeTo v_stack v_facts v_newOne v_newOther v_newSign v_newBy v_moreOf v_firstOf v_toldOf v_mostOf v_mostThen v_sumTo v_rowFrom v_ordersOf v_lessOf v_weightOf v_rowNow v_slowRow v_fastRow v_lineNow v_firstLine v_freeBy v_heldBy v_heightOf v_upTo v_downTo v_oftenOf v_newUpper v_newLower : Nat → Int} {p0 : Int} (kr_v_claimMany : 0 ≤ v_claimMany ∧ v_claimMany ≤ 40) (r_v_oneOf : RA 0 11 v_oneOf) (r_v_otherOf : RA 0 11 v_otherOf) (r_v_signOf : RA (-2147483648) 2147483647 v_signOf) (r_v_byOf : RA (-9999) 9999 v_byOf) (r_v_toldOf : RA (-9999) 1000000 v_toldOf) (r_v_mostOf : RA (-1000000) 1000000 v_mostOf) (r_v_rowFrom : RA (-2147483648) 2147483647 v_rowFrom) (hp0 : IR p0) (hp1 : ∀ j : Nat, (j : Int) < v_claimMany → v_oneOf j ≠ v_otherOf j) : CtI l yX10_chain cX10_chain 4 (some .int) ⟨4, 0, 0, 91⟩ D (TY cI cB cJ) (wX10 cI cB cJ h q v_stalls v_claimMany v_taped v_place0 v_length0 v_fault v_number0 v_open v_codeMany v_waiting v_saidMany v_clauses v_newMany v_newStalls v_lines v_salesNow v_outNow v_isKept v_keptStalls v_now v_aside v_kept v_oneOf v_otherOf v_signOf v_byOf v_tape v_said v_waitsAt v_saidLetter v_saidFrom v_saidHalf v_saidTo v_codes v_clauseOf v_codeFrom v_codeHalf v_codeTo v_stack v_facts v_newOne v_newOther v_newSign v_newBy v_moreOf v_firstOf v_toldOf v_mostOf v_mostThen v_sumTo v_rowFrom v_ordersOf v_lessOf v_weightOf v_rowNow v_slowRow v_fastRow v_lineNow v_firstLine v_freeBy v_heldBy v_heightOf v_upTo v_downTo v_oftenOf v_newUpper v_newLower) [.ref h, vI p0] (fun z ws' => ∃ n_toldOf : Nat → Int, ∃ n_mostOf : Nat → Int, ∃ n_rowFrom : Nat → Int, (RA (-9999) 1000000 n_toldOf) ∧ (RA (-1000000) 1000000 n_mostOf) ∧ (RA (-2147483648) 2147483647 n_rowFrom) ∧ (IR z) ∧ (((0 ≤ p0 ∧ p0 ≤ 1) ∧ (okZ (toF v_oneOf v_otherOf v_signOf v_byOf (-1) v_claimMany.toNat)) ≠ 1 ∧ z = -3) ∨ ((0 ≤ p0 ∧ p0 ≤ 1) ∧ (okZ (toF v_oneOf v_otherOf v_signOf v_byOf (-1) v_claimMany.toNat)) = 1 ∧ z = chA (chN (fwN (toF v_oneOf v_otherOf v_signOf v_byOf (-1) v_claimMany.toNat) 12) 1728) p0) ∨ (¬ (0 ≤ p0 ∧ p0 ≤ 1) ∧ z = -1)) ∧ (ws' = (wX10 cI cB cJ h q v_stalls v_claimMany v_taped v_place0 v_length0 v_fault v_number0 v_open v_codeMany v_waiting v_saidMany v_clauses v_newMany v_newStalls v_lines v_salesNow v_outNow v_isKept v_keptStalls v_now v_aside v_kept v_oneOf v_otherOf v_signOf v_byOf v_tape v_said v_waitsAt v_saidLetter v_saidFrom v_saidHalf v_saidTo v_codes v_clauseOf v_codeFrom v_codeHalf v_codeTo v_stack v_facts v_newOne v_newOther v_newSign v_newBy v_moreOf v_firstOf n_toldOf n_mostOf v_mostThen v_sumTo n_rowFrom v_ordersOf v_lessOf v_weightOf v_rowNow v_slowRow v_fastRow v_lineNow v_firstLine v_freeBy v_heldBy v_heightOf v_upTo v_downTo v_oftenOf v_newUpper v_newLower))) := by
  refine hdrI (own := RX10) rfl (by decide +kernel) (Nat.le_of_ble_eq_true rfl) ?_
  intro p e s m args below meth c Q A X hQ
  refine g_lvE (lv2 := [(0, .ref h), (1, vI p0)]) rfl ?_
  refine g_iload_n X dX10_chain_0 1 rfl ?_
  refine g_iconst X dX10_chain_1 ?_
  refine g_iconst X dX10_chain_2 ?_
  refine g_callSIE X (c_X10_in l D cI cB cJ (p0 := p0) (p1 := 0) (p2 := 1) (by first | assumption | omega) (by first | assumption | omega) (by first | assumption | omega)) cv_X10_in uw1394 ⟨rfl, rfl, by decide, by decide⟩ rfl rfl (Nat.le_of_ble_eq_true rfl) ⟨Nat.zero_le _, Nat.zero_le _⟩ dX10_chain_3 (fun t3 ws3 k3 => ?_)
  obtain ⟨kb_3, ⟨kp0_3, rfl⟩⟩ := k3
  refine g_if_ne X (tgt := 11) dX10_chain_6 (by decide) (by omega) (fun c6 => ?_) (fun c6 => ?_)
  · refine g_aload_n X dX10_chain_11 0 rfl ?_
    refine g_iconst X dX10_chain_12 ?_
    refine g_callVV0 X (c_X10_laysMost l D cI cB cJ h q (p0 := (-1)) (by omega) r_v_oneOf r_v_otherOf r_v_signOf r_v_byOf r_v_toldOf r_v_mostOf (by first | assumption | omega) (by first | assumption | omega)) cv_X10_laysMost uw1538 ⟨rfl, rfl, by decide, by decide⟩ 0 rfl rfl rfl rfl rfl (Nat.le_of_ble_eq_true rfl) ⟨Nat.zero_le _, Nat.zero_le _⟩ dX10_chain_13 (fun ws13 k13 => ?_)
    obtain ⟨toldOf_13, mostOf_13, r_toldOf_13, r_mostOf_13, kp0_13, kp1_13, rfl⟩ := k13
    refine g_aload_n X dX10_chain_16 0 rfl ?_
    refine g_callVI0 X (c_X10_canBeSo l D cI cB cJ h q  r_mostOf_13) cv_X10_canBeSo uw1557 ⟨rfl, rfl, by decide, by decide⟩ 0 rfl rfl rfl rfl rfl (Nat.le_of_ble_eq_true rfl) ⟨Nat.zero_le _, Nat.zero_le _⟩ dX10_chain_17 (fun t17 ws17 k17 => ?_)
    obtain ⟨kb_17, ⟨kp0_17, rfl⟩⟩ := k17
    have hcan : (t17 = 1 ∧ okN (toF v_oneOf v_otherOf v_signOf v_byOf (-1) v_claimMany.toNat) 12 ∧ ∀ c : Nat, c < 144 → mostOf_13 c = fwN (toF v_oneOf v_otherOf v_signOf v_byOf (-1) v_claimMany.toNat) 12 c) ∨ (t17 = 0 ∧ ¬ okN (toF v_oneOf v_otherOf v_signOf v_byOf (-1) v_claimMany.toNat) 12) := can_e kp1_13 kp0_17
    have hoz := okZ_e (toF v_oneOf v_otherOf v_signOf v_byOf (-1) v_claimMany.toNat)
    have hok : t17 = okZ (toF v_oneOf v_otherOf v_signOf v_byOf (-1) v_claimMany.toNat) := by rcases hcan with ⟨g1, g2, _⟩ | ⟨g1, g2⟩; (rcases hoz with ⟨k1, k2⟩ | ⟨k1, k2⟩; omega; exact absurd g2 k1); (rcases hoz with ⟨k1, k2⟩ | ⟨k1, k2⟩; exact absurd k1 g2; omega)
    have hM9 : t17 = 1 → okN (toF v_oneOf v_otherOf v_signOf v_byOf (-1) v_claimMany.toNat) 12 ∧ ∀ c : Nat, c < 144 → mostOf_13 c = fwN (toF v_oneOf v_otherOf v_signOf v_byOf (-1) v_claimMany.toNat) 12 c := fun h => (hcan.resolve_right (fun g => by omega)).2
    clear hcan hoz kp1_13 kp0_17
    refine g_if_ne X (tgt := 26) dX10_chain_20 (by decide) (by omega) (fun c20 => ?_) (fun c20 => ?_)
    · have hM := (hM9 (by omega)).2
      refine g_iconst X dX10_chain_26 ?_
      refine g_istore_n X (lv' := [(2, vI 0), (0, .ref h), (1, vI p0)]) dX10_chain_27 (by decide) rfl ?_
      have L28 : ∀ (n : Nat) (x2_28 : Int) (rowFrom_28 : Nat → Int), (RA (-2147483648) 2147483647 rowFrom_28) → (0 ≤ x2_28 ∧ x2_28 ≤ 12) → (∀ a : Nat, (a : Int) < x2_28 → rowFrom_28 a = 1) → (12 - x2_28).toNat < n → GG p l e ⟨4, 0, 0, 91⟩ s m args below meth c 0 0 Q D A s.heap 4 (wX10 cI cB cJ h q v_stalls v_claimMany v_taped v_place0 v_length0 v_fault v_number0 v_open v_codeMany v_waiting v_saidMany v_clauses v_newMany v_newStalls v_lines v_salesNow v_outNow v_isKept v_keptStalls v_now v_aside v_kept v_oneOf v_otherOf v_signOf v_byOf v_tape v_said v_waitsAt v_saidLetter v_saidFrom v_saidHalf v_saidTo v_codes v_clauseOf v_codeFrom v_codeHalf v_codeTo v_stack v_facts v_newOne v_newOther v_newSign v_newBy v_moreOf v_firstOf toldOf_13 mostOf_13 v_mostThen v_sumTo rowFrom_28 v_ordersOf v_lessOf v_weightOf v_rowNow v_slowRow v_fastRow v_lineNow v_firstLine v_freeBy v_heldBy v_heightOf v_upTo v_downTo v_oftenOf v_newUpper v_newLower) 28 [(0, .ref h), (1, vI p0), (2, vI x2_28)] [] := by
        intro n
        induction n with
        | zero => intros; exfalso; omega
        | succ n ih28 =>
          intro x2_28 rowFrom_28 r_rowFrom_28 w28_0 w28_1 wm28
          refine g_iload_n X dX10_chain_28 2 rfl ?_
          refine g_bipush X (z := 12) dX10_chain_29 (by decide) ?_
          refine g_icmp_ge X (tgt := 47) dX10_chain_31 (by decide) (by omega) (by omega) (fun c31 => ?_) (fun c31 => ?_)
          · refine g_iconst X dX10_chain_47 ?_
            refine g_istore_n X (lv' := [(2, vI 0), (0, .ref h), (1, vI p0)]) dX10_chain_48 (by decide) rfl ?_
            have L49 : ∀ (n : Nat) (x2_49 : Int) (rowFrom_49 : Nat → Int), (RA (-2147483648) 2147483647 rowFrom_49) → (0 ≤ x2_49 ∧ x2_49 ≤ 1728) → (∀ a : Nat, a < 12 → rowFrom_49 a = chN (fwN (toF v_oneOf v_otherOf v_signOf v_byOf (-1) v_claimMany.toNat) 12) (x2_49).toNat a) → (1728 - x2_49).toNat < n → GG p l e ⟨4, 0, 0, 91⟩ s m args below meth c 0 0 Q D A s.heap 4 (wX10 cI cB cJ h q v_stalls v_claimMany v_taped v_place0 v_length0 v_fault v_number0 v_open v_codeMany v_waiting v_saidMany v_clauses v_newMany v_newStalls v_lines v_salesNow v_outNow v_isKept v_keptStalls v_now v_aside v_kept v_oneOf v_otherOf v_signOf v_byOf v_tape v_said v_waitsAt v_saidLetter v_saidFrom v_saidHalf v_saidTo v_codes v_clauseOf v_codeFrom v_codeHalf v_codeTo v_stack v_facts v_newOne v_newOther v_newSign v_newBy v_moreOf v_firstOf toldOf_13 mostOf_13 v_mostThen v_sumTo rowFrom_49 v_ordersOf v_lessOf v_weightOf v_rowNow v_slowRow v_fastRow v_lineNow v_firstLine v_freeBy v_heldBy v_heightOf v_upTo v_downTo v_oftenOf v_newUpper v_newLower) 49 [(0, .ref h), (1, vI p0), (2, vI x2_49)] [] := by
              intro n
              induction n with
              | zero => intros; exfalso; omega
              | succ n ih49 =>
                intro x2_49 rowFrom_49 r_rowFrom_49 w49_0 w49_1 wm49
                have hS := chN_s (fwN (toF v_oneOf v_otherOf v_signOf v_byOf (-1) v_claimMany.toNat) 12) (x := x2_49) (by omega)
                have hc : (x2_49).toNat % 144 / 12 = ((x2_49 / 12) % 12).toNat ∧ (x2_49).toNat % 144 % 12 = (x2_49 % 12).toNat := by omega
                refine g_iload_n X dX10_chain_49 2 rfl ?_
                refine g_sipush X (z := 1728) dX10_chain_50 (by decide) ?_
                refine g_icmp_ge X (tgt := 111) dX10_chain_53 (by decide) (by omega) (by omega) (fun c53 => ?_) (fun c53 => ?_)
                · refine g_iconst X dX10_chain_111 ?_
                  refine g_istore_n X (lv' := [(2, vI 0), (0, .ref h), (1, vI p0)]) dX10_chain_112 (by decide) rfl ?_
                  refine g_iconst X dX10_chain_113 ?_
                  refine g_istore_n X (lv' := [(3, vI 1), (2, vI 0), (0, .ref h), (1, vI p0)]) dX10_chain_114 (by decide) rfl ?_
                  have h0 : bsF (chN (fwN (toF v_oneOf v_otherOf v_signOf v_byOf (-1) v_claimMany.toNat) 12) 1728) (1 - 1 : Int).toNat = 0 := rfl
                  have hR : ∀ a : Nat, a < 12 → rowFrom_49 a = chN (fwN (toF v_oneOf v_otherOf v_signOf v_byOf (-1) v_claimMany.toNat) 12) 1728 a := by have h9 := w49_1; rw [show (x2_49).toNat = 1728 by omega] at h9; exact h9
                  have L115 : ∀ (n : Nat) (x2_115 : Int) (x3_115 : Int), (1 ≤ x3_115 ∧ x3_115 ≤ 12) → (0 ≤ x2_115 ∧ x2_115 ≤ 11) → ((x2_115).toNat = bsF (chN (fwN (toF v_oneOf v_otherOf v_signOf v_byOf (-1) v_claimMany.toNat) 12) 1728) (x3_115 - 1).toNat) → (12 - x3_115).toNat < n → GG p l e ⟨4, 0, 0, 91⟩ s m args below meth c 0 0 Q D A s.heap 4 (wX10 cI cB cJ h q v_stalls v_claimMany v_taped v_place0 v_length0 v_fault v_number0 v_open v_codeMany v_waiting v_saidMany v_clauses v_newMany v_newStalls v_lines v_salesNow v_outNow v_isKept v_keptStalls v_now v_aside v_kept v_oneOf v_otherOf v_signOf v_byOf v_tape v_said v_waitsAt v_saidLetter v_saidFrom v_saidHalf v_saidTo v_codes v_clauseOf v_codeFrom v_codeHalf v_codeTo v_stack v_facts v_newOne v_newOther v_newSign v_newBy v_moreOf v_firstOf toldOf_13 mostOf_13 v_mostThen v_sumTo rowFrom_49 v_ordersOf v_lessOf v_weightOf v_rowNow v_slowRow v_fastRow v_lineNow v_firstLine v_freeBy v_heldBy v_heightOf v_upTo v_downTo v_oftenOf v_newUpper v_newLower) 115 [(0, .ref h), (1, vI p0), (2, vI x2_115), (3, vI x3_115)] [] := by
                    intro n
                    induction n with
                    | zero => intros; exfalso; omega
                    | succ n ih115 =>
                      intro x2_115 x3_115 w115_0 w115_1 w115_2 wm115
                      have hB := bsF_s (chN (fwN (toF v_oneOf v_otherOf v_signOf v_byOf (-1) v_claimMany.toNat) 12) 1728) (x := x3_115) (by omega)
                      rw [← w115_2] at hB
                      have hz : (x3_115 + 1 - 1).toNat = (x3_115).toNat := by congr 1; omega
                      refine g_iload_n X dX10_chain_115 3 rfl ?_
                      refine g_bipush X (z := 12) dX10_chain_116 (by decide) ?_
                      refine g_icmp_ge X (tgt := 144) dX10_chain_118 (by decide) (by omega) (by omega) (fun c118 => ?_) (fun c118 => ?_)
                      · refine g_iload_n X dX10_chain_144 1 rfl ?_
                        refine g_if_ne X (tgt := 157) dX10_chain_145 (by decide) (by omega) (fun c145 => ?_) (fun c145 => ?_)
                        · refine g_iload_n X dX10_chain_157 2 rfl ?_
                          have hA := chA_e (chN (fwN (toF v_oneOf v_otherOf v_signOf v_byOf (-1) v_claimMany.toNat) 12) 1728) p0
                          have hx : bsF (chN (fwN (toF v_oneOf v_otherOf v_signOf v_byOf (-1) v_claimMany.toNat) 12) 1728) 11 = (x2_115).toNat := by rw [w115_2, show (x3_115 - 1).toNat = 11 by omega]
                          rw [hx] at hA
                          exact hQ _ _ _ _ dX10_chain_158 ⟨toldOf_13, mostOf_13, rowFrom_49, r_toldOf_13, r_mostOf_13, r_rowFrom_49, (by first | assumption | omega), (by first | assumption | omega), rfl⟩
                        · refine g_aload_n X dX10_chain_148 0 rfl ?_
                          refine gM_get X 0 rfl 44 (by decide) uw1223 rfl dX10_chain_149 ?_
                          refine g_iload_n X dX10_chain_152 2 rfl ?_
                          refine g_iald X 32 0 rfl rfl (by omega) (by decide) dX10_chain_153 (fun t153 e153 => ?_)
                          have r153 := r_rowFrom_49 (x2_115 : Int).toNat; rw [← e153] at r153
                          have b153 := hR (x2_115).toNat (by omega)
                          refine g_goto X (tgt := 158) dX10_chain_154 (by decide) ?_
                          have hA := chA_e (chN (fwN (toF v_oneOf v_otherOf v_signOf v_byOf (-1) v_claimMany.toNat) 12) 1728) p0
                          have hx : bsF (chN (fwN (toF v_oneOf v_otherOf v_signOf v_byOf (-1) v_claimMany.toNat) 12) 1728) 11 = (x2_115).toNat := by rw [w115_2, show (x3_115 - 1).toNat = 11 by omega]
                          rw [hx] at hA
                          exact hQ _ _ _ _ dX10_chain_158 ⟨toldOf_13, mostOf_13, rowFrom_49, r_toldOf_13, r_mostOf_13, r_rowFrom_49, (by first | assumption | omega), (by first | assumption | omega), rfl⟩
                      · refine g_aload_n X dX10_chain_121 0 rfl ?_
                        refine gM_get X 0 rfl 44 (by decide) uw1223 rfl dX10_chain_122 ?_
                        refine g_iload_n X dX10_chain_125 3 rfl ?_
                        refine g_iald X 32 0 rfl rfl (by omega) (by decide) dX10_chain_126 (fun t126 e126 => ?_)
                        have r126 := r_rowFrom_49 (x3_115 : Int).toNat; rw [← e126] at r126
                        have b126 := hR (x3_115).toNat (by omega)
                        refine g_aload_n X dX10_chain_127 0 rfl ?_
                        refine gM_get X 0 rfl 44 (by decide) uw1223 rfl dX10_chain_128 ?_
                        refine g_iload_n X dX10_chain_131 2 rfl ?_
                        refine g_iald X 32 0 rfl rfl (by omega) (by decide) dX10_chain_132 (fun t132 e132 => ?_)
                        have r132 := r_rowFrom_49 (x2_115 : Int).toNat; rw [← e132] at r132
                        have b132 := hR (x2_115).toNat (by omega)
                        refine g_icmp_le X (tgt := 138) dX10_chain_133 (by decide) (by omega) (by omega) (fun c133 => ?_) (fun c133 => ?_)
                        · refine g_iinc X (lv' := [(3, vI (x3_115 + 1)), (0, .ref h), (1, vI p0), (2, vI x2_115)]) dX10_chain_138 3 rfl (by decide) rfl ?_
                          refine g_goto X (tgt := 115) dX10_chain_141 (by decide) ?_
                          refine g_lv [1, 2, 3, 0] rfl ?_
                          exact ih115 x2_115 (x3_115 + 1) (by first | assumption | omega) (by first | assumption | omega) (by first | (rw [h0]; rfl) | (rw [hz]; omega)) (by omega)
                        · refine g_iload_n X dX10_chain_136 3 rfl ?_
                          refine g_istore_n X (lv' := [(2, vI x3_115), (0, .ref h), (1, vI p0), (3, vI x3_115)]) dX10_chain_137 (by decide) rfl ?_
                          refine g_iinc X (lv' := [(3, vI (x3_115 + 1)), (2, vI x3_115), (0, .ref h), (1, vI p0)]) dX10_chain_138 3 rfl (by decide) rfl ?_
                          refine g_goto X (tgt := 115) dX10_chain_141 (by decide) ?_
                          refine g_lv [2, 3, 1, 0] rfl ?_
                          exact ih115 x3_115 (x3_115 + 1) (by first | assumption | omega) (by first | assumption | omega) (by first | (rw [h0]; rfl) | (rw [hz]; omega)) (by omega)
                  refine g_lv [2, 3, 1, 0] rfl ?_
                  exact L115 _ 0 1 (by first | assumption | omega) (by first | assumption | omega) (by first | (rw [h0]; rfl) | (rw [hz]; omega)) (Nat.lt_succ_self _)
                · refine g_iload_n X dX10_chain_56 2 rfl ?_
                  refine g_bipush X (z := 12) dX10_chain_57 (by decide) ?_
                  refine g_idiv X dX10_chain_59 (by omega) (by omega) ?_
                  refine g_nm (fun t59 e59 => ?_)
                  refine g_bipush X (z := 12) dX10_chain_60 (by decide) ?_
                  refine g_irem X dX10_chain_62 (by omega) (by omega) ?_
                  refine g_nm (fun t62 e62 => ?_)
                  have r62 : 0 ≤ t62 ∧ ((0 : Int) < 12 → t62 < 12) := by rw [e62]; exact ⟨Int.emod_nonneg _ (by omega), fun h => Int.emod_lt_of_pos _ h⟩
                  refine g_istore_n X (lv' := [(3, vI t62), (0, .ref h), (1, vI p0), (2, vI x2_49)]) dX10_chain_63 (by decide) rfl ?_
                  refine g_aload_n X dX10_chain_64 1 rfl ?_
                  refine g_iload_n X dX10_chain_65 0 rfl ?_
                  refine g_callVI0 X (c_X10_moreThan l D cI cB cJ h q (p0 := t62) r_mostOf_13 (by first | assumption | omega) (by first | assumption | omega)) cv_X10_moreThan uw1604 ⟨rfl, rfl, by decide, by decide⟩ 0 rfl rfl rfl rfl rfl (Nat.le_of_ble_eq_true rfl) ⟨Nat.zero_le _, Nat.zero_le _⟩ dX10_chain_66 (fun t66 ws66 k66 => ?_)
                  obtain ⟨kp0_66, kp1_66, rfl⟩ := k66
                  refine g_iload_n X dX10_chain_69 3 rfl ?_
                  refine g_bipush X (z := 12) dX10_chain_70 (by decide) ?_
                  refine g_irem X dX10_chain_72 (by omega) (by omega) ?_
                  refine g_nm (fun t72 e72 => ?_)
                  have r72 : 0 ≤ t72 ∧ ((0 : Int) < 12 → t72 < 12) := by rw [e72]; exact ⟨Int.emod_nonneg _ (by omega), fun h => Int.emod_lt_of_pos _ h⟩
                  have hc0 : (x2_49).toNat % 144 = 12 * (t62).toNat + (x2_49).toNat % 12 := by omega
                  have hh := (mtB_h (f := mostOf_13) (a := (t62).toNat) (by omega) 12 (Nat.le_refl 12)).2 (x2_49 % 12) (by omega)
                  rw [show (x2_49 % 12).toNat = (x2_49).toNat % 12 by omega] at hh
                  have hw : hasZ t66 t72 = hasZ (mtB mostOf_13 (t62).toNat 12) (x2_49 % 12) := by rw [kp1_66, e72]
                  refine g_callSIE X (c_X10_has l D cI cB cJ (p0 := t66) (p1 := t72) (by first | assumption | omega) (by first | assumption | omega)) cv_X10_has uw1531 ⟨rfl, rfl, by decide, by decide⟩ rfl rfl (Nat.le_of_ble_eq_true rfl) ⟨Nat.zero_le _, Nat.zero_le _⟩ dX10_chain_73 (fun t73 ws73 k73 => ?_)
                  obtain ⟨kb_73, ⟨kp0_73, rfl⟩⟩ := k73
                  refine g_if_eq X (tgt := 105) dX10_chain_76 (by decide) (by omega) (fun c76 => ?_) (fun c76 => ?_)
                  · have hN : ∀ a : Nat, a < 12 → rowFrom_49 a = chN (fwN (toF v_oneOf v_otherOf v_signOf v_byOf (-1) v_claimMany.toNat) 12) (x2_49 + 1).toNat a := by rw [hS]; first | exact ch_st w49_1 (by omega) (Or.inr ⟨by rw [← hM ((x2_49).toNat % 144) (by omega), hc0]; omega, e104, by omega, by rw [show (x2_49).toNat % 144 / 12 = (t62).toNat by omega, show (x2_49).toNat % 144 % 12 = (t97).toNat by omega]; omega⟩) | exact ch_st (p := 0) (t := 0) w49_1 (by omega) (Or.inl ⟨by rw [← hM ((x2_49).toNat % 144) (by omega), hc0]; omega, rfl⟩)
                    refine g_iinc X (lv' := [(2, vI (x2_49 + 1)), (3, vI t62), (0, .ref h), (1, vI p0)]) dX10_chain_105 3 rfl (by decide) rfl ?_
                    refine g_goto X (tgt := 49) dX10_chain_108 (by decide) ?_
                    refine g_lv [2, 3, 0] rfl ?_
                    exact ih49 (x2_49 + 1) rowFrom_49 r_rowFrom_49 (by first | assumption | omega) (by first | (intro a ha; exact w28_1 a (by omega)) | exact hN) (by omega)
                  · refine g_aload_n X dX10_chain_79 1 rfl ?_
                    refine gM_get X 0 rfl 44 (by decide) uw1223 rfl dX10_chain_80 ?_
                    refine g_iload_n X dX10_chain_83 0 rfl ?_
                    refine g_aload_n X dX10_chain_84 1 rfl ?_
                    refine gM_get X 0 rfl 44 (by decide) uw1223 rfl dX10_chain_85 ?_
                    refine g_iload_n X dX10_chain_88 0 rfl ?_
                    refine g_iald X 32 0 rfl rfl (by omega) (by decide) dX10_chain_89 (fun t89 e89 => ?_)
                    have r89 := r_rowFrom_49 (t62 : Int).toNat; rw [← e89] at r89
                    have b89 := w49_1 (t62).toNat (by omega)
                    have g89 := (chN_r (fwN (toF v_oneOf v_otherOf v_signOf v_byOf (-1) v_claimMany.toNat) 12) (x2_49).toNat 0).2 (t62).toNat
                    have l89 := (chN_r (fwN (toF v_oneOf v_otherOf v_signOf v_byOf (-1) v_claimMany.toNat) 12) (x2_49).toNat (t62).toNat).1
                    refine g_aload_n X dX10_chain_90 1 rfl ?_
                    refine gM_get X 0 rfl 44 (by decide) uw1223 rfl dX10_chain_91 ?_
                    refine g_iload_n X dX10_chain_94 3 rfl ?_
                    refine g_bipush X (z := 12) dX10_chain_95 (by decide) ?_
                    refine g_irem X dX10_chain_97 (by omega) (by omega) ?_
                    refine g_nm (fun t97 e97 => ?_)
                    have r97 : 0 ≤ t97 ∧ ((0 : Int) < 12 → t97 < 12) := by rw [e97]; exact ⟨Int.emod_nonneg _ (by omega), fun h => Int.emod_lt_of_pos _ h⟩
                    refine g_iald X 32 0 rfl rfl (by omega) (by decide) dX10_chain_98 (fun t98 e98 => ?_)
                    have r98 := r_rowFrom_49 (t97 : Int).toNat; rw [← e98] at r98
                    have b98 := w49_1 (t97).toNat (by omega)
                    have g98 := (chN_r (fwN (toF v_oneOf v_otherOf v_signOf v_byOf (-1) v_claimMany.toNat) 12) (x2_49).toNat 0).2 (t97).toNat
                    have l98 := (chN_r (fwN (toF v_oneOf v_otherOf v_signOf v_byOf (-1) v_claimMany.toNat) 12) (x2_49).toNat (t97).toNat).1
                    refine g_iconst X dX10_chain_99 ?_
                    refine g_iadd X dX10_chain_100 ?_
                    refine g_callSIE X (c_X10_max l D cI cB cJ (p0 := t89) (p1 := t98 + 1) (by first | assumption | omega) (by first | assumption | omega)) cv_X10_max uw1554 ⟨rfl, rfl, by decide, by decide⟩ rfl rfl (Nat.le_of_ble_eq_true rfl) ⟨Nat.zero_le _, Nat.zero_le _⟩ dX10_chain_101 (fun t101 ws101 k101 => ?_)
                    obtain ⟨kp0_101, rfl⟩ := k101
                    refine g_iast X 32 0 rfl rfl (by omega) (by decide) dX10_chain_104 (fun rowFrom_104 e104 => ?_)
                    have r_rowFrom_104 : RA (-2147483648) 2147483647 rowFrom_104 := by rw [e104]; exact RA_up r_rowFrom_49 (by omega)
                    refine g_ws (ws2 := (wX10 cI cB cJ h q v_stalls v_claimMany v_taped v_place0 v_length0 v_fault v_number0 v_open v_codeMany v_waiting v_saidMany v_clauses v_newMany v_newStalls v_lines v_salesNow v_outNow v_isKept v_keptStalls v_now v_aside v_kept v_oneOf v_otherOf v_signOf v_byOf v_tape v_said v_waitsAt v_saidLetter v_saidFrom v_saidHalf v_saidTo v_codes v_clauseOf v_codeFrom v_codeHalf v_codeTo v_stack v_facts v_newOne v_newOther v_newSign v_newBy v_moreOf v_firstOf toldOf_13 mostOf_13 v_mostThen v_sumTo rowFrom_104 v_ordersOf v_lessOf v_weightOf v_rowNow v_slowRow v_fastRow v_lineNow v_firstLine v_freeBy v_heldBy v_heightOf v_upTo v_downTo v_oftenOf v_newUpper v_newLower)) rfl ?_
                    have hN : ∀ a : Nat, a < 12 → rowFrom_104 a = chN (fwN (toF v_oneOf v_otherOf v_signOf v_byOf (-1) v_claimMany.toNat) 12) (x2_49 + 1).toNat a := by rw [hS]; first | exact ch_st w49_1 (by omega) (Or.inr ⟨by rw [← hM ((x2_49).toNat % 144) (by omega), hc0]; omega, e104, by omega, by rw [show (x2_49).toNat % 144 / 12 = (t62).toNat by omega, show (x2_49).toNat % 144 % 12 = (t97).toNat by omega]; omega⟩) | exact ch_st (p := 0) (t := 0) w49_1 (by omega) (Or.inl ⟨by rw [← hM ((x2_49).toNat % 144) (by omega), hc0]; omega, rfl⟩)
                    refine g_iinc X (lv' := [(2, vI (x2_49 + 1)), (3, vI t62), (0, .ref h), (1, vI p0)]) dX10_chain_105 3 rfl (by decide) rfl ?_
                    refine g_goto X (tgt := 49) dX10_chain_108 (by decide) ?_
                    refine g_lv [2, 3, 0] rfl ?_
                    exact ih49 (x2_49 + 1) rowFrom_104 r_rowFrom_104 (by first | assumption | omega) (by first | (intro a ha; exact w28_1 a (by omega)) | exact hN) (by omega)
            refine g_lv [1, 2, 0] rfl ?_
            exact L49 _ 0 rowFrom_28 r_rowFrom_28 (by first | assumption | omega) (by first | (intro a ha; exact w28_1 a (by omega)) | exact hN) (Nat.lt_succ_self _)
          · refine g_aload_n X dX10_chain_34 0 rfl ?_
            refine gM_get X 0 rfl 44 (by decide) uw1223 rfl dX10_chain_35 ?_
            refine g_iload_n X dX10_chain_38 2 rfl ?_
            refine g_iconst X dX10_chain_39 ?_
            refine g_iast X 32 0 rfl rfl (by omega) (by decide) dX10_chain_40 (fun rowFrom_40 e40 => ?_)
            have r_rowFrom_40 : RA (-2147483648) 2147483647 rowFrom_40 := by rw [e40]; exact RA_up r_rowFrom_28 (by omega)
            refine g_ws (ws2 := (wX10 cI cB cJ h q v_stalls v_claimMany v_taped v_place0 v_length0 v_fault v_number0 v_open v_codeMany v_waiting v_saidMany v_clauses v_newMany v_newStalls v_lines v_salesNow v_outNow v_isKept v_keptStalls v_now v_aside v_kept v_oneOf v_otherOf v_signOf v_byOf v_tape v_said v_waitsAt v_saidLetter v_saidFrom v_saidHalf v_saidTo v_codes v_clauseOf v_codeFrom v_codeHalf v_codeTo v_stack v_facts v_newOne v_newOther v_newSign v_newBy v_moreOf v_firstOf toldOf_13 mostOf_13 v_mostThen v_sumTo rowFrom_40 v_ordersOf v_lessOf v_weightOf v_rowNow v_slowRow v_fastRow v_lineNow v_firstLine v_freeBy v_heldBy v_heightOf v_upTo v_downTo v_oftenOf v_newUpper v_newLower)) rfl ?_
            refine g_iinc X (lv' := [(2, vI (x2_28 + 1)), (0, .ref h), (1, vI p0)]) dX10_chain_41 2 rfl (by decide) rfl ?_
            refine g_goto X (tgt := 28) dX10_chain_44 (by decide) ?_
            refine g_lv [1, 2, 0] rfl ?_
            exact ih28 (x2_28 + 1) rowFrom_40 r_rowFrom_40 (by first | assumption | omega) (by intro a ha; first | (exfalso; omega) | (rcases (show (a : Int) < x2_28 ∨ a = (x2_28).toNat by omega) with h | h; (rw [e40, updZ_n _ _ (by omega)]; exact w28_1 a h); (rw [e40, h, updZ_s]))) (by omega)
      refine g_lv [1, 2, 0] rfl ?_
      exact L28 _ 0 v_rowFrom r_v_rowFrom (by first | assumption | omega) (by intro a ha; first | (exfalso; omega) | (rcases (show (a : Int) < x2_28 ∨ a = (x2_28).toNat by omega) with h | h; (rw [e40, updZ_n _ _ (by omega)]; exact w28_1 a h); (rw [e40, h, updZ_s]))) (Nat.lt_succ_self _)
    · refine g_bipush X (z := (-3)) dX10_chain_23 (by decide) ?_
      exact hQ _ _ _ _ dX10_chain_25 ⟨toldOf_13, mostOf_13, v_rowFrom, r_toldOf_13, r_mostOf_13, r_v_rowFrom, (by first | assumption | omega), (by first | assumption | omega), rfl⟩
  · refine g_iconst X dX10_chain_9 ?_
    exact hQ _ _ _ _ dX10_chain_10 ⟨v_toldOf, v_mostOf, v_rowFrom, r_v_toldOf, r_v_mostOf, r_v_rowFrom, (by first | assumption | omega), (by first | assumption | omega), rfl⟩
set_option maxHeartbeats 4000000 in
set_option maxRecDepth 100000 in
theorem c_X10_orders (l : Launch) (D : va_G) (cI cB cJ : ClassId) (h : Nat) (q : Nat → Nat) {v_stalls v_claimMany v_taped v_place0 v_length0 v_fault v_number0 v_open v_codeMany v_waiting v_saidMany v_clauses v_newMany v_newStalls v_lines v_salesNow v_outNow v_isKept v_keptStalls : Int} {v_now v_aside v_kept v_oneOf v_otherOf v_signOf v_byOf v_tape v_said v_waitsAt v_saidLetter v_saidFrom v_saidHalf v_saidTo v_codes v_clauseOf v_codeFrom v_codeHalf v_codeTo v_stack v_facts v_newOne v_newOther v_newSign v_newBy v_moreOf v_firstOf v_toldOf v_mostOf v_mostThen v_sumTo v_rowFrom v_ordersOf v_lessOf v_weightOf v_rowNow v_slowRow v_fastRow v_lineNow v_firstLine v_freeBy v_heldBy v_heightOf v_upTo v_downTo v_oftenOf v_newUpper v_newLower : Nat → Int} {p0 : Int} (kr_v_claimMany : 0 ≤ v_claimMany ∧ v_claimMany ≤ 40) (r_v_oneOf : RA 0 11 v_oneOf) (r_v_otherOf : RA 0 11 v_otherOf) (r_v_signOf : RA (-2147483648) 2147483647 v_signOf) (r_v_byOf : RA (-9999) 9999 v_byOf) (r_v_toldOf : RA (-9999) 1000000 v_toldOf) (r_v_mostOf : RA (-1000000) 1000000 v_mostOf) (r_v_ordersOf : RA (-2147483648) 2147483647 v_ordersOf) (r_v_lessOf : RA (-2147483648) 2147483647 v_lessOf) (hp0 : IR p0) (hp1 : ∀ j : Nat, (j : Int) < v_claimMany → v_oneOf j ≠ v_otherOf j) : CtI l yX10_orders cX10_orders 5 (some .int) ⟨4, 0, 0, 91⟩ D (TY cI cB cJ) (wX10 cI cB cJ h q v_stalls v_claimMany v_taped v_place0 v_length0 v_fault v_number0 v_open v_codeMany v_waiting v_saidMany v_clauses v_newMany v_newStalls v_lines v_salesNow v_outNow v_isKept v_keptStalls v_now v_aside v_kept v_oneOf v_otherOf v_signOf v_byOf v_tape v_said v_waitsAt v_saidLetter v_saidFrom v_saidHalf v_saidTo v_codes v_clauseOf v_codeFrom v_codeHalf v_codeTo v_stack v_facts v_newOne v_newOther v_newSign v_newBy v_moreOf v_firstOf v_toldOf v_mostOf v_mostThen v_sumTo v_rowFrom v_ordersOf v_lessOf v_weightOf v_rowNow v_slowRow v_fastRow v_lineNow v_firstLine v_freeBy v_heldBy v_heightOf v_upTo v_downTo v_oftenOf v_newUpper v_newLower) [.ref h, vI p0] (fun z ws' => ∃ n_toldOf : Nat → Int, ∃ n_mostOf : Nat → Int, ∃ n_ordersOf : Nat → Int, ∃ n_lessOf : Nat → Int, (RA (-9999) 1000000 n_toldOf) ∧ (RA (-1000000) 1000000 n_mostOf) ∧ (RA (-2147483648) 2147483647 n_ordersOf) ∧ (RA (-2147483648) 2147483647 n_lessOf) ∧ (IR z) ∧ (((0 ≤ p0 ∧ p0 ≤ 4095) ∧ (okZ (toF v_oneOf v_otherOf v_signOf v_byOf (-1) v_claimMany.toNat)) ≠ 1 ∧ z = -3) ∨ ((0 ≤ p0 ∧ p0 ≤ 4095) ∧ (okZ (toF v_oneOf v_otherOf v_signOf v_byOf (-1) v_claimMany.toNat)) = 1 ∧ z = ocF (upB (fwN (toF v_oneOf v_otherOf v_signOf v_byOf (-1) v_claimMany.toNat) 12)) p0.toNat p0.toNat) ∨ (¬ (0 ≤ p0 ∧ p0 ≤ 4095) ∧ z = -1)) ∧ (ws' = (wX10 cI cB cJ h q v_stalls v_claimMany v_taped v_place0 v_length0 v_fault v_number0 v_open v_codeMany v_waiting v_saidMany v_clauses v_newMany v_newStalls v_lines v_salesNow v_outNow v_isKept v_keptStalls v_now v_aside v_kept v_oneOf v_otherOf v_signOf v_byOf v_tape v_said v_waitsAt v_saidLetter v_saidFrom v_saidHalf v_saidTo v_codes v_clauseOf v_codeFrom v_codeHalf v_codeTo v_stack v_facts v_newOne v_newOther v_newSign v_newBy v_moreOf v_firstOf n_toldOf n_mostOf v_mostThen v_sumTo v_rowFrom n_ordersOf n_lessOf v_weightOf v_rowNow v_slowRow v_fastRow v_lineNow v_firstLine v_freeBy v_heldBy v_heightOf v_upTo v_downTo v_oftenOf v_newUpper v_newLower))) := by
  refine hdrI (own := RX10) rfl (by decide +kernel) (Nat.le_of_ble_eq_true rfl) ?_
  intro p e s m args below meth c Q A X hQ
  refine g_lvE (lv2 := [(0, .ref h), (1, vI p0)]) rfl ?_
  refine g_iload_n X dX10_orders_0 1 rfl ?_
  refine g_iconst X dX10_orders_1 ?_
  refine g_sipush X (z := 4095) dX10_orders_2 (by decide) ?_
  refine g_callSIE X (c_X10_in l D cI cB cJ (p0 := p0) (p1 := 0) (p2 := 4095) (by first | assumption | omega) (by first | assumption | omega) (by first | assumption | omega)) cv_X10_in uw1394 ⟨rfl, rfl, by decide, by decide⟩ rfl rfl (Nat.le_of_ble_eq_true rfl) ⟨Nat.zero_le _, Nat.zero_le _⟩ dX10_orders_5 (fun t5 ws5 k5 => ?_)
  obtain ⟨kb_5, ⟨kp0_5, rfl⟩⟩ := k5
  refine g_if_ne X (tgt := 13) dX10_orders_8 (by decide) (by omega) (fun c8 => ?_) (fun c8 => ?_)
  · refine g_aload_n X dX10_orders_13 0 rfl ?_
    refine g_iconst X dX10_orders_14 ?_
    refine g_callVV0 X (c_X10_laysMost l D cI cB cJ h q (p0 := (-1)) (by omega) r_v_oneOf r_v_otherOf r_v_signOf r_v_byOf r_v_toldOf r_v_mostOf (by first | assumption | omega) (by first | assumption | omega)) cv_X10_laysMost uw1538 ⟨rfl, rfl, by decide, by decide⟩ 0 rfl rfl rfl rfl rfl (Nat.le_of_ble_eq_true rfl) ⟨Nat.zero_le _, Nat.zero_le _⟩ dX10_orders_15 (fun ws15 k15 => ?_)
    obtain ⟨toldOf_15, mostOf_15, r_toldOf_15, r_mostOf_15, kp0_15, kp1_15, rfl⟩ := k15
    refine g_aload_n X dX10_orders_18 0 rfl ?_
    refine g_callVI0 X (c_X10_canBeSo l D cI cB cJ h q  r_mostOf_15) cv_X10_canBeSo uw1557 ⟨rfl, rfl, by decide, by decide⟩ 0 rfl rfl rfl rfl rfl (Nat.le_of_ble_eq_true rfl) ⟨Nat.zero_le _, Nat.zero_le _⟩ dX10_orders_19 (fun t19 ws19 k19 => ?_)
    obtain ⟨kb_19, ⟨kp0_19, rfl⟩⟩ := k19
    have hcan : (t19 = 1 ∧ okN (toF v_oneOf v_otherOf v_signOf v_byOf (-1) v_claimMany.toNat) 12 ∧ ∀ c : Nat, c < 144 → mostOf_15 c = fwN (toF v_oneOf v_otherOf v_signOf v_byOf (-1) v_claimMany.toNat) 12 c) ∨ (t19 = 0 ∧ ¬ okN (toF v_oneOf v_otherOf v_signOf v_byOf (-1) v_claimMany.toNat) 12) := can_e kp1_15 kp0_19
    have hoz := okZ_e (toF v_oneOf v_otherOf v_signOf v_byOf (-1) v_claimMany.toNat)
    have hok : t19 = okZ (toF v_oneOf v_otherOf v_signOf v_byOf (-1) v_claimMany.toNat) := by rcases hcan with ⟨g1, g2, _⟩ | ⟨g1, g2⟩; (rcases hoz with ⟨k1, k2⟩ | ⟨k1, k2⟩; omega; exact absurd g2 k1); (rcases hoz with ⟨k1, k2⟩ | ⟨k1, k2⟩; exact absurd k1 g2; omega)
    have hM9 : t19 = 1 → okN (toF v_oneOf v_otherOf v_signOf v_byOf (-1) v_claimMany.toNat) 12 ∧ ∀ c : Nat, c < 144 → mostOf_15 c = fwN (toF v_oneOf v_otherOf v_signOf v_byOf (-1) v_claimMany.toNat) 12 c := fun h => (hcan.resolve_right (fun g => by omega)).2
    clear hcan hoz kp1_15 kp0_19
    refine g_if_ne X (tgt := 28) dX10_orders_22 (by decide) (by omega) (fun c22 => ?_) (fun c22 => ?_)
    · have hM := (hM9 (by omega)).2
      have hok2 : okN (toF v_oneOf v_otherOf v_signOf v_byOf (-1) v_claimMany.toNat) 12 := (hM9 (by omega)).1
      refine g_iconst X dX10_orders_28 ?_
      refine g_istore_n X (lv' := [(2, vI 0), (0, .ref h), (1, vI p0)]) dX10_orders_29 (by decide) rfl ?_
      have L30 : ∀ (n : Nat) (x2_30 : Int) (lessOf_30 : Nat → Int), (RA (-2147483648) 2147483647 lessOf_30) → (0 ≤ x2_30 ∧ x2_30 ≤ 12) → (∀ a : Nat, (a : Int) < x2_30 → lessOf_30 a = ((lsB (fwN (toF v_oneOf v_otherOf v_signOf v_byOf (-1) v_claimMany.toNat) 12) p0.toNat a : Nat) : Int)) → (12 - x2_30).toNat < n → GG p l e ⟨4, 0, 0, 91⟩ s m args below meth c 0 0 Q D A s.heap 5 (wX10 cI cB cJ h q v_stalls v_claimMany v_taped v_place0 v_length0 v_fault v_number0 v_open v_codeMany v_waiting v_saidMany v_clauses v_newMany v_newStalls v_lines v_salesNow v_outNow v_isKept v_keptStalls v_now v_aside v_kept v_oneOf v_otherOf v_signOf v_byOf v_tape v_said v_waitsAt v_saidLetter v_saidFrom v_saidHalf v_saidTo v_codes v_clauseOf v_codeFrom v_codeHalf v_codeTo v_stack v_facts v_newOne v_newOther v_newSign v_newBy v_moreOf v_firstOf toldOf_15 mostOf_15 v_mostThen v_sumTo v_rowFrom v_ordersOf lessOf_30 v_weightOf v_rowNow v_slowRow v_fastRow v_lineNow v_firstLine v_freeBy v_heldBy v_heightOf v_upTo v_downTo v_oftenOf v_newUpper v_newLower) 30 [(0, .ref h), (1, vI p0), (2, vI x2_30)] [] := by
        intro n
        induction n with
        | zero => intros; exfalso; omega
        | succ n ih30 =>
          intro x2_30 lessOf_30 r_lessOf_30 w30_0 w30_1 wm30
          refine g_iload_n X dX10_orders_30 2 rfl ?_
          refine g_bipush X (z := 12) dX10_orders_31 (by decide) ?_
          refine g_icmp_ge X (tgt := 55) dX10_orders_33 (by decide) (by omega) (by omega) (fun c33 => ?_) (fun c33 => ?_)
          · have hLs : ∀ a : Nat, a < 12 → lessOf_30 a = ((lsB (fwN (toF v_oneOf v_otherOf v_signOf v_byOf (-1) v_claimMany.toNat) 12) p0.toNat a : Nat) : Int) := fun a ha => w30_1 a (by omega)
            have hL4 : ∀ a : Nat, a < 12 → lsB (fwN (toF v_oneOf v_otherOf v_signOf v_byOf (-1) v_claimMany.toNat) 12) p0.toNat a < 4096 := fun a ha => Nat.lt_of_le_of_lt Nat.and_le_right (by omega)
            refine g_iconst X dX10_orders_55 ?_
            refine g_istore_n X (lv' := [(2, vI 0), (0, .ref h), (1, vI p0)]) dX10_orders_56 (by decide) rfl ?_
            have L57 : ∀ (n : Nat) (x2_57 : Int) (ordersOf_57 : Nat → Int), (RA (-2147483648) 2147483647 ordersOf_57) → (0 ≤ x2_57 ∧ x2_57 ≤ p0 + 1) → (∀ j : Nat, (j : Int) < x2_57 → ordersOf_57 j = orF (lsB (fwN (toF v_oneOf v_otherOf v_signOf v_byOf (-1) v_claimMany.toNat) 12) p0.toNat) p0.toNat j) → (p0 + 1 - x2_57).toNat < n → GG p l e ⟨4, 0, 0, 91⟩ s m args below meth c 0 0 Q D A s.heap 5 (wX10 cI cB cJ h q v_stalls v_claimMany v_taped v_place0 v_length0 v_fault v_number0 v_open v_codeMany v_waiting v_saidMany v_clauses v_newMany v_newStalls v_lines v_salesNow v_outNow v_isKept v_keptStalls v_now v_aside v_kept v_oneOf v_otherOf v_signOf v_byOf v_tape v_said v_waitsAt v_saidLetter v_saidFrom v_saidHalf v_saidTo v_codes v_clauseOf v_codeFrom v_codeHalf v_codeTo v_stack v_facts v_newOne v_newOther v_newSign v_newBy v_moreOf v_firstOf toldOf_15 mostOf_15 v_mostThen v_sumTo v_rowFrom ordersOf_57 lessOf_30 v_weightOf v_rowNow v_slowRow v_fastRow v_lineNow v_firstLine v_freeBy v_heldBy v_heightOf v_upTo v_downTo v_oftenOf v_newUpper v_newLower) 57 [(0, .ref h), (1, vI p0), (2, vI x2_57)] [] := by
              intro n
              induction n with
              | zero => intros; exfalso; omega
              | succ n ih57 =>
                intro x2_57 ordersOf_57 r_ordersOf_57 w57_0 w57_1 wm57
                refine g_iload_n X dX10_orders_57 2 rfl ?_
                refine g_iload_n X dX10_orders_58 1 rfl ?_
                refine g_icmp_gt X (tgt := 156) dX10_orders_59 (by decide) (by omega) (by omega) (fun c59 => ?_) (fun c59 => ?_)
                · refine g_aload_n X dX10_orders_156 0 rfl ?_
                  refine gM_get X 0 rfl 45 (by decide) uw1224 rfl dX10_orders_157 ?_
                  refine g_iload_n X dX10_orders_160 1 rfl ?_
                  refine g_iald X 33 0 rfl rfl (by omega) (by decide) dX10_orders_161 (fun t161 e161 => ?_)
                  have r161 := r_ordersOf_57 (p0 : Int).toNat; rw [← e161] at r161
                  have hTB : TB (toF v_oneOf v_otherOf v_signOf v_byOf (-1) v_claimMany.toNat) := (toF_T (-1) r_v_oneOf r_v_otherOf r_v_byOf _ (fun j hj => hp1 j (by omega))).1
                  have hF : t161 = ocF (upB (fwN (toF v_oneOf v_otherOf v_signOf v_byOf (-1) v_claimMany.toNat) 12)) p0.toNat p0.toNat := by rw [e161, w57_1 p0.toNat (by omega)]; exact (or_same (okN.ro hTB hok2) (by omega)).symm
                  exact hQ _ _ _ _ dX10_orders_162 ⟨toldOf_15, mostOf_15, ordersOf_57, lessOf_30, r_toldOf_15, r_mostOf_15, r_ordersOf_57, r_lessOf_30, (by first | assumption | omega), (by first | assumption | omega), rfl⟩
                · refine g_aload_n X dX10_orders_62 0 rfl ?_
                  refine gM_get X 0 rfl 45 (by decide) uw1224 rfl dX10_orders_63 ?_
                  refine g_iload_n X dX10_orders_66 2 rfl ?_
                  refine g_iload_n X dX10_orders_67 2 rfl ?_
                  refine g_if_ne X (tgt := 75) dX10_orders_68 (by decide) (by omega) (fun c68 => ?_) (fun c68 => ?_)
                  · refine g_iconst X dX10_orders_75 ?_
                    refine g_iast X 33 0 rfl rfl (by omega) (by decide) dX10_orders_76 (fun ordersOf_76 e76 => ?_)
                    have r_ordersOf_76 : RA (-2147483648) 2147483647 ordersOf_76 := by rw [e76]; exact RA_up r_ordersOf_57 (by omega)
                    refine g_ws (ws2 := (wX10 cI cB cJ h q v_stalls v_claimMany v_taped v_place0 v_length0 v_fault v_number0 v_open v_codeMany v_waiting v_saidMany v_clauses v_newMany v_newStalls v_lines v_salesNow v_outNow v_isKept v_keptStalls v_now v_aside v_kept v_oneOf v_otherOf v_signOf v_byOf v_tape v_said v_waitsAt v_saidLetter v_saidFrom v_saidHalf v_saidTo v_codes v_clauseOf v_codeFrom v_codeHalf v_codeTo v_stack v_facts v_newOne v_newOther v_newSign v_newBy v_moreOf v_firstOf toldOf_15 mostOf_15 v_mostThen v_sumTo v_rowFrom ordersOf_76 lessOf_30 v_weightOf v_rowNow v_slowRow v_fastRow v_lineNow v_firstLine v_freeBy v_heldBy v_heightOf v_upTo v_downTo v_oftenOf v_newUpper v_newLower)) rfl ?_
                    refine g_iconst X dX10_orders_77 ?_
                    refine g_istore_n X (lv' := [(3, vI 0), (0, .ref h), (1, vI p0), (2, vI x2_57)]) dX10_orders_78 (by decide) rfl ?_
                    have L79 : ∀ (n : Nat) (x3_79 : Int) (ordersOf_79 : Nat → Int), (RA (-2147483648) 2147483647 ordersOf_79) → (0 ≤ x3_79 ∧ x3_79 ≤ 12) → (∀ j : Nat, (j : Int) < x2_57 → ordersOf_79 j = orF (lsB (fwN (toF v_oneOf v_otherOf v_signOf v_byOf (-1) v_claimMany.toNat) 12) p0.toNat) p0.toNat j) → (ordersOf_79 (x2_57).toNat = orV (lsB (fwN (toF v_oneOf v_otherOf v_signOf v_byOf (-1) v_claimMany.toNat) 12) p0.toNat) p0.toNat (orF (lsB (fwN (toF v_oneOf v_otherOf v_signOf v_byOf (-1) v_claimMany.toNat) 12) p0.toNat) p0.toNat) (x2_57).toNat (x3_79).toNat) → (12 - x3_79).toNat < n → GG p l e ⟨4, 0, 0, 91⟩ s m args below meth c 0 0 Q D A s.heap 5 (wX10 cI cB cJ h q v_stalls v_claimMany v_taped v_place0 v_length0 v_fault v_number0 v_open v_codeMany v_waiting v_saidMany v_clauses v_newMany v_newStalls v_lines v_salesNow v_outNow v_isKept v_keptStalls v_now v_aside v_kept v_oneOf v_otherOf v_signOf v_byOf v_tape v_said v_waitsAt v_saidLetter v_saidFrom v_saidHalf v_saidTo v_codes v_clauseOf v_codeFrom v_codeHalf v_codeTo v_stack v_facts v_newOne v_newOther v_newSign v_newBy v_moreOf v_firstOf toldOf_15 mostOf_15 v_mostThen v_sumTo v_rowFrom ordersOf_79 lessOf_30 v_weightOf v_rowNow v_slowRow v_fastRow v_lineNow v_firstLine v_freeBy v_heldBy v_heightOf v_upTo v_downTo v_oftenOf v_newUpper v_newLower) 79 [(0, .ref h), (1, vI p0), (2, vI x2_57), (3, vI x3_79)] [] := by
                      intro n
                      induction n with
                      | zero => intros; exfalso; omega
                      | succ n ih79 =>
                        intro x3_79 ordersOf_79 r_ordersOf_79 w79_0 w79_1 w79_2 wm79
                        have hS := orV_s (lsB (fwN (toF v_oneOf v_otherOf v_signOf v_byOf (-1) v_claimMany.toNat) 12) p0.toNat) p0.toNat (orF (lsB (fwN (toF v_oneOf v_otherOf v_signOf v_byOf (-1) v_claimMany.toNat) 12) p0.toNat) p0.toNat) (x2_57).toNat (x := x3_79) (by omega)
                        refine g_iload_n X dX10_orders_79 3 rfl ?_
                        refine g_bipush X (z := 12) dX10_orders_80 (by decide) ?_
                        refine g_icmp_ge X (tgt := 150) dX10_orders_82 (by decide) (by omega) (by omega) (fun c82 => ?_) (fun c82 => ?_)
                        · refine g_iinc X (lv' := [(2, vI (x2_57 + 1)), (0, .ref h), (1, vI p0), (3, vI x3_79)]) dX10_orders_150 2 rfl (by decide) rfl ?_
                          refine g_goto X (tgt := 57) dX10_orders_153 (by decide) ?_
                          refine g_lv [1, 2, 0] rfl ?_
                          exact ih57 (x2_57 + 1) ordersOf_79 r_ordersOf_79 (by first | assumption | omega) (by first | (intro j hj; exact absurd hj (by omega)) | (intro j hj; rcases (show (j : Int) < x2_57 ∨ j = (x2_57).toNat by omega) with h | h; exact w79_1 j h; (rw [h, w79_2, orF_e (by omega), show (x3_79).toNat = 12 by omega]))) (by omega)
                        · refine g_iload_n X dX10_orders_85 2 rfl ?_
                          refine g_iconst X dX10_orders_86 ?_
                          refine g_iload_n X dX10_orders_87 3 rfl ?_
                          refine g_ishl X dX10_orders_88 ?_
                          refine g_nm (fun t88 e88 => ?_)
                          have r88 : IR t88 := by rw [e88]; exact z_ir _
                          refine g_iconst X dX10_orders_89 ?_
                          refine g_ixor X dX10_orders_90 ?_
                          refine g_nm (fun t90 e90 => ?_)
                          have r90 : IR t90 := by rw [e90]; exact z_ir _
                          refine g_iand X dX10_orders_91 ?_
                          refine g_nm (fun t91 e91 => ?_)
                          have r91 := z_iand_l x2_57 t90 (by omega) (by omega); rw [← e91] at r91
                          refine g_istore X (lv' := [(4, vI t91), (0, .ref h), (1, vI p0), (2, vI x2_57), (3, vI x3_79)]) dX10_orders_92 (by decide) rfl ?_
                          have hsb : t91 = ((sbN (x2_57).toNat (x3_79).toNat : Nat) : Int) := by rw [e91, e90, e88, z_sb (by omega) (by omega)]
                          refine g_iload_n X dX10_orders_94 3 rfl ?_
                          refine g_iload_n X dX10_orders_95 4 rfl ?_
                          have hsb2 : t91 = ((sbN (x2_57).toNat (x3_79).toNat : Nat) : Int) := hsb
                          have hZ := tb_Z (s := x2_57) (k := x3_79) (by omega) (by omega)
                          refine g_callSIE X (c_X10_has l D cI cB cJ (p0 := x2_57) (p1 := x3_79) (by first | assumption | omega) (by first | assumption | omega)) cv_X10_has uw1531 ⟨rfl, rfl, by decide, by decide⟩ rfl rfl (Nat.le_of_ble_eq_true rfl) ⟨Nat.zero_le _, Nat.zero_le _⟩ dX10_orders_96 (fun t96 ws96 k96 => ?_)
                          obtain ⟨kb_96, ⟨kp0_96, rfl⟩⟩ := k96
                          refine g_if_eq X (tgt := 144) dX10_orders_99 (by decide) (by omega) (fun c99 => ?_) (fun c99 => ?_)
                          · have hN : ordersOf_79 (x2_57).toNat = orV (lsB (fwN (toF v_oneOf v_otherOf v_signOf v_byOf (-1) v_claimMany.toNat) 12) p0.toNat) p0.toNat (orF (lsB (fwN (toF v_oneOf v_otherOf v_signOf v_byOf (-1) v_claimMany.toNat) 12) p0.toNat) p0.toNat) (x2_57).toNat (x3_79 + 1).toNat := by first | (have hs := hS.resolve_right (fun h => h.1 ⟨hZ.mp (by omega), by omega, by omega⟩); rw [hs.2, e143, updZ_s, wz_of e142 r142, e134, w79_2, e141]; congr 2; rw [← w79_1 _ (by have := sbN_lt (n := (x2_57).toNat) (a := (x3_79).toNat) (by omega) (by omega) (hZ.mp (by omega)); omega)]; congr 1; omega) | (have hs := hS.resolve_left (fun h => by have h8 := hZ.mpr h.1.1; have h7 := h.1.2.1; have h6 := h.1.2.2; omega); rw [hs.2]; exact w79_2)
                            have hO : ∀ j : Nat, (j : Int) < x2_57 → ordersOf_79 j = orF (lsB (fwN (toF v_oneOf v_otherOf v_signOf v_byOf (-1) v_claimMany.toNat) 12) p0.toNat) p0.toNat j := by first | exact w79_1 | (intro j hj; rw [e143, updZ_n _ _ (by omega)]; exact w79_1 j hj)
                            refine g_iinc X (lv' := [(3, vI (x3_79 + 1)), (4, vI t91), (0, .ref h), (1, vI p0), (2, vI x2_57)]) dX10_orders_144 4 rfl (by decide) rfl ?_
                            refine g_goto X (tgt := 79) dX10_orders_147 (by decide) ?_
                            refine g_lv [2, 3, 4, 0] rfl ?_
                            exact ih79 (x3_79 + 1) ordersOf_79 r_ordersOf_79 (by first | assumption | omega) (by first | exact hO | (intro j hj; rw [e76, updZ_n _ _ (by omega)]; exact w57_1 j hj)) (by first | exact hN | (rw [e76, updZ_s]; show _ = (if (x2_57).toNat = 0 then (1 : Int) else 0); first | (rw [if_pos (by omega)]) | (rw [if_neg (by omega)]))) (by omega)
                          · refine g_iload_n X dX10_orders_102 3 rfl ?_
                            refine g_iload_n X dX10_orders_103 2 rfl ?_
                            refine g_iconst X dX10_orders_104 ?_
                            refine g_ixor X dX10_orders_105 ?_
                            refine g_nm (fun t105 e105 => ?_)
                            have r105 : IR t105 := by rw [e105]; exact z_ir _
                            refine g_iand X dX10_orders_106 ?_
                            refine g_nm (fun t106 e106 => ?_)
                            have r106 : IR t106 := by rw [e106]; exact z_ir _
                            have hz := z_andn (n := (x2_57).toNat) (m := p0.toNat) (by omega) (by omega)
                            rw [show (((x2_57).toNat : Nat) : Int) = x2_57 by omega, show ((p0.toNat : Nat) : Int) = p0 by omega] at hz
                            have h106 : t106 = (((x2_57).toNat &&& (4095 ^^^ p0.toNat) : Nat) : Int) := by rw [e106, e105]; exact hz
                            refine g_if_ne X (tgt := 144) dX10_orders_107 (by decide) (by omega) (fun c107 => ?_) (fun c107 => ?_)
                            · have hN : ordersOf_79 (x2_57).toNat = orV (lsB (fwN (toF v_oneOf v_otherOf v_signOf v_byOf (-1) v_claimMany.toNat) 12) p0.toNat) p0.toNat (orF (lsB (fwN (toF v_oneOf v_otherOf v_signOf v_byOf (-1) v_claimMany.toNat) 12) p0.toNat) p0.toNat) (x2_57).toNat (x3_79 + 1).toNat := by first | (have hs := hS.resolve_right (fun h => h.1 ⟨hZ.mp (by omega), by omega, by omega⟩); rw [hs.2, e143, updZ_s, wz_of e142 r142, e134, w79_2, e141]; congr 2; rw [← w79_1 _ (by have := sbN_lt (n := (x2_57).toNat) (a := (x3_79).toNat) (by omega) (by omega) (hZ.mp (by omega)); omega)]; congr 1; omega) | (have hs := hS.resolve_left (fun h => by have h8 := hZ.mpr h.1.1; have h7 := h.1.2.1; have h6 := h.1.2.2; omega); rw [hs.2]; exact w79_2)
                              have hO : ∀ j : Nat, (j : Int) < x2_57 → ordersOf_79 j = orF (lsB (fwN (toF v_oneOf v_otherOf v_signOf v_byOf (-1) v_claimMany.toNat) 12) p0.toNat) p0.toNat j := by first | exact w79_1 | (intro j hj; rw [e143, updZ_n _ _ (by omega)]; exact w79_1 j hj)
                              refine g_iinc X (lv' := [(3, vI (x3_79 + 1)), (4, vI t91), (0, .ref h), (1, vI p0), (2, vI x2_57)]) dX10_orders_144 4 rfl (by decide) rfl ?_
                              refine g_goto X (tgt := 79) dX10_orders_147 (by decide) ?_
                              refine g_lv [2, 3, 4, 0] rfl ?_
                              exact ih79 (x3_79 + 1) ordersOf_79 r_ordersOf_79 (by first | assumption | omega) (by first | exact hO | (intro j hj; rw [e76, updZ_n _ _ (by omega)]; exact w57_1 j hj)) (by first | exact hN | (rw [e76, updZ_s]; show _ = (if (x2_57).toNat = 0 then (1 : Int) else 0); first | (rw [if_pos (by omega)]) | (rw [if_neg (by omega)]))) (by omega)
                            · refine g_aload_n X dX10_orders_110 1 rfl ?_
                              refine gM_get X 0 rfl 46 (by decide) uw1225 rfl dX10_orders_111 ?_
                              refine g_iload_n X dX10_orders_114 4 rfl ?_
                              refine g_iald X 34 0 rfl rfl (by omega) (by decide) dX10_orders_115 (fun t115 e115 => ?_)
                              have r115 := r_lessOf_30 (x3_79 : Int).toNat; rw [← e115] at r115
                              refine g_iload X dX10_orders_116 0 rfl ?_
                              refine g_iconst X dX10_orders_118 ?_
                              refine g_ixor X dX10_orders_119 ?_
                              refine g_nm (fun t119 e119 => ?_)
                              have r119 : IR t119 := by rw [e119]; exact z_ir _
                              refine g_iand X dX10_orders_120 ?_
                              refine g_nm (fun t120 e120 => ?_)
                              have r120 : IR t120 := by rw [e120]; exact z_ir _
                              have hz2 := z_andn (n := lsB (fwN (toF v_oneOf v_otherOf v_signOf v_byOf (-1) v_claimMany.toNat) 12) p0.toNat (x3_79).toNat) (m := sbN (x2_57).toNat (x3_79).toNat) (hL4 _ (by omega)) (Nat.lt_of_le_of_lt (sbN_le _ _) (by omega))
                              rw [← hLs _ (by omega), ← hsb2] at hz2
                              have h120 : t120 = ((lsB (fwN (toF v_oneOf v_otherOf v_signOf v_byOf (-1) v_claimMany.toNat) 12) p0.toNat (x3_79).toNat &&& (4095 ^^^ sbN (x2_57).toNat (x3_79).toNat) : Nat) : Int) := by rw [e120, e119, e115]; exact hz2
                              refine g_if_ne X (tgt := 144) dX10_orders_121 (by decide) (by omega) (fun c121 => ?_) (fun c121 => ?_)
                              · have hN : ordersOf_79 (x2_57).toNat = orV (lsB (fwN (toF v_oneOf v_otherOf v_signOf v_byOf (-1) v_claimMany.toNat) 12) p0.toNat) p0.toNat (orF (lsB (fwN (toF v_oneOf v_otherOf v_signOf v_byOf (-1) v_claimMany.toNat) 12) p0.toNat) p0.toNat) (x2_57).toNat (x3_79 + 1).toNat := by first | (have hs := hS.resolve_right (fun h => h.1 ⟨hZ.mp (by omega), by omega, by omega⟩); rw [hs.2, e143, updZ_s, wz_of e142 r142, e134, w79_2, e141]; congr 2; rw [← w79_1 _ (by have := sbN_lt (n := (x2_57).toNat) (a := (x3_79).toNat) (by omega) (by omega) (hZ.mp (by omega)); omega)]; congr 1; omega) | (have hs := hS.resolve_left (fun h => by have h8 := hZ.mpr h.1.1; have h7 := h.1.2.1; have h6 := h.1.2.2; omega); rw [hs.2]; exact w79_2)
                                have hO : ∀ j : Nat, (j : Int) < x2_57 → ordersOf_79 j = orF (lsB (fwN (toF v_oneOf v_otherOf v_signOf v_byOf (-1) v_claimMany.toNat) 12) p0.toNat) p0.toNat j := by first | exact w79_1 | (intro j hj; rw [e143, updZ_n _ _ (by omega)]; exact w79_1 j hj)
                                refine g_iinc X (lv' := [(3, vI (x3_79 + 1)), (4, vI t91), (0, .ref h), (1, vI p0), (2, vI x2_57)]) dX10_orders_144 4 rfl (by decide) rfl ?_
                                refine g_goto X (tgt := 79) dX10_orders_147 (by decide) ?_
                                refine g_lv [2, 3, 4, 0] rfl ?_
                                exact ih79 (x3_79 + 1) ordersOf_79 r_ordersOf_79 (by first | assumption | omega) (by first | exact hO | (intro j hj; rw [e76, updZ_n _ _ (by omega)]; exact w57_1 j hj)) (by first | exact hN | (rw [e76, updZ_s]; show _ = (if (x2_57).toNat = 0 then (1 : Int) else 0); first | (rw [if_pos (by omega)]) | (rw [if_neg (by omega)]))) (by omega)
                              · refine g_aload_n X dX10_orders_124 1 rfl ?_
                                refine gM_get X 0 rfl 45 (by decide) uw1224 rfl dX10_orders_125 ?_
                                refine g_iload_n X dX10_orders_128 3 rfl ?_
                                refine g_aload_n X dX10_orders_129 1 rfl ?_
                                refine gM_get X 0 rfl 45 (by decide) uw1224 rfl dX10_orders_130 ?_
                                refine g_iload_n X dX10_orders_133 3 rfl ?_
                                refine g_iald X 33 0 rfl rfl (by omega) (by decide) dX10_orders_134 (fun t134 e134 => ?_)
                                have r134 := r_ordersOf_79 (x2_57 : Int).toNat; rw [← e134] at r134
                                refine g_aload_n X dX10_orders_135 1 rfl ?_
                                refine gM_get X 0 rfl 45 (by decide) uw1224 rfl dX10_orders_136 ?_
                                refine g_iload X dX10_orders_139 0 rfl ?_
                                refine g_iald X 33 0 rfl rfl (by omega) (by decide) dX10_orders_141 (fun t141 e141 => ?_)
                                have r141 := r_ordersOf_79 (t91 : Int).toNat; rw [← e141] at r141
                                refine g_iadd X dX10_orders_142 ?_
                                refine g_nr (fun t142 e142 r142 => ?_)
                                refine g_iast X 33 0 rfl rfl (by omega) (by decide) dX10_orders_143 (fun ordersOf_143 e143 => ?_)
                                have r_ordersOf_143 : RA (-2147483648) 2147483647 ordersOf_143 := by rw [e143]; exact RA_up r_ordersOf_79 (by omega)
                                refine g_ws (ws2 := (wX10 cI cB cJ h q v_stalls v_claimMany v_taped v_place0 v_length0 v_fault v_number0 v_open v_codeMany v_waiting v_saidMany v_clauses v_newMany v_newStalls v_lines v_salesNow v_outNow v_isKept v_keptStalls v_now v_aside v_kept v_oneOf v_otherOf v_signOf v_byOf v_tape v_said v_waitsAt v_saidLetter v_saidFrom v_saidHalf v_saidTo v_codes v_clauseOf v_codeFrom v_codeHalf v_codeTo v_stack v_facts v_newOne v_newOther v_newSign v_newBy v_moreOf v_firstOf toldOf_15 mostOf_15 v_mostThen v_sumTo v_rowFrom ordersOf_143 lessOf_30 v_weightOf v_rowNow v_slowRow v_fastRow v_lineNow v_firstLine v_freeBy v_heldBy v_heightOf v_upTo v_downTo v_oftenOf v_newUpper v_newLower)) rfl ?_
                                have hN : ordersOf_143 (x2_57).toNat = orV (lsB (fwN (toF v_oneOf v_otherOf v_signOf v_byOf (-1) v_claimMany.toNat) 12) p0.toNat) p0.toNat (orF (lsB (fwN (toF v_oneOf v_otherOf v_signOf v_byOf (-1) v_claimMany.toNat) 12) p0.toNat) p0.toNat) (x2_57).toNat (x3_79 + 1).toNat := by first | (have hs := hS.resolve_right (fun h => h.1 ⟨hZ.mp (by omega), by omega, by omega⟩); rw [hs.2, e143, updZ_s, wz_of e142 r142, e134, w79_2, e141]; congr 2; rw [← w79_1 _ (by have := sbN_lt (n := (x2_57).toNat) (a := (x3_79).toNat) (by omega) (by omega) (hZ.mp (by omega)); omega)]; congr 1; omega) | (have hs := hS.resolve_left (fun h => by have h8 := hZ.mpr h.1.1; have h7 := h.1.2.1; have h6 := h.1.2.2; omega); rw [hs.2]; exact w79_2)
                                have hO : ∀ j : Nat, (j : Int) < x2_57 → ordersOf_143 j = orF (lsB (fwN (toF v_oneOf v_otherOf v_signOf v_byOf (-1) v_claimMany.toNat) 12) p0.toNat) p0.toNat j := by first | exact w79_1 | (intro j hj; rw [e143, updZ_n _ _ (by omega)]; exact w79_1 j hj)
                                refine g_iinc X (lv' := [(3, vI (x3_79 + 1)), (4, vI t91), (0, .ref h), (1, vI p0), (2, vI x2_57)]) dX10_orders_144 4 rfl (by decide) rfl ?_
                                refine g_goto X (tgt := 79) dX10_orders_147 (by decide) ?_
                                refine g_lv [2, 3, 4, 0] rfl ?_
                                exact ih79 (x3_79 + 1) ordersOf_143 r_ordersOf_143 (by first | assumption | omega) (by first | exact hO | (intro j hj; rw [e76, updZ_n _ _ (by omega)]; exact w57_1 j hj)) (by first | exact hN | (rw [e76, updZ_s]; show _ = (if (x2_57).toNat = 0 then (1 : Int) else 0); first | (rw [if_pos (by omega)]) | (rw [if_neg (by omega)]))) (by omega)
                    refine g_lv [1, 2, 3, 0] rfl ?_
                    exact L79 _ 0 ordersOf_76 r_ordersOf_76 (by first | assumption | omega) (by first | exact hO | (intro j hj; rw [e76, updZ_n _ _ (by omega)]; exact w57_1 j hj)) (by first | exact hN | (rw [e76, updZ_s]; show _ = (if (x2_57).toNat = 0 then (1 : Int) else 0); first | (rw [if_pos (by omega)]) | (rw [if_neg (by omega)]))) (Nat.lt_succ_self _)
                  · refine g_iconst X dX10_orders_71 ?_
                    refine g_goto X (tgt := 76) dX10_orders_72 (by decide) ?_
                    refine g_iast X 33 0 rfl rfl (by omega) (by decide) dX10_orders_76 (fun ordersOf_76 e76 => ?_)
                    have r_ordersOf_76 : RA (-2147483648) 2147483647 ordersOf_76 := by rw [e76]; exact RA_up r_ordersOf_57 (by omega)
                    refine g_ws (ws2 := (wX10 cI cB cJ h q v_stalls v_claimMany v_taped v_place0 v_length0 v_fault v_number0 v_open v_codeMany v_waiting v_saidMany v_clauses v_newMany v_newStalls v_lines v_salesNow v_outNow v_isKept v_keptStalls v_now v_aside v_kept v_oneOf v_otherOf v_signOf v_byOf v_tape v_said v_waitsAt v_saidLetter v_saidFrom v_saidHalf v_saidTo v_codes v_clauseOf v_codeFrom v_codeHalf v_codeTo v_stack v_facts v_newOne v_newOther v_newSign v_newBy v_moreOf v_firstOf toldOf_15 mostOf_15 v_mostThen v_sumTo v_rowFrom ordersOf_76 lessOf_30 v_weightOf v_rowNow v_slowRow v_fastRow v_lineNow v_firstLine v_freeBy v_heldBy v_heightOf v_upTo v_downTo v_oftenOf v_newUpper v_newLower)) rfl ?_
                    refine g_iconst X dX10_orders_77 ?_
                    refine g_istore_n X (lv' := [(3, vI 0), (0, .ref h), (1, vI p0), (2, vI x2_57)]) dX10_orders_78 (by decide) rfl ?_
                    have L79 : ∀ (n : Nat) (x3_79 : Int) (ordersOf_79 : Nat → Int), (RA (-2147483648) 2147483647 ordersOf_79) → (0 ≤ x3_79 ∧ x3_79 ≤ 12) → (∀ j : Nat, (j : Int) < x2_57 → ordersOf_79 j = orF (lsB (fwN (toF v_oneOf v_otherOf v_signOf v_byOf (-1) v_claimMany.toNat) 12) p0.toNat) p0.toNat j) → (ordersOf_79 (x2_57).toNat = orV (lsB (fwN (toF v_oneOf v_otherOf v_signOf v_byOf (-1) v_claimMany.toNat) 12) p0.toNat) p0.toNat (orF (lsB (fwN (toF v_oneOf v_otherOf v_signOf v_byOf (-1) v_claimMany.toNat) 12) p0.toNat) p0.toNat) (x2_57).toNat (x3_79).toNat) → (12 - x3_79).toNat < n → GG p l e ⟨4, 0, 0, 91⟩ s m args below meth c 0 0 Q D A s.heap 5 (wX10 cI cB cJ h q v_stalls v_claimMany v_taped v_place0 v_length0 v_fault v_number0 v_open v_codeMany v_waiting v_saidMany v_clauses v_newMany v_newStalls v_lines v_salesNow v_outNow v_isKept v_keptStalls v_now v_aside v_kept v_oneOf v_otherOf v_signOf v_byOf v_tape v_said v_waitsAt v_saidLetter v_saidFrom v_saidHalf v_saidTo v_codes v_clauseOf v_codeFrom v_codeHalf v_codeTo v_stack v_facts v_newOne v_newOther v_newSign v_newBy v_moreOf v_firstOf toldOf_15 mostOf_15 v_mostThen v_sumTo v_rowFrom ordersOf_79 lessOf_30 v_weightOf v_rowNow v_slowRow v_fastRow v_lineNow v_firstLine v_freeBy v_heldBy v_heightOf v_upTo v_downTo v_oftenOf v_newUpper v_newLower) 79 [(0, .ref h), (1, vI p0), (2, vI x2_57), (3, vI x3_79)] [] := by
                      intro n
                      induction n with
                      | zero => intros; exfalso; omega
                      | succ n ih79 =>
                        intro x3_79 ordersOf_79 r_ordersOf_79 w79_0 w79_1 w79_2 wm79
                        have hS := orV_s (lsB (fwN (toF v_oneOf v_otherOf v_signOf v_byOf (-1) v_claimMany.toNat) 12) p0.toNat) p0.toNat (orF (lsB (fwN (toF v_oneOf v_otherOf v_signOf v_byOf (-1) v_claimMany.toNat) 12) p0.toNat) p0.toNat) (x2_57).toNat (x := x3_79) (by omega)
                        refine g_iload_n X dX10_orders_79 3 rfl ?_
                        refine g_bipush X (z := 12) dX10_orders_80 (by decide) ?_
                        refine g_icmp_ge X (tgt := 150) dX10_orders_82 (by decide) (by omega) (by omega) (fun c82 => ?_) (fun c82 => ?_)
                        · refine g_iinc X (lv' := [(2, vI (x2_57 + 1)), (0, .ref h), (1, vI p0), (3, vI x3_79)]) dX10_orders_150 2 rfl (by decide) rfl ?_
                          refine g_goto X (tgt := 57) dX10_orders_153 (by decide) ?_
                          refine g_lv [1, 2, 0] rfl ?_
                          exact ih57 (x2_57 + 1) ordersOf_79 r_ordersOf_79 (by first | assumption | omega) (by first | (intro j hj; exact absurd hj (by omega)) | (intro j hj; rcases (show (j : Int) < x2_57 ∨ j = (x2_57).toNat by omega) with h | h; exact w79_1 j h; (rw [h, w79_2, orF_e (by omega), show (x3_79).toNat = 12 by omega]))) (by omega)
                        · refine g_iload_n X dX10_orders_85 2 rfl ?_
                          refine g_iconst X dX10_orders_86 ?_
                          refine g_iload_n X dX10_orders_87 3 rfl ?_
                          refine g_ishl X dX10_orders_88 ?_
                          refine g_nm (fun t88 e88 => ?_)
                          have r88 : IR t88 := by rw [e88]; exact z_ir _
                          refine g_iconst X dX10_orders_89 ?_
                          refine g_ixor X dX10_orders_90 ?_
                          refine g_nm (fun t90 e90 => ?_)
                          have r90 : IR t90 := by rw [e90]; exact z_ir _
                          refine g_iand X dX10_orders_91 ?_
                          refine g_nm (fun t91 e91 => ?_)
                          have r91 := z_iand_l x2_57 t90 (by omega) (by omega); rw [← e91] at r91
                          refine g_istore X (lv' := [(4, vI t91), (0, .ref h), (1, vI p0), (2, vI x2_57), (3, vI x3_79)]) dX10_orders_92 (by decide) rfl ?_
                          have hsb : t91 = ((sbN (x2_57).toNat (x3_79).toNat : Nat) : Int) := by rw [e91, e90, e88, z_sb (by omega) (by omega)]
                          refine g_iload_n X dX10_orders_94 3 rfl ?_
                          refine g_iload_n X dX10_orders_95 4 rfl ?_
                          have hsb2 : t91 = ((sbN (x2_57).toNat (x3_79).toNat : Nat) : Int) := hsb
                          have hZ := tb_Z (s := x2_57) (k := x3_79) (by omega) (by omega)
                          refine g_callSIE X (c_X10_has l D cI cB cJ (p0 := x2_57) (p1 := x3_79) (by first | assumption | omega) (by first | assumption | omega)) cv_X10_has uw1531 ⟨rfl, rfl, by decide, by decide⟩ rfl rfl (Nat.le_of_ble_eq_true rfl) ⟨Nat.zero_le _, Nat.zero_le _⟩ dX10_orders_96 (fun t96 ws96 k96 => ?_)
                          obtain ⟨kb_96, ⟨kp0_96, rfl⟩⟩ := k96
                          refine g_if_eq X (tgt := 144) dX10_orders_99 (by decide) (by omega) (fun c99 => ?_) (fun c99 => ?_)
                          · have hN : ordersOf_79 (x2_57).toNat = orV (lsB (fwN (toF v_oneOf v_otherOf v_signOf v_byOf (-1) v_claimMany.toNat) 12) p0.toNat) p0.toNat (orF (lsB (fwN (toF v_oneOf v_otherOf v_signOf v_byOf (-1) v_claimMany.toNat) 12) p0.toNat) p0.toNat) (x2_57).toNat (x3_79 + 1).toNat := by first | (have hs := hS.resolve_right (fun h => h.1 ⟨hZ.mp (by omega), by omega, by omega⟩); rw [hs.2, e143, updZ_s, wz_of e142 r142, e134, w79_2, e141]; congr 2; rw [← w79_1 _ (by have := sbN_lt (n := (x2_57).toNat) (a := (x3_79).toNat) (by omega) (by omega) (hZ.mp (by omega)); omega)]; congr 1; omega) | (have hs := hS.resolve_left (fun h => by have h8 := hZ.mpr h.1.1; have h7 := h.1.2.1; have h6 := h.1.2.2; omega); rw [hs.2]; exact w79_2)
                            have hO : ∀ j : Nat, (j : Int) < x2_57 → ordersOf_79 j = orF (lsB (fwN (toF v_oneOf v_otherOf v_signOf v_byOf (-1) v_claimMany.toNat) 12) p0.toNat) p0.toNat j := by first | exact w79_1 | (intro j hj; rw [e143, updZ_n _ _ (by omega)]; exact w79_1 j hj)
                            refine g_iinc X (lv' := [(3, vI (x3_79 + 1)), (4, vI t91), (0, .ref h), (1, vI p0), (2, vI x2_57)]) dX10_orders_144 4 rfl (by decide) rfl ?_
                            refine g_goto X (tgt := 79) dX10_orders_147 (by decide) ?_
                            refine g_lv [2, 3, 4, 0] rfl ?_
                            exact ih79 (x3_79 + 1) ordersOf_79 r_ordersOf_79 (by first | assumption | omega) (by first | exact hO | (intro j hj; rw [e76, updZ_n _ _ (by omega)]; exact w57_1 j hj)) (by first | exact hN | (rw [e76, updZ_s]; show _ = (if (x2_57).toNat = 0 then (1 : Int) else 0); first | (rw [if_pos (by omega)]) | (rw [if_neg (by omega)]))) (by omega)
                          · refine g_iload_n X dX10_orders_102 3 rfl ?_
                            refine g_iload_n X dX10_orders_103 2 rfl ?_
                            refine g_iconst X dX10_orders_104 ?_
                            refine g_ixor X dX10_orders_105 ?_
                            refine g_nm (fun t105 e105 => ?_)
                            have r105 : IR t105 := by rw [e105]; exact z_ir _
                            refine g_iand X dX10_orders_106 ?_
                            refine g_nm (fun t106 e106 => ?_)
                            have r106 : IR t106 := by rw [e106]; exact z_ir _
                            have hz := z_andn (n := (x2_57).toNat) (m := p0.toNat) (by omega) (by omega)
                            rw [show (((x2_57).toNat : Nat) : Int) = x2_57 by omega, show ((p0.toNat : Nat) : Int) = p0 by omega] at hz
                            have h106 : t106 = (((x2_57).toNat &&& (4095 ^^^ p0.toNat) : Nat) : Int) := by rw [e106, e105]; exact hz
                            refine g_if_ne X (tgt := 144) dX10_orders_107 (by decide) (by omega) (fun c107 => ?_) (fun c107 => ?_)
                            · have hN : ordersOf_79 (x2_57).toNat = orV (lsB (fwN (toF v_oneOf v_otherOf v_signOf v_byOf (-1) v_claimMany.toNat) 12) p0.toNat) p0.toNat (orF (lsB (fwN (toF v_oneOf v_otherOf v_signOf v_byOf (-1) v_claimMany.toNat) 12) p0.toNat) p0.toNat) (x2_57).toNat (x3_79 + 1).toNat := by first | (have hs := hS.resolve_right (fun h => h.1 ⟨hZ.mp (by omega), by omega, by omega⟩); rw [hs.2, e143, updZ_s, wz_of e142 r142, e134, w79_2, e141]; congr 2; rw [← w79_1 _ (by have := sbN_lt (n := (x2_57).toNat) (a := (x3_79).toNat) (by omega) (by omega) (hZ.mp (by omega)); omega)]; congr 1; omega) | (have hs := hS.resolve_left (fun h => by have h8 := hZ.mpr h.1.1; have h7 := h.1.2.1; have h6 := h.1.2.2; omega); rw [hs.2]; exact w79_2)
                              have hO : ∀ j : Nat, (j : Int) < x2_57 → ordersOf_79 j = orF (lsB (fwN (toF v_oneOf v_otherOf v_signOf v_byOf (-1) v_claimMany.toNat) 12) p0.toNat) p0.toNat j := by first | exact w79_1 | (intro j hj; rw [e143, updZ_n _ _ (by omega)]; exact w79_1 j hj)
                              refine g_iinc X (lv' := [(3, vI (x3_79 + 1)), (4, vI t91), (0, .ref h), (1, vI p0), (2, vI x2_57)]) dX10_orders_144 4 rfl (by decide) rfl ?_
                              refine g_goto X (tgt := 79) dX10_orders_147 (by decide) ?_
                              refine g_lv [2, 3, 4, 0] rfl ?_
                              exact ih79 (x3_79 + 1) ordersOf_79 r_ordersOf_79 (by first | assumption | omega) (by first | exact hO | (intro j hj; rw [e76, updZ_n _ _ (by omega)]; exact w57_1 j hj)) (by first | exact hN | (rw [e76, updZ_s]; show _ = (if (x2_57).toNat = 0 then (1 : Int) else 0); first | (rw [if_pos (by omega)]) | (rw [if_neg (by omega)]))) (by omega)
                            · refine g_aload_n X dX10_orders_110 1 rfl ?_
                              refine gM_get X 0 rfl 46 (by decide) uw1225 rfl dX10_orders_111 ?_
                              refine g_iload_n X dX10_orders_114 4 rfl ?_
                              refine g_iald X 34 0 rfl rfl (by omega) (by decide) dX10_orders_115 (fun t115 e115 => ?_)
                              have r115 := r_lessOf_30 (x3_79 : Int).toNat; rw [← e115] at r115
                              refine g_iload X dX10_orders_116 0 rfl ?_
                              refine g_iconst X dX10_orders_118 ?_
                              refine g_ixor X dX10_orders_119 ?_
                              refine g_nm (fun t119 e119 => ?_)
                              have r119 : IR t119 := by rw [e119]; exact z_ir _
                              refine g_iand X dX10_orders_120 ?_
                              refine g_nm (fun t120 e120 => ?_)
                              have r120 : IR t120 := by rw [e120]; exact z_ir _
                              have hz2 := z_andn (n := lsB (fwN (toF v_oneOf v_otherOf v_signOf v_byOf (-1) v_claimMany.toNat) 12) p0.toNat (x3_79).toNat) (m := sbN (x2_57).toNat (x3_79).toNat) (hL4 _ (by omega)) (Nat.lt_of_le_of_lt (sbN_le _ _) (by omega))
                              rw [← hLs _ (by omega), ← hsb2] at hz2
                              have h120 : t120 = ((lsB (fwN (toF v_oneOf v_otherOf v_signOf v_byOf (-1) v_claimMany.toNat) 12) p0.toNat (x3_79).toNat &&& (4095 ^^^ sbN (x2_57).toNat (x3_79).toNat) : Nat) : Int) := by rw [e120, e119, e115]; exact hz2
                              refine g_if_ne X (tgt := 144) dX10_orders_121 (by decide) (by omega) (fun c121 => ?_) (fun c121 => ?_)
                              · have hN : ordersOf_79 (x2_57).toNat = orV (lsB (fwN (toF v_oneOf v_otherOf v_signOf v_byOf (-1) v_claimMany.toNat) 12) p0.toNat) p0.toNat (orF (lsB (fwN (toF v_oneOf v_otherOf v_signOf v_byOf (-1) v_claimMany.toNat) 12) p0.toNat) p0.toNat) (x2_57).toNat (x3_79 + 1).toNat := by first | (have hs := hS.resolve_right (fun h => h.1 ⟨hZ.mp (by omega), by omega, by omega⟩); rw [hs.2, e143, updZ_s, wz_of e142 r142, e134, w79_2, e141]; congr 2; rw [← w79_1 _ (by have := sbN_lt (n := (x2_57).toNat) (a := (x3_79).toNat) (by omega) (by omega) (hZ.mp (by omega)); omega)]; congr 1; omega) | (have hs := hS.resolve_left (fun h => by have h8 := hZ.mpr h.1.1; have h7 := h.1.2.1; have h6 := h.1.2.2; omega); rw [hs.2]; exact w79_2)
                                have hO : ∀ j : Nat, (j : Int) < x2_57 → ordersOf_79 j = orF (lsB (fwN (toF v_oneOf v_otherOf v_signOf v_byOf (-1) v_claimMany.toNat) 12) p0.toNat) p0.toNat j := by first | exact w79_1 | (intro j hj; rw [e143, updZ_n _ _ (by omega)]; exact w79_1 j hj)
                                refine g_iinc X (lv' := [(3, vI (x3_79 + 1)), (4, vI t91), (0, .ref h), (1, vI p0), (2, vI x2_57)]) dX10_orders_144 4 rfl (by decide) rfl ?_
                                refine g_goto X (tgt := 79) dX10_orders_147 (by decide) ?_
                                refine g_lv [2, 3, 4, 0] rfl ?_
                                exact ih79 (x3_79 + 1) ordersOf_79 r_ordersOf_79 (by first | assumption | omega) (by first | exact hO | (intro j hj; rw [e76, updZ_n _ _ (by omega)]; exact w57_1 j hj)) (by first | exact hN | (rw [e76, updZ_s]; show _ = (if (x2_57).toNat = 0 then (1 : Int) else 0); first | (rw [if_pos (by omega)]) | (rw [if_neg (by omega)]))) (by omega)
                              · refine g_aload_n X dX10_orders_124 1 rfl ?_
                                refine gM_get X 0 rfl 45 (by decide) uw1224 rfl dX10_orders_125 ?_
                                refine g_iload_n X dX10_orders_128 3 rfl ?_
                                refine g_aload_n X dX10_orders_129 1 rfl ?_
                                refine gM_get X 0 rfl 45 (by decide) uw1224 rfl dX10_orders_130 ?_
                                refine g_iload_n X dX10_orders_133 3 rfl ?_
                                refine g_iald X 33 0 rfl rfl (by omega) (by decide) dX10_orders_134 (fun t134 e134 => ?_)
                                have r134 := r_ordersOf_79 (x2_57 : Int).toNat; rw [← e134] at r134
                                refine g_aload_n X dX10_orders_135 1 rfl ?_
                                refine gM_get X 0 rfl 45 (by decide) uw1224 rfl dX10_orders_136 ?_
                                refine g_iload X dX10_orders_139 0 rfl ?_
                                refine g_iald X 33 0 rfl rfl (by omega) (by decide) dX10_orders_141 (fun t141 e141 => ?_)
                                have r141 := r_ordersOf_79 (t91 : Int).toNat; rw [← e141] at r141
                                refine g_iadd X dX10_orders_142 ?_
                                refine g_nr (fun t142 e142 r142 => ?_)
                                refine g_iast X 33 0 rfl rfl (by omega) (by decide) dX10_orders_143 (fun ordersOf_143 e143 => ?_)
                                have r_ordersOf_143 : RA (-2147483648) 2147483647 ordersOf_143 := by rw [e143]; exact RA_up r_ordersOf_79 (by omega)
                                refine g_ws (ws2 := (wX10 cI cB cJ h q v_stalls v_claimMany v_taped v_place0 v_length0 v_fault v_number0 v_open v_codeMany v_waiting v_saidMany v_clauses v_newMany v_newStalls v_lines v_salesNow v_outNow v_isKept v_keptStalls v_now v_aside v_kept v_oneOf v_otherOf v_signOf v_byOf v_tape v_said v_waitsAt v_saidLetter v_saidFrom v_saidHalf v_saidTo v_codes v_clauseOf v_codeFrom v_codeHalf v_codeTo v_stack v_facts v_newOne v_newOther v_newSign v_newBy v_moreOf v_firstOf toldOf_15 mostOf_15 v_mostThen v_sumTo v_rowFrom ordersOf_143 lessOf_30 v_weightOf v_rowNow v_slowRow v_fastRow v_lineNow v_firstLine v_freeBy v_heldBy v_heightOf v_upTo v_downTo v_oftenOf v_newUpper v_newLower)) rfl ?_
                                have hN : ordersOf_143 (x2_57).toNat = orV (lsB (fwN (toF v_oneOf v_otherOf v_signOf v_byOf (-1) v_claimMany.toNat) 12) p0.toNat) p0.toNat (orF (lsB (fwN (toF v_oneOf v_otherOf v_signOf v_byOf (-1) v_claimMany.toNat) 12) p0.toNat) p0.toNat) (x2_57).toNat (x3_79 + 1).toNat := by first | (have hs := hS.resolve_right (fun h => h.1 ⟨hZ.mp (by omega), by omega, by omega⟩); rw [hs.2, e143, updZ_s, wz_of e142 r142, e134, w79_2, e141]; congr 2; rw [← w79_1 _ (by have := sbN_lt (n := (x2_57).toNat) (a := (x3_79).toNat) (by omega) (by omega) (hZ.mp (by omega)); omega)]; congr 1; omega) | (have hs := hS.resolve_left (fun h => by have h8 := hZ.mpr h.1.1; have h7 := h.1.2.1; have h6 := h.1.2.2; omega); rw [hs.2]; exact w79_2)
                                have hO : ∀ j : Nat, (j : Int) < x2_57 → ordersOf_143 j = orF (lsB (fwN (toF v_oneOf v_otherOf v_signOf v_byOf (-1) v_claimMany.toNat) 12) p0.toNat) p0.toNat j := by first | exact w79_1 | (intro j hj; rw [e143, updZ_n _ _ (by omega)]; exact w79_1 j hj)
                                refine g_iinc X (lv' := [(3, vI (x3_79 + 1)), (4, vI t91), (0, .ref h), (1, vI p0), (2, vI x2_57)]) dX10_orders_144 4 rfl (by decide) rfl ?_
                                refine g_goto X (tgt := 79) dX10_orders_147 (by decide) ?_
                                refine g_lv [2, 3, 4, 0] rfl ?_
                                exact ih79 (x3_79 + 1) ordersOf_143 r_ordersOf_143 (by first | assumption | omega) (by first | exact hO | (intro j hj; rw [e76, updZ_n _ _ (by omega)]; exact w57_1 j hj)) (by first | exact hN | (rw [e76, updZ_s]; show _ = (if (x2_57).toNat = 0 then (1 : Int) else 0); first | (rw [if_pos (by omega)]) | (rw [if_neg (by omega)]))) (by omega)
                    refine g_lv [1, 2, 3, 0] rfl ?_
                    exact L79 _ 0 ordersOf_76 r_ordersOf_76 (by first | assumption | omega) (by first | exact hO | (intro j hj; rw [e76, updZ_n _ _ (by omega)]; exact w57_1 j hj)) (by first | exact hN | (rw [e76, updZ_s]; show _ = (if (x2_57).toNat = 0 then (1 : Int) else 0); first | (rw [if_pos (by omega)]) | (rw [if_neg (by omega)]))) (Nat.lt_succ_self _)
            refine g_lv [1, 2, 0] rfl ?_
            exact L57 _ 0 v_ordersOf r_v_ordersOf (by first | assumption | omega) (by first | (intro j hj; exact absurd hj (by omega)) | (intro j hj; rcases (show (j : Int) < x2_57 ∨ j = (x2_57).toNat by omega) with h | h; exact w79_1 j h; (rw [h, w79_2, orF_e (by omega), show (x3_79).toNat = 12 by omega]))) (Nat.lt_succ_self _)
          · refine g_aload_n X dX10_orders_36 0 rfl ?_
            refine gM_get X 0 rfl 46 (by decide) uw1225 rfl dX10_orders_37 ?_
            refine g_iload_n X dX10_orders_40 2 rfl ?_
            refine g_aload_n X dX10_orders_41 0 rfl ?_
            refine g_iload_n X dX10_orders_42 2 rfl ?_
            refine g_callVI0 X (c_X10_lessThan l D cI cB cJ h q (p0 := x2_30) r_mostOf_15 (by first | assumption | omega) (by first | assumption | omega)) cv_X10_lessThan uw1608 ⟨rfl, rfl, by decide, by decide⟩ 0 rfl rfl rfl rfl rfl (Nat.le_of_ble_eq_true rfl) ⟨Nat.zero_le _, Nat.zero_le _⟩ dX10_orders_43 (fun t43 ws43 k43 => ?_)
            obtain ⟨kp0_43, kp1_43, rfl⟩ := k43
            refine g_iload_n X dX10_orders_46 1 rfl ?_
            refine g_iand X dX10_orders_47 ?_
            refine g_nm (fun t47 e47 => ?_)
            have r47 : IR t47 := by rw [e47]; exact z_ir _
            refine g_iast X 34 0 rfl rfl (by omega) (by decide) dX10_orders_48 (fun lessOf_48 e48 => ?_)
            have r_lessOf_48 : RA (-2147483648) 2147483647 lessOf_48 := by rw [e48]; exact RA_up r_lessOf_30 (by omega)
            refine g_ws (ws2 := (wX10 cI cB cJ h q v_stalls v_claimMany v_taped v_place0 v_length0 v_fault v_number0 v_open v_codeMany v_waiting v_saidMany v_clauses v_newMany v_newStalls v_lines v_salesNow v_outNow v_isKept v_keptStalls v_now v_aside v_kept v_oneOf v_otherOf v_signOf v_byOf v_tape v_said v_waitsAt v_saidLetter v_saidFrom v_saidHalf v_saidTo v_codes v_clauseOf v_codeFrom v_codeHalf v_codeTo v_stack v_facts v_newOne v_newOther v_newSign v_newBy v_moreOf v_firstOf toldOf_15 mostOf_15 v_mostThen v_sumTo v_rowFrom v_ordersOf lessOf_48 v_weightOf v_rowNow v_slowRow v_fastRow v_lineNow v_firstLine v_freeBy v_heldBy v_heightOf v_upTo v_downTo v_oftenOf v_newUpper v_newLower)) rfl ?_
            refine g_iinc X (lv' := [(2, vI (x2_30 + 1)), (0, .ref h), (1, vI p0)]) dX10_orders_49 2 rfl (by decide) rfl ?_
            refine g_goto X (tgt := 30) dX10_orders_52 (by decide) ?_
            refine g_lv [1, 2, 0] rfl ?_
            exact ih30 (x2_30 + 1) lessOf_48 r_lessOf_48 (by first | assumption | omega) (by intro a ha; first | (exfalso; omega) | (rcases (show (a : Int) < x2_30 ∨ a = (x2_30).toNat by omega) with h | h; (rw [e48, updZ_n _ _ (by omega)]; exact w30_1 a h); (rw [e48, h, updZ_s, e47, kp1_43, ltB_c 12 (by omega) (Nat.le_refl 12) hM]; have hl := (ltB_h (f := fwN (toF v_oneOf v_otherOf v_signOf v_byOf (-1) v_claimMany.toNat) 12) (a := (x2_30).toNat) (by omega) 12 (Nat.le_refl 12)).1; have hz := z_andN (n := (ltB (fwN (toF v_oneOf v_otherOf v_signOf v_byOf (-1) v_claimMany.toNat) 12) (x2_30).toNat 12).toNat) (m := p0.toNat) (by omega) (by omega); rw [show ((p0.toNat : Nat) : Int) = p0 by omega, show (((ltB (fwN (toF v_oneOf v_otherOf v_signOf v_byOf (-1) v_claimMany.toNat) 12) (x2_30).toNat 12).toNat : Nat) : Int) = ltB (fwN (toF v_oneOf v_otherOf v_signOf v_byOf (-1) v_claimMany.toNat) 12) (x2_30).toNat 12 by omega] at hz; exact hz))) (by omega)
      refine g_lv [1, 2, 0] rfl ?_
      exact L30 _ 0 v_lessOf r_v_lessOf (by first | assumption | omega) (by intro a ha; first | (exfalso; omega) | (rcases (show (a : Int) < x2_30 ∨ a = (x2_30).toNat by omega) with h | h; (rw [e48, updZ_n _ _ (by omega)]; exact w30_1 a h); (rw [e48, h, updZ_s, e47, kp1_43, ltB_c 12 (by omega) (Nat.le_refl 12) hM]; have hl := (ltB_h (f := fwN (toF v_oneOf v_otherOf v_signOf v_byOf (-1) v_claimMany.toNat) 12) (a := (x2_30).toNat) (by omega) 12 (Nat.le_refl 12)).1; have hz := z_andN (n := (ltB (fwN (toF v_oneOf v_otherOf v_signOf v_byOf (-1) v_claimMany.toNat) 12) (x2_30).toNat 12).toNat) (m := p0.toNat) (by omega) (by omega); rw [show ((p0.toNat : Nat) : Int) = p0 by omega, show (((ltB (fwN (toF v_oneOf v_otherOf v_signOf v_byOf (-1) v_claimMany.toNat) 12) (x2_30).toNat 12).toNat : Nat) : Int) = ltB (fwN (toF v_oneOf v_otherOf v_signOf v_byOf (-1) v_claimMany.toNat) 12) (x2_30).toNat 12 by omega] at hz; exact hz))) (Nat.lt_succ_self _)
    · refine g_bipush X (z := (-3)) dX10_orders_25 (by decide) ?_
      exact hQ _ _ _ _ dX10_orders_27 ⟨toldOf_15, mostOf_15, v_ordersOf, v_lessOf, r_toldOf_15, r_mostOf_15, r_v_ordersOf, r_v_lessOf, (by first | assumption | omega), (by first | assumption | omega), rfl⟩
  · refine g_iconst X dX10_orders_11 ?_
    exact hQ _ _ _ _ dX10_orders_12 ⟨v_toldOf, v_mostOf, v_ordersOf, v_lessOf, r_v_toldOf, r_v_mostOf, r_v_ordersOf, r_v_lessOf, (by first | assumption | omega), (by first | assumption | omega), rfl⟩
set_option maxHeartbeats 4000000 in
set_option maxRecDepth 100000 in
theorem c_X10_unlikeBy (l : Launch) (D : va_G) (cI cB cJ : ClassId) (h : Nat) (q : Nat → Nat) {v_stalls v_claimMany v_taped v_place0 v_length0 v_fault v_number0 v_open v_codeMany v_waiting v_saidMany v_clauses v_newMany v_newStalls v_lines v_salesNow v_outNow v_isKept v_keptStalls : Int} {v_now v_aside v_kept v_oneOf v_otherOf v_signOf v_byOf v_tape v_said v_waitsAt v_saidLetter v_saidFrom v_saidHalf v_saidTo v_codes v_clauseOf v_codeFrom v_codeHalf v_codeTo v_stack v_facts v_newOne v_newOther v_newSign v_newBy v_moreOf v_firstOf v_toldOf v_mostOf v_mostThen v_sumTo v_rowFrom v_ordersOf v_lessOf v_weightOf v_rowNow v_slowRow v_fastRow v_lineNow v_firstLine v_freeBy v_heldBy v_heightOf v_upTo v_downTo v_oftenOf v_newUpper v_newLower : Nat → Int} {p0 p1 : Int} (r_v_tape : RA (-128) 127 v_tape) (hp0 : IR p0) (hp1 : IR p1) (hp2 : 0 ≤ p1 ∧ p1 ≤ 16) (hp3 : 0 ≤ p0 ∧ p0 ≤ 65535) : CtI l yX10_unlikeBy cX10_unlikeBy 5 (some .int) ⟨1, 0, 0, 21⟩ D (TY cI cB cJ) (wX10 cI cB cJ h q v_stalls v_claimMany v_taped v_place0 v_length0 v_fault v_number0 v_open v_codeMany v_waiting v_saidMany v_clauses v_newMany v_newStalls v_lines v_salesNow v_outNow v_isKept v_keptStalls v_now v_aside v_kept v_oneOf v_otherOf v_signOf v_byOf v_tape v_said v_waitsAt v_saidLetter v_saidFrom v_saidHalf v_saidTo v_codes v_clauseOf v_codeFrom v_codeHalf v_codeTo v_stack v_facts v_newOne v_newOther v_newSign v_newBy v_moreOf v_firstOf v_toldOf v_mostOf v_mostThen v_sumTo v_rowFrom v_ordersOf v_lessOf v_weightOf v_rowNow v_slowRow v_fastRow v_lineNow v_firstLine v_freeBy v_heldBy v_heightOf v_upTo v_downTo v_oftenOf v_newUpper v_newLower) [.ref h, vI p0, vI p1] (fun z ws' => (0 ≤ z ∧ z ≤ 4080) ∧ (z = dzA (whF (oct v_tape) p1.toNat - 2 * smF (oct v_tape) p0.toNat p1.toNat)) ∧ (ws' = (wX10 cI cB cJ h q v_stalls v_claimMany v_taped v_place0 v_length0 v_fault v_number0 v_open v_codeMany v_waiting v_saidMany v_clauses v_newMany v_newStalls v_lines v_salesNow v_outNow v_isKept v_keptStalls v_now v_aside v_kept v_oneOf v_otherOf v_signOf v_byOf v_tape v_said v_waitsAt v_saidLetter v_saidFrom v_saidHalf v_saidTo v_codes v_clauseOf v_codeFrom v_codeHalf v_codeTo v_stack v_facts v_newOne v_newOther v_newSign v_newBy v_moreOf v_firstOf v_toldOf v_mostOf v_mostThen v_sumTo v_rowFrom v_ordersOf v_lessOf v_weightOf v_rowNow v_slowRow v_fastRow v_lineNow v_firstLine v_freeBy v_heldBy v_heightOf v_upTo v_downTo v_oftenOf v_newUpper v_newLower))) := by
  refine hdrI (own := RX10) rfl (by decide +kernel) (Nat.le_of_ble_eq_true rfl) ?_
  intro p e s m args below meth c Q A X hQ
  refine g_lvE (lv2 := [(0, .ref h), (1, vI p0), (2, vI p1)]) rfl ?_
  refine g_iconst X dX10_unlikeBy_0 ?_
  refine g_istore_n X (lv' := [(3, vI 0), (0, .ref h), (1, vI p0), (2, vI p1)]) dX10_unlikeBy_1 (by decide) rfl ?_
  refine g_iconst X dX10_unlikeBy_2 ?_
  refine g_istore X (lv' := [(4, vI 0), (3, vI 0), (0, .ref h), (1, vI p0), (2, vI p1)]) dX10_unlikeBy_3 (by decide) rfl ?_
  have h0 : smF (oct v_tape) p0.toNat (0 : Int).toNat = 0 := rfl
  have h1 : whF (oct v_tape) (0 : Int).toNat = 0 := rfl
  have L5 : ∀ (n : Nat) (x3_5 : Int) (x4_5 : Int), (0 ≤ x4_5 ∧ x4_5 ≤ p1) → (-255 * x4_5 ≤ x3_5 ∧ x3_5 ≤ 255 * x4_5) → (x3_5 = 2 * smF (oct v_tape) p0.toNat (x4_5).toNat - whF (oct v_tape) (x4_5).toNat) → (p1 - x4_5).toNat < n → GG p l e ⟨1, 0, 0, 21⟩ s m args below meth c 0 0 Q D A s.heap 5 (wX10 cI cB cJ h q v_stalls v_claimMany v_taped v_place0 v_length0 v_fault v_number0 v_open v_codeMany v_waiting v_saidMany v_clauses v_newMany v_newStalls v_lines v_salesNow v_outNow v_isKept v_keptStalls v_now v_aside v_kept v_oneOf v_otherOf v_signOf v_byOf v_tape v_said v_waitsAt v_saidLetter v_saidFrom v_saidHalf v_saidTo v_codes v_clauseOf v_codeFrom v_codeHalf v_codeTo v_stack v_facts v_newOne v_newOther v_newSign v_newBy v_moreOf v_firstOf v_toldOf v_mostOf v_mostThen v_sumTo v_rowFrom v_ordersOf v_lessOf v_weightOf v_rowNow v_slowRow v_fastRow v_lineNow v_firstLine v_freeBy v_heldBy v_heightOf v_upTo v_downTo v_oftenOf v_newUpper v_newLower) 5 [(0, .ref h), (1, vI p0), (2, vI p1), (3, vI x3_5), (4, vI x4_5)] [] := by
    intro n
    induction n with
    | zero => intros; exfalso; omega
    | succ n ih5 =>
      intro x3_5 x4_5 w5_0 w5_1 w5_2 wm5
      have hW := whF_s (oct v_tape) (x := x4_5) (by omega)
      have hM : smF (oct v_tape) p0.toNat (x4_5 + 1).toNat = smF (oct v_tape) p0.toNat (x4_5).toNat + (if p0.toNat / 2 ^ (x4_5).toNat % 2 = 1 then (oct v_tape) (x4_5).toNat else 0) := by rw [tn_s (by omega)]; rfl
      have hH := hasZ_n (n := p0.toNat) (k := (x4_5).toNat) (by omega) (by omega)
      rw [show ((p0.toNat : Nat) : Int) = p0 by omega, show (((x4_5).toNat : Nat) : Int) = x4_5 by omega] at hH
      refine g_iload X dX10_unlikeBy_5 4 rfl ?_
      refine g_iload_n X dX10_unlikeBy_7 2 rfl ?_
      refine g_icmp_ge X (tgt := 46) dX10_unlikeBy_8 (by decide) (by omega) (by omega) (fun c8 => ?_) (fun c8 => ?_)
      · refine g_iload_n X dX10_unlikeBy_46 3 rfl ?_
        refine g_callSIE X (c_X10_size l D cI cB cJ (p0 := x3_5) (by first | assumption | omega) (by first | assumption | omega)) cv_X10_size uw1672 ⟨rfl, rfl, by decide, by decide⟩ rfl rfl (Nat.le_of_ble_eq_true rfl) ⟨Nat.zero_le _, Nat.zero_le _⟩ dX10_unlikeBy_47 (fun t47 ws47 k47 => ?_)
        obtain ⟨kp0_47, rfl⟩ := k47
        have hx : x4_5 = p1 := by omega
        rw [hx] at w5_2
        have hd := dzA_e (whF (oct v_tape) p1.toNat - 2 * smF (oct v_tape) p0.toNat p1.toNat)
        exact hQ _ _ _ _ dX10_unlikeBy_50 ⟨(by first | assumption | omega), (by first | assumption | omega), rfl⟩
      · refine g_iload_n X dX10_unlikeBy_11 1 rfl ?_
        refine g_iload X dX10_unlikeBy_12 4 rfl ?_
        refine g_callSIE X (c_X10_has l D cI cB cJ (p0 := p0) (p1 := x4_5) (by first | assumption | omega) (by first | assumption | omega)) cv_X10_has uw1531 ⟨rfl, rfl, by decide, by decide⟩ rfl rfl (Nat.le_of_ble_eq_true rfl) ⟨Nat.zero_le _, Nat.zero_le _⟩ dX10_unlikeBy_14 (fun t14 ws14 k14 => ?_)
        obtain ⟨kb_14, ⟨kp0_14, rfl⟩⟩ := k14
        refine g_if_eq X (tgt := 31) dX10_unlikeBy_17 (by decide) (by omega) (fun c17 => ?_) (fun c17 => ?_)
        · refine g_iload_n X dX10_unlikeBy_31 3 rfl ?_
          refine g_aload_n X dX10_unlikeBy_32 0 rfl ?_
          refine g_iload X dX10_unlikeBy_33 4 rfl ?_
          refine g_callVI0 X (c_X10_octet l D cI cB cJ h q (p0 := x4_5) r_v_tape (by first | assumption | omega) (by first | assumption | omega)) cv_X10_octet uw1641 ⟨rfl, rfl, by decide, by decide⟩ 0 rfl rfl rfl rfl rfl (Nat.le_of_ble_eq_true rfl) ⟨Nat.zero_le _, Nat.zero_le _⟩ dX10_unlikeBy_35 (fun t35 ws35 k35 => ?_)
          obtain ⟨kp0_35, kp1_35, kp2_35, rfl⟩ := k35
          refine g_isub X dX10_unlikeBy_38 ?_
          have hM2 : (hasZ p0 x4_5 = 1 ∧ smF (oct v_tape) p0.toNat (x4_5 + 1).toNat = smF (oct v_tape) p0.toNat (x4_5).toNat + (oct v_tape) (x4_5).toNat) ∨ (hasZ p0 x4_5 ≠ 1 ∧ smF (oct v_tape) p0.toNat (x4_5 + 1).toNat = smF (oct v_tape) p0.toNat (x4_5).toNat) := by rw [hM]; by_cases hq : p0.toNat / 2 ^ (x4_5).toNat % 2 = 1; (rw [if_pos hq]; exact Or.inl ⟨by omega, rfl⟩); (rw [if_neg hq]; exact Or.inr ⟨by omega, Int.add_zero _⟩)
          refine g_istore_n X (lv' := [(3, vI (x3_5 - t35)), (0, .ref h), (1, vI p0), (2, vI p1), (4, vI x4_5)]) dX10_unlikeBy_39 (by decide) rfl ?_
          refine g_iinc X (lv' := [(4, vI (x4_5 + 1)), (3, vI (x3_5 - t35)), (0, .ref h), (1, vI p0), (2, vI p1)]) dX10_unlikeBy_40 4 rfl (by decide) rfl ?_
          refine g_goto X (tgt := 5) dX10_unlikeBy_43 (by decide) ?_
          refine g_lv [2, 3, 4, 1, 0] rfl ?_
          exact ih5 (x3_5 - t35) (x4_5 + 1) (by first | assumption | omega) (by first | assumption | omega) (by first | assumption | omega) (by omega)
        · refine g_iload_n X dX10_unlikeBy_20 3 rfl ?_
          refine g_aload_n X dX10_unlikeBy_21 0 rfl ?_
          refine g_iload X dX10_unlikeBy_22 4 rfl ?_
          refine g_callVI0 X (c_X10_octet l D cI cB cJ h q (p0 := x4_5) r_v_tape (by first | assumption | omega) (by first | assumption | omega)) cv_X10_octet uw1641 ⟨rfl, rfl, by decide, by decide⟩ 0 rfl rfl rfl rfl rfl (Nat.le_of_ble_eq_true rfl) ⟨Nat.zero_le _, Nat.zero_le _⟩ dX10_unlikeBy_24 (fun t24 ws24 k24 => ?_)
          obtain ⟨kp0_24, kp1_24, kp2_24, rfl⟩ := k24
          refine g_iadd X dX10_unlikeBy_27 ?_
          refine g_goto X (tgt := 39) dX10_unlikeBy_28 (by decide) ?_
          have hM2 : (hasZ p0 x4_5 = 1 ∧ smF (oct v_tape) p0.toNat (x4_5 + 1).toNat = smF (oct v_tape) p0.toNat (x4_5).toNat + (oct v_tape) (x4_5).toNat) ∨ (hasZ p0 x4_5 ≠ 1 ∧ smF (oct v_tape) p0.toNat (x4_5 + 1).toNat = smF (oct v_tape) p0.toNat (x4_5).toNat) := by rw [hM]; by_cases hq : p0.toNat / 2 ^ (x4_5).toNat % 2 = 1; (rw [if_pos hq]; exact Or.inl ⟨by omega, rfl⟩); (rw [if_neg hq]; exact Or.inr ⟨by omega, Int.add_zero _⟩)
          refine g_istore_n X (lv' := [(3, vI (x3_5 + t24)), (0, .ref h), (1, vI p0), (2, vI p1), (4, vI x4_5)]) dX10_unlikeBy_39 (by decide) rfl ?_
          refine g_iinc X (lv' := [(4, vI (x4_5 + 1)), (3, vI (x3_5 + t24)), (0, .ref h), (1, vI p0), (2, vI p1)]) dX10_unlikeBy_40 4 rfl (by decide) rfl ?_
          refine g_goto X (tgt := 5) dX10_unlikeBy_43 (by decide) ?_
          refine g_lv [2, 3, 4, 1, 0] rfl ?_
          exact ih5 (x3_5 + t24) (x4_5 + 1) (by first | assumption | omega) (by first | assumption | omega) (by first | assumption | omega) (by omega)
  refine g_lv [2, 3, 4, 1, 0] rfl ?_
  exact L5 _ 0 0 (by first | assumption | omega) (by first | assumption | omega) (by first | assumption | omega) (Nat.lt_succ_self _)
set_option maxHeartbeats 4000000 in
set_option maxRecDepth 100000 in
theorem c_X10_halves (l : Launch) (D : va_G) (cI cB cJ : ClassId) (h : Nat) (q : Nat → Nat) {v_stalls v_claimMany v_taped v_place0 v_length0 v_fault v_number0 v_open v_codeMany v_waiting v_saidMany v_clauses v_newMany v_newStalls v_lines v_salesNow v_outNow v_isKept v_keptStalls : Int} {v_now v_aside v_kept v_oneOf v_otherOf v_signOf v_byOf v_tape v_said v_waitsAt v_saidLetter v_saidFrom v_saidHalf v_saidTo v_codes v_clauseOf v_codeFrom v_codeHalf v_codeTo v_stack v_facts v_newOne v_newOther v_newSign v_newBy v_moreOf v_firstOf v_toldOf v_mostOf v_mostThen v_sumTo v_rowFrom v_ordersOf v_lessOf v_weightOf v_rowNow v_slowRow v_fastRow v_lineNow v_firstLine v_freeBy v_heldBy v_heightOf v_upTo v_downTo v_oftenOf v_newUpper v_newLower : Nat → Int} {p0 p1 : Int} (kr_v_taped : 0 ≤ v_taped ∧ v_taped ≤ 260) (r_v_tape : RA (-128) 127 v_tape) (hp0 : IR p0) (hp1 : IR p1) : CtI l yX10_halves cX10_halves 7 (some .int) ⟨2, 0, 0, 45⟩ D (TY cI cB cJ) (wX10 cI cB cJ h q v_stalls v_claimMany v_taped v_place0 v_length0 v_fault v_number0 v_open v_codeMany v_waiting v_saidMany v_clauses v_newMany v_newStalls v_lines v_salesNow v_outNow v_isKept v_keptStalls v_now v_aside v_kept v_oneOf v_otherOf v_signOf v_byOf v_tape v_said v_waitsAt v_saidLetter v_saidFrom v_saidHalf v_saidTo v_codes v_clauseOf v_codeFrom v_codeHalf v_codeTo v_stack v_facts v_newOne v_newOther v_newSign v_newBy v_moreOf v_firstOf v_toldOf v_mostOf v_mostThen v_sumTo v_rowFrom v_ordersOf v_lessOf v_weightOf v_rowNow v_slowRow v_fastRow v_lineNow v_firstLine v_freeBy v_heldBy v_heightOf v_upTo v_downTo v_oftenOf v_newUpper v_newLower) [.ref h, vI p0, vI p1] (fun z ws' => ∃ n_taped : Int, (0 ≤ n_taped ∧ n_taped ≤ 260) ∧ (IR z) ∧ ((0 ≤ p1 ∧ p1 ≤ 1 ∧ 2 ≤ p0 ∧ p0 ≤ 16 ∧ p0 ≤ v_taped ∧ n_taped = 0) ∨ (¬ (0 ≤ p1 ∧ p1 ≤ 1 ∧ 2 ≤ p0 ∧ p0 ≤ 16 ∧ p0 ≤ v_taped) ∧ n_taped = v_taped)) ∧ (((0 ≤ p1 ∧ p1 ≤ 1 ∧ 2 ≤ p0 ∧ p0 ≤ 16 ∧ p0 ≤ v_taped) ∧ z = hvF (oct v_tape) p0 p1) ∨ (¬ (0 ≤ p1 ∧ p1 ≤ 1 ∧ 2 ≤ p0 ∧ p0 ≤ 16 ∧ p0 ≤ v_taped) ∧ z = -1)) ∧ (ws' = (wX10 cI cB cJ h q v_stalls v_claimMany n_taped v_place0 v_length0 v_fault v_number0 v_open v_codeMany v_waiting v_saidMany v_clauses v_newMany v_newStalls v_lines v_salesNow v_outNow v_isKept v_keptStalls v_now v_aside v_kept v_oneOf v_otherOf v_signOf v_byOf v_tape v_said v_waitsAt v_saidLetter v_saidFrom v_saidHalf v_saidTo v_codes v_clauseOf v_codeFrom v_codeHalf v_codeTo v_stack v_facts v_newOne v_newOther v_newSign v_newBy v_moreOf v_firstOf v_toldOf v_mostOf v_mostThen v_sumTo v_rowFrom v_ordersOf v_lessOf v_weightOf v_rowNow v_slowRow v_fastRow v_lineNow v_firstLine v_freeBy v_heldBy v_heightOf v_upTo v_downTo v_oftenOf v_newUpper v_newLower))) := by
  refine hdrI (own := RX10) rfl (by decide +kernel) (Nat.le_of_ble_eq_true rfl) ?_
  intro p e s m args below meth c Q A X hQ
  refine g_lvE (lv2 := [(0, .ref h), (1, vI p0), (2, vI p1)]) rfl ?_
  refine g_iload_n X dX10_halves_0 1 rfl ?_
  refine g_iconst X dX10_halves_1 ?_
  refine g_bipush X (z := 16) dX10_halves_2 (by decide) ?_
  refine g_callSIE X (c_X10_in l D cI cB cJ (p0 := p0) (p1 := 2) (p2 := 16) (by first | assumption | omega) (by first | assumption | omega) (by first | assumption | omega)) cv_X10_in uw1394 ⟨rfl, rfl, by decide, by decide⟩ rfl rfl (Nat.le_of_ble_eq_true rfl) ⟨Nat.zero_le _, Nat.zero_le _⟩ dX10_halves_4 (fun t4 ws4 k4 => ?_)
  obtain ⟨kb_4, ⟨kp0_4, rfl⟩⟩ := k4
  refine g_if_eq X (tgt := 27) dX10_halves_7 (by decide) (by omega) (fun c7 => ?_) (fun c7 => ?_)
  · clear kb_4
    replace kp0_4 := (kp0_4.resolve_left (fun h => absurd h.1 (by omega))).2
    refine g_iconst X dX10_halves_27 ?_
    exact hQ _ _ _ _ dX10_halves_28 ⟨v_taped, (by omega), (by first | assumption | omega), (by first | assumption | omega), (by first | assumption | omega), rfl⟩
  · replace kb_4 := kb_4.resolve_left (fun h => c7 h)
    replace kp0_4 := kp0_4.resolve_right (fun h => c7 h.1)
    refine g_iload_n X dX10_halves_10 2 rfl ?_
    refine g_iconst X dX10_halves_11 ?_
    refine g_iconst X dX10_halves_12 ?_
    refine g_callSIE X (c_X10_in l D cI cB cJ (p0 := p1) (p1 := 0) (p2 := 1) (by first | assumption | omega) (by first | assumption | omega) (by first | assumption | omega)) cv_X10_in uw1394 ⟨rfl, rfl, by decide, by decide⟩ rfl rfl (Nat.le_of_ble_eq_true rfl) ⟨Nat.zero_le _, Nat.zero_le _⟩ dX10_halves_13 (fun t13 ws13 k13 => ?_)
    obtain ⟨kb_13, ⟨kp0_13, rfl⟩⟩ := k13
    refine g_if_eq X (tgt := 27) dX10_halves_16 (by decide) (by omega) (fun c16 => ?_) (fun c16 => ?_)
    · clear kb_13
      replace kp0_13 := (kp0_13.resolve_left (fun h => absurd h.1 (by omega))).2
      refine g_iconst X dX10_halves_27 ?_
      exact hQ _ _ _ _ dX10_halves_28 ⟨v_taped, (by omega), (by first | assumption | omega), (by first | assumption | omega), (by first | assumption | omega), rfl⟩
    · replace kb_13 := kb_13.resolve_left (fun h => c16 h)
      replace kp0_13 := kp0_13.resolve_right (fun h => c16 h.1)
      refine g_iload_n X dX10_halves_19 1 rfl ?_
      refine g_aload_n X dX10_halves_20 0 rfl ?_
      refine gM_get X 0 rfl 10 (by decide) uw1189 rfl dX10_halves_21 ?_
      refine g_icmp_le X (tgt := 29) dX10_halves_24 (by decide) (by omega) (by omega) (fun c24 => ?_) (fun c24 => ?_)
      · refine g_aload_n X dX10_halves_29 0 rfl ?_
        refine g_iconst X dX10_halves_30 ?_
        refine gM_put X 0 rfl 10 (by decide) uw1189 rfl rfl rfl (Nat.le_of_ble_eq_true rfl) dX10_halves_31 (ws2 := (wX10 cI cB cJ h q v_stalls v_claimMany 0 v_place0 v_length0 v_fault v_number0 v_open v_codeMany v_waiting v_saidMany v_clauses v_newMany v_newStalls v_lines v_salesNow v_outNow v_isKept v_keptStalls v_now v_aside v_kept v_oneOf v_otherOf v_signOf v_byOf v_tape v_said v_waitsAt v_saidLetter v_saidFrom v_saidHalf v_saidTo v_codes v_clauseOf v_codeFrom v_codeHalf v_codeTo v_stack v_facts v_newOne v_newOther v_newSign v_newBy v_moreOf v_firstOf v_toldOf v_mostOf v_mostThen v_sumTo v_rowFrom v_ordersOf v_lessOf v_weightOf v_rowNow v_slowRow v_fastRow v_lineNow v_firstLine v_freeBy v_heldBy v_heightOf v_upTo v_downTo v_oftenOf v_newUpper v_newLower)) rfl ?_
        refine g_iconst X dX10_halves_34 ?_
        refine g_istore_n X (lv' := [(3, vI 0), (0, .ref h), (1, vI p0), (2, vI p1)]) dX10_halves_35 (by decide) rfl ?_
        refine g_aload_n X dX10_halves_36 1 rfl ?_
        refine g_iconst X dX10_halves_37 ?_
        refine g_iload_n X dX10_halves_38 2 rfl ?_
        refine g_callVI0 X (c_X10_unlikeBy l D cI cB cJ h q (p0 := 0) (p1 := p0) r_v_tape (by first | assumption | omega) (by first | assumption | omega) (by first | assumption | omega) (by first | assumption | omega)) cv_X10_unlikeBy uw1714 ⟨rfl, rfl, by decide, by decide⟩ 0 rfl rfl rfl rfl rfl (Nat.le_of_ble_eq_true rfl) ⟨Nat.zero_le _, Nat.zero_le _⟩ dX10_halves_39 (fun t39 ws39 k39 => ?_)
        obtain ⟨kp0_39, kp1_39, rfl⟩ := k39
        refine g_istore X (lv' := [(4, vI t39), (3, vI 0), (0, .ref h), (1, vI p0), (2, vI p1)]) dX10_halves_42 (by decide) rfl ?_
        have hi0 : HVp (oct v_tape) p0.toNat (whF (oct v_tape) p0.toNat) 2 t39 0 := HVp.ini kp1_39
        refine g_iconst X dX10_halves_44 ?_
        refine g_istore X (lv' := [(5, vI 2), (4, vI t39), (3, vI 0), (0, .ref h), (1, vI p0), (2, vI p1)]) dX10_halves_45 (by decide) rfl ?_
        have L47 : ∀ (n : Nat) (x3_47 : Int) (x4_47 : Int) (x5_47 : Int), (0 ≤ x5_47 ∧ x5_47 ≤ 65537) → (0 ≤ x4_47 ∧ x4_47 ≤ 4080) → (0 ≤ x3_47 ∧ x3_47 ≤ 65537) → (x5_47 % 2 = 0) → (HVp (oct v_tape) p0.toNat (whF (oct v_tape) p0.toNat) x5_47 x4_47 x3_47) → (65538 - x5_47).toNat < n → GG p l e ⟨2, 0, 0, 45⟩ s m args below meth c 0 0 Q D A s.heap 7 (wX10 cI cB cJ h q v_stalls v_claimMany 0 v_place0 v_length0 v_fault v_number0 v_open v_codeMany v_waiting v_saidMany v_clauses v_newMany v_newStalls v_lines v_salesNow v_outNow v_isKept v_keptStalls v_now v_aside v_kept v_oneOf v_otherOf v_signOf v_byOf v_tape v_said v_waitsAt v_saidLetter v_saidFrom v_saidHalf v_saidTo v_codes v_clauseOf v_codeFrom v_codeHalf v_codeTo v_stack v_facts v_newOne v_newOther v_newSign v_newBy v_moreOf v_firstOf v_toldOf v_mostOf v_mostThen v_sumTo v_rowFrom v_ordersOf v_lessOf v_weightOf v_rowNow v_slowRow v_fastRow v_lineNow v_firstLine v_freeBy v_heldBy v_heightOf v_upTo v_downTo v_oftenOf v_newUpper v_newLower) 47 [(0, .ref h), (1, vI p0), (2, vI p1), (3, vI x3_47), (4, vI x4_47), (5, vI x5_47)] [] := by
          intro n
          induction n with
          | zero => intros; exfalso; omega
          | succ n ih47 =>
            intro x3_47 x4_47 x5_47 w47_0 w47_1 w47_2 w47_3 w47_4 wm47
            refine g_iload X dX10_halves_47 5 rfl ?_
            refine g_iconst X dX10_halves_49 ?_
            refine g_iload_n X dX10_halves_50 1 rfl ?_
            refine g_ishl X dX10_halves_51 ?_
            refine g_nm (fun t51 e51 => ?_)
            have r51 : IR t51 := by rw [e51]; exact z_ir _
            have hp2 := (z_shl1_n p0.toNat (by omega)).2
            have h51 : t51 = ((2 ^ p0.toNat : Nat) : Int) := by rw [e51, show p0 = ((p0.toNat : Nat) : Int) by omega, hp2]; norm_cast
            have hpb : 2 ^ p0.toNat ≤ 2 ^ 16 := Nat.pow_le_pow_right (by decide) (by omega)
            refine g_icmp_ge X (tgt := 90) dX10_halves_52 (by decide) (by omega) (by omega) (fun c52 => ?_) (fun c52 => ?_)
            · have hF := hv_main (by omega) (fun j _ => oct_r v_tape j) w47_4 (by omega)
              have hE := hvF_e (oct v_tape) p0 p1
              rw [← hF.1, ← hF.2] at hE
              refine g_iload_n X dX10_halves_90 2 rfl ?_
              refine g_if_ne X (tgt := 99) dX10_halves_91 (by decide) (by omega) (fun c91 => ?_) (fun c91 => ?_)
              · refine g_iload_n X dX10_halves_99 3 rfl ?_
                exact hQ _ _ _ _ dX10_halves_100 ⟨0, (by omega), (by first | assumption | omega), (by first | assumption | omega), (by first | assumption | omega), rfl⟩
              · refine g_iload X dX10_halves_94 4 rfl ?_
                refine g_goto X (tgt := 100) dX10_halves_96 (by decide) ?_
                exact hQ _ _ _ _ dX10_halves_100 ⟨0, (by omega), (by first | assumption | omega), (by first | assumption | omega), (by first | assumption | omega), rfl⟩
            · refine g_aload_n X dX10_halves_55 0 rfl ?_
              refine g_iload X dX10_halves_56 5 rfl ?_
              refine g_iload_n X dX10_halves_58 1 rfl ?_
              refine g_callVI0 X (c_X10_unlikeBy l D cI cB cJ h q (p0 := x5_47) (p1 := p0) r_v_tape (by first | assumption | omega) (by first | assumption | omega) (by first | assumption | omega) (by first | assumption | omega)) cv_X10_unlikeBy uw1714 ⟨rfl, rfl, by decide, by decide⟩ 0 rfl rfl rfl rfl rfl (Nat.le_of_ble_eq_true rfl) ⟨Nat.zero_le _, Nat.zero_le _⟩ dX10_halves_59 (fun t59 ws59 k59 => ?_)
              obtain ⟨kp0_59, kp1_59, rfl⟩ := k59
              refine g_istore X (lv' := [(6, vI t59), (0, .ref h), (1, vI p0), (2, vI p1), (3, vI x3_47), (4, vI x4_47), (5, vI x5_47)]) dX10_halves_62 (by decide) rfl ?_
              refine g_iload X dX10_halves_64 0 rfl ?_
              refine g_iload X dX10_halves_66 5 rfl ?_
              refine g_icmp_lt X (tgt := 74) dX10_halves_68 (by decide) (by omega) (by omega) (fun c68 => ?_) (fun c68 => ?_)
              · refine g_iload X dX10_halves_74 0 rfl ?_
                refine g_istore X (lv' := [(4, vI t59), (6, vI t59), (0, .ref h), (1, vI p0), (2, vI p1), (3, vI x3_47), (5, vI x5_47)]) dX10_halves_76 (by decide) rfl ?_
                refine g_iload X dX10_halves_78 6 rfl ?_
                refine g_istore_n X (lv' := [(3, vI x5_47), (4, vI t59), (6, vI t59), (0, .ref h), (1, vI p0), (2, vI p1), (5, vI x5_47)]) dX10_halves_80 (by decide) rfl ?_
                have hN : HVp (oct v_tape) p0.toNat (whF (oct v_tape) p0.toNat) (x5_47 + 2) t59 x5_47 := by first | exact HVp.step w47_4 (by omega) (by omega) kp1_59 (Or.inl ⟨by omega, rfl, rfl⟩) | exact HVp.step w47_4 (by omega) (by omega) kp1_59 (Or.inr ⟨by omega, rfl, rfl⟩)
                refine g_iload X dX10_halves_81 6 rfl ?_
                refine g_iconst X dX10_halves_83 ?_
                refine g_iadd X dX10_halves_84 ?_
                refine g_istore X (lv' := [(5, vI (x5_47 + 2)), (3, vI x5_47), (4, vI t59), (6, vI t59), (0, .ref h), (1, vI p0), (2, vI p1)]) dX10_halves_85 (by decide) rfl ?_
                refine g_goto X (tgt := 47) dX10_halves_87 (by decide) ?_
                refine g_lv [4, 5, 6, 1, 2, 0] rfl ?_
                exact ih47 x5_47 t59 (x5_47 + 2) (by first | assumption | omega) (by first | assumption | omega) (by first | assumption | omega) (by first | assumption | omega) (by first | exact hi0 | exact hN) (by omega)
              · refine g_goto X (tgt := 81) dX10_halves_71 (by decide) ?_
                have hN : HVp (oct v_tape) p0.toNat (whF (oct v_tape) p0.toNat) (x5_47 + 2) x4_47 x3_47 := by first | exact HVp.step w47_4 (by omega) (by omega) kp1_59 (Or.inl ⟨by omega, rfl, rfl⟩) | exact HVp.step w47_4 (by omega) (by omega) kp1_59 (Or.inr ⟨by omega, rfl, rfl⟩)
                refine g_iload X dX10_halves_81 6 rfl ?_
                refine g_iconst X dX10_halves_83 ?_
                refine g_iadd X dX10_halves_84 ?_
                refine g_istore X (lv' := [(5, vI (x5_47 + 2)), (6, vI t59), (0, .ref h), (1, vI p0), (2, vI p1), (3, vI x3_47), (4, vI x4_47)]) dX10_halves_85 (by decide) rfl ?_
                refine g_goto X (tgt := 47) dX10_halves_87 (by decide) ?_
                refine g_lv [2, 3, 4, 5, 6, 0] rfl ?_
                exact ih47 x3_47 x4_47 (x5_47 + 2) (by first | assumption | omega) (by first | assumption | omega) (by first | assumption | omega) (by first | assumption | omega) (by first | exact hi0 | exact hN) (by omega)
        refine g_lv [3, 4, 5, 2, 1, 0] rfl ?_
        exact L47 _ 0 t39 2 (by first | assumption | omega) (by first | assumption | omega) (by first | assumption | omega) (by first | assumption | omega) (by first | exact hi0 | exact hN) (Nat.lt_succ_self _)
      · refine g_iconst X dX10_halves_27 ?_
        exact hQ _ _ _ _ dX10_halves_28 ⟨v_taped, (by omega), (by first | assumption | omega), (by first | assumption | omega), (by first | assumption | omega), rfl⟩
