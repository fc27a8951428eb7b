set_option maxHeartbeats 4000000 in
set_option maxRecDepth 100000 in
theorem c_X10_readsAmount (l : Launch) (D : va_G) (cI cB cJ : ClassId) (h : Nat) (q : Nat → Nat) {v_stalls v_claimMany v_taped v_place0 v_length0 v_fault v_number0 v_open v_codeMany v_waiting v_saidMany v_clauses v_newMany v_newStalls v_lines v_salesNow v_outNow v_isKept v_keptStalls : Int} {v_now v_aside v_kept v_oneOf v_otherOf v_signOf v_byOf v_tape v_said v_waitsAt v_saidLetter v_saidFrom v_saidHalf v_saidTo v_codes v_clauseOf v_codeFrom v_codeHalf v_codeTo v_stack v_facts v_newOne v_newOther v_newSign v_newBy v_moreOf v_firstOf v_toldOf v_mostOf v_mostThen v_sumTo v_rowFrom v_ordersOf v_lessOf v_weightOf v_rowNow v_slowRow v_fastRow v_lineNow v_firstLine v_freeBy v_heldBy v_heightOf v_upTo v_downTo v_oftenOf v_newUpper v_newLower : Nat → Int} (kr_v_place0 : 0 ≤ v_place0 ∧ v_place0 ≤ 260) (kr_v_length0 : 0 ≤ v_length0 ∧ v_length0 ≤ 260) (kr_v_fault : (-1000000) ≤ v_fault ∧ v_fault ≤ 1000000) (kr_v_number0 : 0 ≤ v_number0 ∧ v_number0 ≤ 99999) (r_v_tape : RA (-128) 127 v_tape) : CtI l yX10_readsAmount cX10_readsAmount 2 (some .boolean) ⟨2, 0, 0, 40⟩ D (TY cI cB cJ) (wX10 cI cB cJ h q v_stalls v_claimMany v_taped v_place0 v_length0 v_fault v_number0 v_open v_codeMany v_waiting v_saidMany v_clauses v_newMany v_newStalls v_lines v_salesNow v_outNow v_isKept v_keptStalls v_now v_aside v_kept v_oneOf v_otherOf v_signOf v_byOf v_tape v_said v_waitsAt v_saidLetter v_saidFrom v_saidHalf v_saidTo v_codes v_clauseOf v_codeFrom v_codeHalf v_codeTo v_stack v_facts v_newOne v_newOther v_newSign v_newBy v_moreOf v_firstOf v_toldOf v_mostOf v_mostThen v_sumTo v_rowFrom v_ordersOf v_lessOf v_weightOf v_rowNow v_slowRow v_fastRow v_lineNow v_firstLine v_freeBy v_heldBy v_heightOf v_upTo v_downTo v_oftenOf v_newUpper v_newLower) [.ref h] (fun z ws' => (z = 0 ∨ z = 1) ∧ ∃ n_place0 : Int, ∃ n_fault : Int, ∃ n_number0 : Int, (0 ≤ n_place0 ∧ n_place0 ≤ 260) ∧ ((-1000000) ≤ n_fault ∧ n_fault ≤ 1000000) ∧ (0 ≤ n_number0 ∧ n_number0 ≤ 99999) ∧ (v_place0 ≤ n_place0) ∧ (z = 1 → n_number0 ≤ 9999) ∧ (z = 1 → v_place0 < n_place0) ∧ ((z = 1 ∧ aC (sgP v_length0 (oct v_tape)) 4 v_place0 = 0 ∧ n_place0 = aQ (sgP v_length0 (oct v_tape)) 4 v_place0 ∧ n_number0 = aV (sgP v_length0 (oct v_tape)) 4 v_place0) ∨ (z = 0 ∧ aC (sgP v_length0 (oct v_tape)) 4 v_place0 = n_fault ∧ n_fault < 0)) ∧ (ws' = (wX10 cI cB cJ h q v_stalls v_claimMany v_taped n_place0 v_length0 n_fault n_number0 v_open v_codeMany v_waiting v_saidMany v_clauses v_newMany v_newStalls v_lines v_salesNow v_outNow v_isKept v_keptStalls v_now v_aside v_kept v_oneOf v_otherOf v_signOf v_byOf v_tape v_said v_waitsAt v_saidLetter v_saidFrom v_saidHalf v_saidTo v_codes v_clauseOf v_codeFrom v_codeHalf v_codeTo v_stack v_facts v_newOne v_newOther v_newSign v_newBy v_moreOf v_firstOf v_toldOf v_mostOf v_mostThen v_sumTo v_rowFrom v_ordersOf v_lessOf v_weightOf v_rowNow v_slowRow v_fastRow v_lineNow v_firstLine v_freeBy v_heldBy v_heightOf v_upTo v_downTo v_oftenOf v_newUpper v_newLower))) := by
  refine hdrZ (own := RX10) rfl (by decide +kernel) (Nat.le_of_ble_eq_true rfl) ?_
  intro p e s m args below meth c Q A X hQ
  refine g_lvE (lv2 := [(0, .ref h)]) rfl ?_
  refine g_aload_n X dX10_readsAmount_0 0 rfl ?_
  refine gM_get X 0 rfl 11 (by decide) uw1190 rfl dX10_readsAmount_1 ?_
  refine g_istore_n X (lv' := [(1, vI v_place0), (0, .ref h)]) dX10_readsAmount_4 (by decide) rfl ?_
  refine g_aload_n X dX10_readsAmount_5 1 rfl ?_
  refine g_callVI0 X (c_X10_isDigit l D cI cB cJ h q  (by omega) (by omega) r_v_tape) cv_X10_isDigit uw1426 ⟨rfl, rfl, by decide, by decide⟩ 0 rfl rfl rfl rfl rfl (Nat.le_of_ble_eq_true rfl) ⟨Nat.zero_le _, Nat.zero_le _⟩ dX10_readsAmount_6 (fun t6 ws6 k6 => ?_)
  obtain ⟨kb_6, ⟨kp0_6, kp1_6, rfl⟩⟩ := k6
  refine g_if_ne X (tgt := 22) dX10_readsAmount_9 (by decide) (by omega) (fun c9 => ?_) (fun c9 => ?_)
  · have hHs : sgP v_length0 (oct v_tape) v_place0 = hereZ v_place0 v_length0 v_tape := rfl
    refine g_aload_n X dX10_readsAmount_22 1 rfl ?_
    refine g_iconst X dX10_readsAmount_23 ?_
    refine gM_put X 0 rfl 14 (by decide) uw1193 rfl rfl rfl (Nat.le_of_ble_eq_true rfl) dX10_readsAmount_24 (ws2 := (wX10 cI cB cJ h q v_stalls v_claimMany v_taped v_place0 v_length0 v_fault 0 v_open v_codeMany v_waiting v_saidMany v_clauses v_newMany v_newStalls v_lines v_salesNow v_outNow v_isKept v_keptStalls v_now v_aside v_kept v_oneOf v_otherOf v_signOf v_byOf v_tape v_said v_waitsAt v_saidLetter v_saidFrom v_saidHalf v_saidTo v_codes v_clauseOf v_codeFrom v_codeHalf v_codeTo v_stack v_facts v_newOne v_newOther v_newSign v_newBy v_moreOf v_firstOf v_toldOf v_mostOf v_mostThen v_sumTo v_rowFrom v_ordersOf v_lessOf v_weightOf v_rowNow v_slowRow v_fastRow v_lineNow v_firstLine v_freeBy v_heldBy v_heightOf v_upTo v_downTo v_oftenOf v_newUpper v_newLower)) rfl ?_
    have L27 : ∀ (n : Nat) (place0_27 : Int) (number0_27 : Int), (0 ≤ place0_27 ∧ place0_27 ≤ 260) → (0 ≤ number0_27 ∧ number0_27 ≤ 99999) → ((place0_27 = v_place0 ∧ number0_27 ≤ 0) ∨ (place0_27 = v_place0 + 1 ∧ number0_27 ≤ 9) ∨ (place0_27 = v_place0 + 2 ∧ number0_27 ≤ 99) ∨ (place0_27 = v_place0 + 3 ∧ number0_27 ≤ 999) ∨ (place0_27 = v_place0 + 4 ∧ number0_27 ≤ 9999)) → (NR (sgP v_length0 (oct v_tape)) (4 - (place0_27 - v_place0)) place0_27 number0_27 4 v_place0) → (v_place0 + 4 - place0_27).toNat < n → GG p l e ⟨2, 0, 0, 40⟩ s m args below meth c 0 0 Q D A s.heap 2 (wX10 cI cB cJ h q v_stalls v_claimMany v_taped place0_27 v_length0 v_fault number0_27 v_open v_codeMany v_waiting v_saidMany v_clauses v_newMany v_newStalls v_lines v_salesNow v_outNow v_isKept v_keptStalls v_now v_aside v_kept v_oneOf v_otherOf v_signOf v_byOf v_tape v_said v_waitsAt v_saidLetter v_saidFrom v_saidHalf v_saidTo v_codes v_clauseOf v_codeFrom v_codeHalf v_codeTo v_stack v_facts v_newOne v_newOther v_newSign v_newBy v_moreOf v_firstOf v_toldOf v_mostOf v_mostThen v_sumTo v_rowFrom v_ordersOf v_lessOf v_weightOf v_rowNow v_slowRow v_fastRow v_lineNow v_firstLine v_freeBy v_heldBy v_heightOf v_upTo v_downTo v_oftenOf v_newUpper v_newLower) 27 [(0, .ref h), (1, vI v_place0)] [] := by
      intro n
      induction n with
      | zero => intros; exfalso; omega
      | succ n ih27 =>
        intro place0_27 number0_27 kr_place0_27 kr_number0_27 w27_0 w27_1 wm27
        have hHs : sgP v_length0 (oct v_tape) place0_27 = hereZ place0_27 v_length0 v_tape := rfl
        refine g_aload_n X dX10_readsAmount_27 0 rfl ?_
        refine g_callVI0 X (c_X10_isDigit l D cI cB cJ h q  (by omega) (by omega) r_v_tape) cv_X10_isDigit uw1426 ⟨rfl, rfl, by decide, by decide⟩ 0 rfl rfl rfl rfl rfl (Nat.le_of_ble_eq_true rfl) ⟨Nat.zero_le _, Nat.zero_le _⟩ dX10_readsAmount_28 (fun t28 ws28 k28 => ?_)
        obtain ⟨kb_28, ⟨kp0_28, kp1_28, rfl⟩⟩ := k28
        refine g_if_eq X (tgt := 86) dX10_readsAmount_31 (by decide) (by omega) (fun c31 => ?_) (fun c31 => ?_)
        · have hE := NR.out w27_1 (by omega)
          refine g_iconst X dX10_readsAmount_86 ?_
          have hq9 : place0_27 = v_place0 → hereZ place0_27 v_length0 v_tape = hereZ v_place0 v_length0 v_tape := fun h => by rw [h]
          exact hQ _ _ _ _ dX10_readsAmount_87 ⟨by omega, ⟨place0_27, v_fault, number0_27, (by omega), (by omega), (by omega), (by first | assumption | omega), (by first | assumption | omega), (by first | assumption | omega), (by first | assumption | omega), rfl⟩⟩
        · refine g_aload_n X dX10_readsAmount_34 0 rfl ?_
          refine gM_get X 0 rfl 11 (by decide) uw1190 rfl dX10_readsAmount_35 ?_
          refine g_iload_n X dX10_readsAmount_38 1 rfl ?_
          refine g_iconst X dX10_readsAmount_39 ?_
          refine g_iadd X dX10_readsAmount_40 ?_
          refine g_icmp_ne X (tgt := 54) dX10_readsAmount_41 (by decide) (by omega) (by omega) (fun c41 => ?_) (fun c41 => ?_)
          · refine g_aload_n X dX10_readsAmount_54 0 rfl ?_
            refine g_bipush X (z := 10) dX10_readsAmount_55 (by decide) ?_
            refine g_aload_n X dX10_readsAmount_57 0 rfl ?_
            refine gM_get X 0 rfl 14 (by decide) uw1193 rfl dX10_readsAmount_58 ?_
            refine g_imul X dX10_readsAmount_61 ?_
            refine g_aload_n X dX10_readsAmount_62 0 rfl ?_
            refine g_callVI0 X (c_X10_here l D cI cB cJ h q  (by omega) (by omega) r_v_tape) cv_X10_here uw1405 ⟨rfl, rfl, by decide, by decide⟩ 0 rfl rfl rfl rfl rfl (Nat.le_of_ble_eq_true rfl) ⟨Nat.zero_le _, Nat.zero_le _⟩ dX10_readsAmount_63 (fun t63 ws63 k63 => ?_)
            obtain ⟨kp0_63, kp1_63, kp2_63, rfl⟩ := k63
            refine g_iadd X dX10_readsAmount_66 ?_
            refine g_bipush X (z := 48) dX10_readsAmount_67 (by decide) ?_
            refine g_isub X dX10_readsAmount_69 ?_
            refine gM_put X 0 rfl 14 (by decide) uw1193 rfl rfl rfl (Nat.le_of_ble_eq_true rfl) dX10_readsAmount_70 (ws2 := (wX10 cI cB cJ h q v_stalls v_claimMany v_taped place0_27 v_length0 v_fault (((10 * number0_27) + t63) - 48) v_open v_codeMany v_waiting v_saidMany v_clauses v_newMany v_newStalls v_lines v_salesNow v_outNow v_isKept v_keptStalls v_now v_aside v_kept v_oneOf v_otherOf v_signOf v_byOf v_tape v_said v_waitsAt v_saidLetter v_saidFrom v_saidHalf v_saidTo v_codes v_clauseOf v_codeFrom v_codeHalf v_codeTo v_stack v_facts v_newOne v_newOther v_newSign v_newBy v_moreOf v_firstOf v_toldOf v_mostOf v_mostThen v_sumTo v_rowFrom v_ordersOf v_lessOf v_weightOf v_rowNow v_slowRow v_fastRow v_lineNow v_firstLine v_freeBy v_heldBy v_heightOf v_upTo v_downTo v_oftenOf v_newUpper v_newLower)) rfl ?_
            refine g_aload_n X dX10_readsAmount_73 0 rfl ?_
            refine g_aload_n X dX10_readsAmount_74 0 rfl ?_
            refine gM_get X 0 rfl 11 (by decide) uw1190 rfl dX10_readsAmount_75 ?_
            refine g_iconst X dX10_readsAmount_78 ?_
            refine g_iadd X dX10_readsAmount_79 ?_
            refine gM_put X 0 rfl 11 (by decide) uw1190 rfl rfl rfl (Nat.le_of_ble_eq_true rfl) dX10_readsAmount_80 (ws2 := (wX10 cI cB cJ h q v_stalls v_claimMany v_taped (place0_27 + 1) v_length0 v_fault (((10 * number0_27) + t63) - 48) v_open v_codeMany v_waiting v_saidMany v_clauses v_newMany v_newStalls v_lines v_salesNow v_outNow v_isKept v_keptStalls v_now v_aside v_kept v_oneOf v_otherOf v_signOf v_byOf v_tape v_said v_waitsAt v_saidLetter v_saidFrom v_saidHalf v_saidTo v_codes v_clauseOf v_codeFrom v_codeHalf v_codeTo v_stack v_facts v_newOne v_newOther v_newSign v_newBy v_moreOf v_firstOf v_toldOf v_mostOf v_mostThen v_sumTo v_rowFrom v_ordersOf v_lessOf v_weightOf v_rowNow v_slowRow v_fastRow v_lineNow v_firstLine v_freeBy v_heldBy v_heightOf v_upTo v_downTo v_oftenOf v_newUpper v_newLower)) rfl ?_
            refine g_goto X (tgt := 27) dX10_readsAmount_83 (by decide) ?_
            exact ih27 (place0_27 + 1) (((10 * number0_27) + t63) - 48) (by omega) (by omega) (by first | assumption | omega) (by first | exact NR.ini (by omega) (by omega) rfl rfl | exact NR.step w27_1 (by omega) (by omega) (by omega) rfl (by omega)) (by omega)
          · have hL := NR.last w27_1 (by omega) (by omega)
            refine g_aload_n X dX10_readsAmount_44 0 rfl ?_
            refine g_iconst X dX10_readsAmount_45 ?_
            refine g_aload_n X dX10_readsAmount_46 0 rfl ?_
            refine gM_get X 0 rfl 11 (by decide) uw1190 rfl dX10_readsAmount_47 ?_
            refine g_callVI0 X (c_X10_wrongAt l D cI cB cJ h q (p0 := 2) (p1 := place0_27) (by omega) (by first | assumption | omega) (by first | assumption | omega) (by first | assumption | omega) (by first | assumption | omega)) cv_X10_wrongAt uw1409 ⟨rfl, rfl, by decide, by decide⟩ 0 rfl rfl rfl rfl rfl (Nat.le_of_ble_eq_true rfl) ⟨Nat.zero_le _, Nat.zero_le _⟩ dX10_readsAmount_50 (fun t50 ws50 k50 => ?_)
            obtain ⟨kb_50, ⟨fault_50, kr_fault_50, kp0_50, kp1_50, rfl⟩⟩ := k50
            have hq9 : place0_27 = v_place0 → hereZ place0_27 v_length0 v_tape = hereZ v_place0 v_length0 v_tape := fun h => by rw [h]
            exact hQ _ _ _ _ dX10_readsAmount_53 ⟨by omega, ⟨place0_27, fault_50, number0_27, (by omega), (by omega), (by omega), (by first | assumption | omega), (by first | assumption | omega), (by first | assumption | omega), (by first | assumption | omega), rfl⟩⟩
    refine g_lv [1, 0] rfl ?_
    exact L27 _ v_place0 0 (by omega) (by omega) (by first | assumption | omega) (by first | exact NR.ini (by omega) (by omega) rfl rfl | exact NR.step w27_1 (by omega) (by omega) (by omega) rfl (by omega)) (Nat.lt_succ_self _)
  · have hHs : sgP v_length0 (oct v_tape) v_place0 = hereZ v_place0 v_length0 v_tape := rfl
    have hB := aC_bad (P := (sgP v_length0 (oct v_tape))) 4 (p := v_place0) (by omega)
    refine g_aload_n X dX10_readsAmount_12 1 rfl ?_
    refine g_iconst X dX10_readsAmount_13 ?_
    refine g_aload_n X dX10_readsAmount_14 1 rfl ?_
    refine gM_get X 0 rfl 11 (by decide) uw1190 rfl dX10_readsAmount_15 ?_
    refine g_callVI0 X (c_X10_wrongAt l D cI cB cJ h q (p0 := 1) (p1 := v_place0) (by omega) (by first | assumption | omega) (by first | assumption | omega) (by first | assumption | omega) (by first | assumption | omega)) cv_X10_wrongAt uw1409 ⟨rfl, rfl, by decide, by decide⟩ 0 rfl rfl rfl rfl rfl (Nat.le_of_ble_eq_true rfl) ⟨Nat.zero_le _, Nat.zero_le _⟩ dX10_readsAmount_18 (fun t18 ws18 k18 => ?_)
    obtain ⟨kb_18, ⟨fault_18, kr_fault_18, kp0_18, kp1_18, rfl⟩⟩ := k18
    have hq9 : v_place0 = v_place0 → hereZ v_place0 v_length0 v_tape = hereZ v_place0 v_length0 v_tape := fun h => by rw [h]
    exact hQ _ _ _ _ dX10_readsAmount_21 ⟨by omega, ⟨v_place0, fault_18, v_number0, (by omega), (by omega), (by omega), (by first | assumption | omega), (by first | assumption | omega), (by first | assumption | omega), (by first | assumption | omega), rfl⟩⟩
set_option maxHeartbeats 4000000 in
set_option maxRecDepth 100000 in
theorem c_X10_joins (l : Launch) (D : va_G) (cI cB cJ : ClassId) (h : Nat) (q : Nat → Nat) {v_stalls v_claimMany v_taped v_place0 v_length0 v_fault v_number0 v_open v_codeMany v_waiting v_saidMany v_clauses v_newMany v_newStalls v_lines v_salesNow v_outNow v_isKept v_keptStalls : Int} {v_now v_aside v_kept v_oneOf v_otherOf v_signOf v_byOf v_tape v_said v_waitsAt v_saidLetter v_saidFrom v_saidHalf v_saidTo v_codes v_clauseOf v_codeFrom v_codeHalf v_codeTo v_stack v_facts v_newOne v_newOther v_newSign v_newBy v_moreOf v_firstOf v_toldOf v_mostOf v_mostThen v_sumTo v_rowFrom v_ordersOf v_lessOf v_weightOf v_rowNow v_slowRow v_fastRow v_lineNow v_firstLine v_freeBy v_heldBy v_heightOf v_upTo v_downTo v_oftenOf v_newUpper v_newLower : Nat → Int} {p0 p1 p2 : Int} (r_v_moreOf : RA (-2147483648) 2147483647 v_moreOf) (r_v_firstOf : RA 0 11 v_firstOf) (hp0 : IR p0) (hp1 : IR p1) (hp2 : IR p2) (hp3 : 0 ≤ p0 ∧ p0 ≤ 11) (hp4 : 0 ≤ p1 ∧ p1 ≤ 11) (hp5 : v_firstOf p0.toNat ≠ v_firstOf p1.toNat) : CtV l yX10_joins cX10_joins 7 none ⟨0, 0, 0, 0⟩ D (TY cI cB cJ) (wX10 cI cB cJ h q v_stalls v_claimMany v_taped v_place0 v_length0 v_fault v_number0 v_open v_codeMany v_waiting v_saidMany v_clauses v_newMany v_newStalls v_lines v_salesNow v_outNow v_isKept v_keptStalls v_now v_aside v_kept v_oneOf v_otherOf v_signOf v_byOf v_tape v_said v_waitsAt v_saidLetter v_saidFrom v_saidHalf v_saidTo v_codes v_clauseOf v_codeFrom v_codeHalf v_codeTo v_stack v_facts v_newOne v_newOther v_newSign v_newBy v_moreOf v_firstOf v_toldOf v_mostOf v_mostThen v_sumTo v_rowFrom v_ordersOf v_lessOf v_weightOf v_rowNow v_slowRow v_fastRow v_lineNow v_firstLine v_freeBy v_heldBy v_heightOf v_upTo v_downTo v_oftenOf v_newUpper v_newLower) [.ref h, vI p0, vI p1, vI p2] (fun ws' => ∃ n_moreOf : Nat → Int, ∃ n_firstOf : Nat → Int, (RA (-2147483648) 2147483647 n_moreOf) ∧ (RA 0 11 n_firstOf) ∧ (∀ c : Nat, c < 12 → n_firstOf c = (knJ (v_firstOf, v_moreOf) p0.toNat p1.toNat p2).1 c ∧ n_moreOf c = (knJ (v_firstOf, v_moreOf) p0.toNat p1.toNat p2).2 c) ∧ (ws' = (wX10 cI cB cJ h q v_stalls v_claimMany v_taped v_place0 v_length0 v_fault v_number0 v_open v_codeMany v_waiting v_saidMany v_clauses v_newMany v_newStalls v_lines v_salesNow v_outNow v_isKept v_keptStalls v_now v_aside v_kept v_oneOf v_otherOf v_signOf v_byOf v_tape v_said v_waitsAt v_saidLetter v_saidFrom v_saidHalf v_saidTo v_codes v_clauseOf v_codeFrom v_codeHalf v_codeTo v_stack v_facts v_newOne v_newOther v_newSign v_newBy n_moreOf n_firstOf v_toldOf v_mostOf v_mostThen v_sumTo v_rowFrom v_ordersOf v_lessOf v_weightOf v_rowNow v_slowRow v_fastRow v_lineNow v_firstLine v_freeBy v_heldBy v_heightOf v_upTo v_downTo v_oftenOf v_newUpper v_newLower))) := by
  refine hdrV (own := RX10) rfl (by decide +kernel) (Nat.le_of_ble_eq_true rfl) ?_
  intro p e s m args below meth c Q A X hQ
  refine g_lvE (lv2 := [(0, .ref h), (1, vI p0), (2, vI p1), (3, vI p2)]) rfl ?_
  refine g_aload_n X dX10_joins_0 0 rfl ?_
  refine gM_get X 0 rfl 39 (by decide) uw1218 rfl dX10_joins_1 ?_
  refine g_iload_n X dX10_joins_4 1 rfl ?_
  refine g_iald X 27 0 rfl rfl (by omega) (by decide) dX10_joins_5 (fun t5 e5 => ?_)
  have r5 := r_v_firstOf (p0 : Int).toNat; rw [← e5] at r5
  refine g_istore X (lv' := [(4, vI t5), (0, .ref h), (1, vI p0), (2, vI p1), (3, vI p2)]) dX10_joins_6 (by decide) rfl ?_
  refine g_aload_n X dX10_joins_8 1 rfl ?_
  refine gM_get X 0 rfl 38 (by decide) uw1217 rfl dX10_joins_9 ?_
  refine g_iload_n X dX10_joins_12 3 rfl ?_
  refine g_iald X 26 0 rfl rfl (by omega) (by decide) dX10_joins_13 (fun t13 e13 => ?_)
  have r13 := r_v_moreOf (p1 : Int).toNat; rw [← e13] at r13
  refine g_iload_n X dX10_joins_14 4 rfl ?_
  refine g_iadd X dX10_joins_15 ?_
  refine g_nr (fun t15 e15 r15 => ?_)
  refine g_aload_n X dX10_joins_16 1 rfl ?_
  refine gM_get X 0 rfl 38 (by decide) uw1217 rfl dX10_joins_17 ?_
  refine g_iload_n X dX10_joins_20 2 rfl ?_
  refine g_iald X 26 0 rfl rfl (by omega) (by decide) dX10_joins_21 (fun t21 e21 => ?_)
  have r21 := r_v_moreOf (p0 : Int).toNat; rw [← e21] at r21
  refine g_isub X dX10_joins_22 ?_
  refine g_nr (fun t22 e22 r22 => ?_)
  refine g_istore X (lv' := [(5, vI t22), (4, vI t5), (0, .ref h), (1, vI p0), (2, vI p1), (3, vI p2)]) dX10_joins_23 (by decide) rfl ?_
  refine g_iconst X dX10_joins_25 ?_
  refine g_istore X (lv' := [(6, vI 0), (5, vI t22), (4, vI t5), (0, .ref h), (1, vI p0), (2, vI p1), (3, vI p2)]) dX10_joins_26 (by decide) rfl ?_
  have L28 : ∀ (n : Nat) (x6_28 : Int) (moreOf_28 : Nat → Int) (firstOf_28 : Nat → Int), (RA (-2147483648) 2147483647 moreOf_28) → (RA 0 11 firstOf_28) → (0 ≤ x6_28 ∧ x6_28 ≤ 12) → (∀ c : Nat, (c : Int) < x6_28 → firstOf_28 c = (knJ (v_firstOf, v_moreOf) p0.toNat p1.toNat p2).1 c ∧ moreOf_28 c = (knJ (v_firstOf, v_moreOf) p0.toNat p1.toNat p2).2 c) → (∀ c : Nat, x6_28 ≤ (c : Int) → firstOf_28 c = v_firstOf c ∧ moreOf_28 c = v_moreOf c) → (firstOf_28 p1.toNat = v_firstOf p1.toNat) → (12 - x6_28).toNat < n → GG p l e ⟨0, 0, 0, 0⟩ s m args below meth c 0 0 Q D A s.heap 7 (wX10 cI cB cJ h q v_stalls v_claimMany v_taped v_place0 v_length0 v_fault v_number0 v_open v_codeMany v_waiting v_saidMany v_clauses v_newMany v_newStalls v_lines v_salesNow v_outNow v_isKept v_keptStalls v_now v_aside v_kept v_oneOf v_otherOf v_signOf v_byOf v_tape v_said v_waitsAt v_saidLetter v_saidFrom v_saidHalf v_saidTo v_codes v_clauseOf v_codeFrom v_codeHalf v_codeTo v_stack v_facts v_newOne v_newOther v_newSign v_newBy moreOf_28 firstOf_28 v_toldOf v_mostOf v_mostThen v_sumTo v_rowFrom v_ordersOf v_lessOf v_weightOf v_rowNow v_slowRow v_fastRow v_lineNow v_firstLine v_freeBy v_heldBy v_heightOf v_upTo v_downTo v_oftenOf v_newUpper v_newLower) 28 [(0, .ref h), (2, vI p1), (4, vI t5), (5, vI t22), (6, vI x6_28)] [] := by
    intro n
    induction n with
    | zero => intros; exfalso; omega
    | succ n ih28 =>
      intro x6_28 moreOf_28 firstOf_28 r_moreOf_28 r_firstOf_28 w28_0 w28_1 w28_2 w28_3 wm28
      refine g_iload X dX10_joins_28 4 rfl ?_
      refine g_bipush X (z := 12) dX10_joins_30 (by decide) ?_
      refine g_icmp_ge X (tgt := 86) dX10_joins_32 (by decide) (by omega) (by omega) (fun c32 => ?_) (fun c32 => ?_)
      · exact hQ _ _ _ dX10_joins_86 ⟨moreOf_28, firstOf_28, r_moreOf_28, r_firstOf_28, (by intro c hc; exact w28_1 c (by omega)), rfl⟩
      · refine g_aload_n X dX10_joins_35 0 rfl ?_
        refine gM_get X 0 rfl 39 (by decide) uw1218 rfl dX10_joins_36 ?_
        refine g_iload X dX10_joins_39 4 rfl ?_
        refine g_iald X 27 0 rfl rfl (by omega) (by decide) dX10_joins_41 (fun t41 e41 => ?_)
        have r41 := r_firstOf_28 (x6_28 : Int).toNat; rw [← e41] at r41
        refine g_iload X dX10_joins_42 2 rfl ?_
        refine g_icmp_eq X (tgt := 50) dX10_joins_44 (by decide) (by omega) (by omega) (fun c44 => ?_) (fun c44 => ?_)
        · refine g_aload_n X dX10_joins_50 0 rfl ?_
          refine gM_get X 0 rfl 39 (by decide) uw1218 rfl dX10_joins_51 ?_
          refine g_iload X dX10_joins_54 4 rfl ?_
          refine g_aload_n X dX10_joins_56 0 rfl ?_
          refine gM_get X 0 rfl 39 (by decide) uw1218 rfl dX10_joins_57 ?_
          refine g_iload_n X dX10_joins_60 1 rfl ?_
          refine g_iald X 27 0 rfl rfl (by omega) (by decide) dX10_joins_61 (fun t61 e61 => ?_)
          have r61 := r_firstOf_28 (p1 : Int).toNat; rw [← e61] at r61
          refine g_iast X 27 0 rfl rfl (by omega) (by decide) dX10_joins_62 (fun firstOf_62 e62 => ?_)
          have r_firstOf_62 : RA 0 11 firstOf_62 := by rw [e62]; exact RA_up r_firstOf_28 (by omega)
          refine g_ws (ws2 := (wX10 cI cB cJ h q v_stalls v_claimMany v_taped v_place0 v_length0 v_fault v_number0 v_open v_codeMany v_waiting v_saidMany v_clauses v_newMany v_newStalls v_lines v_salesNow v_outNow v_isKept v_keptStalls v_now v_aside v_kept v_oneOf v_otherOf v_signOf v_byOf v_tape v_said v_waitsAt v_saidLetter v_saidFrom v_saidHalf v_saidTo v_codes v_clauseOf v_codeFrom v_codeHalf v_codeTo v_stack v_facts v_newOne v_newOther v_newSign v_newBy moreOf_28 firstOf_62 v_toldOf v_mostOf v_mostThen v_sumTo v_rowFrom v_ordersOf v_lessOf v_weightOf v_rowNow v_slowRow v_fastRow v_lineNow v_firstLine v_freeBy v_heldBy v_heightOf v_upTo v_downTo v_oftenOf v_newUpper v_newLower)) rfl ?_
          refine g_aload_n X dX10_joins_63 0 rfl ?_
          refine gM_get X 0 rfl 38 (by decide) uw1217 rfl dX10_joins_64 ?_
          refine g_iload X dX10_joins_67 4 rfl ?_
          refine g_aload_n X dX10_joins_69 0 rfl ?_
          refine gM_get X 0 rfl 38 (by decide) uw1217 rfl dX10_joins_70 ?_
          refine g_iload X dX10_joins_73 4 rfl ?_
          refine g_iald X 26 0 rfl rfl (by omega) (by decide) dX10_joins_75 (fun t75 e75 => ?_)
          have r75 := r_moreOf_28 (x6_28 : Int).toNat; rw [← e75] at r75
          refine g_iload X dX10_joins_76 3 rfl ?_
          refine g_iadd X dX10_joins_78 ?_
          refine g_nr (fun t78 e78 r78 => ?_)
          refine g_iast X 26 0 rfl rfl (by omega) (by decide) dX10_joins_79 (fun moreOf_79 e79 => ?_)
          have r_moreOf_79 : RA (-2147483648) 2147483647 moreOf_79 := by rw [e79]; exact RA_up r_moreOf_28 (by omega)
          refine g_ws (ws2 := (wX10 cI cB cJ h q v_stalls v_claimMany v_taped v_place0 v_length0 v_fault v_number0 v_open v_codeMany v_waiting v_saidMany v_clauses v_newMany v_newStalls v_lines v_salesNow v_outNow v_isKept v_keptStalls v_now v_aside v_kept v_oneOf v_otherOf v_signOf v_byOf v_tape v_said v_waitsAt v_saidLetter v_saidFrom v_saidHalf v_saidTo v_codes v_clauseOf v_codeFrom v_codeHalf v_codeTo v_stack v_facts v_newOne v_newOther v_newSign v_newBy moreOf_79 firstOf_62 v_toldOf v_mostOf v_mostThen v_sumTo v_rowFrom v_ordersOf v_lessOf v_weightOf v_rowNow v_slowRow v_fastRow v_lineNow v_firstLine v_freeBy v_heldBy v_heightOf v_upTo v_downTo v_oftenOf v_newUpper v_newLower)) rfl ?_
          have h2 := w28_2 (x6_28).toNat (by omega)
          have h3 : firstOf_62 (x6_28).toNat = (knJ (v_firstOf, v_moreOf) p0.toNat p1.toNat p2).1 (x6_28).toNat ∧ moreOf_79 (x6_28).toNat = (knJ (v_firstOf, v_moreOf) p0.toNat p1.toNat p2).2 (x6_28).toNat := by first | (have i1 := wz_of e78 r78; have i2 := wz_of e22 r22; have i3 := wz_of e15 r15; have i4 := knJ_y (s := (v_firstOf, v_moreOf)) (a := p0.toNat) (b := p1.toNat) (c := (x6_28).toNat) (v := p2) (show v_firstOf (x6_28).toNat = v_firstOf p0.toNat by omega); rw [i4.1, i4.2, e62, e79, updZ_s, updZ_s]; exact ⟨by show t61 = v_firstOf p1.toNat; omega, by show t78 = wz (v_moreOf (x6_28).toNat + wz (wz (v_moreOf p1.toNat + p2) - v_moreOf p0.toNat)); rw [i1, i2, i3, e75, e13, e21, h2.2]⟩) | (have i4 := knJ_n (s := (v_firstOf, v_moreOf)) (a := p0.toNat) (b := p1.toNat) (c := (x6_28).toNat) (v := p2) (show v_firstOf (x6_28).toNat ≠ v_firstOf p0.toNat by omega); rw [i4.1, i4.2]; exact h2)
          have h4 : ∀ c : Nat, c ≠ (x6_28).toNat → firstOf_62 c = firstOf_28 c ∧ moreOf_79 c = moreOf_28 c := by first | (intro c hc; rw [e62, e79, updZ_n _ _ hc, updZ_n _ _ hc]; exact ⟨rfl, rfl⟩) | exact fun _ _ => ⟨rfl, rfl⟩
          refine g_iinc X (lv' := [(6, vI (x6_28 + 1)), (0, .ref h), (2, vI p1), (4, vI t5), (5, vI t22)]) dX10_joins_80 4 rfl (by decide) rfl ?_
          refine g_goto X (tgt := 28) dX10_joins_83 (by decide) ?_
          refine g_lv [1, 2, 3, 4, 0] rfl ?_
          exact ih28 (x6_28 + 1) moreOf_79 firstOf_62 r_moreOf_79 r_firstOf_62 (by first | assumption | omega) (by intro c hc; first | (exfalso; omega) | (rcases (show (c : Int) < x6_28 ∨ c = (x6_28).toNat by omega) with h | h; (rw [(h4 c (by omega)).1, (h4 c (by omega)).2]; exact w28_1 c h); (rw [h]; exact h3))) (by intro c hc; first | exact ⟨rfl, rfl⟩ | (rw [(h4 c (by omega)).1, (h4 c (by omega)).2]; exact w28_2 c (by omega))) (by first | rfl | exact w28_3 | exact if hq : p1.toNat = (x6_28).toNat then by (rw [e62, ← hq, updZ_s, e61]; exact w28_3) else ((h4 _ hq).1.trans w28_3)) (by omega)
        · refine g_goto X (tgt := 80) dX10_joins_47 (by decide) ?_
          have h2 := w28_2 (x6_28).toNat (by omega)
          have h3 : firstOf_28 (x6_28).toNat = (knJ (v_firstOf, v_moreOf) p0.toNat p1.toNat p2).1 (x6_28).toNat ∧ moreOf_28 (x6_28).toNat = (knJ (v_firstOf, v_moreOf) p0.toNat p1.toNat p2).2 (x6_28).toNat := by first | (have i1 := wz_of e78 r78; have i2 := wz_of e22 r22; have i3 := wz_of e15 r15; have i4 := knJ_y (s := (v_firstOf, v_moreOf)) (a := p0.toNat) (b := p1.toNat) (c := (x6_28).toNat) (v := p2) (show v_firstOf (x6_28).toNat = v_firstOf p0.toNat by omega); rw [i4.1, i4.2, e62, e79, updZ_s, updZ_s]; exact ⟨by show t61 = v_firstOf p1.toNat; omega, by show t78 = wz (v_moreOf (x6_28).toNat + wz (wz (v_moreOf p1.toNat + p2) - v_moreOf p0.toNat)); rw [i1, i2, i3, e75, e13, e21, h2.2]⟩) | (have i4 := knJ_n (s := (v_firstOf, v_moreOf)) (a := p0.toNat) (b := p1.toNat) (c := (x6_28).toNat) (v := p2) (show v_firstOf (x6_28).toNat ≠ v_firstOf p0.toNat by omega); rw [i4.1, i4.2]; exact h2)
          have h4 : ∀ c : Nat, c ≠ (x6_28).toNat → firstOf_28 c = firstOf_28 c ∧ moreOf_28 c = moreOf_28 c := by first | (intro c hc; rw [e62, e79, updZ_n _ _ hc, updZ_n _ _ hc]; exact ⟨rfl, rfl⟩) | exact fun _ _ => ⟨rfl, rfl⟩
          refine g_iinc X (lv' := [(6, vI (x6_28 + 1)), (0, .ref h), (2, vI p1), (4, vI t5), (5, vI t22)]) dX10_joins_80 4 rfl (by decide) rfl ?_
          refine g_goto X (tgt := 28) dX10_joins_83 (by decide) ?_
          refine g_lv [1, 2, 3, 4, 0] rfl ?_
          exact ih28 (x6_28 + 1) moreOf_28 firstOf_28 r_moreOf_28 r_firstOf_28 (by first | assumption | omega) (by intro c hc; first | (exfalso; omega) | (rcases (show (c : Int) < x6_28 ∨ c = (x6_28).toNat by omega) with h | h; (rw [(h4 c (by omega)).1, (h4 c (by omega)).2]; exact w28_1 c h); (rw [h]; exact h3))) (by intro c hc; first | exact ⟨rfl, rfl⟩ | (rw [(h4 c (by omega)).1, (h4 c (by omega)).2]; exact w28_2 c (by omega))) (by first | rfl | exact w28_3 | exact if hq : p1.toNat = (x6_28).toNat then by (rw [e62, ← hq, updZ_s, e61]; exact w28_3) else ((h4 _ hq).1.trans w28_3)) (by omega)
  refine g_lv [3, 5, 2, 1, 0] rfl ?_
  exact L28 _ 0 v_moreOf v_firstOf r_v_moreOf r_v_firstOf (by first | assumption | omega) (by intro c hc; first | (exfalso; omega) | (rcases (show (c : Int) < x6_28 ∨ c = (x6_28).toNat by omega) with h | h; (rw [(h4 c (by omega)).1, (h4 c (by omega)).2]; exact w28_1 c h); (rw [h]; exact h3))) (by intro c hc; first | exact ⟨rfl, rfl⟩ | (rw [(h4 c (by omega)).1, (h4 c (by omega)).2]; exact w28_2 c (by omega))) (by first | rfl | exact w28_3 | exact if hq : p1.toNat = (x6_28).toNat then by (rw [e62, ← hq, updZ_s, e61]; exact w28_3) else ((h4 _ hq).1.trans w28_3)) (Nat.lt_succ_self _)
set_option maxHeartbeats 4000000 in
set_option maxRecDepth 100000 in
theorem c_X10_laysKnown (l : Launch) (D : va_G) (cI cB cJ : ClassId) (h : Nat) (q : Nat → Nat) {v_stalls v_claimMany v_taped v_place0 v_length0 v_fault v_number0 v_open v_codeMany v_waiting v_saidMany v_clauses v_newMany v_newStalls v_lines v_salesNow v_outNow v_isKept v_keptStalls : Int} {v_now v_aside v_kept v_oneOf v_otherOf v_signOf v_byOf v_tape v_said v_waitsAt v_saidLetter v_saidFrom v_saidHalf v_saidTo v_codes v_clauseOf v_codeFrom v_codeHalf v_codeTo v_stack v_facts v_newOne v_newOther v_newSign v_newBy v_moreOf v_firstOf v_toldOf v_mostOf v_mostThen v_sumTo v_rowFrom v_ordersOf v_lessOf v_weightOf v_rowNow v_slowRow v_fastRow v_lineNow v_firstLine v_freeBy v_heldBy v_heightOf v_upTo v_downTo v_oftenOf v_newUpper v_newLower : Nat → Int} {p4 : Int} (r_v_oneOf : RA 0 11 v_oneOf) (r_v_otherOf : RA 0 11 v_otherOf) (r_v_signOf : RA (-2147483648) 2147483647 v_signOf) (r_v_byOf : RA (-9999) 9999 v_byOf) (r_v_moreOf : RA (-2147483648) 2147483647 v_moreOf) (r_v_firstOf : RA 0 11 v_firstOf) (hp0 : IR p4) (hp1 : 0 ≤ p4 ∧ p4 ≤ 40) : CtV l yX10_laysKnown cX10_laysKnown 7 none ⟨1, 0, 0, 26⟩ D (TY cI cB cJ) (wX10 cI cB cJ h q v_stalls v_claimMany v_taped v_place0 v_length0 v_fault v_number0 v_open v_codeMany v_waiting v_saidMany v_clauses v_newMany v_newStalls v_lines v_salesNow v_outNow v_isKept v_keptStalls v_now v_aside v_kept v_oneOf v_otherOf v_signOf v_byOf v_tape v_said v_waitsAt v_saidLetter v_saidFrom v_saidHalf v_saidTo v_codes v_clauseOf v_codeFrom v_codeHalf v_codeTo v_stack v_facts v_newOne v_newOther v_newSign v_newBy v_moreOf v_firstOf v_toldOf v_mostOf v_mostThen v_sumTo v_rowFrom v_ordersOf v_lessOf v_weightOf v_rowNow v_slowRow v_fastRow v_lineNow v_firstLine v_freeBy v_heldBy v_heightOf v_upTo v_downTo v_oftenOf v_newUpper v_newLower) [.ref h, .ref (q 3), .ref (q 4), .ref (q 5), .ref (q 6), vI p4] (fun ws' => ∃ n_moreOf : Nat → Int, ∃ n_firstOf : Nat → Int, (RA (-2147483648) 2147483647 n_moreOf) ∧ (RA 0 11 n_firstOf) ∧ (∀ c : Nat, c < 12 → n_firstOf c = (kn v_oneOf v_otherOf v_signOf v_byOf p4.toNat).1 c ∧ n_moreOf c = (kn v_oneOf v_otherOf v_signOf v_byOf p4.toNat).2 c) ∧ (ws' = (wX10 cI cB cJ h q v_stalls v_claimMany v_taped v_place0 v_length0 v_fault v_number0 v_open v_codeMany v_waiting v_saidMany v_clauses v_newMany v_newStalls v_lines v_salesNow v_outNow v_isKept v_keptStalls v_now v_aside v_kept v_oneOf v_otherOf v_signOf v_byOf v_tape v_said v_waitsAt v_saidLetter v_saidFrom v_saidHalf v_saidTo v_codes v_clauseOf v_codeFrom v_codeHalf v_codeTo v_stack v_facts v_newOne v_newOther v_newSign v_newBy n_moreOf n_firstOf v_toldOf v_mostOf v_mostThen v_sumTo v_rowFrom v_ordersOf v_lessOf v_weightOf v_rowNow v_slowRow v_fastRow v_lineNow v_firstLine v_freeBy v_heldBy v_heightOf v_upTo v_downTo v_oftenOf v_newUpper v_newLower))) := by
  refine hdrV (own := RX10) rfl (by decide +kernel) (Nat.le_of_ble_eq_true rfl) ?_
  intro p e s m args below meth c Q A X hQ
  refine g_lvE (lv2 := [(0, .ref h), (1, .ref (q 3)), (2, .ref (q 4)), (3, .ref (q 5)), (4, .ref (q 6)), (5, vI p4)]) rfl ?_
  refine g_iconst X dX10_laysKnown_0 ?_
  refine g_istore X (lv' := [(6, vI 0), (0, .ref h), (1, .ref (q 3)), (2, .ref (q 4)), (3, .ref (q 5)), (4, .ref (q 6)), (5, vI p4)]) dX10_laysKnown_1 (by decide) rfl ?_
  have L3 : ∀ (n : Nat) (x6_3 : Int) (moreOf_3 : Nat → Int) (firstOf_3 : Nat → Int), (RA (-2147483648) 2147483647 moreOf_3) → (RA 0 11 firstOf_3) → (0 ≤ x6_3 ∧ x6_3 ≤ 12) → (∀ c : Nat, (c : Int) < x6_3 → firstOf_3 c = (c : Int) ∧ moreOf_3 c = 0) → (12 - x6_3).toNat < n → GG p l e ⟨1, 0, 0, 26⟩ s m args below meth c 0 0 Q D A s.heap 7 (wX10 cI cB cJ h q v_stalls v_claimMany v_taped v_place0 v_length0 v_fault v_number0 v_open v_codeMany v_waiting v_saidMany v_clauses v_newMany v_newStalls v_lines v_salesNow v_outNow v_isKept v_keptStalls v_now v_aside v_kept v_oneOf v_otherOf v_signOf v_byOf v_tape v_said v_waitsAt v_saidLetter v_saidFrom v_saidHalf v_saidTo v_codes v_clauseOf v_codeFrom v_codeHalf v_codeTo v_stack v_facts v_newOne v_newOther v_newSign v_newBy moreOf_3 firstOf_3 v_toldOf v_mostOf v_mostThen v_sumTo v_rowFrom v_ordersOf v_lessOf v_weightOf v_rowNow v_slowRow v_fastRow v_lineNow v_firstLine v_freeBy v_heldBy v_heightOf v_upTo v_downTo v_oftenOf v_newUpper v_newLower) 3 [(0, .ref h), (1, .ref (q 3)), (2, .ref (q 4)), (3, .ref (q 5)), (4, .ref (q 6)), (5, vI p4), (6, vI x6_3)] [] := by
    intro n
    induction n with
    | zero => intros; exfalso; omega
    | succ n ih3 =>
      intro x6_3 moreOf_3 firstOf_3 r_moreOf_3 r_firstOf_3 w3_0 w3_1 wm3
      refine g_iload X dX10_laysKnown_3 6 rfl ?_
      refine g_bipush X (z := 12) dX10_laysKnown_5 (by decide) ?_
      refine g_icmp_ge X (tgt := 33) dX10_laysKnown_7 (by decide) (by omega) (by omega) (fun c7 => ?_) (fun c7 => ?_)
      · refine g_iconst X dX10_laysKnown_33 ?_
        refine g_istore X (lv' := [(6, vI 0), (0, .ref h), (1, .ref (q 3)), (2, .ref (q 4)), (3, .ref (q 5)), (4, .ref (q 6)), (5, vI p4)]) dX10_laysKnown_34 (by decide) rfl ?_
        have L36 : ∀ (n : Nat) (x6_36 : Int) (moreOf_36 : Nat → Int) (firstOf_36 : Nat → Int), (RA (-2147483648) 2147483647 moreOf_36) → (RA 0 11 firstOf_36) → (0 ≤ x6_36 ∧ x6_36 ≤ p4) → (∀ c : Nat, c < 12 → firstOf_36 c = (kn v_oneOf v_otherOf v_signOf v_byOf (x6_36).toNat).1 c ∧ moreOf_36 c = (kn v_oneOf v_otherOf v_signOf v_byOf (x6_36).toNat).2 c) → (p4 - x6_36).toNat < n → GG p l e ⟨1, 0, 0, 26⟩ s m args below meth c 0 0 Q D A s.heap 7 (wX10 cI cB cJ h q v_stalls v_claimMany v_taped v_place0 v_length0 v_fault v_number0 v_open v_codeMany v_waiting v_saidMany v_clauses v_newMany v_newStalls v_lines v_salesNow v_outNow v_isKept v_keptStalls v_now v_aside v_kept v_oneOf v_otherOf v_signOf v_byOf v_tape v_said v_waitsAt v_saidLetter v_saidFrom v_saidHalf v_saidTo v_codes v_clauseOf v_codeFrom v_codeHalf v_codeTo v_stack v_facts v_newOne v_newOther v_newSign v_newBy moreOf_36 firstOf_36 v_toldOf v_mostOf v_mostThen v_sumTo v_rowFrom v_ordersOf v_lessOf v_weightOf v_rowNow v_slowRow v_fastRow v_lineNow v_firstLine v_freeBy v_heldBy v_heightOf v_upTo v_downTo v_oftenOf v_newUpper v_newLower) 36 [(0, .ref h), (1, .ref (q 3)), (2, .ref (q 4)), (3, .ref (q 5)), (4, .ref (q 6)), (5, vI p4), (6, vI x6_36)] [] := by
          intro n
          induction n with
          | zero => intros; exfalso; omega
          | succ n ih36 =>
            intro x6_36 moreOf_36 firstOf_36 r_moreOf_36 r_firstOf_36 w36_0 w36_1 wm36
            refine g_iload X dX10_laysKnown_36 6 rfl ?_
            refine g_iload X dX10_laysKnown_38 5 rfl ?_
            refine g_icmp_ge X (tgt := 94) dX10_laysKnown_40 (by decide) (by omega) (by omega) (fun c40 => ?_) (fun c40 => ?_)
            · exact hQ _ _ _ dX10_laysKnown_94 ⟨moreOf_36, firstOf_36, r_moreOf_36, r_firstOf_36, (by intro c hc; rw [← show (x6_36).toNat = p4.toNat by omega]; exact w36_1 c hc), rfl⟩
            · refine g_aload_n X dX10_laysKnown_43 3 rfl ?_
              refine g_iload X dX10_laysKnown_44 6 rfl ?_
              refine g_iald X 6 0 rfl rfl (by omega) (by decide) dX10_laysKnown_46 (fun t46 e46 => ?_)
              have r46 := r_v_signOf (x6_36 : Int).toNat; rw [← e46] at r46
              refine g_if_ne X (tgt := 88) dX10_laysKnown_47 (by decide) (by omega) (fun c47 => ?_) (fun c47 => ?_)
              · refine g_iinc X (lv' := [(6, vI (x6_36 + 1)), (0, .ref h), (1, .ref (q 3)), (2, .ref (q 4)), (3, .ref (q 5)), (4, .ref (q 6)), (5, vI p4)]) dX10_laysKnown_88 6 rfl (by decide) rfl ?_
                refine g_goto X (tgt := 36) dX10_laysKnown_91 (by decide) ?_
                have hN : ∀ c : Nat, c < 12 → firstOf_36 c = (kn v_oneOf v_otherOf v_signOf v_byOf (x6_36 + 1).toNat).1 c ∧ moreOf_36 c = (kn v_oneOf v_otherOf v_signOf v_byOf (x6_36 + 1).toNat).2 c := by first | (have hE : kn v_oneOf v_otherOf v_signOf v_byOf (x6_36 + 1).toNat = (kn v_oneOf v_otherOf v_signOf v_byOf (x6_36).toNat) := (by rw [show (x6_36 + 1).toNat = (x6_36).toNat + 1 by omega]; exact kn_n (fun hk => by first | (exfalso; omega) | (have ha := w36_1 (t57).toNat (by omega); have hb := w36_1 (t66).toNat (by omega); rw [← e57, ← e66, ← ha.1, ← hb.1]; omega))); rw [hE]; exact w36_1) | (have ha := w36_1 (t57).toNat (by omega); have hb := w36_1 (t66).toNat (by omega); have hne : (kn v_oneOf v_otherOf v_signOf v_byOf (x6_36).toNat).1 (v_oneOf (x6_36).toNat).toNat ≠ (kn v_oneOf v_otherOf v_signOf v_byOf (x6_36).toNat).1 (v_otherOf (x6_36).toNat).toNat := (by rw [← e57, ← e66, ← ha.1, ← hb.1]; omega); have hE : kn v_oneOf v_otherOf v_signOf v_byOf (x6_36 + 1).toNat = knJ (kn v_oneOf v_otherOf v_signOf v_byOf (x6_36).toNat) (v_oneOf (x6_36).toNat).toNat (v_otherOf (x6_36).toNat).toNat (v_byOf (x6_36).toNat) := (by rw [show (x6_36 + 1).toNat = (x6_36).toNat + 1 by omega]; exact kn_y (by omega) hne); rw [hE]; intro c hc; have hj := kp0_85 c hc; have hc2 := w36_1 c hc; rw [hj.1, hj.2]; exact knJ_c hc2 (w36_1 _ (by omega)) (w36_1 _ (by omega)) (by rw [e75]) (by rw [e79]) e84)
                refine g_lv [1, 2, 3, 4, 5, 6, 0] rfl ?_
                exact ih36 (x6_36 + 1) moreOf_36 firstOf_36 r_moreOf_36 r_firstOf_36 (by first | assumption | omega) (by first | (intro c hc; exact w3_1 c (by omega)) | exact hN) (by omega)
              · refine g_aload_n X dX10_laysKnown_50 0 rfl ?_
                refine gM_get X 0 rfl 39 (by decide) uw1218 rfl dX10_laysKnown_51 ?_
                refine g_aload_n X dX10_laysKnown_54 1 rfl ?_
                refine g_iload X dX10_laysKnown_55 6 rfl ?_
                refine g_iald X 4 0 rfl rfl (by omega) (by decide) dX10_laysKnown_57 (fun t57 e57 => ?_)
                have r57 := r_v_oneOf (x6_36 : Int).toNat; rw [← e57] at r57
                refine g_iald X 27 0 rfl rfl (by omega) (by decide) dX10_laysKnown_58 (fun t58 e58 => ?_)
                have r58 := r_firstOf_36 (t57 : Int).toNat; rw [← e58] at r58
                refine g_aload_n X dX10_laysKnown_59 0 rfl ?_
                refine gM_get X 0 rfl 39 (by decide) uw1218 rfl dX10_laysKnown_60 ?_
                refine g_aload_n X dX10_laysKnown_63 2 rfl ?_
                refine g_iload X dX10_laysKnown_64 6 rfl ?_
                refine g_iald X 5 0 rfl rfl (by omega) (by decide) dX10_laysKnown_66 (fun t66 e66 => ?_)
                have r66 := r_v_otherOf (x6_36 : Int).toNat; rw [← e66] at r66
                refine g_iald X 27 0 rfl rfl (by omega) (by decide) dX10_laysKnown_67 (fun t67 e67 => ?_)
                have r67 := r_firstOf_36 (t66 : Int).toNat; rw [← e67] at r67
                refine g_icmp_eq X (tgt := 88) dX10_laysKnown_68 (by decide) (by omega) (by omega) (fun c68 => ?_) (fun c68 => ?_)
                · refine g_iinc X (lv' := [(6, vI (x6_36 + 1)), (0, .ref h), (1, .ref (q 3)), (2, .ref (q 4)), (3, .ref (q 5)), (4, .ref (q 6)), (5, vI p4)]) dX10_laysKnown_88 6 rfl (by decide) rfl ?_
                  refine g_goto X (tgt := 36) dX10_laysKnown_91 (by decide) ?_
                  have hN : ∀ c : Nat, c < 12 → firstOf_36 c = (kn v_oneOf v_otherOf v_signOf v_byOf (x6_36 + 1).toNat).1 c ∧ moreOf_36 c = (kn v_oneOf v_otherOf v_signOf v_byOf (x6_36 + 1).toNat).2 c := by first | (have hE : kn v_oneOf v_otherOf v_signOf v_byOf (x6_36 + 1).toNat = (kn v_oneOf v_otherOf v_signOf v_byOf (x6_36).toNat) := (by rw [show (x6_36 + 1).toNat = (x6_36).toNat + 1 by omega]; exact kn_n (fun hk => by first | (exfalso; omega) | (have ha := w36_1 (t57).toNat (by omega); have hb := w36_1 (t66).toNat (by omega); rw [← e57, ← e66, ← ha.1, ← hb.1]; omega))); rw [hE]; exact w36_1) | (have ha := w36_1 (t57).toNat (by omega); have hb := w36_1 (t66).toNat (by omega); have hne : (kn v_oneOf v_otherOf v_signOf v_byOf (x6_36).toNat).1 (v_oneOf (x6_36).toNat).toNat ≠ (kn v_oneOf v_otherOf v_signOf v_byOf (x6_36).toNat).1 (v_otherOf (x6_36).toNat).toNat := (by rw [← e57, ← e66, ← ha.1, ← hb.1]; omega); have hE : kn v_oneOf v_otherOf v_signOf v_byOf (x6_36 + 1).toNat = knJ (kn v_oneOf v_otherOf v_signOf v_byOf (x6_36).toNat) (v_oneOf (x6_36).toNat).toNat (v_otherOf (x6_36).toNat).toNat (v_byOf (x6_36).toNat) := (by rw [show (x6_36 + 1).toNat = (x6_36).toNat + 1 by omega]; exact kn_y (by omega) hne); rw [hE]; intro c hc; have hj := kp0_85 c hc; have hc2 := w36_1 c hc; rw [hj.1, hj.2]; exact knJ_c hc2 (w36_1 _ (by omega)) (w36_1 _ (by omega)) (by rw [e75]) (by rw [e79]) e84)
                  refine g_lv [1, 2, 3, 4, 5, 6, 0] rfl ?_
                  exact ih36 (x6_36 + 1) moreOf_36 firstOf_36 r_moreOf_36 r_firstOf_36 (by first | assumption | omega) (by first | (intro c hc; exact w3_1 c (by omega)) | exact hN) (by omega)
                · refine g_aload_n X dX10_laysKnown_71 0 rfl ?_
                  refine g_aload_n X dX10_laysKnown_72 1 rfl ?_
                  refine g_iload X dX10_laysKnown_73 6 rfl ?_
                  refine g_iald X 4 0 rfl rfl (by omega) (by decide) dX10_laysKnown_75 (fun t75 e75 => ?_)
                  have r75 := r_v_oneOf (x6_36 : Int).toNat; rw [← e75] at r75
                  refine g_aload_n X dX10_laysKnown_76 2 rfl ?_
                  refine g_iload X dX10_laysKnown_77 6 rfl ?_
                  refine g_iald X 5 0 rfl rfl (by omega) (by decide) dX10_laysKnown_79 (fun t79 e79 => ?_)
                  have r79 := r_v_otherOf (x6_36 : Int).toNat; rw [← e79] at r79
                  refine g_aload X dX10_laysKnown_80 4 rfl ?_
                  refine g_iload X dX10_laysKnown_82 6 rfl ?_
                  refine g_iald X 7 0 rfl rfl (by omega) (by decide) dX10_laysKnown_84 (fun t84 e84 => ?_)
                  have r84 := r_v_byOf (x6_36 : Int).toNat; rw [← e84] at r84
                  have hp85 : firstOf_36 (t75).toNat ≠ firstOf_36 (t79).toNat := by rw [show t75 = t57 by omega, show t79 = t66 by omega]; omega
                  refine g_callVV0 X (c_X10_joins l D cI cB cJ h q (p0 := t75) (p1 := t79) (p2 := t84) r_moreOf_36 r_firstOf_36 (by first | assumption | omega) (by first | assumption | omega) (by first | assumption | omega) (by first | assumption | omega) (by first | assumption | omega) (by first | assumption | omega)) cv_X10_joins uw1506 ⟨rfl, rfl, by decide, by decide⟩ 0 rfl rfl rfl rfl rfl (Nat.le_of_ble_eq_true rfl) ⟨Nat.zero_le _, Nat.zero_le _⟩ dX10_laysKnown_85 (fun ws85 k85 => ?_)
                  obtain ⟨moreOf_85, firstOf_85, r_moreOf_85, r_firstOf_85, kp0_85, rfl⟩ := k85
                  refine g_iinc X (lv' := [(6, vI (x6_36 + 1)), (0, .ref h), (1, .ref (q 3)), (2, .ref (q 4)), (3, .ref (q 5)), (4, .ref (q 6)), (5, vI p4)]) dX10_laysKnown_88 6 rfl (by decide) rfl ?_
                  refine g_goto X (tgt := 36) dX10_laysKnown_91 (by decide) ?_
                  have hN : ∀ c : Nat, c < 12 → firstOf_85 c = (kn v_oneOf v_otherOf v_signOf v_byOf (x6_36 + 1).toNat).1 c ∧ moreOf_85 c = (kn v_oneOf v_otherOf v_signOf v_byOf (x6_36 + 1).toNat).2 c := by first | (have hE : kn v_oneOf v_otherOf v_signOf v_byOf (x6_36 + 1).toNat = (kn v_oneOf v_otherOf v_signOf v_byOf (x6_36).toNat) := (by rw [show (x6_36 + 1).toNat = (x6_36).toNat + 1 by omega]; exact kn_n (fun hk => by first | (exfalso; omega) | (have ha := w36_1 (t57).toNat (by omega); have hb := w36_1 (t66).toNat (by omega); rw [← e57, ← e66, ← ha.1, ← hb.1]; omega))); rw [hE]; exact w36_1) | (have ha := w36_1 (t57).toNat (by omega); have hb := w36_1 (t66).toNat (by omega); have hne : (kn v_oneOf v_otherOf v_signOf v_byOf (x6_36).toNat).1 (v_oneOf (x6_36).toNat).toNat ≠ (kn v_oneOf v_otherOf v_signOf v_byOf (x6_36).toNat).1 (v_otherOf (x6_36).toNat).toNat := (by rw [← e57, ← e66, ← ha.1, ← hb.1]; omega); have hE : kn v_oneOf v_otherOf v_signOf v_byOf (x6_36 + 1).toNat = knJ (kn v_oneOf v_otherOf v_signOf v_byOf (x6_36).toNat) (v_oneOf (x6_36).toNat).toNat (v_otherOf (x6_36).toNat).toNat (v_byOf (x6_36).toNat) := (by rw [show (x6_36 + 1).toNat = (x6_36).toNat + 1 by omega]; exact kn_y (by omega) hne); rw [hE]; intro c hc; have hj := kp0_85 c hc; have hc2 := w36_1 c hc; rw [hj.1, hj.2]; exact knJ_c hc2 (w36_1 _ (by omega)) (w36_1 _ (by omega)) (by rw [e75]) (by rw [e79]) e84)
                  refine g_lv [1, 2, 3, 4, 5, 6, 0] rfl ?_
                  exact ih36 (x6_36 + 1) moreOf_85 firstOf_85 r_moreOf_85 r_firstOf_85 (by first | assumption | omega) (by first | (intro c hc; exact w3_1 c (by omega)) | exact hN) (by omega)
        refine g_lv [1, 2, 3, 4, 5, 6, 0] rfl ?_
        exact L36 _ 0 moreOf_3 firstOf_3 r_moreOf_3 r_firstOf_3 (by first | assumption | omega) (by first | (intro c hc; exact w3_1 c (by omega)) | exact hN) (Nat.lt_succ_self _)
      · refine g_aload_n X dX10_laysKnown_10 0 rfl ?_
        refine gM_get X 0 rfl 38 (by decide) uw1217 rfl dX10_laysKnown_11 ?_
        refine g_iload X dX10_laysKnown_14 6 rfl ?_
        refine g_iconst X dX10_laysKnown_16 ?_
        refine g_iast X 26 0 rfl rfl (by omega) (by decide) dX10_laysKnown_17 (fun moreOf_17 e17 => ?_)
        have r_moreOf_17 : RA (-2147483648) 2147483647 moreOf_17 := by rw [e17]; exact RA_up r_moreOf_3 (by omega)
        refine g_ws (ws2 := (wX10 cI cB cJ h q v_stalls v_claimMany v_taped v_place0 v_length0 v_fault v_number0 v_open v_codeMany v_waiting v_saidMany v_clauses v_newMany v_newStalls v_lines v_salesNow v_outNow v_isKept v_keptStalls v_now v_aside v_kept v_oneOf v_otherOf v_signOf v_byOf v_tape v_said v_waitsAt v_saidLetter v_saidFrom v_saidHalf v_saidTo v_codes v_clauseOf v_codeFrom v_codeHalf v_codeTo v_stack v_facts v_newOne v_newOther v_newSign v_newBy moreOf_17 firstOf_3 v_toldOf v_mostOf v_mostThen v_sumTo v_rowFrom v_ordersOf v_lessOf v_weightOf v_rowNow v_slowRow v_fastRow v_lineNow v_firstLine v_freeBy v_heldBy v_heightOf v_upTo v_downTo v_oftenOf v_newUpper v_newLower)) rfl ?_
        refine g_aload_n X dX10_laysKnown_18 0 rfl ?_
        refine gM_get X 0 rfl 39 (by decide) uw1218 rfl dX10_laysKnown_19 ?_
        refine g_iload X dX10_laysKnown_22 6 rfl ?_
        refine g_iload X dX10_laysKnown_24 6 rfl ?_
        refine g_iast X 27 0 rfl rfl (by omega) (by decide) dX10_laysKnown_26 (fun firstOf_26 e26 => ?_)
        have r_firstOf_26 : RA 0 11 firstOf_26 := by rw [e26]; exact RA_up r_firstOf_3 (by omega)
        refine g_ws (ws2 := (wX10 cI cB cJ h q v_stalls v_claimMany v_taped v_place0 v_length0 v_fault v_number0 v_open v_codeMany v_waiting v_saidMany v_clauses v_newMany v_newStalls v_lines v_salesNow v_outNow v_isKept v_keptStalls v_now v_aside v_kept v_oneOf v_otherOf v_signOf v_byOf v_tape v_said v_waitsAt v_saidLetter v_saidFrom v_saidHalf v_saidTo v_codes v_clauseOf v_codeFrom v_codeHalf v_codeTo v_stack v_facts v_newOne v_newOther v_newSign v_newBy moreOf_17 firstOf_26 v_toldOf v_mostOf v_mostThen v_sumTo v_rowFrom v_ordersOf v_lessOf v_weightOf v_rowNow v_slowRow v_fastRow v_lineNow v_firstLine v_freeBy v_heldBy v_heightOf v_upTo v_downTo v_oftenOf v_newUpper v_newLower)) rfl ?_
        refine g_iinc X (lv' := [(6, vI (x6_3 + 1)), (0, .ref h), (1, .ref (q 3)), (2, .ref (q 4)), (3, .ref (q 5)), (4, .ref (q 6)), (5, vI p4)]) dX10_laysKnown_27 6 rfl (by decide) rfl ?_
        refine g_goto X (tgt := 3) dX10_laysKnown_30 (by decide) ?_
        refine g_lv [1, 2, 3, 4, 5, 6, 0] rfl ?_
        exact ih3 (x6_3 + 1) moreOf_17 firstOf_26 r_moreOf_17 r_firstOf_26 (by first | assumption | omega) (by intro c hc; first | (exfalso; omega) | (rw [e26, e17]; exact if hq : c = (x6_3).toNat then by (rw [hq, updZ_s, updZ_s]; exact ⟨by omega, rfl⟩) else by (rw [updZ_n _ _ hq, updZ_n _ _ hq]; exact w3_1 c (by omega)))) (by omega)
  refine g_lv [1, 2, 3, 4, 5, 6, 0] rfl ?_
  exact L3 _ 0 v_moreOf v_firstOf r_v_moreOf r_v_firstOf (by first | assumption | omega) (by intro c hc; first | (exfalso; omega) | (rw [e26, e17]; exact if hq : c = (x6_3).toNat then by (rw [hq, updZ_s, updZ_s]; exact ⟨by omega, rfl⟩) else by (rw [updZ_n _ _ hq, updZ_n _ _ hq]; exact w3_1 c (by omega)))) (Nat.lt_succ_self _)
set_option maxHeartbeats 4000000 in
set_option maxRecDepth 100000 in
theorem c_X10_laysKnown_n (l : Launch) (D : va_G) (cI cB cJ : ClassId) (h : Nat) (q : Nat → Nat) {v_stalls v_claimMany v_taped v_place0 v_length0 v_fault v_number0 v_open v_codeMany v_waiting v_saidMany v_clauses v_newMany v_newStalls v_lines v_salesNow v_outNow v_isKept v_keptStalls : Int} {v_now v_aside v_kept v_oneOf v_otherOf v_signOf v_byOf v_tape v_said v_waitsAt v_saidLetter v_saidFrom v_saidHalf v_saidTo v_codes v_clauseOf v_codeFrom v_codeHalf v_codeTo v_stack v_facts v_newOne v_newOther v_newSign v_newBy v_moreOf v_firstOf v_toldOf v_mostOf v_mostThen v_sumTo v_rowFrom v_ordersOf v_lessOf v_weightOf v_rowNow v_slowRow v_fastRow v_lineNow v_firstLine v_freeBy v_heldBy v_heightOf v_upTo v_downTo v_oftenOf v_newUpper v_newLower : Nat → Int} {p4 : Int} (r_v_newOne : RA 0 11 v_newOne) (r_v_newOther : RA 0 11 v_newOther) (r_v_newSign : RA (-2147483648) 2147483647 v_newSign) (r_v_newBy : RA (-9999) 9999 v_newBy) (r_v_moreOf : RA (-2147483648) 2147483647 v_moreOf) (r_v_firstOf : RA 0 11 v_firstOf) (hp0 : IR p4) (hp1 : 0 ≤ p4 ∧ p4 ≤ 40) : CtV l yX10_laysKnown cX10_laysKnown 7 none ⟨1, 0, 0, 26⟩ D (TY cI cB cJ) (wX10 cI cB cJ h q v_stalls v_claimMany v_taped v_place0 v_length0 v_fault v_number0 v_open v_codeMany v_waiting v_saidMany v_clauses v_newMany v_newStalls v_lines v_salesNow v_outNow v_isKept v_keptStalls v_now v_aside v_kept v_oneOf v_otherOf v_signOf v_byOf v_tape v_said v_waitsAt v_saidLetter v_saidFrom v_saidHalf v_saidTo v_codes v_clauseOf v_codeFrom v_codeHalf v_codeTo v_stack v_facts v_newOne v_newOther v_newSign v_newBy v_moreOf v_firstOf v_toldOf v_mostOf v_mostThen v_sumTo v_rowFrom v_ordersOf v_lessOf v_weightOf v_rowNow v_slowRow v_fastRow v_lineNow v_firstLine v_freeBy v_heldBy v_heightOf v_upTo v_downTo v_oftenOf v_newUpper v_newLower) [.ref h, .ref (q 21), .ref (q 22), .ref (q 23), .ref (q 24), vI p4] (fun ws' => ∃ n_moreOf : Nat → Int, ∃ n_firstOf : Nat → Int, (RA (-2147483648) 2147483647 n_moreOf) ∧ (RA 0 11 n_firstOf) ∧ (∀ c : Nat, c < 12 → n_firstOf c = (kn v_newOne v_newOther v_newSign v_newBy p4.toNat).1 c ∧ n_moreOf c = (kn v_newOne v_newOther v_newSign v_newBy p4.toNat).2 c) ∧ (ws' = (wX10 cI cB cJ h q v_stalls v_claimMany v_taped v_place0 v_length0 v_fault v_number0 v_open v_codeMany v_waiting v_saidMany v_clauses v_newMany v_newStalls v_lines v_salesNow v_outNow v_isKept v_keptStalls v_now v_aside v_kept v_oneOf v_otherOf v_signOf v_byOf v_tape v_said v_waitsAt v_saidLetter v_saidFrom v_saidHalf v_saidTo v_codes v_clauseOf v_codeFrom v_codeHalf v_codeTo v_stack v_facts v_newOne v_newOther v_newSign v_newBy n_moreOf n_firstOf v_toldOf v_mostOf v_mostThen v_sumTo v_rowFrom v_ordersOf v_lessOf v_weightOf v_rowNow v_slowRow v_fastRow v_lineNow v_firstLine v_freeBy v_heldBy v_heightOf v_upTo v_downTo v_oftenOf v_newUpper v_newLower))) := by
  refine hdrV (own := RX10) rfl (by decide +kernel) (Nat.le_of_ble_eq_true rfl) ?_
  intro p e s m args below meth c Q A X hQ
  refine g_lvE (lv2 := [(0, .ref h), (1, .ref (q 21)), (2, .ref (q 22)), (3, .ref (q 23)), (4, .ref (q 24)), (5, vI p4)]) rfl ?_
  refine g_iconst X dX10_laysKnown_0 ?_
  refine g_istore X (lv' := [(6, vI 0), (0, .ref h), (1, .ref (q 21)), (2, .ref (q 22)), (3, .ref (q 23)), (4, .ref (q 24)), (5, vI p4)]) dX10_laysKnown_1 (by decide) rfl ?_
  have L3 : ∀ (n : Nat) (x6_3 : Int) (moreOf_3 : Nat → Int) (firstOf_3 : Nat → Int), (RA (-2147483648) 2147483647 moreOf_3) → (RA 0 11 firstOf_3) → (0 ≤ x6_3 ∧ x6_3 ≤ 12) → (∀ c : Nat, (c : Int) < x6_3 → firstOf_3 c = (c : Int) ∧ moreOf_3 c = 0) → (12 - x6_3).toNat < n → GG p l e ⟨1, 0, 0, 26⟩ s m args below meth c 0 0 Q D A s.heap 7 (wX10 cI cB cJ h q v_stalls v_claimMany v_taped v_place0 v_length0 v_fault v_number0 v_open v_codeMany v_waiting v_saidMany v_clauses v_newMany v_newStalls v_lines v_salesNow v_outNow v_isKept v_keptStalls v_now v_aside v_kept v_oneOf v_otherOf v_signOf v_byOf v_tape v_said v_waitsAt v_saidLetter v_saidFrom v_saidHalf v_saidTo v_codes v_clauseOf v_codeFrom v_codeHalf v_codeTo v_stack v_facts v_newOne v_newOther v_newSign v_newBy moreOf_3 firstOf_3 v_toldOf v_mostOf v_mostThen v_sumTo v_rowFrom v_ordersOf v_lessOf v_weightOf v_rowNow v_slowRow v_fastRow v_lineNow v_firstLine v_freeBy v_heldBy v_heightOf v_upTo v_downTo v_oftenOf v_newUpper v_newLower) 3 [(0, .ref h), (1, .ref (q 21)), (2, .ref (q 22)), (3, .ref (q 23)), (4, .ref (q 24)), (5, vI p4), (6, vI x6_3)] [] := by
    intro n
    induction n with
    | zero => intros; exfalso; omega
    | succ n ih3 =>
      intro x6_3 moreOf_3 firstOf_3 r_moreOf_3 r_firstOf_3 w3_0 w3_1 wm3
      refine g_iload X dX10_laysKnown_3 6 rfl ?_
      refine g_bipush X (z := 12) dX10_laysKnown_5 (by decide) ?_
      refine g_icmp_ge X (tgt := 33) dX10_laysKnown_7 (by decide) (by omega) (by omega) (fun c7 => ?_) (fun c7 => ?_)
      · refine g_iconst X dX10_laysKnown_33 ?_
        refine g_istore X (lv' := [(6, vI 0), (0, .ref h), (1, .ref (q 21)), (2, .ref (q 22)), (3, .ref (q 23)), (4, .ref (q 24)), (5, vI p4)]) dX10_laysKnown_34 (by decide) rfl ?_
        have L36 : ∀ (n : Nat) (x6_36 : Int) (moreOf_36 : Nat → Int) (firstOf_36 : Nat → Int), (RA (-2147483648) 2147483647 moreOf_36) → (RA 0 11 firstOf_36) → (0 ≤ x6_36 ∧ x6_36 ≤ p4) → (∀ c : Nat, c < 12 → firstOf_36 c = (kn v_newOne v_newOther v_newSign v_newBy (x6_36).toNat).1 c ∧ moreOf_36 c = (kn v_newOne v_newOther v_newSign v_newBy (x6_36).toNat).2 c) → (p4 - x6_36).toNat < n → GG p l e ⟨1, 0, 0, 26⟩ s m args below meth c 0 0 Q D A s.heap 7 (wX10 cI cB cJ h q v_stalls v_claimMany v_taped v_place0 v_length0 v_fault v_number0 v_open v_codeMany v_waiting v_saidMany v_clauses v_newMany v_newStalls v_lines v_salesNow v_outNow v_isKept v_keptStalls v_now v_aside v_kept v_oneOf v_otherOf v_signOf v_byOf v_tape v_said v_waitsAt v_saidLetter v_saidFrom v_saidHalf v_saidTo v_codes v_clauseOf v_codeFrom v_codeHalf v_codeTo v_stack v_facts v_newOne v_newOther v_newSign v_newBy moreOf_36 firstOf_36 v_toldOf v_mostOf v_mostThen v_sumTo v_rowFrom v_ordersOf v_lessOf v_weightOf v_rowNow v_slowRow v_fastRow v_lineNow v_firstLine v_freeBy v_heldBy v_heightOf v_upTo v_downTo v_oftenOf v_newUpper v_newLower) 36 [(0, .ref h), (1, .ref (q 21)), (2, .ref (q 22)), (3, .ref (q 23)), (4, .ref (q 24)), (5, vI p4), (6, vI x6_36)] [] := by
          intro n
          induction n with
          | zero => intros; exfalso; omega
          | succ n ih36 =>
            intro x6_36 moreOf_36 firstOf_36 r_moreOf_36 r_firstOf_36 w36_0 w36_1 wm36
            refine g_iload X dX10_laysKnown_36 6 rfl ?_
            refine g_iload X dX10_laysKnown_38 5 rfl ?_
            refine g_icmp_ge X (tgt := 94) dX10_laysKnown_40 (by decide) (by omega) (by omega) (fun c40 => ?_) (fun c40 => ?_)
            · exact hQ _ _ _ dX10_laysKnown_94 ⟨moreOf_36, firstOf_36, r_moreOf_36, r_firstOf_36, (by intro c hc; rw [← show (x6_36).toNat = p4.toNat by omega]; exact w36_1 c hc), rfl⟩
            · refine g_aload_n X dX10_laysKnown_43 3 rfl ?_
              refine g_iload X dX10_laysKnown_44 6 rfl ?_
              refine g_iald X 24 0 rfl rfl (by omega) (by decide) dX10_laysKnown_46 (fun t46 e46 => ?_)
              have r46 := r_v_newSign (x6_36 : Int).toNat; rw [← e46] at r46
              refine g_if_ne X (tgt := 88) dX10_laysKnown_47 (by decide) (by omega) (fun c47 => ?_) (fun c47 => ?_)
              · refine g_iinc X (lv' := [(6, vI (x6_36 + 1)), (0, .ref h), (1, .ref (q 21)), (2, .ref (q 22)), (3, .ref (q 23)), (4, .ref (q 24)), (5, vI p4)]) dX10_laysKnown_88 6 rfl (by decide) rfl ?_
                refine g_goto X (tgt := 36) dX10_laysKnown_91 (by decide) ?_
                have hN : ∀ c : Nat, c < 12 → firstOf_36 c = (kn v_newOne v_newOther v_newSign v_newBy (x6_36 + 1).toNat).1 c ∧ moreOf_36 c = (kn v_newOne v_newOther v_newSign v_newBy (x6_36 + 1).toNat).2 c := by first | (have hE : kn v_newOne v_newOther v_newSign v_newBy (x6_36 + 1).toNat = (kn v_newOne v_newOther v_newSign v_newBy (x6_36).toNat) := (by rw [show (x6_36 + 1).toNat = (x6_36).toNat + 1 by omega]; exact kn_n (fun hk => by first | (exfalso; omega) | (have ha := w36_1 (t57).toNat (by omega); have hb := w36_1 (t66).toNat (by omega); rw [← e57, ← e66, ← ha.1, ← hb.1]; omega))); rw [hE]; exact w36_1) | (have ha := w36_1 (t57).toNat (by omega); have hb := w36_1 (t66).toNat (by omega); have hne : (kn v_newOne v_newOther v_newSign v_newBy (x6_36).toNat).1 (v_newOne (x6_36).toNat).toNat ≠ (kn v_newOne v_newOther v_newSign v_newBy (x6_36).toNat).1 (v_newOther (x6_36).toNat).toNat := (by rw [← e57, ← e66, ← ha.1, ← hb.1]; omega); have hE : kn v_newOne v_newOther v_newSign v_newBy (x6_36 + 1).toNat = knJ (kn v_newOne v_newOther v_newSign v_newBy (x6_36).toNat) (v_newOne (x6_36).toNat).toNat (v_newOther (x6_36).toNat).toNat (v_newBy (x6_36).toNat) := (by rw [show (x6_36 + 1).toNat = (x6_36).toNat + 1 by omega]; exact kn_y (by omega) hne); rw [hE]; intro c hc; have hj := kp0_85 c hc; have hc2 := w36_1 c hc; rw [hj.1, hj.2]; exact knJ_c hc2 (w36_1 _ (by omega)) (w36_1 _ (by omega)) (by rw [e75]) (by rw [e79]) e84)
                refine g_lv [1, 2, 3, 4, 5, 6, 0] rfl ?_
                exact ih36 (x6_36 + 1) moreOf_36 firstOf_36 r_moreOf_36 r_firstOf_36 (by first | assumption | omega) (by first | (intro c hc; exact w3_1 c (by omega)) | exact hN) (by omega)
              · refine g_aload_n X dX10_laysKnown_50 0 rfl ?_
                refine gM_get X 0 rfl 39 (by decide) uw1218 rfl dX10_laysKnown_51 ?_
                refine g_aload_n X dX10_laysKnown_54 1 rfl ?_
                refine g_iload X dX10_laysKnown_55 6 rfl ?_
                refine g_iald X 22 0 rfl rfl (by omega) (by decide) dX10_laysKnown_57 (fun t57 e57 => ?_)
                have r57 := r_v_newOne (x6_36 : Int).toNat; rw [← e57] at r57
                refine g_iald X 27 0 rfl rfl (by omega) (by decide) dX10_laysKnown_58 (fun t58 e58 => ?_)
                have r58 := r_firstOf_36 (t57 : Int).toNat; rw [← e58] at r58
                refine g_aload_n X dX10_laysKnown_59 0 rfl ?_
                refine gM_get X 0 rfl 39 (by decide) uw1218 rfl dX10_laysKnown_60 ?_
                refine g_aload_n X dX10_laysKnown_63 2 rfl ?_
                refine g_iload X dX10_laysKnown_64 6 rfl ?_
                refine g_iald X 23 0 rfl rfl (by omega) (by decide) dX10_laysKnown_66 (fun t66 e66 => ?_)
                have r66 := r_v_newOther (x6_36 : Int).toNat; rw [← e66] at r66
                refine g_iald X 27 0 rfl rfl (by omega) (by decide) dX10_laysKnown_67 (fun t67 e67 => ?_)
                have r67 := r_firstOf_36 (t66 : Int).toNat; rw [← e67] at r67
                refine g_icmp_eq X (tgt := 88) dX10_laysKnown_68 (by decide) (by omega) (by omega) (fun c68 => ?_) (fun c68 => ?_)
                · refine g_iinc X (lv' := [(6, vI (x6_36 + 1)), (0, .ref h), (1, .ref (q 21)), (2, .ref (q 22)), (3, .ref (q 23)), (4, .ref (q 24)), (5, vI p4)]) dX10_laysKnown_88 6 rfl (by decide) rfl ?_
                  refine g_goto X (tgt := 36) dX10_laysKnown_91 (by decide) ?_
                  have hN : ∀ c : Nat, c < 12 → firstOf_36 c = (kn v_newOne v_newOther v_newSign v_newBy (x6_36 + 1).toNat).1 c ∧ moreOf_36 c = (kn v_newOne v_newOther v_newSign v_newBy (x6_36 + 1).toNat).2 c := by first | (have hE : kn v_newOne v_newOther v_newSign v_newBy (x6_36 + 1).toNat = (kn v_newOne v_newOther v_newSign v_newBy (x6_36).toNat) := (by rw [show (x6_36 + 1).toNat = (x6_36).toNat + 1 by omega]; exact kn_n (fun hk => by first | (exfalso; omega) | (have ha := w36_1 (t57).toNat (by omega); have hb := w36_1 (t66).toNat (by omega); rw [← e57, ← e66, ← ha.1, ← hb.1]; omega))); rw [hE]; exact w36_1) | (have ha := w36_1 (t57).toNat (by omega); have hb := w36_1 (t66).toNat (by omega); have hne : (kn v_newOne v_newOther v_newSign v_newBy (x6_36).toNat).1 (v_newOne (x6_36).toNat).toNat ≠ (kn v_newOne v_newOther v_newSign v_newBy (x6_36).toNat).1 (v_newOther (x6_36).toNat).toNat := (by rw [← e57, ← e66, ← ha.1, ← hb.1]; omega); have hE : kn v_newOne v_newOther v_newSign v_newBy (x6_36 + 1).toNat = knJ (kn v_newOne v_newOther v_newSign v_newBy (x6_36).toNat) (v_newOne (x6_36).toNat).toNat (v_newOther (x6_36).toNat).toNat (v_newBy (x6_36).toNat) := (by rw [show (x6_36 + 1).toNat = (x6_36).toNat + 1 by omega]; exact kn_y (by omega) hne); rw [hE]; intro c hc; have hj := kp0_85 c hc; have hc2 := w36_1 c hc; rw [hj.1, hj.2]; exact knJ_c hc2 (w36_1 _ (by omega)) (w36_1 _ (by omega)) (by rw [e75]) (by rw [e79]) e84)
                  refine g_lv [1, 2, 3, 4, 5, 6, 0] rfl ?_
                  exact ih36 (x6_36 + 1) moreOf_36 firstOf_36 r_moreOf_36 r_firstOf_36 (by first | assumption | omega) (by first | (intro c hc; exact w3_1 c (by omega)) | exact hN) (by omega)
                · refine g_aload_n X dX10_laysKnown_71 0 rfl ?_
                  refine g_aload_n X dX10_laysKnown_72 1 rfl ?_
                  refine g_iload X dX10_laysKnown_73 6 rfl ?_
                  refine g_iald X 22 0 rfl rfl (by omega) (by decide) dX10_laysKnown_75 (fun t75 e75 => ?_)
                  have r75 := r_v_newOne (x6_36 : Int).toNat; rw [← e75] at r75
                  refine g_aload_n X dX10_laysKnown_76 2 rfl ?_
                  refine g_iload X dX10_laysKnown_77 6 rfl ?_
                  refine g_iald X 23 0 rfl rfl (by omega) (by decide) dX10_laysKnown_79 (fun t79 e79 => ?_)
                  have r79 := r_v_newOther (x6_36 : Int).toNat; rw [← e79] at r79
                  refine g_aload X dX10_laysKnown_80 4 rfl ?_
                  refine g_iload X dX10_laysKnown_82 6 rfl ?_
                  refine g_iald X 25 0 rfl rfl (by omega) (by decide) dX10_laysKnown_84 (fun t84 e84 => ?_)
                  have r84 := r_v_newBy (x6_36 : Int).toNat; rw [← e84] at r84
                  have hp85 : firstOf_36 (t75).toNat ≠ firstOf_36 (t79).toNat := by rw [show t75 = t57 by omega, show t79 = t66 by omega]; omega
                  refine g_callVV0 X (c_X10_joins l D cI cB cJ h q (p0 := t75) (p1 := t79) (p2 := t84) r_moreOf_36 r_firstOf_36 (by first | assumption | omega) (by first | assumption | omega) (by first | assumption | omega) (by first | assumption | omega) (by first | assumption | omega) (by first | assumption | omega)) cv_X10_joins uw1506 ⟨rfl, rfl, by decide, by decide⟩ 0 rfl rfl rfl rfl rfl (Nat.le_of_ble_eq_true rfl) ⟨Nat.zero_le _, Nat.zero_le _⟩ dX10_laysKnown_85 (fun ws85 k85 => ?_)
                  obtain ⟨moreOf_85, firstOf_85, r_moreOf_85, r_firstOf_85, kp0_85, rfl⟩ := k85
                  refine g_iinc X (lv' := [(6, vI (x6_36 + 1)), (0, .ref h), (1, .ref (q 21)), (2, .ref (q 22)), (3, .ref (q 23)), (4, .ref (q 24)), (5, vI p4)]) dX10_laysKnown_88 6 rfl (by decide) rfl ?_
                  refine g_goto X (tgt := 36) dX10_laysKnown_91 (by decide) ?_
                  have hN : ∀ c : Nat, c < 12 → firstOf_85 c = (kn v_newOne v_newOther v_newSign v_newBy (x6_36 + 1).toNat).1 c ∧ moreOf_85 c = (kn v_newOne v_newOther v_newSign v_newBy (x6_36 + 1).toNat).2 c := by first | (have hE : kn v_newOne v_newOther v_newSign v_newBy (x6_36 + 1).toNat = (kn v_newOne v_newOther v_newSign v_newBy (x6_36).toNat) := (by rw [show (x6_36 + 1).toNat = (x6_36).toNat + 1 by omega]; exact kn_n (fun hk => by first | (exfalso; omega) | (have ha := w36_1 (t57).toNat (by omega); have hb := w36_1 (t66).toNat (by omega); rw [← e57, ← e66, ← ha.1, ← hb.1]; omega))); rw [hE]; exact w36_1) | (have ha := w36_1 (t57).toNat (by omega); have hb := w36_1 (t66).toNat (by omega); have hne : (kn v_newOne v_newOther v_newSign v_newBy (x6_36).toNat).1 (v_newOne (x6_36).toNat).toNat ≠ (kn v_newOne v_newOther v_newSign v_newBy (x6_36).toNat).1 (v_newOther (x6_36).toNat).toNat := (by rw [← e57, ← e66, ← ha.1, ← hb.1]; omega); have hE : kn v_newOne v_newOther v_newSign v_newBy (x6_36 + 1).toNat = knJ (kn v_newOne v_newOther v_newSign v_newBy (x6_36).toNat) (v_newOne (x6_36).toNat).toNat (v_newOther (x6_36).toNat).toNat (v_newBy (x6_36).toNat) := (by rw [show (x6_36 + 1).toNat = (x6_36).toNat + 1 by omega]; exact kn_y (by omega) hne); rw [hE]; intro c hc; have hj := kp0_85 c hc; have hc2 := w36_1 c hc; rw [hj.1, hj.2]; exact knJ_c hc2 (w36_1 _ (by omega)) (w36_1 _ (by omega)) (by rw [e75]) (by rw [e79]) e84)
                  refine g_lv [1, 2, 3, 4, 5, 6, 0] rfl ?_
                  exact ih36 (x6_36 + 1) moreOf_85 firstOf_85 r_moreOf_85 r_firstOf_85 (by first | assumption | omega) (by first | (intro c hc; exact w3_1 c (by omega)) | exact hN) (by omega)
        refine g_lv [1, 2, 3, 4, 5, 6, 0] rfl ?_
        exact L36 _ 0 moreOf_3 firstOf_3 r_moreOf_3 r_firstOf_3 (by first | assumption | omega) (by first | (intro c hc; exact w3_1 c (by omega)) | exact hN) (Nat.lt_succ_self _)
      · refine g_aload_n X dX10_laysKnown_10 0 rfl ?_
        refine gM_get X 0 rfl 38 (by decide) uw1217 rfl dX10_laysKnown_11 ?_
        refine g_iload X dX10_laysKnown_14 6 rfl ?_
        refine g_iconst X dX10_laysKnown_16 ?_
        refine g_iast X 26 0 rfl rfl (by omega) (by decide) dX10_laysKnown_17 (fun moreOf_17 e17 => ?_)
        have r_moreOf_17 : RA (-2147483648) 2147483647 moreOf_17 := by rw [e17]; exact RA_up r_moreOf_3 (by omega)
        refine g_ws (ws2 := (wX10 cI cB cJ h q v_stalls v_claimMany v_taped v_place0 v_length0 v_fault v_number0 v_open v_codeMany v_waiting v_saidMany v_clauses v_newMany v_newStalls v_lines v_salesNow v_outNow v_isKept v_keptStalls v_now v_aside v_kept v_oneOf v_otherOf v_signOf v_byOf v_tape v_said v_waitsAt v_saidLetter v_saidFrom v_saidHalf v_saidTo v_codes v_clauseOf v_codeFrom v_codeHalf v_codeTo v_stack v_facts v_newOne v_newOther v_newSign v_newBy moreOf_17 firstOf_3 v_toldOf v_mostOf v_mostThen v_sumTo v_rowFrom v_ordersOf v_lessOf v_weightOf v_rowNow v_slowRow v_fastRow v_lineNow v_firstLine v_freeBy v_heldBy v_heightOf v_upTo v_downTo v_oftenOf v_newUpper v_newLower)) rfl ?_
        refine g_aload_n X dX10_laysKnown_18 0 rfl ?_
        refine gM_get X 0 rfl 39 (by decide) uw1218 rfl dX10_laysKnown_19 ?_
        refine g_iload X dX10_laysKnown_22 6 rfl ?_
        refine g_iload X dX10_laysKnown_24 6 rfl ?_
        refine g_iast X 27 0 rfl rfl (by omega) (by decide) dX10_laysKnown_26 (fun firstOf_26 e26 => ?_)
        have r_firstOf_26 : RA 0 11 firstOf_26 := by rw [e26]; exact RA_up r_firstOf_3 (by omega)
        refine g_ws (ws2 := (wX10 cI cB cJ h q v_stalls v_claimMany v_taped v_place0 v_length0 v_fault v_number0 v_open v_codeMany v_waiting v_saidMany v_clauses v_newMany v_newStalls v_lines v_salesNow v_outNow v_isKept v_keptStalls v_now v_aside v_kept v_oneOf v_otherOf v_signOf v_byOf v_tape v_said v_waitsAt v_saidLetter v_saidFrom v_saidHalf v_saidTo v_codes v_clauseOf v_codeFrom v_codeHalf v_codeTo v_stack v_facts v_newOne v_newOther v_newSign v_newBy moreOf_17 firstOf_26 v_toldOf v_mostOf v_mostThen v_sumTo v_rowFrom v_ordersOf v_lessOf v_weightOf v_rowNow v_slowRow v_fastRow v_lineNow v_firstLine v_freeBy v_heldBy v_heightOf v_upTo v_downTo v_oftenOf v_newUpper v_newLower)) rfl ?_
        refine g_iinc X (lv' := [(6, vI (x6_3 + 1)), (0, .ref h), (1, .ref (q 21)), (2, .ref (q 22)), (3, .ref (q 23)), (4, .ref (q 24)), (5, vI p4)]) dX10_laysKnown_27 6 rfl (by decide) rfl ?_
        refine g_goto X (tgt := 3) dX10_laysKnown_30 (by decide) ?_
        refine g_lv [1, 2, 3, 4, 5, 6, 0] rfl ?_
        exact ih3 (x6_3 + 1) moreOf_17 firstOf_26 r_moreOf_17 r_firstOf_26 (by first | assumption | omega) (by intro c hc; first | (exfalso; omega) | (rw [e26, e17]; exact if hq : c = (x6_3).toNat then by (rw [hq, updZ_s, updZ_s]; exact ⟨by omega, rfl⟩) else by (rw [updZ_n _ _ hq, updZ_n _ _ hq]; exact w3_1 c (by omega)))) (by omega)
  refine g_lv [1, 2, 3, 4, 5, 6, 0] rfl ?_
  exact L3 _ 0 v_moreOf v_firstOf r_v_moreOf r_v_firstOf (by first | assumption | omega) (by intro c hc; first | (exfalso; omega) | (rw [e26, e17]; exact if hq : c = (x6_3).toNat then by (rw [hq, updZ_s, updZ_s]; exact ⟨by omega, rfl⟩) else by (rw [updZ_n _ _ hq, updZ_n _ _ hq]; exact w3_1 c (by omega)))) (Nat.lt_succ_self _)
set_option maxHeartbeats 4000000 in
set_option maxRecDepth 100000 in
theorem c_X10_canBeToo (l : Launch) (D : va_G) (cI cB cJ : ClassId) (h : Nat) (q : Nat → Nat) {v_stalls v_claimMany v_taped v_place0 v_length0 v_fault v_number0 v_open v_codeMany v_waiting v_saidMany v_clauses v_newMany v_newStalls v_lines v_salesNow v_outNow v_isKept v_keptStalls : Int} {v_now v_aside v_kept v_oneOf v_otherOf v_signOf v_byOf v_tape v_said v_waitsAt v_saidLetter v_saidFrom v_saidHalf v_saidTo v_codes v_clauseOf v_codeFrom v_codeHalf v_codeTo v_stack v_facts v_newOne v_newOther v_newSign v_newBy v_moreOf v_firstOf v_toldOf v_mostOf v_mostThen v_sumTo v_rowFrom v_ordersOf v_lessOf v_weightOf v_rowNow v_slowRow v_fastRow v_lineNow v_firstLine v_freeBy v_heldBy v_heightOf v_upTo v_downTo v_oftenOf v_newUpper v_newLower : Nat → Int} {p0 : Int} (r_v_newOne : RA 0 11 v_newOne) (r_v_newOther : RA 0 11 v_newOther) (r_v_newSign : RA (-2147483648) 2147483647 v_newSign) (r_v_newBy : RA (-9999) 9999 v_newBy) (r_v_moreOf : RA (-2147483648) 2147483647 v_moreOf) (r_v_firstOf : RA 0 11 v_firstOf) (hp0 : IR p0) (hp1 : 0 ≤ p0 ∧ p0 ≤ 39) : CtI l yX10_canBeToo cX10_canBeToo 2 (some .boolean) ⟨2, 0, 0, 52⟩ D (TY cI cB cJ) (wX10 cI cB cJ h q v_stalls v_claimMany v_taped v_place0 v_length0 v_fault v_number0 v_open v_codeMany v_waiting v_saidMany v_clauses v_newMany v_newStalls v_lines v_salesNow v_outNow v_isKept v_keptStalls v_now v_aside v_kept v_oneOf v_otherOf v_signOf v_byOf v_tape v_said v_waitsAt v_saidLetter v_saidFrom v_saidHalf v_saidTo v_codes v_clauseOf v_codeFrom v_codeHalf v_codeTo v_stack v_facts v_newOne v_newOther v_newSign v_newBy v_moreOf v_firstOf v_toldOf v_mostOf v_mostThen v_sumTo v_rowFrom v_ordersOf v_lessOf v_weightOf v_rowNow v_slowRow v_fastRow v_lineNow v_firstLine v_freeBy v_heldBy v_heightOf v_upTo v_downTo v_oftenOf v_newUpper v_newLower) [.ref h, vI p0] (fun z ws' => (z = 0 ∨ z = 1) ∧ ∃ n_moreOf : Nat → Int, ∃ n_firstOf : Nat → Int, (RA (-2147483648) 2147483647 n_moreOf) ∧ (RA 0 11 n_firstOf) ∧ ((z = 1 ∧ ¬ ((kn v_newOne v_newOther v_newSign v_newBy p0.toNat).1 (v_newOne p0.toNat).toNat = (kn v_newOne v_newOther v_newSign v_newBy p0.toNat).1 (v_newOther p0.toNat).toNat ∧ ¬ CG ((kn v_newOne v_newOther v_newSign v_newBy p0.toNat).2 (v_newOne p0.toNat).toNat - (kn v_newOne v_newOther v_newSign v_newBy p0.toNat).2 (v_newOther p0.toNat).toNat) (v_newBy p0.toNat))) ∨ (z = 0 ∧ (kn v_newOne v_newOther v_newSign v_newBy p0.toNat).1 (v_newOne p0.toNat).toNat = (kn v_newOne v_newOther v_newSign v_newBy p0.toNat).1 (v_newOther p0.toNat).toNat ∧ ¬ CG ((kn v_newOne v_newOther v_newSign v_newBy p0.toNat).2 (v_newOne p0.toNat).toNat - (kn v_newOne v_newOther v_newSign v_newBy p0.toNat).2 (v_newOther p0.toNat).toNat) (v_newBy p0.toNat))) ∧ (ws' = (wX10 cI cB cJ h q v_stalls v_claimMany v_taped v_place0 v_length0 v_fault v_number0 v_open v_codeMany v_waiting v_saidMany v_clauses v_newMany v_newStalls v_lines v_salesNow v_outNow v_isKept v_keptStalls v_now v_aside v_kept v_oneOf v_otherOf v_signOf v_byOf v_tape v_said v_waitsAt v_saidLetter v_saidFrom v_saidHalf v_saidTo v_codes v_clauseOf v_codeFrom v_codeHalf v_codeTo v_stack v_facts v_newOne v_newOther v_newSign v_newBy n_moreOf n_firstOf v_toldOf v_mostOf v_mostThen v_sumTo v_rowFrom v_ordersOf v_lessOf v_weightOf v_rowNow v_slowRow v_fastRow v_lineNow v_firstLine v_freeBy v_heldBy v_heightOf v_upTo v_downTo v_oftenOf v_newUpper v_newLower))) := by
  refine hdrZ (own := RX10) rfl (by decide +kernel) (Nat.le_of_ble_eq_true rfl) ?_
  intro p e s m args below meth c Q A X hQ
  refine g_lvE (lv2 := [(0, .ref h), (1, vI p0)]) rfl ?_
  refine g_aload_n X dX10_canBeToo_0 0 rfl ?_
  refine g_aload_n X dX10_canBeToo_1 0 rfl ?_
  refine gM_get X 0 rfl 33 (by decide) uw1212 rfl dX10_canBeToo_2 ?_
  refine g_aload_n X dX10_canBeToo_5 0 rfl ?_
  refine gM_get X 0 rfl 34 (by decide) uw1213 rfl dX10_canBeToo_6 ?_
  refine g_aload_n X dX10_canBeToo_9 0 rfl ?_
  refine gM_get X 0 rfl 35 (by decide) uw1214 rfl dX10_canBeToo_10 ?_
  refine g_aload_n X dX10_canBeToo_13 0 rfl ?_
  refine gM_get X 0 rfl 36 (by decide) uw1215 rfl dX10_canBeToo_14 ?_
  refine g_iload_n X dX10_canBeToo_17 1 rfl ?_
  refine g_callVV0 X (c_X10_laysKnown_n l D cI cB cJ h q (p4 := p0) r_v_newOne r_v_newOther r_v_newSign r_v_newBy r_v_moreOf r_v_firstOf (by first | assumption | omega) (by first | assumption | omega)) cv_X10_laysKnown uw1502 ⟨rfl, rfl, by decide, by decide⟩ 0 rfl rfl rfl rfl rfl (Nat.le_of_ble_eq_true rfl) ⟨Nat.zero_le _, Nat.zero_le _⟩ dX10_canBeToo_18 (fun ws18 k18 => ?_)
  obtain ⟨moreOf_18, firstOf_18, r_moreOf_18, r_firstOf_18, kp0_18, rfl⟩ := k18
  refine g_aload_n X dX10_canBeToo_21 0 rfl ?_
  refine gM_get X 0 rfl 39 (by decide) uw1218 rfl dX10_canBeToo_22 ?_
  refine g_aload_n X dX10_canBeToo_25 0 rfl ?_
  refine gM_get X 0 rfl 33 (by decide) uw1212 rfl dX10_canBeToo_26 ?_
  refine g_iload_n X dX10_canBeToo_29 1 rfl ?_
  refine g_iald X 22 0 rfl rfl (by omega) (by decide) dX10_canBeToo_30 (fun t30 e30 => ?_)
  have r30 := r_v_newOne (p0 : Int).toNat; rw [← e30] at r30
  refine g_iald X 27 0 rfl rfl (by omega) (by decide) dX10_canBeToo_31 (fun t31 e31 => ?_)
  have r31 := r_firstOf_18 (t30 : Int).toNat; rw [← e31] at r31
  refine g_aload_n X dX10_canBeToo_32 0 rfl ?_
  refine gM_get X 0 rfl 39 (by decide) uw1218 rfl dX10_canBeToo_33 ?_
  refine g_aload_n X dX10_canBeToo_36 0 rfl ?_
  refine gM_get X 0 rfl 34 (by decide) uw1213 rfl dX10_canBeToo_37 ?_
  refine g_iload_n X dX10_canBeToo_40 1 rfl ?_
  refine g_iald X 23 0 rfl rfl (by omega) (by decide) dX10_canBeToo_41 (fun t41 e41 => ?_)
  have r41 := r_v_newOther (p0 : Int).toNat; rw [← e41] at r41
  refine g_iald X 27 0 rfl rfl (by omega) (by decide) dX10_canBeToo_42 (fun t42 e42 => ?_)
  have r42 := r_firstOf_18 (t41 : Int).toNat; rw [← e42] at r42
  refine g_icmp_ne X (tgt := 78) dX10_canBeToo_43 (by decide) (by omega) (by omega) (fun c43 => ?_) (fun c43 => ?_)
  · refine g_iconst X dX10_canBeToo_78 ?_
    refine g_goto X (tgt := 83) dX10_canBeToo_79 (by decide) ?_
    have ha : t31 = (kn v_newOne v_newOther v_newSign v_newBy p0.toNat).1 (v_newOne p0.toNat).toNat := by rw [e31, ← e30]; exact (kp0_18 _ (by omega)).1
    have hb : t42 = (kn v_newOne v_newOther v_newSign v_newBy p0.toNat).1 (v_newOther p0.toNat).toNat := by rw [e42, ← e41]; exact (kp0_18 _ (by omega)).1
    try (have hc : t56 = (kn v_newOne v_newOther v_newSign v_newBy p0.toNat).2 (v_newOne p0.toNat).toNat := by rw [e56, ← e55]; exact (kp0_18 _ (by omega)).2)
    try (have hd : t67 = (kn v_newOne v_newOther v_newSign v_newBy p0.toNat).2 (v_newOther p0.toNat).toNat := by rw [e67, ← e66]; exact (kp0_18 _ (by omega)).2)
    exact hQ _ _ _ _ dX10_canBeToo_83 ⟨by omega, ⟨moreOf_18, firstOf_18, r_moreOf_18, r_firstOf_18, (by first | exact Or.inl ⟨rfl, fun h => absurd h.1 (by omega)⟩ | exact Or.inl ⟨rfl, fun h => h.2 (by have i := cg_of e68 r68; unfold CG at *; omega)⟩ | exact Or.inr ⟨rfl, by omega, by have i := cg_of e68 r68; unfold CG at *; omega⟩), rfl⟩⟩
  · refine g_aload_n X dX10_canBeToo_46 0 rfl ?_
    refine gM_get X 0 rfl 38 (by decide) uw1217 rfl dX10_canBeToo_47 ?_
    refine g_aload_n X dX10_canBeToo_50 0 rfl ?_
    refine gM_get X 0 rfl 33 (by decide) uw1212 rfl dX10_canBeToo_51 ?_
    refine g_iload_n X dX10_canBeToo_54 1 rfl ?_
    refine g_iald X 22 0 rfl rfl (by omega) (by decide) dX10_canBeToo_55 (fun t55 e55 => ?_)
    have r55 := r_v_newOne (p0 : Int).toNat; rw [← e55] at r55
    refine g_iald X 26 0 rfl rfl (by omega) (by decide) dX10_canBeToo_56 (fun t56 e56 => ?_)
    have r56 := r_moreOf_18 (t55 : Int).toNat; rw [← e56] at r56
    refine g_aload_n X dX10_canBeToo_57 0 rfl ?_
    refine gM_get X 0 rfl 38 (by decide) uw1217 rfl dX10_canBeToo_58 ?_
    refine g_aload_n X dX10_canBeToo_61 0 rfl ?_
    refine gM_get X 0 rfl 34 (by decide) uw1213 rfl dX10_canBeToo_62 ?_
    refine g_iload_n X dX10_canBeToo_65 1 rfl ?_
    refine g_iald X 23 0 rfl rfl (by omega) (by decide) dX10_canBeToo_66 (fun t66 e66 => ?_)
    have r66 := r_v_newOther (p0 : Int).toNat; rw [← e66] at r66
    refine g_iald X 26 0 rfl rfl (by omega) (by decide) dX10_canBeToo_67 (fun t67 e67 => ?_)
    have r67 := r_moreOf_18 (t66 : Int).toNat; rw [← e67] at r67
    refine g_isub X dX10_canBeToo_68 ?_
    refine g_nr (fun t68 e68 r68 => ?_)
    refine g_aload_n X dX10_canBeToo_69 0 rfl ?_
    refine gM_get X 0 rfl 36 (by decide) uw1215 rfl dX10_canBeToo_70 ?_
    refine g_iload_n X dX10_canBeToo_73 1 rfl ?_
    refine g_iald X 25 0 rfl rfl (by omega) (by decide) dX10_canBeToo_74 (fun t74 e74 => ?_)
    have r74 := r_v_newBy (p0 : Int).toNat; rw [← e74] at r74
    refine g_icmp_ne X (tgt := 82) dX10_canBeToo_75 (by decide) (by omega) (by omega) (fun c75 => ?_) (fun c75 => ?_)
    · refine g_iconst X dX10_canBeToo_82 ?_
      have ha : t31 = (kn v_newOne v_newOther v_newSign v_newBy p0.toNat).1 (v_newOne p0.toNat).toNat := by rw [e31, ← e30]; exact (kp0_18 _ (by omega)).1
      have hb : t42 = (kn v_newOne v_newOther v_newSign v_newBy p0.toNat).1 (v_newOther p0.toNat).toNat := by rw [e42, ← e41]; exact (kp0_18 _ (by omega)).1
      try (have hc : t56 = (kn v_newOne v_newOther v_newSign v_newBy p0.toNat).2 (v_newOne p0.toNat).toNat := by rw [e56, ← e55]; exact (kp0_18 _ (by omega)).2)
      try (have hd : t67 = (kn v_newOne v_newOther v_newSign v_newBy p0.toNat).2 (v_newOther p0.toNat).toNat := by rw [e67, ← e66]; exact (kp0_18 _ (by omega)).2)
      exact hQ _ _ _ _ dX10_canBeToo_83 ⟨by omega, ⟨moreOf_18, firstOf_18, r_moreOf_18, r_firstOf_18, (by first | exact Or.inl ⟨rfl, fun h => absurd h.1 (by omega)⟩ | exact Or.inl ⟨rfl, fun h => h.2 (by have i := cg_of e68 r68; unfold CG at *; omega)⟩ | exact Or.inr ⟨rfl, by omega, by have i := cg_of e68 r68; unfold CG at *; omega⟩), rfl⟩⟩
    · refine g_iconst X dX10_canBeToo_78 ?_
      refine g_goto X (tgt := 83) dX10_canBeToo_79 (by decide) ?_
      have ha : t31 = (kn v_newOne v_newOther v_newSign v_newBy p0.toNat).1 (v_newOne p0.toNat).toNat := by rw [e31, ← e30]; exact (kp0_18 _ (by omega)).1
      have hb : t42 = (kn v_newOne v_newOther v_newSign v_newBy p0.toNat).1 (v_newOther p0.toNat).toNat := by rw [e42, ← e41]; exact (kp0_18 _ (by omega)).1
      try (have hc : t56 = (kn v_newOne v_newOther v_newSign v_newBy p0.toNat).2 (v_newOne p0.toNat).toNat := by rw [e56, ← e55]; exact (kp0_18 _ (by omega)).2)
      try (have hd : t67 = (kn v_newOne v_newOther v_newSign v_newBy p0.toNat).2 (v_newOther p0.toNat).toNat := by rw [e67, ← e66]; exact (kp0_18 _ (by omega)).2)
      exact hQ _ _ _ _ dX10_canBeToo_83 ⟨by omega, ⟨moreOf_18, firstOf_18, r_moreOf_18, r_firstOf_18, (by first | exact Or.inl ⟨rfl, fun h => absurd h.1 (by omega)⟩ | exact Or.inl ⟨rfl, fun h => h.2 (by have i := cg_of e68 r68; unfold CG at *; omega)⟩ | exact Or.inr ⟨rfl, by omega, by have i := cg_of e68 r68; unfold CG at *; omega⟩), rfl⟩⟩
set_option maxHeartbeats 4000000 in
set_option maxRecDepth 100000 in
theorem c_X10_known (l : Launch) (D : va_G) (cI cB cJ : ClassId) (h : Nat) (q : Nat → Nat) {v_stalls v_claimMany v_taped v_place0 v_length0 v_fault v_number0 v_open v_codeMany v_waiting v_saidMany v_clauses v_newMany v_newStalls v_lines v_salesNow v_outNow v_isKept v_keptStalls : Int} {v_now v_aside v_kept v_oneOf v_otherOf v_signOf v_byOf v_tape v_said v_waitsAt v_saidLetter v_saidFrom v_saidHalf v_saidTo v_codes v_clauseOf v_codeFrom v_codeHalf v_codeTo v_stack v_facts v_newOne v_newOther v_newSign v_newBy v_moreOf v_firstOf v_toldOf v_mostOf v_mostThen v_sumTo v_rowFrom v_ordersOf v_lessOf v_weightOf v_rowNow v_slowRow v_fastRow v_lineNow v_firstLine v_freeBy v_heldBy v_heightOf v_upTo v_downTo v_oftenOf v_newUpper v_newLower : Nat → Int} {p0 p1 : Int} (kr_v_claimMany : 0 ≤ v_claimMany ∧ v_claimMany ≤ 40) (r_v_oneOf : RA 0 11 v_oneOf) (r_v_otherOf : RA 0 11 v_otherOf) (r_v_signOf : RA (-2147483648) 2147483647 v_signOf) (r_v_byOf : RA (-9999) 9999 v_byOf) (r_v_moreOf : RA (-2147483648) 2147483647 v_moreOf) (r_v_firstOf : RA 0 11 v_firstOf) (hp0 : IR p0) (hp1 : IR p1) : CtI l yX10_known cX10_known 3 (some .int) ⟨2, 0, 0, 52⟩ D (TY cI cB cJ) (wX10 cI cB cJ h q v_stalls v_claimMany v_taped v_place0 v_length0 v_fault v_number0 v_open v_codeMany v_waiting v_saidMany v_clauses v_newMany v_newStalls v_lines v_salesNow v_outNow v_isKept v_keptStalls v_now v_aside v_kept v_oneOf v_otherOf v_signOf v_byOf v_tape v_said v_waitsAt v_saidLetter v_saidFrom v_saidHalf v_saidTo v_codes v_clauseOf v_codeFrom v_codeHalf v_codeTo v_stack v_facts v_newOne v_newOther v_newSign v_newBy v_moreOf v_firstOf v_toldOf v_mostOf v_mostThen v_sumTo v_rowFrom v_ordersOf v_lessOf v_weightOf v_rowNow v_slowRow v_fastRow v_lineNow v_firstLine v_freeBy v_heldBy v_heightOf v_upTo v_downTo v_oftenOf v_newUpper v_newLower) [.ref h, vI p0, vI p1] (fun z ws' => ∃ n_moreOf : Nat → Int, ∃ n_firstOf : Nat → Int, (RA (-2147483648) 2147483647 n_moreOf) ∧ (RA 0 11 n_firstOf) ∧ (IR z) ∧ (((0 ≤ p0 ∧ p0 ≤ 11 ∧ 0 ≤ p1 ∧ p1 ≤ 11) ∧ z = dfA (kn v_oneOf v_otherOf v_signOf v_byOf v_claimMany.toNat).1 (kn v_oneOf v_otherOf v_signOf v_byOf v_claimMany.toNat).2 p0 p1) ∨ (¬ (0 ≤ p0 ∧ p0 ≤ 11 ∧ 0 ≤ p1 ∧ p1 ≤ 11) ∧ z = -1000000)) ∧ (ws' = (wX10 cI cB cJ h q v_stalls v_claimMany v_taped v_place0 v_length0 v_fault v_number0 v_open v_codeMany v_waiting v_saidMany v_clauses v_newMany v_newStalls v_lines v_salesNow v_outNow v_isKept v_keptStalls v_now v_aside v_kept v_oneOf v_otherOf v_signOf v_byOf v_tape v_said v_waitsAt v_saidLetter v_saidFrom v_saidHalf v_saidTo v_codes v_clauseOf v_codeFrom v_codeHalf v_codeTo v_stack v_facts v_newOne v_newOther v_newSign v_newBy n_moreOf n_firstOf v_toldOf v_mostOf v_mostThen v_sumTo v_rowFrom v_ordersOf v_lessOf v_weightOf v_rowNow v_slowRow v_fastRow v_lineNow v_firstLine v_freeBy v_heldBy v_heightOf v_upTo v_downTo v_oftenOf v_newUpper v_newLower))) := by
  refine hdrI (own := RX10) rfl (by decide +kernel) (Nat.le_of_ble_eq_true rfl) ?_
  intro p e s m args below meth c Q A X hQ
  refine g_lvE (lv2 := [(0, .ref h), (1, vI p0), (2, vI p1)]) rfl ?_
  refine g_iload_n X dX10_known_0 1 rfl ?_
  refine g_callSIE X (c_X10_isThing l D cI cB cJ (p0 := p0) (by first | assumption | omega)) cv_X10_isThing uw1488 ⟨rfl, rfl, by decide, by decide⟩ rfl rfl (Nat.le_of_ble_eq_true rfl) ⟨Nat.zero_le _, Nat.zero_le _⟩ dX10_known_1 (fun t1 ws1 k1 => ?_)
  obtain ⟨kb_1, ⟨kp0_1, rfl⟩⟩ := k1
  refine g_if_eq X (tgt := 14) dX10_known_4 (by decide) (by omega) (fun c4 => ?_) (fun c4 => ?_)
  · refine g_ldcw X (z := (-1000000)) dX10_known_14 uw1519 (by decide) ?_
    exact hQ _ _ _ _ dX10_known_17 ⟨v_moreOf, v_firstOf, r_v_moreOf, r_v_firstOf, (by first | assumption | omega), (by first | assumption | omega), rfl⟩
  · refine g_iload_n X dX10_known_7 2 rfl ?_
    refine g_callSIE X (c_X10_isThing l D cI cB cJ (p0 := p1) (by first | assumption | omega)) cv_X10_isThing uw1488 ⟨rfl, rfl, by decide, by decide⟩ rfl rfl (Nat.le_of_ble_eq_true rfl) ⟨Nat.zero_le _, Nat.zero_le _⟩ dX10_known_8 (fun t8 ws8 k8 => ?_)
    obtain ⟨kb_8, ⟨kp0_8, rfl⟩⟩ := k8
    refine g_if_ne X (tgt := 18) dX10_known_11 (by decide) (by omega) (fun c11 => ?_) (fun c11 => ?_)
    · refine g_aload_n X dX10_known_18 0 rfl ?_
      refine g_aload_n X dX10_known_19 0 rfl ?_
      refine gM_get X 0 rfl 3 (by decide) uw1182 rfl dX10_known_20 ?_
      refine g_aload_n X dX10_known_23 0 rfl ?_
      refine gM_get X 0 rfl 4 (by decide) uw1183 rfl dX10_known_24 ?_
      refine g_aload_n X dX10_known_27 0 rfl ?_
      refine gM_get X 0 rfl 5 (by decide) uw1184 rfl dX10_known_28 ?_
      refine g_aload_n X dX10_known_31 0 rfl ?_
      refine gM_get X 0 rfl 6 (by decide) uw1185 rfl dX10_known_32 ?_
      refine g_aload_n X dX10_known_35 0 rfl ?_
      refine gM_get X 0 rfl 8 (by decide) uw1187 rfl dX10_known_36 ?_
      refine g_callVV0 X (c_X10_laysKnown l D cI cB cJ h q (p4 := v_claimMany) r_v_oneOf r_v_otherOf r_v_signOf r_v_byOf r_v_moreOf r_v_firstOf (by first | assumption | omega) (by first | assumption | omega)) cv_X10_laysKnown uw1502 ⟨rfl, rfl, by decide, by decide⟩ 0 rfl rfl rfl rfl rfl (Nat.le_of_ble_eq_true rfl) ⟨Nat.zero_le _, Nat.zero_le _⟩ dX10_known_39 (fun ws39 k39 => ?_)
      obtain ⟨moreOf_39, firstOf_39, r_moreOf_39, r_firstOf_39, kp0_39, rfl⟩ := k39
      refine g_aload_n X dX10_known_42 0 rfl ?_
      refine gM_get X 0 rfl 39 (by decide) uw1218 rfl dX10_known_43 ?_
      refine g_iload_n X dX10_known_46 1 rfl ?_
      refine g_iald X 27 0 rfl rfl (by omega) (by decide) dX10_known_47 (fun t47 e47 => ?_)
      have r47 := r_firstOf_39 (p0 : Int).toNat; rw [← e47] at r47
      refine g_aload_n X dX10_known_48 0 rfl ?_
      refine gM_get X 0 rfl 39 (by decide) uw1218 rfl dX10_known_49 ?_
      refine g_iload_n X dX10_known_52 2 rfl ?_
      refine g_iald X 27 0 rfl rfl (by omega) (by decide) dX10_known_53 (fun t53 e53 => ?_)
      have r53 := r_firstOf_39 (p1 : Int).toNat; rw [← e53] at r53
      refine g_icmp_ne X (tgt := 73) dX10_known_54 (by decide) (by omega) (by omega) (fun c54 => ?_) (fun c54 => ?_)
      · refine g_ldcw X (z := (-1000000)) dX10_known_73 uw1519 (by decide) ?_
        have hd := dfA_e (kn v_oneOf v_otherOf v_signOf v_byOf v_claimMany.toNat).1 (kn v_oneOf v_otherOf v_signOf v_byOf v_claimMany.toNat).2 p0 p1
        have h1 := kp0_39 p0.toNat (by omega)
        have h2 := kp0_39 p1.toNat (by omega)
        try (have h3 := wz_of e69 r69; have h4 : t69 = wz ((kn v_oneOf v_otherOf v_signOf v_byOf v_claimMany.toNat).2 p0.toNat - (kn v_oneOf v_otherOf v_signOf v_byOf v_claimMany.toNat).2 p1.toNat) := by rw [h3, e62, e68, h1.2, h2.2])
        exact hQ _ _ _ _ dX10_known_76 ⟨moreOf_39, firstOf_39, r_moreOf_39, r_firstOf_39, (by first | assumption | omega), (by first | assumption | omega), rfl⟩
      · refine g_aload_n X dX10_known_57 0 rfl ?_
        refine gM_get X 0 rfl 38 (by decide) uw1217 rfl dX10_known_58 ?_
        refine g_iload_n X dX10_known_61 1 rfl ?_
        refine g_iald X 26 0 rfl rfl (by omega) (by decide) dX10_known_62 (fun t62 e62 => ?_)
        have r62 := r_moreOf_39 (p0 : Int).toNat; rw [← e62] at r62
        refine g_aload_n X dX10_known_63 0 rfl ?_
        refine gM_get X 0 rfl 38 (by decide) uw1217 rfl dX10_known_64 ?_
        refine g_iload_n X dX10_known_67 2 rfl ?_
        refine g_iald X 26 0 rfl rfl (by omega) (by decide) dX10_known_68 (fun t68 e68 => ?_)
        have r68 := r_moreOf_39 (p1 : Int).toNat; rw [← e68] at r68
        refine g_isub X dX10_known_69 ?_
        refine g_nr (fun t69 e69 r69 => ?_)
        refine g_goto X (tgt := 76) dX10_known_70 (by decide) ?_
        have hd := dfA_e (kn v_oneOf v_otherOf v_signOf v_byOf v_claimMany.toNat).1 (kn v_oneOf v_otherOf v_signOf v_byOf v_claimMany.toNat).2 p0 p1
        have h1 := kp0_39 p0.toNat (by omega)
        have h2 := kp0_39 p1.toNat (by omega)
        try (have h3 := wz_of e69 r69; have h4 : t69 = wz ((kn v_oneOf v_otherOf v_signOf v_byOf v_claimMany.toNat).2 p0.toNat - (kn v_oneOf v_otherOf v_signOf v_byOf v_claimMany.toNat).2 p1.toNat) := by rw [h3, e62, e68, h1.2, h2.2])
        exact hQ _ _ _ _ dX10_known_76 ⟨moreOf_39, firstOf_39, r_moreOf_39, r_firstOf_39, (by first | assumption | omega), (by first | assumption | omega), rfl⟩
    · refine g_ldcw X (z := (-1000000)) dX10_known_14 uw1519 (by decide) ?_
      exact hQ _ _ _ _ dX10_known_17 ⟨v_moreOf, v_firstOf, r_v_moreOf, r_v_firstOf, (by first | assumption | omega), (by first | assumption | omega), rfl⟩
set_option maxHeartbeats 4000000 in
set_option maxRecDepth 100000 in
theorem c_X10_reckon (l : Launch) (D : va_G) (cI cB cJ : ClassId) {p0 p1 p2 : Int} (hp0 : IR p0) (hp1 : IR p1) (hp2 : IR p2) (hp3 : p0 = 5 ∨ p0 = 6 → p2 ≠ 0) : CtI l yX10_reckon cX10_reckon 3 (some .int) ⟨0, 0, 0, 0⟩ D (TY cI cB cJ) [] [vI p0, vI p1, vI p2] (fun z ws' => (IR z) ∧ (ws' = [])) := by
  refine hdrI (own := RX10) rfl (by decide +kernel) (Nat.le_of_ble_eq_true rfl) ?_
  intro p e s m args below meth c Q A X hQ
  refine g_lvE (lv2 := [(0, vI p0), (1, vI p1), (2, vI p2)]) rfl ?_
  refine g_iload_n X dX10_reckon_0 0 rfl ?_
  refine g_nm (fun sw1 es1 => ?_)
  rcases (show sw1 = 2 ∨ sw1 = 3 ∨ sw1 = 4 ∨ sw1 = 5 ∨ sw1 = 6 ∨ sw1 = 7 ∨ sw1 = 8 ∨ (sw1 < 2 ∨ 8 < sw1) by omega) with hs1 | hs1 | hs1 | hs1 | hs1 | hs1 | hs1 | hs1
  · rw [hs1]
    refine g_tab X (off := 43) (tgt := 44) dX10_reckon_1 (by omega) (by omega) rfl (by decide) ?_
    refine g_iload_n X dX10_reckon_44 1 rfl ?_
    refine g_iload_n X dX10_reckon_45 2 rfl ?_
    refine g_iadd X dX10_reckon_46 ?_
    refine g_nr (fun t46 e46 r46 => ?_)
    exact hQ _ _ _ _ dX10_reckon_47 ⟨(by omega), rfl⟩
  · rw [hs1]
    refine g_tab X (off := 47) (tgt := 48) dX10_reckon_1 (by omega) (by omega) rfl (by decide) ?_
    refine g_iload_n X dX10_reckon_48 1 rfl ?_
    refine g_iload_n X dX10_reckon_49 2 rfl ?_
    refine g_isub X dX10_reckon_50 ?_
    refine g_nr (fun t50 e50 r50 => ?_)
    exact hQ _ _ _ _ dX10_reckon_51 ⟨(by omega), rfl⟩
  · rw [hs1]
    refine g_tab X (off := 51) (tgt := 52) dX10_reckon_1 (by omega) (by omega) rfl (by decide) ?_
    refine g_iload_n X dX10_reckon_52 1 rfl ?_
    refine g_iload_n X dX10_reckon_53 2 rfl ?_
    refine g_imul X dX10_reckon_54 ?_
    refine g_nr (fun t54 e54 r54 => ?_)
    exact hQ _ _ _ _ dX10_reckon_55 ⟨(by omega), rfl⟩
  · rw [hs1]
    refine g_tab X (off := 55) (tgt := 56) dX10_reckon_1 (by omega) (by omega) rfl (by decide) ?_
    refine g_iload_n X dX10_reckon_56 1 rfl ?_
    refine g_iload_n X dX10_reckon_57 2 rfl ?_
    refine g_idivT X dX10_reckon_58 (by omega) (by omega) ?_
    refine g_nr (fun t58 e58 r58 => ?_)
    exact hQ _ _ _ _ dX10_reckon_59 ⟨(by omega), rfl⟩
  · rw [hs1]
    refine g_tab X (off := 59) (tgt := 60) dX10_reckon_1 (by omega) (by omega) rfl (by decide) ?_
    refine g_iload_n X dX10_reckon_60 1 rfl ?_
    refine g_iload_n X dX10_reckon_61 2 rfl ?_
    refine g_iremT X dX10_reckon_62 (by omega) (by omega) ?_
    refine g_nr (fun t62 e62 r62 => ?_)
    exact hQ _ _ _ _ dX10_reckon_63 ⟨(by omega), rfl⟩
  · rw [hs1]
    refine g_tab X (off := 63) (tgt := 64) dX10_reckon_1 (by omega) (by omega) rfl (by decide) ?_
    refine g_iload_n X dX10_reckon_64 1 rfl ?_
    refine g_iload_n X dX10_reckon_65 2 rfl ?_
    refine g_icmp_ge X (tgt := 73) dX10_reckon_66 (by decide) (by omega) (by omega) (fun c66 => ?_) (fun c66 => ?_)
    · refine g_iconst X dX10_reckon_73 ?_
      exact hQ _ _ _ _ dX10_reckon_74 ⟨(by omega), rfl⟩
    · refine g_iconst X dX10_reckon_69 ?_
      refine g_goto X (tgt := 74) dX10_reckon_70 (by decide) ?_
      exact hQ _ _ _ _ dX10_reckon_74 ⟨(by omega), rfl⟩
  · rw [hs1]
    refine g_tab X (off := 74) (tgt := 75) dX10_reckon_1 (by omega) (by omega) rfl (by decide) ?_
    refine g_iload_n X dX10_reckon_75 1 rfl ?_
    refine g_iload_n X dX10_reckon_76 2 rfl ?_
    refine g_icmp_le X (tgt := 84) dX10_reckon_77 (by decide) (by omega) (by omega) (fun c77 => ?_) (fun c77 => ?_)
    · refine g_iconst X dX10_reckon_84 ?_
      exact hQ _ _ _ _ dX10_reckon_85 ⟨(by omega), rfl⟩
    · refine g_iconst X dX10_reckon_80 ?_
      refine g_goto X (tgt := 85) dX10_reckon_81 (by decide) ?_
      exact hQ _ _ _ _ dX10_reckon_85 ⟨(by omega), rfl⟩
  · refine g_tabD X (tgt := 86) dX10_reckon_1 (by omega) hs1 (by decide) ?_
    refine g_iload_n X dX10_reckon_86 1 rfl ?_
    refine g_iload_n X dX10_reckon_87 2 rfl ?_
    refine g_icmp_ne X (tgt := 95) dX10_reckon_88 (by decide) (by omega) (by omega) (fun c88 => ?_) (fun c88 => ?_)
    · refine g_iconst X dX10_reckon_95 ?_
      exact hQ _ _ _ _ dX10_reckon_96 ⟨(by omega), rfl⟩
    · refine g_iconst X dX10_reckon_91 ?_
      refine g_goto X (tgt := 96) dX10_reckon_92 (by decide) ?_
      exact hQ _ _ _ _ dX10_reckon_96 ⟨(by omega), rfl⟩
set_option maxHeartbeats 4000000 in
set_option maxRecDepth 100000 in
theorem c_X10_claimHolds (l : Launch) (D : va_G) (cI cB cJ : ClassId) (h : Nat) (q : Nat → Nat) {v_stalls v_claimMany v_taped v_place0 v_length0 v_fault v_number0 v_open v_codeMany v_waiting v_saidMany v_clauses v_newMany v_newStalls v_lines v_salesNow v_outNow v_isKept v_keptStalls : Int} {v_now v_aside v_kept v_oneOf v_otherOf v_signOf v_byOf v_tape v_said v_waitsAt v_saidLetter v_saidFrom v_saidHalf v_saidTo v_codes v_clauseOf v_codeFrom v_codeHalf v_codeTo v_stack v_facts v_newOne v_newOther v_newSign v_newBy v_moreOf v_firstOf v_toldOf v_mostOf v_mostThen v_sumTo v_rowFrom v_ordersOf v_lessOf v_weightOf v_rowNow v_slowRow v_fastRow v_lineNow v_firstLine v_freeBy v_heldBy v_heightOf v_upTo v_downTo v_oftenOf v_newUpper v_newLower : Nat → Int} {p0 : Int} (r_v_oneOf : RA 0 11 v_oneOf) (r_v_otherOf : RA 0 11 v_otherOf) (r_v_signOf : RA (-2147483648) 2147483647 v_signOf) (r_v_byOf : RA (-9999) 9999 v_byOf) (r_v_weightOf : RA (-2147483648) 2147483647 v_weightOf) (hp0 : IR p0) (hp1 : 0 ≤ p0 ∧ p0 ≤ 39) : CtI l yX10_claimHolds cX10_claimHolds 3 (some .boolean) ⟨0, 0, 0, 0⟩ D (TY cI cB cJ) (wX10 cI cB cJ h q v_stalls v_claimMany v_taped v_place0 v_length0 v_fault v_number0 v_open v_codeMany v_waiting v_saidMany v_clauses v_newMany v_newStalls v_lines v_salesNow v_outNow v_isKept v_keptStalls v_now v_aside v_kept v_oneOf v_otherOf v_signOf v_byOf v_tape v_said v_waitsAt v_saidLetter v_saidFrom v_saidHalf v_saidTo v_codes v_clauseOf v_codeFrom v_codeHalf v_codeTo v_stack v_facts v_newOne v_newOther v_newSign v_newBy v_moreOf v_firstOf v_toldOf v_mostOf v_mostThen v_sumTo v_rowFrom v_ordersOf v_lessOf v_weightOf v_rowNow v_slowRow v_fastRow v_lineNow v_firstLine v_freeBy v_heldBy v_heightOf v_upTo v_downTo v_oftenOf v_newUpper v_newLower) [.ref h, vI p0] (fun z ws' => (z = 0 ∨ z = 1) ∧ (ws' = (wX10 cI cB cJ h q v_stalls v_claimMany v_taped v_place0 v_length0 v_fault v_number0 v_open v_codeMany v_waiting v_saidMany v_clauses v_newMany v_newStalls v_lines v_salesNow v_outNow v_isKept v_keptStalls v_now v_aside v_kept v_oneOf v_otherOf v_signOf v_byOf v_tape v_said v_waitsAt v_saidLetter v_saidFrom v_saidHalf v_saidTo v_codes v_clauseOf v_codeFrom v_codeHalf v_codeTo v_stack v_facts v_newOne v_newOther v_newSign v_newBy v_moreOf v_firstOf v_toldOf v_mostOf v_mostThen v_sumTo v_rowFrom v_ordersOf v_lessOf v_weightOf v_rowNow v_slowRow v_fastRow v_lineNow v_firstLine v_freeBy v_heldBy v_heightOf v_upTo v_downTo v_oftenOf v_newUpper v_newLower))) := by
  refine hdrZ (own := RX10) rfl (by decide +kernel) (Nat.le_of_ble_eq_true rfl) ?_
  intro p e s m args below meth c Q A X hQ
  refine g_lvE (lv2 := [(0, .ref h), (1, vI p0)]) rfl ?_
  refine g_aload_n X dX10_claimHolds_0 0 rfl ?_
  refine gM_get X 0 rfl 47 (by decide) uw1226 rfl dX10_claimHolds_1 ?_
  refine g_aload_n X dX10_claimHolds_4 0 rfl ?_
  refine gM_get X 0 rfl 3 (by decide) uw1182 rfl dX10_claimHolds_5 ?_
  refine g_iload_n X dX10_claimHolds_8 1 rfl ?_
  refine g_iald X 4 0 rfl rfl (by omega) (by decide) dX10_claimHolds_9 (fun t9 e9 => ?_)
  have r9 := r_v_oneOf (p0 : Int).toNat; rw [← e9] at r9
  refine g_iald X 35 0 rfl rfl (by omega) (by decide) dX10_claimHolds_10 (fun t10 e10 => ?_)
  have r10 := r_v_weightOf (t9 : Int).toNat; rw [← e10] at r10
  refine g_aload_n X dX10_claimHolds_11 0 rfl ?_
  refine gM_get X 0 rfl 47 (by decide) uw1226 rfl dX10_claimHolds_12 ?_
  refine g_aload_n X dX10_claimHolds_15 0 rfl ?_
  refine gM_get X 0 rfl 4 (by decide) uw1183 rfl dX10_claimHolds_16 ?_
  refine g_iload_n X dX10_claimHolds_19 1 rfl ?_
  refine g_iald X 5 0 rfl rfl (by omega) (by decide) dX10_claimHolds_20 (fun t20 e20 => ?_)
  have r20 := r_v_otherOf (p0 : Int).toNat; rw [← e20] at r20
  refine g_iald X 35 0 rfl rfl (by omega) (by decide) dX10_claimHolds_21 (fun t21 e21 => ?_)
  have r21 := r_v_weightOf (t20 : Int).toNat; rw [← e21] at r21
  refine g_isub X dX10_claimHolds_22 ?_
  refine g_nr (fun t22 e22 r22 => ?_)
  refine g_istore_n X (lv' := [(2, vI t22), (0, .ref h), (1, vI p0)]) dX10_claimHolds_23 (by decide) rfl ?_
  refine g_aload_n X dX10_claimHolds_24 1 rfl ?_
  refine gM_get X 0 rfl 5 (by decide) uw1184 rfl dX10_claimHolds_25 ?_
  refine g_iload_n X dX10_claimHolds_28 2 rfl ?_
  refine g_iald X 6 0 rfl rfl (by omega) (by decide) dX10_claimHolds_29 (fun t29 e29 => ?_)
  have r29 := r_v_signOf (p0 : Int).toNat; rw [← e29] at r29
  refine g_if_ne X (tgt := 51) dX10_claimHolds_30 (by decide) (by omega) (fun c30 => ?_) (fun c30 => ?_)
  · refine g_aload_n X dX10_claimHolds_51 1 rfl ?_
    refine gM_get X 0 rfl 5 (by decide) uw1184 rfl dX10_claimHolds_52 ?_
    refine g_iload_n X dX10_claimHolds_55 2 rfl ?_
    refine g_iald X 6 0 rfl rfl (by omega) (by decide) dX10_claimHolds_56 (fun t56 e56 => ?_)
    have r56 := r_v_signOf (p0 : Int).toNat; rw [← e56] at r56
    refine g_iconst X dX10_claimHolds_57 ?_
    refine g_icmp_ne X (tgt := 79) dX10_claimHolds_58 (by decide) (by omega) (by omega) (fun c58 => ?_) (fun c58 => ?_)
    · refine g_iload_n X dX10_claimHolds_79 0 rfl ?_
      refine g_aload_n X dX10_claimHolds_80 1 rfl ?_
      refine gM_get X 0 rfl 6 (by decide) uw1185 rfl dX10_claimHolds_81 ?_
      refine g_iload_n X dX10_claimHolds_84 2 rfl ?_
      refine g_iald X 7 0 rfl rfl (by omega) (by decide) dX10_claimHolds_85 (fun t85 e85 => ?_)
      have r85 := r_v_byOf (p0 : Int).toNat; rw [← e85] at r85
      refine g_icmp_lt X (tgt := 93) dX10_claimHolds_86 (by decide) (by omega) (by omega) (fun c86 => ?_) (fun c86 => ?_)
      · refine g_iconst X dX10_claimHolds_93 ?_
        exact hQ _ _ _ _ dX10_claimHolds_94 ⟨by omega, rfl⟩
      · refine g_iconst X dX10_claimHolds_89 ?_
        refine g_goto X (tgt := 94) dX10_claimHolds_90 (by decide) ?_
        exact hQ _ _ _ _ dX10_claimHolds_94 ⟨by omega, rfl⟩
    · refine g_iload_n X dX10_claimHolds_61 0 rfl ?_
      refine g_aload_n X dX10_claimHolds_62 1 rfl ?_
      refine gM_get X 0 rfl 6 (by decide) uw1185 rfl dX10_claimHolds_63 ?_
      refine g_iload_n X dX10_claimHolds_66 2 rfl ?_
      refine g_iald X 7 0 rfl rfl (by omega) (by decide) dX10_claimHolds_67 (fun t67 e67 => ?_)
      have r67 := r_v_byOf (p0 : Int).toNat; rw [← e67] at r67
      refine g_icmp_gt X (tgt := 75) dX10_claimHolds_68 (by decide) (by omega) (by omega) (fun c68 => ?_) (fun c68 => ?_)
      · refine g_iconst X dX10_claimHolds_75 ?_
        refine g_goto X (tgt := 94) dX10_claimHolds_76 (by decide) ?_
        exact hQ _ _ _ _ dX10_claimHolds_94 ⟨by omega, rfl⟩
      · refine g_iconst X dX10_claimHolds_71 ?_
        refine g_goto X (tgt := 94) dX10_claimHolds_72 (by decide) ?_
        exact hQ _ _ _ _ dX10_claimHolds_94 ⟨by omega, rfl⟩
  · refine g_iload_n X dX10_claimHolds_33 0 rfl ?_
    refine g_aload_n X dX10_claimHolds_34 1 rfl ?_
    refine gM_get X 0 rfl 6 (by decide) uw1185 rfl dX10_claimHolds_35 ?_
    refine g_iload_n X dX10_claimHolds_38 2 rfl ?_
    refine g_iald X 7 0 rfl rfl (by omega) (by decide) dX10_claimHolds_39 (fun t39 e39 => ?_)
    have r39 := r_v_byOf (p0 : Int).toNat; rw [← e39] at r39
    refine g_icmp_ne X (tgt := 47) dX10_claimHolds_40 (by decide) (by omega) (by omega) (fun c40 => ?_) (fun c40 => ?_)
    · refine g_iconst X dX10_claimHolds_47 ?_
      refine g_goto X (tgt := 94) dX10_claimHolds_48 (by decide) ?_
      exact hQ _ _ _ _ dX10_claimHolds_94 ⟨by omega, rfl⟩
    · refine g_iconst X dX10_claimHolds_43 ?_
      refine g_goto X (tgt := 94) dX10_claimHolds_44 (by decide) ?_
      exact hQ _ _ _ _ dX10_claimHolds_94 ⟨by omega, rfl⟩
