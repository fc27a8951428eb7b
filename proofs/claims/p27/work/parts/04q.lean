set_option maxHeartbeats 4000000 in
set_option maxRecDepth 100000 in
theorem c_X10_areAlike (l : Launch) (D : va_G) (cI cB cJ : ClassId) (h : Nat) (q : Nat → Nat) {v_stalls v_claimMany v_taped v_place0 v_length0 v_fault v_number0 v_open v_codeMany v_waiting v_saidMany v_clauses v_newMany v_newStalls v_lines v_salesNow v_outNow v_isKept v_keptStalls : Int} {v_now v_aside v_kept v_oneOf v_otherOf v_signOf v_byOf v_tape v_said v_waitsAt v_saidLetter v_saidFrom v_saidHalf v_saidTo v_codes v_clauseOf v_codeFrom v_codeHalf v_codeTo v_stack v_facts v_newOne v_newOther v_newSign v_newBy v_moreOf v_firstOf v_toldOf v_mostOf v_mostThen v_sumTo v_rowFrom v_ordersOf v_lessOf v_weightOf v_rowNow v_slowRow v_fastRow v_lineNow v_firstLine v_freeBy v_heldBy v_heightOf v_upTo v_downTo v_oftenOf v_newUpper v_newLower : Nat → Int} {p0 : Int} (r_v_rowNow : True) (hp0 : IR p0) (hp1 : p0 ≤ 12) (hp2 : ∀ j : Nat, (j : Int) < p0 → -1000000000000 ≤ v_rowNow j ∧ v_rowNow j ≤ 1000000000000) : CtI l yX10_areAlike cX10_areAlike 3 (some .boolean) ⟨0, 0, 0, 0⟩ D (TY cI cB cJ) (wX10 cI cB cJ h q v_stalls v_claimMany v_taped v_place0 v_length0 v_fault v_number0 v_open v_codeMany v_waiting v_saidMany v_clauses v_newMany v_newStalls v_lines v_salesNow v_outNow v_isKept v_keptStalls v_now v_aside v_kept v_oneOf v_otherOf v_signOf v_byOf v_tape v_said v_waitsAt v_saidLetter v_saidFrom v_saidHalf v_saidTo v_codes v_clauseOf v_codeFrom v_codeHalf v_codeTo v_stack v_facts v_newOne v_newOther v_newSign v_newBy v_moreOf v_firstOf v_toldOf v_mostOf v_mostThen v_sumTo v_rowFrom v_ordersOf v_lessOf v_weightOf v_rowNow v_slowRow v_fastRow v_lineNow v_firstLine v_freeBy v_heldBy v_heightOf v_upTo v_downTo v_oftenOf v_newUpper v_newLower) [.ref h, vI p0] (fun z ws' => (z = 0 ∨ z = 1) ∧ (p0 ≤ 1 → z = 1) ∧ ((z = 1 ∧ ¬ 0 < unA v_rowNow p0.toNat) ∨ (z = 0 ∧ 0 < unA v_rowNow p0.toNat)) ∧ (ws' = (wX10 cI cB cJ h q v_stalls v_claimMany v_taped v_place0 v_length0 v_fault v_number0 v_open v_codeMany v_waiting v_saidMany v_clauses v_newMany v_newStalls v_lines v_salesNow v_outNow v_isKept v_keptStalls v_now v_aside v_kept v_oneOf v_otherOf v_signOf v_byOf v_tape v_said v_waitsAt v_saidLetter v_saidFrom v_saidHalf v_saidTo v_codes v_clauseOf v_codeFrom v_codeHalf v_codeTo v_stack v_facts v_newOne v_newOther v_newSign v_newBy v_moreOf v_firstOf v_toldOf v_mostOf v_mostThen v_sumTo v_rowFrom v_ordersOf v_lessOf v_weightOf v_rowNow v_slowRow v_fastRow v_lineNow v_firstLine v_freeBy v_heldBy v_heightOf v_upTo v_downTo v_oftenOf v_newUpper v_newLower))) := by
  refine hdrZ (own := RX10) rfl (by decide +kernel) (Nat.le_of_ble_eq_true rfl) ?_
  intro p e s m args below meth c Q A X hQ
  refine g_lvE (lv2 := [(0, .ref h), (1, vI p0)]) rfl ?_
  refine g_iconst X dX10_areAlike_0 ?_
  refine g_istore_n X (lv' := [(2, vI 1), (0, .ref h), (1, vI p0)]) dX10_areAlike_1 (by decide) rfl ?_
  have L2 : ∀ (n : Nat) (x2_2 : Int), (1 ≤ x2_2 ∧ x2_2 ≤ 12 ∧ (x2_2 = 1 ∨ x2_2 ≤ p0)) → (∀ j : Nat, (j : Int) < x2_2 → v_rowNow j = v_rowNow 0) → (12 - x2_2).toNat < n → GG p l e ⟨0, 0, 0, 0⟩ s m args below meth c 0 0 Q D A s.heap 3 (wX10 cI cB cJ h q v_stalls v_claimMany v_taped v_place0 v_length0 v_fault v_number0 v_open v_codeMany v_waiting v_saidMany v_clauses v_newMany v_newStalls v_lines v_salesNow v_outNow v_isKept v_keptStalls v_now v_aside v_kept v_oneOf v_otherOf v_signOf v_byOf v_tape v_said v_waitsAt v_saidLetter v_saidFrom v_saidHalf v_saidTo v_codes v_clauseOf v_codeFrom v_codeHalf v_codeTo v_stack v_facts v_newOne v_newOther v_newSign v_newBy v_moreOf v_firstOf v_toldOf v_mostOf v_mostThen v_sumTo v_rowFrom v_ordersOf v_lessOf v_weightOf v_rowNow v_slowRow v_fastRow v_lineNow v_firstLine v_freeBy v_heldBy v_heightOf v_upTo v_downTo v_oftenOf v_newUpper v_newLower) 2 [(0, .ref h), (1, vI p0), (2, vI x2_2)] [] := by
    intro n
    induction n with
    | zero => intros; exfalso; omega
    | succ n ih2 =>
      intro x2_2 w2_0 w2_1 wm2
      refine g_iload_n X dX10_areAlike_2 2 rfl ?_
      refine g_iload_n X dX10_areAlike_3 1 rfl ?_
      refine g_icmp_ge X (tgt := 31) dX10_areAlike_4 (by decide) (by omega) (by omega) (fun c4 => ?_) (fun c4 => ?_)
      · refine g_iconst X dX10_areAlike_31 ?_
        exact hQ _ _ _ _ dX10_areAlike_32 ⟨by omega, ⟨(by first | assumption | omega), (by first | exact Or.inl ⟨rfl, unA_n (fun j hj => w2_1 j (by omega))⟩ | exact Or.inr ⟨rfl, unA_y (j := (x2_2).toNat) (by omega) (by rw [← e12, show v_rowNow 0 = t18 from e18.symm]; omega)⟩), rfl⟩⟩
      · refine g_aload_n X dX10_areAlike_7 0 rfl ?_
        refine gM_get X 0 rfl 48 (by decide) uw1227 rfl dX10_areAlike_8 ?_
        refine g_iload_n X dX10_areAlike_11 2 rfl ?_
        refine g_laldd X 36 2 rfl rfl (by omega) (by decide) dX10_areAlike_12 (fun t12 e12 => ?_)
        have b12 := hp2 (x2_2).toNat (by omega)
        refine g_aload_n X dX10_areAlike_13 0 rfl ?_
        refine gM_get X 0 rfl 48 (by decide) uw1227 rfl dX10_areAlike_14 ?_
        refine g_iconst X dX10_areAlike_17 ?_
        refine g_laldd X 36 2 rfl rfl (by omega) (by decide) dX10_areAlike_18 (fun t18 e18 => ?_)
        have b18 := hp2 ((0 : Int)).toNat (by omega)
        refine g_lcmpI X (by omega) (by omega) dX10_areAlike_19 (fun t19 r19 k19 => ?_)
        refine g_if_eq X (tgt := 25) dX10_areAlike_20 (by decide) (by omega) (fun c20 => ?_) (fun c20 => ?_)
        · refine g_iinc X (lv' := [(2, vI (x2_2 + 1)), (0, .ref h), (1, vI p0)]) dX10_areAlike_25 2 rfl (by decide) rfl ?_
          refine g_goto X (tgt := 2) dX10_areAlike_28 (by decide) ?_
          refine g_lv [1, 2, 0] rfl ?_
          exact ih2 (x2_2 + 1) (by first | assumption | omega) (by intro j hj; first | (have hj0 : j = 0 := (by omega); subst hj0; rfl) | (rcases (show (j : Int) < x2_2 ∨ j = (x2_2).toNat by omega) with h | h; exact w2_1 j h; (rw [h, ← e12, show v_rowNow 0 = t18 from e18.symm]; omega))) (by omega)
        · refine g_iconst X dX10_areAlike_23 ?_
          exact hQ _ _ _ _ dX10_areAlike_24 ⟨by omega, ⟨(by first | assumption | omega), (by first | exact Or.inl ⟨rfl, unA_n (fun j hj => w2_1 j (by omega))⟩ | exact Or.inr ⟨rfl, unA_y (j := (x2_2).toNat) (by omega) (by rw [← e12, show v_rowNow 0 = t18 from e18.symm]; omega)⟩), rfl⟩⟩
  refine g_lv [1, 2, 0] rfl ?_
  exact L2 _ 1 (by first | assumption | omega) (by intro j hj; first | (have hj0 : j = 0 := (by omega); subst hj0; rfl) | (rcases (show (j : Int) < x2_2 ∨ j = (x2_2).toNat by omega) with h | h; exact w2_1 j h; (rw [h, ← e12, show v_rowNow 0 = t18 from e18.symm]; omega))) (Nat.lt_succ_self _)
set_option maxHeartbeats 4000000 in
set_option maxRecDepth 100000 in
theorem c_X10_row (l : Launch) (D : va_G) (cI cB cJ : ClassId) (h : Nat) (q : Nat → Nat) {v_stalls v_claimMany v_taped v_place0 v_length0 v_fault v_number0 v_open v_codeMany v_waiting v_saidMany v_clauses v_newMany v_newStalls v_lines v_salesNow v_outNow v_isKept v_keptStalls : Int} {v_now v_aside v_kept v_oneOf v_otherOf v_signOf v_byOf v_tape v_said v_waitsAt v_saidLetter v_saidFrom v_saidHalf v_saidTo v_codes v_clauseOf v_codeFrom v_codeHalf v_codeTo v_stack v_facts v_newOne v_newOther v_newSign v_newBy v_moreOf v_firstOf v_toldOf v_mostOf v_mostThen v_sumTo v_rowFrom v_ordersOf v_lessOf v_weightOf v_rowNow v_slowRow v_fastRow v_lineNow v_firstLine v_freeBy v_heldBy v_heightOf v_upTo v_downTo v_oftenOf v_newUpper v_newLower : Nat → Int} {p0 p1 : Int} (kr_v_taped : 0 ≤ v_taped ∧ v_taped ≤ 260) (r_v_tape : RA (-128) 127 v_tape) (r_v_rowNow : True) (hp0 : IR p0) (hp1 : IR p1) : CtL l yX10_row cX10_row 7 (some .long) ⟨1, 0, 0, 22⟩ D (TY cI cB cJ) (wX10 cI cB cJ h q v_stalls v_claimMany v_taped v_place0 v_length0 v_fault v_number0 v_open v_codeMany v_waiting v_saidMany v_clauses v_newMany v_newStalls v_lines v_salesNow v_outNow v_isKept v_keptStalls v_now v_aside v_kept v_oneOf v_otherOf v_signOf v_byOf v_tape v_said v_waitsAt v_saidLetter v_saidFrom v_saidHalf v_saidTo v_codes v_clauseOf v_codeFrom v_codeHalf v_codeTo v_stack v_facts v_newOne v_newOther v_newSign v_newBy v_moreOf v_firstOf v_toldOf v_mostOf v_mostThen v_sumTo v_rowFrom v_ordersOf v_lessOf v_weightOf v_rowNow v_slowRow v_fastRow v_lineNow v_firstLine v_freeBy v_heldBy v_heightOf v_upTo v_downTo v_oftenOf v_newUpper v_newLower) [.ref h, vI p0, vI p1] (fun z ws' => ∃ n_taped : Int, ∃ n_rowNow : Nat → Int, (0 ≤ n_taped ∧ n_taped ≤ 260) ∧ (True) ∧ ((0 ≤ p1 ∧ p1 ≤ 1 ∧ 2 ≤ p0 ∧ p0 ≤ 12 ∧ 2 * p0 ≤ v_taped ∧ n_taped = 0) ∨ (¬ (0 ≤ p1 ∧ p1 ≤ 1 ∧ 2 ≤ p0 ∧ p0 ≤ 12 ∧ 2 * p0 ≤ v_taped) ∧ n_taped = v_taped)) ∧ (((0 ≤ p1 ∧ p1 ≤ 1 ∧ 2 ≤ p0 ∧ p0 ≤ 12 ∧ 2 * p0 ≤ v_taped) ∧ z = rwF (oct v_tape) p0 p1) ∨ (¬ (0 ≤ p1 ∧ p1 ≤ 1 ∧ 2 ≤ p0 ∧ p0 ≤ 12 ∧ 2 * p0 ≤ v_taped) ∧ z = -9223372036854775808)) ∧ (ws' = (wX10 cI cB cJ h q v_stalls v_claimMany n_taped v_place0 v_length0 v_fault v_number0 v_open v_codeMany v_waiting v_saidMany v_clauses v_newMany v_newStalls v_lines v_salesNow v_outNow v_isKept v_keptStalls v_now v_aside v_kept v_oneOf v_otherOf v_signOf v_byOf v_tape v_said v_waitsAt v_saidLetter v_saidFrom v_saidHalf v_saidTo v_codes v_clauseOf v_codeFrom v_codeHalf v_codeTo v_stack v_facts v_newOne v_newOther v_newSign v_newBy v_moreOf v_firstOf v_toldOf v_mostOf v_mostThen v_sumTo v_rowFrom v_ordersOf v_lessOf v_weightOf n_rowNow v_slowRow v_fastRow v_lineNow v_firstLine v_freeBy v_heldBy v_heightOf v_upTo v_downTo v_oftenOf v_newUpper v_newLower))) := by
  refine hdrL (own := RX10) rfl (by decide +kernel) (Nat.le_of_ble_eq_true rfl) ?_
  intro p e s m args below meth c Q A X hQ
  refine g_lvE (lv2 := [(0, .ref h), (1, vI p0), (2, vI p1)]) rfl ?_
  refine g_iload_n X dX10_row_0 1 rfl ?_
  refine g_iconst X dX10_row_1 ?_
  refine g_bipush X (z := 12) dX10_row_2 (by decide) ?_
  refine g_callSIE X (c_X10_in l D cI cB cJ (p0 := p0) (p1 := 2) (p2 := 12) (by first | assumption | omega) (by first | assumption | omega) (by first | assumption | omega)) cv_X10_in uw1394 ⟨rfl, rfl, by decide, by decide⟩ rfl rfl (Nat.le_of_ble_eq_true rfl) ⟨Nat.zero_le _, Nat.zero_le _⟩ dX10_row_4 (fun t4 ws4 k4 => ?_)
  obtain ⟨kb_4, ⟨kp0_4, rfl⟩⟩ := k4
  refine g_if_eq X (tgt := 29) dX10_row_7 (by decide) (by omega) (fun c7 => ?_) (fun c7 => ?_)
  · clear kb_4
    replace kp0_4 := (kp0_4.resolve_left (fun h => absurd h.1 (by omega))).2
    refine g_ldc2 X (z := (-9223372036854775808)) dX10_row_29 uw1640 (by decide) ?_
    exact hQ _ _ _ _ dX10_row_32 ⟨v_taped, v_rowNow, (by omega), r_v_rowNow, (by first | assumption | omega), (by first | assumption | omega), rfl⟩
  · replace kb_4 := kb_4.resolve_left (fun h => c7 h)
    replace kp0_4 := kp0_4.resolve_right (fun h => c7 h.1)
    refine g_iload_n X dX10_row_10 2 rfl ?_
    refine g_iconst X dX10_row_11 ?_
    refine g_iconst X dX10_row_12 ?_
    refine g_callSIE X (c_X10_in l D cI cB cJ (p0 := p1) (p1 := 0) (p2 := 1) (by first | assumption | omega) (by first | assumption | omega) (by first | assumption | omega)) cv_X10_in uw1394 ⟨rfl, rfl, by decide, by decide⟩ rfl rfl (Nat.le_of_ble_eq_true rfl) ⟨Nat.zero_le _, Nat.zero_le _⟩ dX10_row_13 (fun t13 ws13 k13 => ?_)
    obtain ⟨kb_13, ⟨kp0_13, rfl⟩⟩ := k13
    refine g_if_eq X (tgt := 29) dX10_row_16 (by decide) (by omega) (fun c16 => ?_) (fun c16 => ?_)
    · clear kb_13
      replace kp0_13 := (kp0_13.resolve_left (fun h => absurd h.1 (by omega))).2
      refine g_ldc2 X (z := (-9223372036854775808)) dX10_row_29 uw1640 (by decide) ?_
      exact hQ _ _ _ _ dX10_row_32 ⟨v_taped, v_rowNow, (by omega), r_v_rowNow, (by first | assumption | omega), (by first | assumption | omega), rfl⟩
    · replace kb_13 := kb_13.resolve_left (fun h => c16 h)
      replace kp0_13 := kp0_13.resolve_right (fun h => c16 h.1)
      refine g_iconst X dX10_row_19 ?_
      refine g_iload_n X dX10_row_20 1 rfl ?_
      refine g_imul X dX10_row_21 ?_
      refine g_aload_n X dX10_row_22 0 rfl ?_
      refine gM_get X 0 rfl 10 (by decide) uw1189 rfl dX10_row_23 ?_
      refine g_icmp_le X (tgt := 33) dX10_row_26 (by decide) (by omega) (by omega) (fun c26 => ?_) (fun c26 => ?_)
      · refine g_aload_n X dX10_row_33 0 rfl ?_
        refine g_iconst X dX10_row_34 ?_
        refine gM_put X 0 rfl 10 (by decide) uw1189 rfl rfl rfl (Nat.le_of_ble_eq_true rfl) dX10_row_35 (ws2 := (wX10 cI cB cJ h q v_stalls v_claimMany 0 v_place0 v_length0 v_fault v_number0 v_open v_codeMany v_waiting v_saidMany v_clauses v_newMany v_newStalls v_lines v_salesNow v_outNow v_isKept v_keptStalls v_now v_aside v_kept v_oneOf v_otherOf v_signOf v_byOf v_tape v_said v_waitsAt v_saidLetter v_saidFrom v_saidHalf v_saidTo v_codes v_clauseOf v_codeFrom v_codeHalf v_codeTo v_stack v_facts v_newOne v_newOther v_newSign v_newBy v_moreOf v_firstOf v_toldOf v_mostOf v_mostThen v_sumTo v_rowFrom v_ordersOf v_lessOf v_weightOf v_rowNow v_slowRow v_fastRow v_lineNow v_firstLine v_freeBy v_heldBy v_heightOf v_upTo v_downTo v_oftenOf v_newUpper v_newLower)) rfl ?_
        refine g_iconst X dX10_row_38 ?_
        refine g_istore_n X (lv' := [(3, vI 0), (0, .ref h), (1, vI p0), (2, vI p1)]) dX10_row_39 (by decide) rfl ?_
        have L40 : ∀ (n : Nat) (x3_40 : Int) (rowNow_40 : Nat → Int), (True) → (0 ≤ x3_40 ∧ x3_40 ≤ p0) → (∀ j : Nat, (j : Int) < x3_40 → rowNow_40 j = dbl (oct v_tape) j) → (p0 - x3_40).toNat < n → GG p l e ⟨1, 0, 0, 22⟩ s m args below meth c 0 0 Q D A s.heap 7 (wX10 cI cB cJ h q v_stalls v_claimMany 0 v_place0 v_length0 v_fault v_number0 v_open v_codeMany v_waiting v_saidMany v_clauses v_newMany v_newStalls v_lines v_salesNow v_outNow v_isKept v_keptStalls v_now v_aside v_kept v_oneOf v_otherOf v_signOf v_byOf v_tape v_said v_waitsAt v_saidLetter v_saidFrom v_saidHalf v_saidTo v_codes v_clauseOf v_codeFrom v_codeHalf v_codeTo v_stack v_facts v_newOne v_newOther v_newSign v_newBy v_moreOf v_firstOf v_toldOf v_mostOf v_mostThen v_sumTo v_rowFrom v_ordersOf v_lessOf v_weightOf rowNow_40 v_slowRow v_fastRow v_lineNow v_firstLine v_freeBy v_heldBy v_heightOf v_upTo v_downTo v_oftenOf v_newUpper v_newLower) 40 [(0, .ref h), (1, vI p0), (2, vI p1), (3, vI x3_40)] [] := by
          intro n
          induction n with
          | zero => intros; exfalso; omega
          | succ n ih40 =>
            intro x3_40 rowNow_40 r_rowNow_40 w40_0 w40_1 wm40
            refine g_iload_n X dX10_row_40 3 rfl ?_
            refine g_iload_n X dX10_row_41 1 rfl ?_
            refine g_icmp_ge X (tgt := 79) dX10_row_42 (by decide) (by omega) (by omega) (fun c42 => ?_) (fun c42 => ?_)
            · refine g_iload_n X dX10_row_79 1 rfl ?_
              refine g_istore_n X (lv' := [(3, vI p0), (0, .ref h), (1, vI p0), (2, vI p1)]) dX10_row_80 (by decide) rfl ?_
              refine g_lconst X (z := 0) dX10_row_81 rfl ?_
              refine g_lstore X (lv' := [(4, .long (zL 0)), (3, vI p0), (0, .ref h), (1, vI p0), (2, vI p1)]) dX10_row_82 (by decide) rfl ?_
              have hc1 : rwD p0.toNat rowNow_40 = rwD p0.toNat (dbl (oct v_tape)) := rwD_c _ _ _ (fun j hj => w40_1 j (by omega))
              have hc2 : rwO p0.toNat rowNow_40 = rwO p0.toNat (dbl (oct v_tape)) := by rw [show p0.toNat = (p0 - 1).toNat + 1 by omega]; exact rwO_c _ _ _ (fun j hj => w40_1 j (by omega))
              have L84 : ∀ (n : Nat) (x3_84 : Int) (x4_84 : Int) (rowNow_84 : Nat → Int), (True) → (1 ≤ x3_84 ∧ x3_84 ≤ p0) → (p0 - x3_84 + rwD (x3_84).toNat rowNow_84 = rwD p0.toNat (dbl (oct v_tape))) → (x4_84 + rwO (x3_84).toNat rowNow_84 = rwO p0.toNat (dbl (oct v_tape))) → (∀ j : Nat, (j : Int) < x3_84 → -bdZ (p0 - x3_84) ≤ rowNow_84 j ∧ rowNow_84 j ≤ bdZ (p0 - x3_84)) → (x3_84).toNat < n → GG p l e ⟨1, 0, 0, 22⟩ s m args below meth c 0 0 Q D A s.heap 7 (wX10 cI cB cJ h q v_stalls v_claimMany 0 v_place0 v_length0 v_fault v_number0 v_open v_codeMany v_waiting v_saidMany v_clauses v_newMany v_newStalls v_lines v_salesNow v_outNow v_isKept v_keptStalls v_now v_aside v_kept v_oneOf v_otherOf v_signOf v_byOf v_tape v_said v_waitsAt v_saidLetter v_saidFrom v_saidHalf v_saidTo v_codes v_clauseOf v_codeFrom v_codeHalf v_codeTo v_stack v_facts v_newOne v_newOther v_newSign v_newBy v_moreOf v_firstOf v_toldOf v_mostOf v_mostThen v_sumTo v_rowFrom v_ordersOf v_lessOf v_weightOf rowNow_84 v_slowRow v_fastRow v_lineNow v_firstLine v_freeBy v_heldBy v_heightOf v_upTo v_downTo v_oftenOf v_newUpper v_newLower) 84 [(0, .ref h), (1, vI p0), (2, vI p1), (3, vI x3_84), (4, .long (zL x4_84))] [] := by
                intro n
                induction n with
                | zero => intros; exfalso; omega
                | succ n ih84 =>
                  intro x3_84 x4_84 rowNow_84 r_rowNow_84 w84_0 w84_1 w84_2 w84_3 wm84
                  refine g_aload_n X dX10_row_84 0 rfl ?_
                  refine g_iload_n X dX10_row_85 3 rfl ?_
                  have hb := bdZ_r (k := p0 - x3_84) (by omega)
                  have hR : ∀ j : Nat, (j : Int) < x3_84 → -1000000000000 ≤ rowNow_84 j ∧ rowNow_84 j ≤ 1000000000000 := fun j hj => by have := w84_3 j hj; omega
                  refine g_callVI0 X (c_X10_areAlike l D cI cB cJ h q (p0 := x3_84) r_rowNow_84 (by first | assumption | omega) (by first | assumption | omega) (by first | assumption | omega)) cv_X10_areAlike uw1645 ⟨rfl, rfl, by decide, by decide⟩ 0 rfl rfl rfl rfl rfl (Nat.le_of_ble_eq_true rfl) ⟨Nat.zero_le _, Nat.zero_le _⟩ dX10_row_86 (fun t86 ws86 k86 => ?_)
                  obtain ⟨kb_86, ⟨kp0_86, kp1_86, rfl⟩⟩ := k86
                  refine g_if_ne X (tgt := 149) dX10_row_89 (by decide) (by omega) (fun c89 => ?_) (fun c89 => ?_)
                  · replace kb_86 := kb_86.resolve_left (fun h => c89 h)
                    replace kp1_86 := kp1_86.resolve_right (fun h => c89 h.1)
                    have hD := rwD_n (f := rowNow_84) (x := x3_84) (by omega)
                    have hO : rwO (x3_84).toNat rowNow_84 = rowNow_84 (0 : Int).toNat := rwO_n (by omega)
                    refine g_iload_n X dX10_row_149 2 rfl ?_
                    refine g_if_ne X (tgt := 160) dX10_row_150 (by decide) (by omega) (fun c150 => ?_) (fun c150 => ?_)
                    · refine g_lload X dX10_row_160 4 rfl ?_
                      refine g_aload_n X dX10_row_162 0 rfl ?_
                      refine gM_get X 0 rfl 48 (by decide) uw1227 rfl dX10_row_163 ?_
                      refine g_iconst X dX10_row_166 ?_
                      refine g_laldd X 36 2 rfl rfl (by omega) (by decide) dX10_row_167 (fun t167 e167 => ?_)
                      refine g_ladd X dX10_row_168 ?_
                      have hF := rwF_e (oct v_tape) p0 p1
                      exact hQ _ _ _ _ dX10_row_169 ⟨0, rowNow_84, (by omega), r_rowNow_84, (by first | assumption | omega), (by first | assumption | omega), rfl⟩
                    · refine g_iload_n X dX10_row_153 1 rfl ?_
                      refine g_iload_n X dX10_row_154 3 rfl ?_
                      refine g_isub X dX10_row_155 ?_
                      refine g_i2l X dX10_row_156 (by omega) ?_
                      refine g_goto X (tgt := 169) dX10_row_157 (by decide) ?_
                      have hF := rwF_e (oct v_tape) p0 p1
                      exact hQ _ _ _ _ dX10_row_169 ⟨0, rowNow_84, (by omega), r_rowNow_84, (by first | assumption | omega), (by first | assumption | omega), rfl⟩
                  · clear kb_86
                    replace kp1_86 := (kp1_86.resolve_left (fun h => absurd h.1 (by omega))).2
                    refine g_iload_n X dX10_row_92 3 rfl ?_
                    refine g_iconst X dX10_row_93 ?_
                    refine g_isub X dX10_row_94 ?_
                    refine g_istore_n X (lv' := [(3, vI (x3_84 - 1)), (0, .ref h), (1, vI p0), (2, vI p1), (4, .long (zL x4_84))]) dX10_row_95 (by decide) rfl ?_
                    refine g_lload X dX10_row_96 4 rfl ?_
                    refine g_aload_n X dX10_row_98 1 rfl ?_
                    refine gM_get X 0 rfl 48 (by decide) uw1227 rfl dX10_row_99 ?_
                    refine g_iload_n X dX10_row_102 0 rfl ?_
                    refine g_laldd X 36 2 rfl rfl (by omega) (by decide) dX10_row_103 (fun t103 e103 => ?_)
                    refine g_ladd X dX10_row_104 ?_
                    refine g_lstore X (lv' := [(4, .long (zL (x4_84 + t103))), (3, vI (x3_84 - 1)), (0, .ref h), (1, vI p0), (2, vI p1)]) dX10_row_105 (by decide) rfl ?_
                    refine g_iconst X dX10_row_107 ?_
                    refine g_istore X (lv' := [(6, vI 0), (4, .long (zL (x4_84 + t103))), (3, vI (x3_84 - 1)), (0, .ref h), (1, vI p0), (2, vI p1)]) dX10_row_108 (by decide) rfl ?_
                    have L110 : ∀ (n : Nat) (x6_110 : Int) (rowNow_110 : Nat → Int), (True) → (0 ≤ x6_110 ∧ x6_110 ≤ (x3_84 - 1)) → (∀ j : Nat, (j : Int) < x6_110 → rowNow_110 j = rowNow_84 (j + 1) - rowNow_84 j) → (∀ j : Nat, x6_110 ≤ (j : Int) → rowNow_110 j = rowNow_84 j) → ((x3_84 - 1) - x6_110).toNat < n → GG p l e ⟨1, 0, 0, 22⟩ s m args below meth c 0 0 Q D A s.heap 7 (wX10 cI cB cJ h q v_stalls v_claimMany 0 v_place0 v_length0 v_fault v_number0 v_open v_codeMany v_waiting v_saidMany v_clauses v_newMany v_newStalls v_lines v_salesNow v_outNow v_isKept v_keptStalls v_now v_aside v_kept v_oneOf v_otherOf v_signOf v_byOf v_tape v_said v_waitsAt v_saidLetter v_saidFrom v_saidHalf v_saidTo v_codes v_clauseOf v_codeFrom v_codeHalf v_codeTo v_stack v_facts v_newOne v_newOther v_newSign v_newBy v_moreOf v_firstOf v_toldOf v_mostOf v_mostThen v_sumTo v_rowFrom v_ordersOf v_lessOf v_weightOf rowNow_110 v_slowRow v_fastRow v_lineNow v_firstLine v_freeBy v_heldBy v_heightOf v_upTo v_downTo v_oftenOf v_newUpper v_newLower) 110 [(0, .ref h), (1, vI p0), (2, vI p1), (3, vI (x3_84 - 1)), (4, .long (zL (x4_84 + t103))), (6, vI x6_110)] [] := by
                      intro n
                      induction n with
                      | zero => intros; exfalso; omega
                      | succ n ih110 =>
                        intro x6_110 rowNow_110 r_rowNow_110 w110_0 w110_1 w110_2 wm110
                        refine g_iload X dX10_row_110 5 rfl ?_
                        refine g_iload_n X dX10_row_112 3 rfl ?_
                        refine g_icmp_ge X (tgt := 146) dX10_row_113 (by decide) (by omega) (by omega) (fun c113 => ?_) (fun c113 => ?_)
                        · refine g_goto X (tgt := 84) dX10_row_146 (by decide) ?_
                          have hg : ∀ j : Nat, (j : Int) + 1 < x3_84 → rowNow_110 j = rowNow_84 (j + 1) - rowNow_84 j := fun j hj => w110_1 j (by omega)
                          have hD := rwD_y (f := rowNow_84) (g := rowNow_110) (x := x3_84) (by omega) hg
                          have hO := rwO_y (f := rowNow_84) (g := rowNow_110) (x := x3_84) (by omega) hg
                          refine g_lv [0, 1, 2, 3, 4] rfl ?_
                          exact ih84 (x3_84 - 1) (x4_84 + t103) rowNow_110 r_rowNow_110 (by first | assumption | omega) (by first | (rw [hc1]; omega) | omega) (by first | (rw [hc2]; omega) | omega) (by intro j hj; first | (rw [hg j (by omega), show p0 - (x3_84 - 1) = p0 - x3_84 + 1 by omega, bdZ_s (by omega)]; have h1 := w84_3 j (by omega); have h2 := w84_3 (j + 1) (by omega); omega) | (have h1 := oct_r v_tape (2 * j); have h2 := oct_r v_tape (2 * j + 1); have h3 := bdZ_r (k := p0 - p0) (by omega); have h4 : rowNow_40 j = 256 * oct v_tape (2 * j) + oct v_tape (2 * j + 1) := w40_1 j (by omega); omega)) (by omega)
                        · refine g_aload_n X dX10_row_116 0 rfl ?_
                          refine gM_get X 0 rfl 48 (by decide) uw1227 rfl dX10_row_117 ?_
                          refine g_iload X dX10_row_120 5 rfl ?_
                          refine g_aload_n X dX10_row_122 0 rfl ?_
                          refine gM_get X 0 rfl 48 (by decide) uw1227 rfl dX10_row_123 ?_
                          refine g_iload X dX10_row_126 5 rfl ?_
                          refine g_iconst X dX10_row_128 ?_
                          refine g_iadd X dX10_row_129 ?_
                          refine g_laldd X 36 2 rfl rfl (by omega) (by decide) dX10_row_130 (fun t130 e130 => ?_)
                          refine g_aload_n X dX10_row_131 0 rfl ?_
                          refine gM_get X 0 rfl 48 (by decide) uw1227 rfl dX10_row_132 ?_
                          refine g_iload X dX10_row_135 5 rfl ?_
                          refine g_laldd X 36 2 rfl rfl (by omega) (by decide) dX10_row_137 (fun t137 e137 => ?_)
                          refine g_lsub X dX10_row_138 ?_
                          refine g_lastt X 36 2 rfl rfl (by omega) (by decide) dX10_row_139 (fun rowNow_139 e139 => ?_)
                          have r_rowNow_139 : True := trivial
                          refine g_ws (ws2 := (wX10 cI cB cJ h q v_stalls v_claimMany 0 v_place0 v_length0 v_fault v_number0 v_open v_codeMany v_waiting v_saidMany v_clauses v_newMany v_newStalls v_lines v_salesNow v_outNow v_isKept v_keptStalls v_now v_aside v_kept v_oneOf v_otherOf v_signOf v_byOf v_tape v_said v_waitsAt v_saidLetter v_saidFrom v_saidHalf v_saidTo v_codes v_clauseOf v_codeFrom v_codeHalf v_codeTo v_stack v_facts v_newOne v_newOther v_newSign v_newBy v_moreOf v_firstOf v_toldOf v_mostOf v_mostThen v_sumTo v_rowFrom v_ordersOf v_lessOf v_weightOf rowNow_139 v_slowRow v_fastRow v_lineNow v_firstLine v_freeBy v_heldBy v_heightOf v_upTo v_downTo v_oftenOf v_newUpper v_newLower)) rfl ?_
                          refine g_iinc X (lv' := [(6, vI (x6_110 + 1)), (0, .ref h), (1, vI p0), (2, vI p1), (3, vI (x3_84 - 1)), (4, .long (zL (x4_84 + t103)))]) dX10_row_140 5 rfl (by decide) rfl ?_
                          refine g_goto X (tgt := 110) dX10_row_143 (by decide) ?_
                          refine g_lv [1, 2, 3, 4, 5, 0] rfl ?_
                          exact ih110 (x6_110 + 1) rowNow_139 r_rowNow_139 (by first | assumption | omega) (by intro j hj; first | (exfalso; omega) | (rw [e139]; exact if hq : j = (x6_110).toNat then by (rw [hq, updZ_s, e130, e137, w110_2 (x6_110 + 1).toNat (by omega), w110_2 (x6_110).toNat (by omega), show (x6_110 + 1).toNat = (x6_110).toNat + 1 by omega]) else by (rw [updZ_n _ _ hq]; exact w110_1 j (by omega)))) (by intro j hj; first | rfl | (rw [e139, updZ_n _ _ (by omega)]; exact w110_2 j (by omega))) (by omega)
                    refine g_lv [3, 4, 5, 2, 1, 0] rfl ?_
                    exact L110 _ 0 rowNow_84 r_rowNow_84 (by first | assumption | omega) (by intro j hj; first | (exfalso; omega) | (rw [e139]; exact if hq : j = (x6_110).toNat then by (rw [hq, updZ_s, e130, e137, w110_2 (x6_110 + 1).toNat (by omega), w110_2 (x6_110).toNat (by omega), show (x6_110 + 1).toNat = (x6_110).toNat + 1 by omega]) else by (rw [updZ_n _ _ hq]; exact w110_1 j (by omega)))) (by intro j hj; first | rfl | (rw [e139, updZ_n _ _ (by omega)]; exact w110_2 j (by omega))) (Nat.lt_succ_self _)
              refine g_lv [2, 3, 4, 1, 0] rfl ?_
              exact L84 _ p0 0 rowNow_40 r_rowNow_40 (by first | assumption | omega) (by first | (rw [hc1]; omega) | omega) (by first | (rw [hc2]; omega) | omega) (by intro j hj; first | (rw [hg j (by omega), show p0 - (x3_84 - 1) = p0 - x3_84 + 1 by omega, bdZ_s (by omega)]; have h1 := w84_3 j (by omega); have h2 := w84_3 (j + 1) (by omega); omega) | (have h1 := oct_r v_tape (2 * j); have h2 := oct_r v_tape (2 * j + 1); have h3 := bdZ_r (k := p0 - p0) (by omega); have h4 : rowNow_40 j = 256 * oct v_tape (2 * j) + oct v_tape (2 * j + 1) := w40_1 j (by omega); omega)) (Nat.lt_succ_self _)
            · refine g_aload_n X dX10_row_45 0 rfl ?_
              refine gM_get X 0 rfl 48 (by decide) uw1227 rfl dX10_row_46 ?_
              refine g_iload_n X dX10_row_49 3 rfl ?_
              refine g_aload_n X dX10_row_50 0 rfl ?_
              refine g_iconst X dX10_row_51 ?_
              refine g_iload_n X dX10_row_52 3 rfl ?_
              refine g_imul X dX10_row_53 ?_
              refine g_callVI0 X (c_X10_octet l D cI cB cJ h q (p0 := 2 * x3_40) r_v_tape (by first | assumption | omega) (by first | assumption | omega)) cv_X10_octet uw1641 ⟨rfl, rfl, by decide, by decide⟩ 0 rfl rfl rfl rfl rfl (Nat.le_of_ble_eq_true rfl) ⟨Nat.zero_le _, Nat.zero_le _⟩ dX10_row_54 (fun t54 ws54 k54 => ?_)
              obtain ⟨kp0_54, kp1_54, kp2_54, rfl⟩ := k54
              refine g_sipush X (z := 256) dX10_row_57 (by decide) ?_
              refine g_imul X dX10_row_60 ?_
              refine g_aload_n X dX10_row_61 0 rfl ?_
              refine g_iconst X dX10_row_62 ?_
              refine g_iload_n X dX10_row_63 3 rfl ?_
              refine g_imul X dX10_row_64 ?_
              refine g_iconst X dX10_row_65 ?_
              refine g_iadd X dX10_row_66 ?_
              refine g_callVI0 X (c_X10_octet l D cI cB cJ h q (p0 := (2 * x3_40) + 1) r_v_tape (by first | assumption | omega) (by first | assumption | omega)) cv_X10_octet uw1641 ⟨rfl, rfl, by decide, by decide⟩ 0 rfl rfl rfl rfl rfl (Nat.le_of_ble_eq_true rfl) ⟨Nat.zero_le _, Nat.zero_le _⟩ dX10_row_67 (fun t67 ws67 k67 => ?_)
              obtain ⟨kp0_67, kp1_67, kp2_67, rfl⟩ := k67
              refine g_iadd X dX10_row_70 ?_
              refine g_i2l X dX10_row_71 (by omega) ?_
              refine g_lastt X 36 2 rfl rfl (by omega) (by decide) dX10_row_72 (fun rowNow_72 e72 => ?_)
              have r_rowNow_72 : True := trivial
              refine g_ws (ws2 := (wX10 cI cB cJ h q v_stalls v_claimMany 0 v_place0 v_length0 v_fault v_number0 v_open v_codeMany v_waiting v_saidMany v_clauses v_newMany v_newStalls v_lines v_salesNow v_outNow v_isKept v_keptStalls v_now v_aside v_kept v_oneOf v_otherOf v_signOf v_byOf v_tape v_said v_waitsAt v_saidLetter v_saidFrom v_saidHalf v_saidTo v_codes v_clauseOf v_codeFrom v_codeHalf v_codeTo v_stack v_facts v_newOne v_newOther v_newSign v_newBy v_moreOf v_firstOf v_toldOf v_mostOf v_mostThen v_sumTo v_rowFrom v_ordersOf v_lessOf v_weightOf rowNow_72 v_slowRow v_fastRow v_lineNow v_firstLine v_freeBy v_heldBy v_heightOf v_upTo v_downTo v_oftenOf v_newUpper v_newLower)) rfl ?_
              refine g_iinc X (lv' := [(3, vI (x3_40 + 1)), (0, .ref h), (1, vI p0), (2, vI p1)]) dX10_row_73 3 rfl (by decide) rfl ?_
              refine g_goto X (tgt := 40) dX10_row_76 (by decide) ?_
              refine g_lv [1, 2, 3, 0] rfl ?_
              exact ih40 (x3_40 + 1) rowNow_72 r_rowNow_72 (by first | assumption | omega) (by intro j hj; first | (exfalso; omega) | (rw [e72]; exact if hq : j = (x3_40).toNat then by (rw [hq, updZ_s, dbl_e (by omega), ← kp2_54, ← kp2_67]; omega) else by (rw [updZ_n _ _ hq]; exact w40_1 j (by omega)))) (by omega)
        refine g_lv [1, 2, 3, 0] rfl ?_
        exact L40 _ 0 v_rowNow r_v_rowNow (by first | assumption | omega) (by intro j hj; first | (exfalso; omega) | (rw [e72]; exact if hq : j = (x3_40).toNat then by (rw [hq, updZ_s, dbl_e (by omega), ← kp2_54, ← kp2_67]; omega) else by (rw [updZ_n _ _ hq]; exact w40_1 j (by omega)))) (Nat.lt_succ_self _)
      · refine g_ldc2 X (z := (-9223372036854775808)) dX10_row_29 uw1640 (by decide) ?_
        exact hQ _ _ _ _ dX10_row_32 ⟨v_taped, v_rowNow, (by omega), r_v_rowNow, (by first | assumption | omega), (by first | assumption | omega), rfl⟩
