set_option maxHeartbeats 4000000 in
set_option maxRecDepth 100000 in
theorem c_X10_begins_c (l : Launch) (D : va_G) (cI cB cJ : ClassId) (h : Nat) (q : Nat → Nat) {v_stalls v_claimMany v_taped v_place0 v_length0 v_fault v_number0 v_open v_codeMany v_waiting v_saidMany v_clauses v_newMany v_newStalls v_lines v_salesNow v_outNow v_isKept v_keptStalls : Int} {v_now v_aside v_kept v_oneOf v_otherOf v_signOf v_byOf v_tape v_said v_waitsAt v_saidLetter v_saidFrom v_saidHalf v_saidTo v_codes v_clauseOf v_codeFrom v_codeHalf v_codeTo v_stack v_facts v_newOne v_newOther v_newSign v_newBy v_moreOf v_firstOf v_toldOf v_mostOf v_mostThen v_sumTo v_rowFrom v_ordersOf v_lessOf v_weightOf v_rowNow v_slowRow v_fastRow v_lineNow v_firstLine v_freeBy v_heldBy v_heightOf v_upTo v_downTo v_oftenOf v_newUpper v_newLower : Nat → Int} {p1 : Int} (r_v_tape : RA (-128) 127 v_tape) (r_v_slowRow : RA 0 255 v_slowRow) (hp0 : IR p1) (hp1 : 0 ≤ p1 ∧ p1 ≤ 8) : CtV l yX10_begins cX10_begins 4 none ⟨1, 0, 0, 21⟩ D (TY cI cB cJ) (wX10 cI cB cJ h q v_stalls v_claimMany v_taped v_place0 v_length0 v_fault v_number0 v_open v_codeMany v_waiting v_saidMany v_clauses v_newMany v_newStalls v_lines v_salesNow v_outNow v_isKept v_keptStalls v_now v_aside v_kept v_oneOf v_otherOf v_signOf v_byOf v_tape v_said v_waitsAt v_saidLetter v_saidFrom v_saidHalf v_saidTo v_codes v_clauseOf v_codeFrom v_codeHalf v_codeTo v_stack v_facts v_newOne v_newOther v_newSign v_newBy v_moreOf v_firstOf v_toldOf v_mostOf v_mostThen v_sumTo v_rowFrom v_ordersOf v_lessOf v_weightOf v_rowNow v_slowRow v_fastRow v_lineNow v_firstLine v_freeBy v_heldBy v_heightOf v_upTo v_downTo v_oftenOf v_newUpper v_newLower) [.ref h, .ref (q 36), vI p1] (fun ws' => ∃ n_slowRow : Nat → Int, (RA 0 255 n_slowRow) ∧ (∀ j : Nat, (j : Int) < p1 → n_slowRow j = z_iand (v_tape j) 255) ∧ (ws' = (wX10 cI cB cJ h q v_stalls v_claimMany v_taped v_place0 v_length0 v_fault v_number0 v_open v_codeMany v_waiting v_saidMany v_clauses v_newMany v_newStalls v_lines v_salesNow v_outNow v_isKept v_keptStalls v_now v_aside v_kept v_oneOf v_otherOf v_signOf v_byOf v_tape v_said v_waitsAt v_saidLetter v_saidFrom v_saidHalf v_saidTo v_codes v_clauseOf v_codeFrom v_codeHalf v_codeTo v_stack v_facts v_newOne v_newOther v_newSign v_newBy v_moreOf v_firstOf v_toldOf v_mostOf v_mostThen v_sumTo v_rowFrom v_ordersOf v_lessOf v_weightOf v_rowNow n_slowRow v_fastRow v_lineNow v_firstLine v_freeBy v_heldBy v_heightOf v_upTo v_downTo v_oftenOf v_newUpper v_newLower))) := by
  refine hdrV (own := RX10) rfl (by decide +kernel) (Nat.le_of_ble_eq_true rfl) ?_
  intro p e s m args below meth c Q A X hQ
  refine g_lvE (lv2 := [(0, .ref h), (1, .ref (q 36)), (2, vI p1)]) rfl ?_
  refine g_iconst X dX10_begins_0 ?_
  refine g_istore_n X (lv' := [(3, vI 0), (0, .ref h), (1, .ref (q 36)), (2, vI p1)]) dX10_begins_1 (by decide) rfl ?_
  have L2 : ∀ (n : Nat) (x3_2 : Int) (slowRow_2 : Nat → Int), (RA 0 255 slowRow_2) → (0 ≤ x3_2 ∧ x3_2 ≤ p1) → (∀ j : Nat, (j : Int) < x3_2 → slowRow_2 j = z_iand (v_tape j) 255) → (p1 - x3_2).toNat < n → GG p l e ⟨1, 0, 0, 21⟩ s m args below meth c 0 0 Q D A s.heap 4 (wX10 cI cB cJ h q v_stalls v_claimMany v_taped v_place0 v_length0 v_fault v_number0 v_open v_codeMany v_waiting v_saidMany v_clauses v_newMany v_newStalls v_lines v_salesNow v_outNow v_isKept v_keptStalls v_now v_aside v_kept v_oneOf v_otherOf v_signOf v_byOf v_tape v_said v_waitsAt v_saidLetter v_saidFrom v_saidHalf v_saidTo v_codes v_clauseOf v_codeFrom v_codeHalf v_codeTo v_stack v_facts v_newOne v_newOther v_newSign v_newBy v_moreOf v_firstOf v_toldOf v_mostOf v_mostThen v_sumTo v_rowFrom v_ordersOf v_lessOf v_weightOf v_rowNow slowRow_2 v_fastRow v_lineNow v_firstLine v_freeBy v_heldBy v_heightOf v_upTo v_downTo v_oftenOf v_newUpper v_newLower) 2 [(0, .ref h), (1, .ref (q 36)), (2, vI p1), (3, vI x3_2)] [] := by
    intro n
    induction n with
    | zero => intros; exfalso; omega
    | succ n ih2 =>
      intro x3_2 slowRow_2 r_slowRow_2 w2_0 w2_1 wm2
      refine g_iload_n X dX10_begins_2 3 rfl ?_
      refine g_iload_n X dX10_begins_3 2 rfl ?_
      refine g_icmp_ge X (tgt := 21) dX10_begins_4 (by decide) (by omega) (by omega) (fun c4 => ?_) (fun c4 => ?_)
      · exact hQ _ _ _ dX10_begins_21 ⟨slowRow_2, r_slowRow_2, (by intro j hj; exact w2_1 j (by omega)), rfl⟩
      · refine g_aload_n X dX10_begins_7 1 rfl ?_
        refine g_iload_n X dX10_begins_8 3 rfl ?_
        refine g_aload_n X dX10_begins_9 0 rfl ?_
        refine g_iload_n X dX10_begins_10 3 rfl ?_
        refine g_callVI0 X (c_X10_octet l D cI cB cJ h q (p0 := x3_2) r_v_tape (by first | assumption | omega) (by first | assumption | omega)) cv_X10_octet uw1641 ⟨rfl, rfl, by decide, by decide⟩ 0 rfl rfl rfl rfl rfl (Nat.le_of_ble_eq_true rfl) ⟨Nat.zero_le _, Nat.zero_le _⟩ dX10_begins_11 (fun t11 ws11 k11 => ?_)
        obtain ⟨kp0_11, kp1_11, kp2_11, rfl⟩ := k11
        refine g_iast X 37 0 rfl rfl (by omega) (by decide) dX10_begins_14 (fun slowRow_14 e14 => ?_)
        have r_slowRow_14 : RA 0 255 slowRow_14 := by rw [e14]; exact RA_up r_slowRow_2 (by omega)
        refine g_ws (ws2 := (wX10 cI cB cJ h q v_stalls v_claimMany v_taped v_place0 v_length0 v_fault v_number0 v_open v_codeMany v_waiting v_saidMany v_clauses v_newMany v_newStalls v_lines v_salesNow v_outNow v_isKept v_keptStalls v_now v_aside v_kept v_oneOf v_otherOf v_signOf v_byOf v_tape v_said v_waitsAt v_saidLetter v_saidFrom v_saidHalf v_saidTo v_codes v_clauseOf v_codeFrom v_codeHalf v_codeTo v_stack v_facts v_newOne v_newOther v_newSign v_newBy v_moreOf v_firstOf v_toldOf v_mostOf v_mostThen v_sumTo v_rowFrom v_ordersOf v_lessOf v_weightOf v_rowNow slowRow_14 v_fastRow v_lineNow v_firstLine v_freeBy v_heldBy v_heightOf v_upTo v_downTo v_oftenOf v_newUpper v_newLower)) rfl ?_
        refine g_iinc X (lv' := [(3, vI (x3_2 + 1)), (0, .ref h), (1, .ref (q 36)), (2, vI p1)]) dX10_begins_15 3 rfl (by decide) rfl ?_
        refine g_goto X (tgt := 2) dX10_begins_18 (by decide) ?_
        refine g_lv [1, 2, 3, 0] rfl ?_
        exact ih2 (x3_2 + 1) slowRow_14 r_slowRow_14 (by first | assumption | omega) (by intro j hj; first | (exfalso; omega) | (rcases (show (j : Int) < x3_2 ∨ j = x3_2.toNat by omega) with h | h; (rw [e14, updZ_n _ _ (by omega)]; exact w2_1 j h); (rw [e14, h, updZ_s]; exact kp1_11))) (by omega)
  refine g_lv [1, 2, 3, 0] rfl ?_
  exact L2 _ 0 v_slowRow r_v_slowRow (by first | assumption | omega) (by intro j hj; first | (exfalso; omega) | (rcases (show (j : Int) < x3_2 ∨ j = x3_2.toNat by omega) with h | h; (rw [e14, updZ_n _ _ (by omega)]; exact w2_1 j h); (rw [e14, h, updZ_s]; exact kp1_11))) (Nat.lt_succ_self _)
set_option maxHeartbeats 4000000 in
set_option maxRecDepth 100000 in
theorem c_X10_begins_d (l : Launch) (D : va_G) (cI cB cJ : ClassId) (h : Nat) (q : Nat → Nat) {v_stalls v_claimMany v_taped v_place0 v_length0 v_fault v_number0 v_open v_codeMany v_waiting v_saidMany v_clauses v_newMany v_newStalls v_lines v_salesNow v_outNow v_isKept v_keptStalls : Int} {v_now v_aside v_kept v_oneOf v_otherOf v_signOf v_byOf v_tape v_said v_waitsAt v_saidLetter v_saidFrom v_saidHalf v_saidTo v_codes v_clauseOf v_codeFrom v_codeHalf v_codeTo v_stack v_facts v_newOne v_newOther v_newSign v_newBy v_moreOf v_firstOf v_toldOf v_mostOf v_mostThen v_sumTo v_rowFrom v_ordersOf v_lessOf v_weightOf v_rowNow v_slowRow v_fastRow v_lineNow v_firstLine v_freeBy v_heldBy v_heightOf v_upTo v_downTo v_oftenOf v_newUpper v_newLower : Nat → Int} {p1 : Int} (r_v_tape : RA (-128) 127 v_tape) (r_v_fastRow : RA 0 255 v_fastRow) (hp0 : IR p1) (hp1 : 0 ≤ p1 ∧ p1 ≤ 8) : CtV l yX10_begins cX10_begins 4 none ⟨1, 0, 0, 21⟩ D (TY cI cB cJ) (wX10 cI cB cJ h q v_stalls v_claimMany v_taped v_place0 v_length0 v_fault v_number0 v_open v_codeMany v_waiting v_saidMany v_clauses v_newMany v_newStalls v_lines v_salesNow v_outNow v_isKept v_keptStalls v_now v_aside v_kept v_oneOf v_otherOf v_signOf v_byOf v_tape v_said v_waitsAt v_saidLetter v_saidFrom v_saidHalf v_saidTo v_codes v_clauseOf v_codeFrom v_codeHalf v_codeTo v_stack v_facts v_newOne v_newOther v_newSign v_newBy v_moreOf v_firstOf v_toldOf v_mostOf v_mostThen v_sumTo v_rowFrom v_ordersOf v_lessOf v_weightOf v_rowNow v_slowRow v_fastRow v_lineNow v_firstLine v_freeBy v_heldBy v_heightOf v_upTo v_downTo v_oftenOf v_newUpper v_newLower) [.ref h, .ref (q 37), vI p1] (fun ws' => ∃ n_fastRow : Nat → Int, (RA 0 255 n_fastRow) ∧ (∀ j : Nat, (j : Int) < p1 → n_fastRow j = z_iand (v_tape j) 255) ∧ (ws' = (wX10 cI cB cJ h q v_stalls v_claimMany v_taped v_place0 v_length0 v_fault v_number0 v_open v_codeMany v_waiting v_saidMany v_clauses v_newMany v_newStalls v_lines v_salesNow v_outNow v_isKept v_keptStalls v_now v_aside v_kept v_oneOf v_otherOf v_signOf v_byOf v_tape v_said v_waitsAt v_saidLetter v_saidFrom v_saidHalf v_saidTo v_codes v_clauseOf v_codeFrom v_codeHalf v_codeTo v_stack v_facts v_newOne v_newOther v_newSign v_newBy v_moreOf v_firstOf v_toldOf v_mostOf v_mostThen v_sumTo v_rowFrom v_ordersOf v_lessOf v_weightOf v_rowNow v_slowRow n_fastRow v_lineNow v_firstLine v_freeBy v_heldBy v_heightOf v_upTo v_downTo v_oftenOf v_newUpper v_newLower))) := by
  refine hdrV (own := RX10) rfl (by decide +kernel) (Nat.le_of_ble_eq_true rfl) ?_
  intro p e s m args below meth c Q A X hQ
  refine g_lvE (lv2 := [(0, .ref h), (1, .ref (q 37)), (2, vI p1)]) rfl ?_
  refine g_iconst X dX10_begins_0 ?_
  refine g_istore_n X (lv' := [(3, vI 0), (0, .ref h), (1, .ref (q 37)), (2, vI p1)]) dX10_begins_1 (by decide) rfl ?_
  have L2 : ∀ (n : Nat) (x3_2 : Int) (fastRow_2 : Nat → Int), (RA 0 255 fastRow_2) → (0 ≤ x3_2 ∧ x3_2 ≤ p1) → (∀ j : Nat, (j : Int) < x3_2 → fastRow_2 j = z_iand (v_tape j) 255) → (p1 - x3_2).toNat < n → GG p l e ⟨1, 0, 0, 21⟩ s m args below meth c 0 0 Q D A s.heap 4 (wX10 cI cB cJ h q v_stalls v_claimMany v_taped v_place0 v_length0 v_fault v_number0 v_open v_codeMany v_waiting v_saidMany v_clauses v_newMany v_newStalls v_lines v_salesNow v_outNow v_isKept v_keptStalls v_now v_aside v_kept v_oneOf v_otherOf v_signOf v_byOf v_tape v_said v_waitsAt v_saidLetter v_saidFrom v_saidHalf v_saidTo v_codes v_clauseOf v_codeFrom v_codeHalf v_codeTo v_stack v_facts v_newOne v_newOther v_newSign v_newBy v_moreOf v_firstOf v_toldOf v_mostOf v_mostThen v_sumTo v_rowFrom v_ordersOf v_lessOf v_weightOf v_rowNow v_slowRow fastRow_2 v_lineNow v_firstLine v_freeBy v_heldBy v_heightOf v_upTo v_downTo v_oftenOf v_newUpper v_newLower) 2 [(0, .ref h), (1, .ref (q 37)), (2, vI p1), (3, vI x3_2)] [] := by
    intro n
    induction n with
    | zero => intros; exfalso; omega
    | succ n ih2 =>
      intro x3_2 fastRow_2 r_fastRow_2 w2_0 w2_1 wm2
      refine g_iload_n X dX10_begins_2 3 rfl ?_
      refine g_iload_n X dX10_begins_3 2 rfl ?_
      refine g_icmp_ge X (tgt := 21) dX10_begins_4 (by decide) (by omega) (by omega) (fun c4 => ?_) (fun c4 => ?_)
      · exact hQ _ _ _ dX10_begins_21 ⟨fastRow_2, r_fastRow_2, (by intro j hj; exact w2_1 j (by omega)), rfl⟩
      · refine g_aload_n X dX10_begins_7 1 rfl ?_
        refine g_iload_n X dX10_begins_8 3 rfl ?_
        refine g_aload_n X dX10_begins_9 0 rfl ?_
        refine g_iload_n X dX10_begins_10 3 rfl ?_
        refine g_callVI0 X (c_X10_octet l D cI cB cJ h q (p0 := x3_2) r_v_tape (by first | assumption | omega) (by first | assumption | omega)) cv_X10_octet uw1641 ⟨rfl, rfl, by decide, by decide⟩ 0 rfl rfl rfl rfl rfl (Nat.le_of_ble_eq_true rfl) ⟨Nat.zero_le _, Nat.zero_le _⟩ dX10_begins_11 (fun t11 ws11 k11 => ?_)
        obtain ⟨kp0_11, kp1_11, kp2_11, rfl⟩ := k11
        refine g_iast X 38 0 rfl rfl (by omega) (by decide) dX10_begins_14 (fun fastRow_14 e14 => ?_)
        have r_fastRow_14 : RA 0 255 fastRow_14 := by rw [e14]; exact RA_up r_fastRow_2 (by omega)
        refine g_ws (ws2 := (wX10 cI cB cJ h q v_stalls v_claimMany v_taped v_place0 v_length0 v_fault v_number0 v_open v_codeMany v_waiting v_saidMany v_clauses v_newMany v_newStalls v_lines v_salesNow v_outNow v_isKept v_keptStalls v_now v_aside v_kept v_oneOf v_otherOf v_signOf v_byOf v_tape v_said v_waitsAt v_saidLetter v_saidFrom v_saidHalf v_saidTo v_codes v_clauseOf v_codeFrom v_codeHalf v_codeTo v_stack v_facts v_newOne v_newOther v_newSign v_newBy v_moreOf v_firstOf v_toldOf v_mostOf v_mostThen v_sumTo v_rowFrom v_ordersOf v_lessOf v_weightOf v_rowNow v_slowRow fastRow_14 v_lineNow v_firstLine v_freeBy v_heldBy v_heightOf v_upTo v_downTo v_oftenOf v_newUpper v_newLower)) rfl ?_
        refine g_iinc X (lv' := [(3, vI (x3_2 + 1)), (0, .ref h), (1, .ref (q 37)), (2, vI p1)]) dX10_begins_15 3 rfl (by decide) rfl ?_
        refine g_goto X (tgt := 2) dX10_begins_18 (by decide) ?_
        refine g_lv [1, 2, 3, 0] rfl ?_
        exact ih2 (x3_2 + 1) fastRow_14 r_fastRow_14 (by first | assumption | omega) (by intro j hj; first | (exfalso; omega) | (rcases (show (j : Int) < x3_2 ∨ j = x3_2.toNat by omega) with h | h; (rw [e14, updZ_n _ _ (by omega)]; exact w2_1 j h); (rw [e14, h, updZ_s]; exact kp1_11))) (by omega)
  refine g_lv [1, 2, 3, 0] rfl ?_
  exact L2 _ 0 v_fastRow r_v_fastRow (by first | assumption | omega) (by intro j hj; first | (exfalso; omega) | (rcases (show (j : Int) < x3_2 ∨ j = x3_2.toNat by omega) with h | h; (rw [e14, updZ_n _ _ (by omega)]; exact w2_1 j h); (rw [e14, h, updZ_s]; exact kp1_11))) (Nat.lt_succ_self _)
set_option maxHeartbeats 4000000 in
set_option maxRecDepth 100000 in
theorem c_X10_goesRound_b (l : Launch) (D : va_G) (cI cB cJ : ClassId) (r_row : Nat) {v_row : Nat → Int} {p1 : Int} (r_v_row : RA 0 255 v_row) (hp0 : IR p1) (hp1 : 1 ≤ p1 ∧ p1 ≤ 8) : CtV l yX10_goesRound cX10_goesRound 4 none ⟨1, 0, 0, 20⟩ D (TY cI cB cJ) (wA cI 8 r_row v_row) [.ref r_row, vI p1] (fun ws' => ∃ n_row : Nat → Int, (RA 0 255 n_row) ∧ (dzS p1 v_row n_row) ∧ (ws' = (wA cI 8 r_row n_row))) := by
  refine hdrV (own := RX10) rfl (by decide +kernel) (Nat.le_of_ble_eq_true rfl) ?_
  intro p e s m args below meth c Q A X hQ
  refine g_lvE (lv2 := [(0, .ref r_row), (1, vI p1)]) rfl ?_
  refine g_aload_n X dX10_goesRound_0 0 rfl ?_
  refine g_iconst X dX10_goesRound_1 ?_
  refine g_iald X 0 0 rfl rfl (by omega) (by decide) dX10_goesRound_2 (fun t2 e2 => ?_)
  have r2 := r_v_row (0 : Int).toNat; rw [← e2] at r2
  refine g_istore_n X (lv' := [(2, vI t2), (0, .ref r_row), (1, vI p1)]) dX10_goesRound_3 (by decide) rfl ?_
  refine g_iconst X dX10_goesRound_4 ?_
  refine g_istore_n X (lv' := [(3, vI 0), (2, vI t2), (0, .ref r_row), (1, vI p1)]) dX10_goesRound_5 (by decide) rfl ?_
  have L6 : ∀ (n : Nat) (x3_6 : Int) (row_6 : Nat → Int), (RA 0 255 row_6) → (0 ≤ x3_6 ∧ x3_6 ≤ p1) → (∀ j : Nat, (j : Int) < x3_6 → row_6 j = dz (v_row j - (if (j : Int) + 1 = p1 then v_row 0 else v_row (j + 1)))) → (∀ j : Nat, x3_6 ≤ (j : Int) → row_6 j = v_row j) → (p1 - x3_6).toNat < n → GG p l e ⟨1, 0, 0, 20⟩ s m args below meth c 0 0 Q D A s.heap 4 (wA cI 8 r_row row_6) 6 [(0, .ref r_row), (1, vI p1), (2, vI t2), (3, vI x3_6)] [] := by
    intro n
    induction n with
    | zero => intros; exfalso; omega
    | succ n ih6 =>
      intro x3_6 row_6 r_row_6 w6_0 w6_1 w6_2 wm6
      refine g_iload_n X dX10_goesRound_6 3 rfl ?_
      refine g_iload_n X dX10_goesRound_7 1 rfl ?_
      refine g_icmp_ge X (tgt := 43) dX10_goesRound_8 (by decide) (by omega) (by omega) (fun c8 => ?_) (fun c8 => ?_)
      · exact hQ _ _ _ dX10_goesRound_43 ⟨row_6, r_row_6, (by intro j hj; exact w6_1 j (by omega)), rfl⟩
      · refine g_aload_n X dX10_goesRound_11 0 rfl ?_
        refine g_iload_n X dX10_goesRound_12 3 rfl ?_
        refine g_aload_n X dX10_goesRound_13 0 rfl ?_
        refine g_iload_n X dX10_goesRound_14 3 rfl ?_
        refine g_iald X 0 0 rfl rfl (by omega) (by decide) dX10_goesRound_15 (fun t15 e15 => ?_)
        have r15 := r_row_6 (x3_6 : Int).toNat; rw [← e15] at r15
        refine g_iload_n X dX10_goesRound_16 3 rfl ?_
        refine g_iload_n X dX10_goesRound_17 1 rfl ?_
        refine g_iconst X dX10_goesRound_18 ?_
        refine g_isub X dX10_goesRound_19 ?_
        refine g_icmp_ne X (tgt := 27) dX10_goesRound_20 (by decide) (by omega) (by omega) (fun c20 => ?_) (fun c20 => ?_)
        · refine g_aload_n X dX10_goesRound_27 0 rfl ?_
          refine g_iload_n X dX10_goesRound_28 3 rfl ?_
          refine g_iconst X dX10_goesRound_29 ?_
          refine g_iadd X dX10_goesRound_30 ?_
          refine g_iald X 0 0 rfl rfl (by omega) (by decide) dX10_goesRound_31 (fun t31 e31 => ?_)
          have r31 := r_row_6 (x3_6 + 1 : Int).toNat; rw [← e31] at r31
          refine g_isub X dX10_goesRound_32 ?_
          have hE := w6_2 x3_6.toNat (by omega)
          have hF := w6_2 (x3_6 + 1).toNat (by omega)
          refine g_callSIE X (c_X10_size l D cI cB cJ (p0 := t15 - t31) (by first | assumption | omega) (by first | assumption | omega)) cv_X10_size uw1672 ⟨rfl, rfl, by decide, by decide⟩ rfl rfl (Nat.le_of_ble_eq_true rfl) ⟨Nat.zero_le _, Nat.zero_le _⟩ dX10_goesRound_33 (fun t33 ws33 k33 => ?_)
          obtain ⟨kp0_33, rfl⟩ := k33
          refine g_iast X 0 0 rfl rfl (by omega) (by decide) dX10_goesRound_36 (fun row_36 e36 => ?_)
          have r_row_36 : RA 0 255 row_36 := by rw [e36]; exact RA_up r_row_6 (by omega)
          refine g_ws (ws2 := (wA cI 8 r_row row_36)) rfl ?_
          refine g_iinc X (lv' := [(3, vI (x3_6 + 1)), (0, .ref r_row), (1, vI p1), (2, vI t2)]) dX10_goesRound_37 3 rfl (by decide) rfl ?_
          refine g_goto X (tgt := 6) dX10_goesRound_40 (by decide) ?_
          refine g_lv [1, 2, 3, 0] rfl ?_
          exact ih6 (x3_6 + 1) row_36 r_row_36 (by first | assumption | omega) (by intro j hj; first | (exfalso; omega) | (rcases (show (j : Int) < x3_6 ∨ j = x3_6.toNat by omega) with h | h; (rw [e36, updZ_n _ _ (by omega)]; exact w6_1 j h); (rw [e36, h, updZ_s]; first | (rw [if_pos (by omega)]; exact dz_of kp0_33 (by rw [e15, hE, e2]; rfl)) | (rw [if_neg (by omega)]; exact dz_of kp0_33 (by rw [e15, hE, e31, hF, show x3_6.toNat + 1 = (x3_6 + 1).toNat by omega]))))) (by intro j hj; first | rfl | (rw [e36, updZ_n _ _ (by omega)]; exact w6_2 j (by omega))) (by omega)
        · refine g_iload_n X dX10_goesRound_23 2 rfl ?_
          refine g_goto X (tgt := 32) dX10_goesRound_24 (by decide) ?_
          refine g_isub X dX10_goesRound_32 ?_
          have hE := w6_2 x3_6.toNat (by omega)
          have hF := w6_2 (x3_6 + 1).toNat (by omega)
          refine g_callSIE X (c_X10_size l D cI cB cJ (p0 := t15 - t2) (by first | assumption | omega) (by first | assumption | omega)) cv_X10_size uw1672 ⟨rfl, rfl, by decide, by decide⟩ rfl rfl (Nat.le_of_ble_eq_true rfl) ⟨Nat.zero_le _, Nat.zero_le _⟩ dX10_goesRound_33 (fun t33 ws33 k33 => ?_)
          obtain ⟨kp0_33, rfl⟩ := k33
          refine g_iast X 0 0 rfl rfl (by omega) (by decide) dX10_goesRound_36 (fun row_36 e36 => ?_)
          have r_row_36 : RA 0 255 row_36 := by rw [e36]; exact RA_up r_row_6 (by omega)
          refine g_ws (ws2 := (wA cI 8 r_row row_36)) rfl ?_
          refine g_iinc X (lv' := [(3, vI (x3_6 + 1)), (0, .ref r_row), (1, vI p1), (2, vI t2)]) dX10_goesRound_37 3 rfl (by decide) rfl ?_
          refine g_goto X (tgt := 6) dX10_goesRound_40 (by decide) ?_
          refine g_lv [1, 2, 3, 0] rfl ?_
          exact ih6 (x3_6 + 1) row_36 r_row_36 (by first | assumption | omega) (by intro j hj; first | (exfalso; omega) | (rcases (show (j : Int) < x3_6 ∨ j = x3_6.toNat by omega) with h | h; (rw [e36, updZ_n _ _ (by omega)]; exact w6_1 j h); (rw [e36, h, updZ_s]; first | (rw [if_pos (by omega)]; exact dz_of kp0_33 (by rw [e15, hE, e2]; rfl)) | (rw [if_neg (by omega)]; exact dz_of kp0_33 (by rw [e15, hE, e31, hF, show x3_6.toNat + 1 = (x3_6 + 1).toNat by omega]))))) (by intro j hj; first | rfl | (rw [e36, updZ_n _ _ (by omega)]; exact w6_2 j (by omega))) (by omega)
  refine g_lv [2, 3, 1, 0] rfl ?_
  exact L6 _ 0 v_row r_v_row (by first | assumption | omega) (by intro j hj; first | (exfalso; omega) | (rcases (show (j : Int) < x3_6 ∨ j = x3_6.toNat by omega) with h | h; (rw [e36, updZ_n _ _ (by omega)]; exact w6_1 j h); (rw [e36, h, updZ_s]; first | (rw [if_pos (by omega)]; exact dz_of kp0_33 (by rw [e15, hE, e2]; rfl)) | (rw [if_neg (by omega)]; exact dz_of kp0_33 (by rw [e15, hE, e31, hF, show x3_6.toNat + 1 = (x3_6 + 1).toNat by omega]))))) (by intro j hj; first | rfl | (rw [e36, updZ_n _ _ (by omega)]; exact w6_2 j (by omega))) (Nat.lt_succ_self _)
set_option maxHeartbeats 4000000 in
set_option maxRecDepth 100000 in
theorem c_X10_areSame_b (l : Launch) (D : va_G) (cI cB cJ : ClassId) (r_one : Nat) (r_other : Nat) {v_one v_other : Nat → Int} {p2 : Int} (r_v_one : RA 0 255 v_one) (r_v_other : RA 0 255 v_other) (hp0 : IR p2) (hp1 : 0 ≤ p2 ∧ p2 ≤ 8) : CtI l yX10_areSame cX10_areSame 4 (some .boolean) ⟨0, 0, 0, 0⟩ D (TY cI cB cJ) ((wA cI 8 r_one v_one) ++ (wA cI 8 r_other v_other)) [.ref r_one, .ref r_other, vI p2] (fun z ws' => (z = 0 ∨ z = 1) ∧ ((z = 1 ∧ ∀ j : Nat, (j : Int) < p2 → v_one j = v_other j) ∨ (z = 0 ∧ ¬ ∀ j : Nat, (j : Int) < p2 → v_one j = v_other j)) ∧ (ws' = ((wA cI 8 r_one v_one) ++ (wA cI 8 r_other v_other)))) := by
  refine hdrZ (own := RX10) rfl (by decide +kernel) (Nat.le_of_ble_eq_true rfl) ?_
  intro p e s m args below meth c Q A X hQ
  refine g_lvE (lv2 := [(0, .ref r_one), (1, .ref r_other), (2, vI p2)]) rfl ?_
  refine g_iconst X dX10_areSame_0 ?_
  refine g_istore_n X (lv' := [(3, vI 0), (0, .ref r_one), (1, .ref r_other), (2, vI p2)]) dX10_areSame_1 (by decide) rfl ?_
  have L2 : ∀ (n : Nat) (x3_2 : Int), (0 ≤ x3_2 ∧ x3_2 ≤ p2) → (∀ j : Nat, (j : Int) < x3_2 → v_one j = v_other j) → (p2 - x3_2).toNat < n → GG p l e ⟨0, 0, 0, 0⟩ s m args below meth c 0 0 Q D A s.heap 4 ((wA cI 8 r_one v_one) ++ (wA cI 8 r_other v_other)) 2 [(0, .ref r_one), (1, .ref r_other), (2, vI p2), (3, vI x3_2)] [] := by
    intro n
    induction n with
    | zero => intros; exfalso; omega
    | succ n ih2 =>
      intro x3_2 w2_0 w2_1 wm2
      refine g_iload_n X dX10_areSame_2 3 rfl ?_
      refine g_iload_n X dX10_areSame_3 2 rfl ?_
      refine g_icmp_ge X (tgt := 24) dX10_areSame_4 (by decide) (by omega) (by omega) (fun c4 => ?_) (fun c4 => ?_)
      · refine g_iconst X dX10_areSame_24 ?_
        exact hQ _ _ _ _ dX10_areSame_25 ⟨by omega, ⟨(by first | exact Or.inl ⟨rfl, fun j hj => w2_1 j (by omega)⟩ | exact Or.inr ⟨rfl, fun hh => by have h1 := hh x3_2.toNat (by omega); omega⟩), rfl⟩⟩
      · refine g_aload_n X dX10_areSame_7 0 rfl ?_
        refine g_iload_n X dX10_areSame_8 3 rfl ?_
        refine g_iald X 0 0 rfl rfl (by omega) (by decide) dX10_areSame_9 (fun t9 e9 => ?_)
        have r9 := r_v_one (x3_2 : Int).toNat; rw [← e9] at r9
        refine g_aload_n X dX10_areSame_10 1 rfl ?_
        refine g_iload_n X dX10_areSame_11 3 rfl ?_
        refine g_iald X 1 0 rfl rfl (by omega) (by decide) dX10_areSame_12 (fun t12 e12 => ?_)
        have r12 := r_v_other (x3_2 : Int).toNat; rw [← e12] at r12
        refine g_icmp_eq X (tgt := 18) dX10_areSame_13 (by decide) (by omega) (by omega) (fun c13 => ?_) (fun c13 => ?_)
        · refine g_iinc X (lv' := [(3, vI (x3_2 + 1)), (0, .ref r_one), (1, .ref r_other), (2, vI p2)]) dX10_areSame_18 3 rfl (by decide) rfl ?_
          refine g_goto X (tgt := 2) dX10_areSame_21 (by decide) ?_
          refine g_lv [1, 2, 3, 0] rfl ?_
          exact ih2 (x3_2 + 1) (by first | assumption | omega) (by intro j hj; first | (exfalso; omega) | (rcases (show (j : Int) < x3_2 ∨ j = x3_2.toNat by omega) with h | h; exact w2_1 j h; rw [h]; omega)) (by omega)
        · refine g_iconst X dX10_areSame_16 ?_
          exact hQ _ _ _ _ dX10_areSame_17 ⟨by omega, ⟨(by first | exact Or.inl ⟨rfl, fun j hj => w2_1 j (by omega)⟩ | exact Or.inr ⟨rfl, fun hh => by have h1 := hh x3_2.toNat (by omega); omega⟩), rfl⟩⟩
  refine g_lv [1, 2, 3, 0] rfl ?_
  exact L2 _ 0 (by first | assumption | omega) (by intro j hj; first | (exfalso; omega) | (rcases (show (j : Int) < x3_2 ∨ j = x3_2.toNat by omega) with h | h; exact w2_1 j h; rw [h]; omega)) (Nat.lt_succ_self _)
set_option maxHeartbeats 4000000 in
set_option maxRecDepth 100000 in
theorem c_X10_ringOf (l : Launch) (D : va_G) (cI cB cJ : ClassId) (h : Nat) (q : Nat → Nat) {v_stalls v_claimMany v_taped v_place0 v_length0 v_fault v_number0 v_open v_codeMany v_waiting v_saidMany v_clauses v_newMany v_newStalls v_lines v_salesNow v_outNow v_isKept v_keptStalls : Int} {v_now v_aside v_kept v_oneOf v_otherOf v_signOf v_byOf v_tape v_said v_waitsAt v_saidLetter v_saidFrom v_saidHalf v_saidTo v_codes v_clauseOf v_codeFrom v_codeHalf v_codeTo v_stack v_facts v_newOne v_newOther v_newSign v_newBy v_moreOf v_firstOf v_toldOf v_mostOf v_mostThen v_sumTo v_rowFrom v_ordersOf v_lessOf v_weightOf v_rowNow v_slowRow v_fastRow v_lineNow v_firstLine v_freeBy v_heldBy v_heightOf v_upTo v_downTo v_oftenOf v_newUpper v_newLower : Nat → Int} {p0 : Int} (r_v_tape : RA (-128) 127 v_tape) (r_v_slowRow : RA 0 255 v_slowRow) (r_v_fastRow : RA 0 255 v_fastRow) (hp0 : IR p0) (hp1 : 2 ≤ p0 ∧ p0 ≤ 8) : CtI l yX10_ringOf cX10_ringOf 5 (some .int) ⟨2, 0, 0, 44⟩ D (TY cI cB cJ) (wX10 cI cB cJ h q v_stalls v_claimMany v_taped v_place0 v_length0 v_fault v_number0 v_open v_codeMany v_waiting v_saidMany v_clauses v_newMany v_newStalls v_lines v_salesNow v_outNow v_isKept v_keptStalls v_now v_aside v_kept v_oneOf v_otherOf v_signOf v_byOf v_tape v_said v_waitsAt v_saidLetter v_saidFrom v_saidHalf v_saidTo v_codes v_clauseOf v_codeFrom v_codeHalf v_codeTo v_stack v_facts v_newOne v_newOther v_newSign v_newBy v_moreOf v_firstOf v_toldOf v_mostOf v_mostThen v_sumTo v_rowFrom v_ordersOf v_lessOf v_weightOf v_rowNow v_slowRow v_fastRow v_lineNow v_firstLine v_freeBy v_heldBy v_heightOf v_upTo v_downTo v_oftenOf v_newUpper v_newLower) [.ref h, vI p0] (fun z ws' => ∃ n_slowRow : Nat → Int, ∃ n_fastRow : Nat → Int, (RA 0 255 n_slowRow) ∧ (RA 0 255 n_fastRow) ∧ (1 ≤ z ∧ z ≤ 5000) ∧ (dzO v_tape p0 z) ∧ (ws' = (wX10 cI cB cJ h q v_stalls v_claimMany v_taped v_place0 v_length0 v_fault v_number0 v_open v_codeMany v_waiting v_saidMany v_clauses v_newMany v_newStalls v_lines v_salesNow v_outNow v_isKept v_keptStalls v_now v_aside v_kept v_oneOf v_otherOf v_signOf v_byOf v_tape v_said v_waitsAt v_saidLetter v_saidFrom v_saidHalf v_saidTo v_codes v_clauseOf v_codeFrom v_codeHalf v_codeTo v_stack v_facts v_newOne v_newOther v_newSign v_newBy v_moreOf v_firstOf v_toldOf v_mostOf v_mostThen v_sumTo v_rowFrom v_ordersOf v_lessOf v_weightOf v_rowNow n_slowRow n_fastRow v_lineNow v_firstLine v_freeBy v_heldBy v_heightOf v_upTo v_downTo v_oftenOf v_newUpper v_newLower))) := by
  refine hdrI (own := RX10) rfl (by decide +kernel) (Nat.le_of_ble_eq_true rfl) ?_
  intro p e s m args below meth c Q A X hQ
  refine g_lvE (lv2 := [(0, .ref h), (1, vI p0)]) rfl ?_
  obtain ⟨mu, lam, hmu, hl1, hl2, hrg⟩ := dz_ring (n := p0.toNat) (by omega) (dzF_B v_tape _) (dzF_P v_tape _)
  refine g_aload_n X dX10_ringOf_0 0 rfl ?_
  refine g_aload_n X dX10_ringOf_1 0 rfl ?_
  refine gM_get X 0 rfl 49 (by decide) uw1228 rfl dX10_ringOf_2 ?_
  refine g_iload_n X dX10_ringOf_5 1 rfl ?_
  refine g_callVV0 X (c_X10_begins_c l D cI cB cJ h q (p1 := p0) r_v_tape r_v_slowRow (by first | assumption | omega) (by first | assumption | omega)) cv_X10_begins uw1665 ⟨rfl, rfl, by decide, by decide⟩ 0 rfl rfl rfl rfl rfl (Nat.le_of_ble_eq_true rfl) ⟨Nat.zero_le _, Nat.zero_le _⟩ dX10_ringOf_6 (fun ws6 k6 => ?_)
  obtain ⟨slowRow_6, r_slowRow_6, kp0_6, rfl⟩ := k6
  refine g_aload_n X dX10_ringOf_9 0 rfl ?_
  refine g_aload_n X dX10_ringOf_10 0 rfl ?_
  refine gM_get X 0 rfl 50 (by decide) uw1229 rfl dX10_ringOf_11 ?_
  refine g_iload_n X dX10_ringOf_14 1 rfl ?_
  refine g_callVV0 X (c_X10_begins_d l D cI cB cJ h q (p1 := p0) r_v_tape r_v_fastRow (by first | assumption | omega) (by first | assumption | omega)) cv_X10_begins uw1665 ⟨rfl, rfl, by decide, by decide⟩ 0 rfl rfl rfl rfl rfl (Nat.le_of_ble_eq_true rfl) ⟨Nat.zero_le _, Nat.zero_le _⟩ dX10_ringOf_15 (fun ws15 k15 => ?_)
  obtain ⟨fastRow_15, r_fastRow_15, kp0_15, rfl⟩ := k15
  refine g_aload_n X dX10_ringOf_18 0 rfl ?_
  refine gM_get X 0 rfl 50 (by decide) uw1229 rfl dX10_ringOf_19 ?_
  refine g_iload_n X dX10_ringOf_22 1 rfl ?_
  refine g_callSV X (c_X10_goesRound_b l D cI cB cJ (q 37) (p1 := p0) r_fastRow_15 (by first | assumption | omega) (by first | assumption | omega)) [38] [0, 1, 2, 3, 4, 5, 6, 7, 8, 9, 10, 11, 12, 13, 14, 15, 16, 17, 18, 19, 20, 21, 22, 23, 24, 25, 26, 27, 28, 29, 30, 31, 32, 33, 34, 35, 36, 37, 39, 40, 41, 42, 43, 44, 45, 46, 47, 48] rfl rfl rfl rfl rfl (by decide) cv_X10_goesRound uw1669 ⟨rfl, rfl, by decide, by decide⟩ rfl rfl (Nat.le_of_ble_eq_true rfl) ⟨Nat.zero_le _, Nat.zero_le _⟩ dX10_ringOf_23 (fun ws23 k23 => ?_)
  obtain ⟨fastRow_23, r_fastRow_23, kp0_23, rfl⟩ := k23
  refine g_perm (ws2 := (wX10 cI cB cJ h q v_stalls v_claimMany v_taped v_place0 v_length0 v_fault v_number0 v_open v_codeMany v_waiting v_saidMany v_clauses v_newMany v_newStalls v_lines v_salesNow v_outNow v_isKept v_keptStalls v_now v_aside v_kept v_oneOf v_otherOf v_signOf v_byOf v_tape v_said v_waitsAt v_saidLetter v_saidFrom v_saidHalf v_saidTo v_codes v_clauseOf v_codeFrom v_codeHalf v_codeTo v_stack v_facts v_newOne v_newOther v_newSign v_newBy v_moreOf v_firstOf v_toldOf v_mostOf v_mostThen v_sumTo v_rowFrom v_ordersOf v_lessOf v_weightOf v_rowNow slowRow_6 fastRow_23 v_lineNow v_firstLine v_freeBy v_heldBy v_heightOf v_upTo v_downTo v_oftenOf v_newUpper v_newLower)) [0, 1, 2, 3, 4, 5, 6, 7, 8, 9, 10, 11, 12, 13, 14, 15, 16, 17, 18, 19, 20, 21, 22, 23, 24, 25, 26, 27, 28, 29, 30, 31, 32, 33, 34, 35, 36, 37, 48, 38, 39, 40, 41, 42, 43, 44, 45, 46, 47] rfl rfl rfl ?_
  refine g_iconst X dX10_ringOf_26 ?_
  refine g_istore_n X (lv' := [(2, vI 1), (0, .ref h), (1, vI p0)]) dX10_ringOf_27 (by decide) rfl ?_
  refine g_iconst X dX10_ringOf_28 ?_
  refine g_istore_n X (lv' := [(3, vI 1), (2, vI 1), (0, .ref h), (1, vI p0)]) dX10_ringOf_29 (by decide) rfl ?_
  have hs0 : dzR slowRow_6 p0 (dzF v_tape p0.toNat) (1 - 1) := dzR.ini (by omega) kp0_6
  have hf0 : dzR fastRow_23 p0 (dzF v_tape p0.toNat) (1 - 1 + 1) := dzR.next (k := 0) (dzR.ini (by omega) kp0_15) (by omega) (by omega) kp0_23
  have L30 : ∀ (n : Nat) (x2_30 : Int) (x3_30 : Int) (slowRow_30 : Nat → Int) (fastRow_30 : Nat → Int), (RA 0 255 slowRow_30) → (RA 0 255 fastRow_30) → (1 ≤ x2_30 ∧ x2_30 ≤ 4082) → (1 ≤ x3_30 ∧ x3_30 ≤ x2_30) → (dzR slowRow_30 p0 (dzF v_tape p0.toNat) (x2_30 - 1)) → (dzR fastRow_30 p0 (dzF v_tape p0.toNat) (x2_30 - 1 + x3_30)) → ((mu : Int) ≤ x2_30 - 1 → x3_30 ≤ (lam : Int)) → (9000 - x2_30 - x3_30).toNat < n → GG p l e ⟨2, 0, 0, 44⟩ s m args below meth c 0 0 Q D A s.heap 5 (wX10 cI cB cJ h q v_stalls v_claimMany v_taped v_place0 v_length0 v_fault v_number0 v_open v_codeMany v_waiting v_saidMany v_clauses v_newMany v_newStalls v_lines v_salesNow v_outNow v_isKept v_keptStalls v_now v_aside v_kept v_oneOf v_otherOf v_signOf v_byOf v_tape v_said v_waitsAt v_saidLetter v_saidFrom v_saidHalf v_saidTo v_codes v_clauseOf v_codeFrom v_codeHalf v_codeTo v_stack v_facts v_newOne v_newOther v_newSign v_newBy v_moreOf v_firstOf v_toldOf v_mostOf v_mostThen v_sumTo v_rowFrom v_ordersOf v_lessOf v_weightOf v_rowNow slowRow_30 fastRow_30 v_lineNow v_firstLine v_freeBy v_heldBy v_heightOf v_upTo v_downTo v_oftenOf v_newUpper v_newLower) 30 [(0, .ref h), (1, vI p0), (2, vI x2_30), (3, vI x3_30)] [] := by
    intro n
    induction n with
    | zero => intros; exfalso; omega
    | succ n ih30 =>
      intro x2_30 x3_30 slowRow_30 fastRow_30 r_slowRow_30 r_fastRow_30 w30_0 w30_1 w30_2 w30_3 w30_4 wm30
      refine g_aload_n X dX10_ringOf_30 0 rfl ?_
      refine gM_get X 0 rfl 49 (by decide) uw1228 rfl dX10_ringOf_31 ?_
      refine g_aload_n X dX10_ringOf_34 0 rfl ?_
      refine gM_get X 0 rfl 50 (by decide) uw1229 rfl dX10_ringOf_35 ?_
      refine g_iload_n X dX10_ringOf_38 1 rfl ?_
      refine g_callSI X (c_X10_areSame_b l D cI cB cJ (q 36) (q 37) (p2 := p0) r_slowRow_30 r_fastRow_30 (by first | assumption | omega) (by first | assumption | omega)) [37, 38] [0, 1, 2, 3, 4, 5, 6, 7, 8, 9, 10, 11, 12, 13, 14, 15, 16, 17, 18, 19, 20, 21, 22, 23, 24, 25, 26, 27, 28, 29, 30, 31, 32, 33, 34, 35, 36, 39, 40, 41, 42, 43, 44, 45, 46, 47, 48] rfl rfl rfl rfl rfl (by decide) cv_X10_areSame uw1675 ⟨rfl, rfl, by decide, by decide⟩ rfl rfl (Nat.le_of_ble_eq_true rfl) ⟨Nat.zero_le _, Nat.zero_le _⟩ dX10_ringOf_39 (fun t39 ws39 k39 => ?_)
      obtain ⟨kb_39, ⟨kp0_39, rfl⟩⟩ := k39
      refine g_perm (ws2 := (wX10 cI cB cJ h q v_stalls v_claimMany v_taped v_place0 v_length0 v_fault v_number0 v_open v_codeMany v_waiting v_saidMany v_clauses v_newMany v_newStalls v_lines v_salesNow v_outNow v_isKept v_keptStalls v_now v_aside v_kept v_oneOf v_otherOf v_signOf v_byOf v_tape v_said v_waitsAt v_saidLetter v_saidFrom v_saidHalf v_saidTo v_codes v_clauseOf v_codeFrom v_codeHalf v_codeTo v_stack v_facts v_newOne v_newOther v_newSign v_newBy v_moreOf v_firstOf v_toldOf v_mostOf v_mostThen v_sumTo v_rowFrom v_ordersOf v_lessOf v_weightOf v_rowNow slowRow_30 fastRow_30 v_lineNow v_firstLine v_freeBy v_heldBy v_heightOf v_upTo v_downTo v_oftenOf v_newUpper v_newLower)) [0, 1, 2, 3, 4, 5, 6, 7, 8, 9, 10, 11, 12, 13, 14, 15, 16, 17, 18, 19, 20, 21, 22, 23, 24, 25, 26, 27, 28, 29, 30, 31, 32, 33, 34, 35, 36, 47, 48, 37, 38, 39, 40, 41, 42, 43, 44, 45, 46] rfl rfl rfl ?_
      refine g_if_ne X (tgt := 100) dX10_ringOf_42 (by decide) (by omega) (fun c42 => ?_) (fun c42 => ?_)
      · replace kb_39 := kb_39.resolve_left (fun h => c42 h)
        replace kp0_39 := kp0_39.resolve_right (fun h => c42 h.1)
        have hO : dzO v_tape p0 x3_30 := dzO.of w30_2 w30_3 (by omega) (by omega) kp0_39.2
        refine g_iload_n X dX10_ringOf_100 3 rfl ?_
        exact hQ _ _ _ _ dX10_ringOf_101 ⟨slowRow_30, fastRow_30, r_slowRow_30, r_fastRow_30, (by first | assumption | omega), (by first | assumption | omega), rfl⟩
      · clear kb_39
        replace kp0_39 := (kp0_39.resolve_left (fun h => absurd h.1 (by omega))).2
        have J85 : ∀ (x2_85 : Int) (x3_85 : Int) (slowRow_85 : Nat → Int), (RA 0 255 slowRow_85) → (1 ≤ x2_85 ∧ x2_85 ≤ 4082) → (0 ≤ x3_85 ∧ x3_85 < x2_85) → (x2_85 + x3_85 = x2_30 + x3_30) → (dzR slowRow_85 p0 (dzF v_tape p0.toNat) (x2_85 - 1)) → (dzR fastRow_30 p0 (dzF v_tape p0.toNat) (x2_85 - 1 + x3_85)) → ((mu : Int) ≤ x2_85 - 1 → x3_85 + 1 ≤ (lam : Int)) → GG p l e ⟨2, 0, 0, 44⟩ s m args below meth c 0 0 Q D A s.heap 5 (wX10 cI cB cJ h q v_stalls v_claimMany v_taped v_place0 v_length0 v_fault v_number0 v_open v_codeMany v_waiting v_saidMany v_clauses v_newMany v_newStalls v_lines v_salesNow v_outNow v_isKept v_keptStalls v_now v_aside v_kept v_oneOf v_otherOf v_signOf v_byOf v_tape v_said v_waitsAt v_saidLetter v_saidFrom v_saidHalf v_saidTo v_codes v_clauseOf v_codeFrom v_codeHalf v_codeTo v_stack v_facts v_newOne v_newOther v_newSign v_newBy v_moreOf v_firstOf v_toldOf v_mostOf v_mostThen v_sumTo v_rowFrom v_ordersOf v_lessOf v_weightOf v_rowNow slowRow_85 fastRow_30 v_lineNow v_firstLine v_freeBy v_heldBy v_heightOf v_upTo v_downTo v_oftenOf v_newUpper v_newLower) 85 [(0, .ref h), (1, vI p0), (2, vI x2_85), (3, vI x3_85)] [] := by
          intro x2_85 x3_85 slowRow_85 r_slowRow_85 w85_0 w85_1 w85_2 w85_3 w85_4 w85_5
          refine g_aload_n X dX10_ringOf_85 0 rfl ?_
          refine gM_get X 0 rfl 50 (by decide) uw1229 rfl dX10_ringOf_86 ?_
          refine g_iload_n X dX10_ringOf_89 1 rfl ?_
          refine g_callSV X (c_X10_goesRound_b l D cI cB cJ (q 37) (p1 := p0) r_fastRow_30 (by first | assumption | omega) (by first | assumption | omega)) [38] [0, 1, 2, 3, 4, 5, 6, 7, 8, 9, 10, 11, 12, 13, 14, 15, 16, 17, 18, 19, 20, 21, 22, 23, 24, 25, 26, 27, 28, 29, 30, 31, 32, 33, 34, 35, 36, 37, 39, 40, 41, 42, 43, 44, 45, 46, 47, 48] rfl rfl rfl rfl rfl (by decide) cv_X10_goesRound uw1669 ⟨rfl, rfl, by decide, by decide⟩ rfl rfl (Nat.le_of_ble_eq_true rfl) ⟨Nat.zero_le _, Nat.zero_le _⟩ dX10_ringOf_90 (fun ws90 k90 => ?_)
          obtain ⟨fastRow_90, r_fastRow_90, kp0_90, rfl⟩ := k90
          refine g_perm (ws2 := (wX10 cI cB cJ h q v_stalls v_claimMany v_taped v_place0 v_length0 v_fault v_number0 v_open v_codeMany v_waiting v_saidMany v_clauses v_newMany v_newStalls v_lines v_salesNow v_outNow v_isKept v_keptStalls v_now v_aside v_kept v_oneOf v_otherOf v_signOf v_byOf v_tape v_said v_waitsAt v_saidLetter v_saidFrom v_saidHalf v_saidTo v_codes v_clauseOf v_codeFrom v_codeHalf v_codeTo v_stack v_facts v_newOne v_newOther v_newSign v_newBy v_moreOf v_firstOf v_toldOf v_mostOf v_mostThen v_sumTo v_rowFrom v_ordersOf v_lessOf v_weightOf v_rowNow slowRow_85 fastRow_90 v_lineNow v_firstLine v_freeBy v_heldBy v_heightOf v_upTo v_downTo v_oftenOf v_newUpper v_newLower)) [0, 1, 2, 3, 4, 5, 6, 7, 8, 9, 10, 11, 12, 13, 14, 15, 16, 17, 18, 19, 20, 21, 22, 23, 24, 25, 26, 27, 28, 29, 30, 31, 32, 33, 34, 35, 36, 37, 48, 38, 39, 40, 41, 42, 43, 44, 45, 46, 47] rfl rfl rfl ?_
          refine g_iload_n X dX10_ringOf_93 3 rfl ?_
          refine g_iconst X dX10_ringOf_94 ?_
          refine g_iadd X dX10_ringOf_95 ?_
          refine g_istore_n X (lv' := [(3, vI (x3_85 + 1)), (0, .ref h), (1, vI p0), (2, vI x2_85)]) dX10_ringOf_96 (by decide) rfl ?_
          have hfn : dzR fastRow_90 p0 (dzF v_tape p0.toNat) (x2_85 - 1 + (x3_85 + 1)) := by rw [show x2_85 - 1 + (x3_85 + 1) = x2_85 - 1 + x3_85 + 1 by omega]; exact dzR.next w85_4 (by omega) (by omega) kp0_90
          refine g_goto X (tgt := 30) dX10_ringOf_97 (by decide) ?_
          refine g_lv [1, 2, 3, 0] rfl ?_
          exact ih30 x2_85 (x3_85 + 1) slowRow_85 fastRow_90 r_slowRow_85 r_fastRow_90 (by first | assumption | omega) (by first | assumption | omega) (by first | assumption | omega) (by first | assumption | omega) (by first | assumption | omega) (by omega)
        have hns : (mu : Int) ≤ x2_30 - 1 → x3_30 < (lam : Int) := fun hm => by rcases (show x3_30 < (lam : Int) ∨ x3_30 = (lam : Int) by have := w30_4 hm; omega) with h | h; exact h; exact absurd (dz_same w30_2 w30_3 hm h hrg) kp0_39
        refine g_iload_n X dX10_ringOf_45 2 rfl ?_
        refine g_iload_n X dX10_ringOf_46 3 rfl ?_
        refine g_icmp_ne X (tgt := 85) dX10_ringOf_47 (by decide) (by omega) (by omega) (fun c47 => ?_) (fun c47 => ?_)
        · exact J85 x2_30 x3_30 slowRow_30 r_slowRow_30 (by first | assumption | omega) (by first | assumption | omega) (by first | assumption | omega) (by first | assumption | omega) (by first | assumption | omega) (by first | assumption | omega)
        · refine g_iconst X dX10_ringOf_50 ?_
          refine g_istore X (lv' := [(4, vI 0), (0, .ref h), (1, vI p0), (2, vI x2_30), (3, vI x3_30)]) dX10_ringOf_51 (by decide) rfl ?_
          have L53 : ∀ (n : Nat) (x4_53 : Int) (slowRow_53 : Nat → Int), (RA 0 255 slowRow_53) → (0 ≤ x4_53 ∧ x4_53 ≤ p0) → (∀ j : Nat, (j : Int) < x4_53 → slowRow_53 j = fastRow_30 j) → (p0 - x4_53).toNat < n → GG p l e ⟨2, 0, 0, 44⟩ s m args below meth c 0 0 Q D A s.heap 5 (wX10 cI cB cJ h q v_stalls v_claimMany v_taped v_place0 v_length0 v_fault v_number0 v_open v_codeMany v_waiting v_saidMany v_clauses v_newMany v_newStalls v_lines v_salesNow v_outNow v_isKept v_keptStalls v_now v_aside v_kept v_oneOf v_otherOf v_signOf v_byOf v_tape v_said v_waitsAt v_saidLetter v_saidFrom v_saidHalf v_saidTo v_codes v_clauseOf v_codeFrom v_codeHalf v_codeTo v_stack v_facts v_newOne v_newOther v_newSign v_newBy v_moreOf v_firstOf v_toldOf v_mostOf v_mostThen v_sumTo v_rowFrom v_ordersOf v_lessOf v_weightOf v_rowNow slowRow_53 fastRow_30 v_lineNow v_firstLine v_freeBy v_heldBy v_heightOf v_upTo v_downTo v_oftenOf v_newUpper v_newLower) 53 [(0, .ref h), (1, vI p0), (2, vI x2_30), (4, vI x4_53)] [] := by
            intro n
            induction n with
            | zero => intros; exfalso; omega
            | succ n ih53 =>
              intro x4_53 slowRow_53 r_slowRow_53 w53_0 w53_1 wm53
              refine g_iload X dX10_ringOf_53 3 rfl ?_
              refine g_iload_n X dX10_ringOf_55 1 rfl ?_
              refine g_icmp_ge X (tgt := 79) dX10_ringOf_56 (by decide) (by omega) (by omega) (fun c56 => ?_) (fun c56 => ?_)
              · refine g_iconst X dX10_ringOf_79 ?_
                refine g_iload_n X dX10_ringOf_80 2 rfl ?_
                refine g_imul X dX10_ringOf_81 ?_
                refine g_istore_n X (lv' := [(2, vI (2 * x2_30)), (0, .ref h), (1, vI p0), (4, vI x4_53)]) dX10_ringOf_82 (by decide) rfl ?_
                have hsl : dzR slowRow_53 p0 (dzF v_tape p0.toNat) (2 * x2_30 - 1) := by rw [show 2 * x2_30 - 1 = x2_30 - 1 + x3_30 by omega]; exact dzR.copy w30_3 (fun j hj => w53_1 j (by omega))
                have hfa : dzR fastRow_30 p0 (dzF v_tape p0.toNat) (2 * x2_30 - 1 + 0) := by rw [show 2 * x2_30 - 1 + 0 = x2_30 - 1 + x3_30 by omega]; exact w30_3
                refine g_iconst X dX10_ringOf_83 ?_
                refine g_istore_n X (lv' := [(3, vI 0), (2, vI (2 * x2_30)), (0, .ref h), (1, vI p0), (4, vI x4_53)]) dX10_ringOf_84 (by decide) rfl ?_
                refine g_lv [2, 3, 1, 0] rfl ?_
                exact J85 (2 * x2_30) 0 slowRow_53 r_slowRow_53 (by first | assumption | omega) (by first | assumption | omega) (by first | assumption | omega) (by first | assumption | omega) (by first | assumption | omega) (by first | assumption | omega)
              · refine g_aload_n X dX10_ringOf_59 0 rfl ?_
                refine gM_get X 0 rfl 49 (by decide) uw1228 rfl dX10_ringOf_60 ?_
                refine g_iload X dX10_ringOf_63 3 rfl ?_
                refine g_aload_n X dX10_ringOf_65 0 rfl ?_
                refine gM_get X 0 rfl 50 (by decide) uw1229 rfl dX10_ringOf_66 ?_
                refine g_iload X dX10_ringOf_69 3 rfl ?_
                refine g_iald X 38 0 rfl rfl (by omega) (by decide) dX10_ringOf_71 (fun t71 e71 => ?_)
                have r71 := r_fastRow_30 (x4_53 : Int).toNat; rw [← e71] at r71
                refine g_iast X 37 0 rfl rfl (by omega) (by decide) dX10_ringOf_72 (fun slowRow_72 e72 => ?_)
                have r_slowRow_72 : RA 0 255 slowRow_72 := by rw [e72]; exact RA_up r_slowRow_53 (by omega)
                refine g_ws (ws2 := (wX10 cI cB cJ h q v_stalls v_claimMany v_taped v_place0 v_length0 v_fault v_number0 v_open v_codeMany v_waiting v_saidMany v_clauses v_newMany v_newStalls v_lines v_salesNow v_outNow v_isKept v_keptStalls v_now v_aside v_kept v_oneOf v_otherOf v_signOf v_byOf v_tape v_said v_waitsAt v_saidLetter v_saidFrom v_saidHalf v_saidTo v_codes v_clauseOf v_codeFrom v_codeHalf v_codeTo v_stack v_facts v_newOne v_newOther v_newSign v_newBy v_moreOf v_firstOf v_toldOf v_mostOf v_mostThen v_sumTo v_rowFrom v_ordersOf v_lessOf v_weightOf v_rowNow slowRow_72 fastRow_30 v_lineNow v_firstLine v_freeBy v_heldBy v_heightOf v_upTo v_downTo v_oftenOf v_newUpper v_newLower)) rfl ?_
                refine g_iinc X (lv' := [(4, vI (x4_53 + 1)), (0, .ref h), (1, vI p0), (2, vI x2_30)]) dX10_ringOf_73 3 rfl (by decide) rfl ?_
                refine g_goto X (tgt := 53) dX10_ringOf_76 (by decide) ?_
                refine g_lv [1, 2, 3, 0] rfl ?_
                exact ih53 (x4_53 + 1) slowRow_72 r_slowRow_72 (by first | assumption | omega) (by intro j hj; first | (exfalso; omega) | (rcases (show (j : Int) < x4_53 ∨ j = x4_53.toNat by omega) with h | h; (rw [e72, updZ_n _ _ (by omega)]; exact w53_1 j h); (rw [e72, h, updZ_s]; exact e71))) (by omega)
          refine g_lv [1, 2, 3, 0] rfl ?_
          exact L53 _ 0 slowRow_30 r_slowRow_30 (by first | assumption | omega) (by intro j hj; first | (exfalso; omega) | (rcases (show (j : Int) < x4_53 ∨ j = x4_53.toNat by omega) with h | h; (rw [e72, updZ_n _ _ (by omega)]; exact w53_1 j h); (rw [e72, h, updZ_s]; exact e71))) (Nat.lt_succ_self _)
  refine g_lv [2, 3, 1, 0] rfl ?_
  exact L30 _ 1 1 slowRow_6 fastRow_23 r_slowRow_6 r_fastRow_23 (by first | assumption | omega) (by first | assumption | omega) (by first | assumption | omega) (by first | assumption | omega) (by first | assumption | omega) (Nat.lt_succ_self _)
set_option maxHeartbeats 4000000 in
set_option maxRecDepth 100000 in
theorem c_X10_aheadOf (l : Launch) (D : va_G) (cI cB cJ : ClassId) (h : Nat) (q : Nat → Nat) {v_stalls v_claimMany v_taped v_place0 v_length0 v_fault v_number0 v_open v_codeMany v_waiting v_saidMany v_clauses v_newMany v_newStalls v_lines v_salesNow v_outNow v_isKept v_keptStalls : Int} {v_now v_aside v_kept v_oneOf v_otherOf v_signOf v_byOf v_tape v_said v_waitsAt v_saidLetter v_saidFrom v_saidHalf v_saidTo v_codes v_clauseOf v_codeFrom v_codeHalf v_codeTo v_stack v_facts v_newOne v_newOther v_newSign v_newBy v_moreOf v_firstOf v_toldOf v_mostOf v_mostThen v_sumTo v_rowFrom v_ordersOf v_lessOf v_weightOf v_rowNow v_slowRow v_fastRow v_lineNow v_firstLine v_freeBy v_heldBy v_heightOf v_upTo v_downTo v_oftenOf v_newUpper v_newLower : Nat → Int} {p0 p1 : Int} (r_v_tape : RA (-128) 127 v_tape) (r_v_slowRow : RA 0 255 v_slowRow) (r_v_fastRow : RA 0 255 v_fastRow) (hp0 : IR p0) (hp1 : IR p1) (hp2 : 2 ≤ p0 ∧ p0 ≤ 8) (hp3 : 1 ≤ p1 ∧ p1 ≤ 5000) (hp4 : dzO v_tape p0 p1) : CtI l yX10_aheadOf cX10_aheadOf 4 (some .int) ⟨2, 0, 0, 44⟩ D (TY cI cB cJ) (wX10 cI cB cJ h q v_stalls v_claimMany v_taped v_place0 v_length0 v_fault v_number0 v_open v_codeMany v_waiting v_saidMany v_clauses v_newMany v_newStalls v_lines v_salesNow v_outNow v_isKept v_keptStalls v_now v_aside v_kept v_oneOf v_otherOf v_signOf v_byOf v_tape v_said v_waitsAt v_saidLetter v_saidFrom v_saidHalf v_saidTo v_codes v_clauseOf v_codeFrom v_codeHalf v_codeTo v_stack v_facts v_newOne v_newOther v_newSign v_newBy v_moreOf v_firstOf v_toldOf v_mostOf v_mostThen v_sumTo v_rowFrom v_ordersOf v_lessOf v_weightOf v_rowNow v_slowRow v_fastRow v_lineNow v_firstLine v_freeBy v_heldBy v_heightOf v_upTo v_downTo v_oftenOf v_newUpper v_newLower) [.ref h, vI p0, vI p1] (fun z ws' => ∃ n_slowRow : Nat → Int, ∃ n_fastRow : Nat → Int, (RA 0 255 n_slowRow) ∧ (RA 0 255 n_fastRow) ∧ (0 ≤ z ∧ z ≤ 5000) ∧ (ws' = (wX10 cI cB cJ h q v_stalls v_claimMany v_taped v_place0 v_length0 v_fault v_number0 v_open v_codeMany v_waiting v_saidMany v_clauses v_newMany v_newStalls v_lines v_salesNow v_outNow v_isKept v_keptStalls v_now v_aside v_kept v_oneOf v_otherOf v_signOf v_byOf v_tape v_said v_waitsAt v_saidLetter v_saidFrom v_saidHalf v_saidTo v_codes v_clauseOf v_codeFrom v_codeHalf v_codeTo v_stack v_facts v_newOne v_newOther v_newSign v_newBy v_moreOf v_firstOf v_toldOf v_mostOf v_mostThen v_sumTo v_rowFrom v_ordersOf v_lessOf v_weightOf v_rowNow n_slowRow n_fastRow v_lineNow v_firstLine v_freeBy v_heldBy v_heightOf v_upTo v_downTo v_oftenOf v_newUpper v_newLower))) := by
  refine hdrI (own := RX10) rfl (by decide +kernel) (Nat.le_of_ble_eq_true rfl) ?_
  intro p e s m args below meth c Q A X hQ
  refine g_lvE (lv2 := [(0, .ref h), (1, vI p0), (2, vI p1)]) rfl ?_
  obtain ⟨sg0, hs0, hso⟩ := hp4
  refine g_aload_n X dX10_aheadOf_0 0 rfl ?_
  refine g_aload_n X dX10_aheadOf_1 0 rfl ?_
  refine gM_get X 0 rfl 49 (by decide) uw1228 rfl dX10_aheadOf_2 ?_
  refine g_iload_n X dX10_aheadOf_5 1 rfl ?_
  refine g_callVV0 X (c_X10_begins_c l D cI cB cJ h q (p1 := p0) r_v_tape r_v_slowRow (by first | assumption | omega) (by first | assumption | omega)) cv_X10_begins uw1665 ⟨rfl, rfl, by decide, by decide⟩ 0 rfl rfl rfl rfl rfl (Nat.le_of_ble_eq_true rfl) ⟨Nat.zero_le _, Nat.zero_le _⟩ dX10_aheadOf_6 (fun ws6 k6 => ?_)
  obtain ⟨slowRow_6, r_slowRow_6, kp0_6, rfl⟩ := k6
  refine g_aload_n X dX10_aheadOf_9 0 rfl ?_
  refine g_aload_n X dX10_aheadOf_10 0 rfl ?_
  refine gM_get X 0 rfl 50 (by decide) uw1229 rfl dX10_aheadOf_11 ?_
  refine g_iload_n X dX10_aheadOf_14 1 rfl ?_
  refine g_callVV0 X (c_X10_begins_d l D cI cB cJ h q (p1 := p0) r_v_tape r_v_fastRow (by first | assumption | omega) (by first | assumption | omega)) cv_X10_begins uw1665 ⟨rfl, rfl, by decide, by decide⟩ 0 rfl rfl rfl rfl rfl (Nat.le_of_ble_eq_true rfl) ⟨Nat.zero_le _, Nat.zero_le _⟩ dX10_aheadOf_15 (fun ws15 k15 => ?_)
  obtain ⟨fastRow_15, r_fastRow_15, kp0_15, rfl⟩ := k15
  refine g_iconst X dX10_aheadOf_18 ?_
  refine g_istore_n X (lv' := [(3, vI 0), (0, .ref h), (1, vI p0), (2, vI p1)]) dX10_aheadOf_19 (by decide) rfl ?_
  have hf0 : dzR fastRow_15 p0 (dzF v_tape p0.toNat) 0 := dzR.ini (by omega) kp0_15
  have L20 : ∀ (n : Nat) (x3_20 : Int) (fastRow_20 : Nat → Int), (RA 0 255 fastRow_20) → (0 ≤ x3_20 ∧ x3_20 ≤ p1) → (dzR fastRow_20 p0 (dzF v_tape p0.toNat) x3_20) → (p1 - x3_20).toNat < n → GG p l e ⟨2, 0, 0, 44⟩ s m args below meth c 0 0 Q D A s.heap 4 (wX10 cI cB cJ h q v_stalls v_claimMany v_taped v_place0 v_length0 v_fault v_number0 v_open v_codeMany v_waiting v_saidMany v_clauses v_newMany v_newStalls v_lines v_salesNow v_outNow v_isKept v_keptStalls v_now v_aside v_kept v_oneOf v_otherOf v_signOf v_byOf v_tape v_said v_waitsAt v_saidLetter v_saidFrom v_saidHalf v_saidTo v_codes v_clauseOf v_codeFrom v_codeHalf v_codeTo v_stack v_facts v_newOne v_newOther v_newSign v_newBy v_moreOf v_firstOf v_toldOf v_mostOf v_mostThen v_sumTo v_rowFrom v_ordersOf v_lessOf v_weightOf v_rowNow slowRow_6 fastRow_20 v_lineNow v_firstLine v_freeBy v_heldBy v_heightOf v_upTo v_downTo v_oftenOf v_newUpper v_newLower) 20 [(0, .ref h), (1, vI p0), (2, vI p1), (3, vI x3_20)] [] := by
    intro n
    induction n with
    | zero => intros; exfalso; omega
    | succ n ih20 =>
      intro x3_20 fastRow_20 r_fastRow_20 w20_0 w20_1 wm20
      refine g_iload_n X dX10_aheadOf_20 3 rfl ?_
      refine g_iload_n X dX10_aheadOf_21 2 rfl ?_
      refine g_icmp_ge X (tgt := 39) dX10_aheadOf_22 (by decide) (by omega) (by omega) (fun c22 => ?_) (fun c22 => ?_)
      · refine g_iconst X dX10_aheadOf_39 ?_
        refine g_istore_n X (lv' := [(3, vI 0), (0, .ref h), (1, vI p0), (2, vI p1)]) dX10_aheadOf_40 (by decide) rfl ?_
        have hs1 : dzR slowRow_6 p0 (dzF v_tape p0.toNat) 0 := dzR.ini (by omega) kp0_6
        have hf1 : dzR fastRow_20 p0 (dzF v_tape p0.toNat) (0 + p1) := by rw [show 0 + p1 = x3_20 by omega]; exact w20_1
        have L41 : ∀ (n : Nat) (x3_41 : Int) (slowRow_41 : Nat → Int) (fastRow_41 : Nat → Int), (RA 0 255 slowRow_41) → (RA 0 255 fastRow_41) → (0 ≤ x3_41 ∧ x3_41 ≤ (sg0 : Int)) → (dzR slowRow_41 p0 (dzF v_tape p0.toNat) x3_41) → (dzR fastRow_41 p0 (dzF v_tape p0.toNat) (x3_41 + p1)) → ((sg0 : Int) - x3_41).toNat < n → GG p l e ⟨2, 0, 0, 44⟩ s m args below meth c 0 0 Q D A s.heap 4 (wX10 cI cB cJ h q v_stalls v_claimMany v_taped v_place0 v_length0 v_fault v_number0 v_open v_codeMany v_waiting v_saidMany v_clauses v_newMany v_newStalls v_lines v_salesNow v_outNow v_isKept v_keptStalls v_now v_aside v_kept v_oneOf v_otherOf v_signOf v_byOf v_tape v_said v_waitsAt v_saidLetter v_saidFrom v_saidHalf v_saidTo v_codes v_clauseOf v_codeFrom v_codeHalf v_codeTo v_stack v_facts v_newOne v_newOther v_newSign v_newBy v_moreOf v_firstOf v_toldOf v_mostOf v_mostThen v_sumTo v_rowFrom v_ordersOf v_lessOf v_weightOf v_rowNow slowRow_41 fastRow_41 v_lineNow v_firstLine v_freeBy v_heldBy v_heightOf v_upTo v_downTo v_oftenOf v_newUpper v_newLower) 41 [(0, .ref h), (1, vI p0), (3, vI x3_41)] [] := by
          intro n
          induction n with
          | zero => intros; exfalso; omega
          | succ n ih41 =>
            intro x3_41 slowRow_41 fastRow_41 r_slowRow_41 r_fastRow_41 w41_0 w41_1 w41_2 wm41
            refine g_aload_n X dX10_aheadOf_41 0 rfl ?_
            refine gM_get X 0 rfl 49 (by decide) uw1228 rfl dX10_aheadOf_42 ?_
            refine g_aload_n X dX10_aheadOf_45 0 rfl ?_
            refine gM_get X 0 rfl 50 (by decide) uw1229 rfl dX10_aheadOf_46 ?_
            refine g_iload_n X dX10_aheadOf_49 1 rfl ?_
            refine g_callSI X (c_X10_areSame_b l D cI cB cJ (q 36) (q 37) (p2 := p0) r_slowRow_41 r_fastRow_41 (by first | assumption | omega) (by first | assumption | omega)) [37, 38] [0, 1, 2, 3, 4, 5, 6, 7, 8, 9, 10, 11, 12, 13, 14, 15, 16, 17, 18, 19, 20, 21, 22, 23, 24, 25, 26, 27, 28, 29, 30, 31, 32, 33, 34, 35, 36, 39, 40, 41, 42, 43, 44, 45, 46, 47, 48] rfl rfl rfl rfl rfl (by decide) cv_X10_areSame uw1675 ⟨rfl, rfl, by decide, by decide⟩ rfl rfl (Nat.le_of_ble_eq_true rfl) ⟨Nat.zero_le _, Nat.zero_le _⟩ dX10_aheadOf_50 (fun t50 ws50 k50 => ?_)
            obtain ⟨kb_50, ⟨kp0_50, rfl⟩⟩ := k50
            refine g_perm (ws2 := (wX10 cI cB cJ h q v_stalls v_claimMany v_taped v_place0 v_length0 v_fault v_number0 v_open v_codeMany v_waiting v_saidMany v_clauses v_newMany v_newStalls v_lines v_salesNow v_outNow v_isKept v_keptStalls v_now v_aside v_kept v_oneOf v_otherOf v_signOf v_byOf v_tape v_said v_waitsAt v_saidLetter v_saidFrom v_saidHalf v_saidTo v_codes v_clauseOf v_codeFrom v_codeHalf v_codeTo v_stack v_facts v_newOne v_newOther v_newSign v_newBy v_moreOf v_firstOf v_toldOf v_mostOf v_mostThen v_sumTo v_rowFrom v_ordersOf v_lessOf v_weightOf v_rowNow slowRow_41 fastRow_41 v_lineNow v_firstLine v_freeBy v_heldBy v_heightOf v_upTo v_downTo v_oftenOf v_newUpper v_newLower)) [0, 1, 2, 3, 4, 5, 6, 7, 8, 9, 10, 11, 12, 13, 14, 15, 16, 17, 18, 19, 20, 21, 22, 23, 24, 25, 26, 27, 28, 29, 30, 31, 32, 33, 34, 35, 36, 47, 48, 37, 38, 39, 40, 41, 42, 43, 44, 45, 46] rfl rfl rfl ?_
            refine g_if_ne X (tgt := 79) dX10_aheadOf_53 (by decide) (by omega) (fun c53 => ?_) (fun c53 => ?_)
            · replace kb_50 := kb_50.resolve_left (fun h => c53 h)
              replace kp0_50 := kp0_50.resolve_right (fun h => c53 h.1)
              refine g_iload_n X dX10_aheadOf_79 2 rfl ?_
              exact hQ _ _ _ _ dX10_aheadOf_80 ⟨slowRow_41, fastRow_41, r_slowRow_41, r_fastRow_41, (by first | assumption | omega), rfl⟩
            · clear kb_50
              replace kp0_50 := (kp0_50.resolve_left (fun h => absurd h.1 (by omega))).2
              have hne : x3_41 < (sg0 : Int) := by rcases (show x3_41 < (sg0 : Int) ∨ x3_41 = (sg0 : Int) by omega) with h | h; exact h; (exfalso; rw [h] at w41_1 w41_2; exact absurd (dz_same2 w41_1 w41_2 (by omega) hso) kp0_50)
              refine g_aload_n X dX10_aheadOf_56 0 rfl ?_
              refine gM_get X 0 rfl 49 (by decide) uw1228 rfl dX10_aheadOf_57 ?_
              refine g_iload_n X dX10_aheadOf_60 1 rfl ?_
              refine g_callSV X (c_X10_goesRound_b l D cI cB cJ (q 36) (p1 := p0) r_slowRow_41 (by first | assumption | omega) (by first | assumption | omega)) [37] [0, 1, 2, 3, 4, 5, 6, 7, 8, 9, 10, 11, 12, 13, 14, 15, 16, 17, 18, 19, 20, 21, 22, 23, 24, 25, 26, 27, 28, 29, 30, 31, 32, 33, 34, 35, 36, 38, 39, 40, 41, 42, 43, 44, 45, 46, 47, 48] rfl rfl rfl rfl rfl (by decide) cv_X10_goesRound uw1669 ⟨rfl, rfl, by decide, by decide⟩ rfl rfl (Nat.le_of_ble_eq_true rfl) ⟨Nat.zero_le _, Nat.zero_le _⟩ dX10_aheadOf_61 (fun ws61 k61 => ?_)
              obtain ⟨slowRow_61, r_slowRow_61, kp0_61, rfl⟩ := k61
              refine g_perm (ws2 := (wX10 cI cB cJ h q v_stalls v_claimMany v_taped v_place0 v_length0 v_fault v_number0 v_open v_codeMany v_waiting v_saidMany v_clauses v_newMany v_newStalls v_lines v_salesNow v_outNow v_isKept v_keptStalls v_now v_aside v_kept v_oneOf v_otherOf v_signOf v_byOf v_tape v_said v_waitsAt v_saidLetter v_saidFrom v_saidHalf v_saidTo v_codes v_clauseOf v_codeFrom v_codeHalf v_codeTo v_stack v_facts v_newOne v_newOther v_newSign v_newBy v_moreOf v_firstOf v_toldOf v_mostOf v_mostThen v_sumTo v_rowFrom v_ordersOf v_lessOf v_weightOf v_rowNow slowRow_61 fastRow_41 v_lineNow v_firstLine v_freeBy v_heldBy v_heightOf v_upTo v_downTo v_oftenOf v_newUpper v_newLower)) [0, 1, 2, 3, 4, 5, 6, 7, 8, 9, 10, 11, 12, 13, 14, 15, 16, 17, 18, 19, 20, 21, 22, 23, 24, 25, 26, 27, 28, 29, 30, 31, 32, 33, 34, 35, 36, 48, 37, 38, 39, 40, 41, 42, 43, 44, 45, 46, 47] rfl rfl rfl ?_
              refine g_aload_n X dX10_aheadOf_64 0 rfl ?_
              refine gM_get X 0 rfl 50 (by decide) uw1229 rfl dX10_aheadOf_65 ?_
              refine g_iload_n X dX10_aheadOf_68 1 rfl ?_
              refine g_callSV X (c_X10_goesRound_b l D cI cB cJ (q 37) (p1 := p0) r_fastRow_41 (by first | assumption | omega) (by first | assumption | omega)) [38] [0, 1, 2, 3, 4, 5, 6, 7, 8, 9, 10, 11, 12, 13, 14, 15, 16, 17, 18, 19, 20, 21, 22, 23, 24, 25, 26, 27, 28, 29, 30, 31, 32, 33, 34, 35, 36, 37, 39, 40, 41, 42, 43, 44, 45, 46, 47, 48] rfl rfl rfl rfl rfl (by decide) cv_X10_goesRound uw1669 ⟨rfl, rfl, by decide, by decide⟩ rfl rfl (Nat.le_of_ble_eq_true rfl) ⟨Nat.zero_le _, Nat.zero_le _⟩ dX10_aheadOf_69 (fun ws69 k69 => ?_)
              obtain ⟨fastRow_69, r_fastRow_69, kp0_69, rfl⟩ := k69
              refine g_perm (ws2 := (wX10 cI cB cJ h q v_stalls v_claimMany v_taped v_place0 v_length0 v_fault v_number0 v_open v_codeMany v_waiting v_saidMany v_clauses v_newMany v_newStalls v_lines v_salesNow v_outNow v_isKept v_keptStalls v_now v_aside v_kept v_oneOf v_otherOf v_signOf v_byOf v_tape v_said v_waitsAt v_saidLetter v_saidFrom v_saidHalf v_saidTo v_codes v_clauseOf v_codeFrom v_codeHalf v_codeTo v_stack v_facts v_newOne v_newOther v_newSign v_newBy v_moreOf v_firstOf v_toldOf v_mostOf v_mostThen v_sumTo v_rowFrom v_ordersOf v_lessOf v_weightOf v_rowNow slowRow_61 fastRow_69 v_lineNow v_firstLine v_freeBy v_heldBy v_heightOf v_upTo v_downTo v_oftenOf v_newUpper v_newLower)) [0, 1, 2, 3, 4, 5, 6, 7, 8, 9, 10, 11, 12, 13, 14, 15, 16, 17, 18, 19, 20, 21, 22, 23, 24, 25, 26, 27, 28, 29, 30, 31, 32, 33, 34, 35, 36, 37, 48, 38, 39, 40, 41, 42, 43, 44, 45, 46, 47] rfl rfl rfl ?_
              have hs3 : dzR slowRow_61 p0 (dzF v_tape p0.toNat) (x3_41 + 1) := dzR.next w41_1 (by omega) (by omega) kp0_61
              have hf3 : dzR fastRow_69 p0 (dzF v_tape p0.toNat) (x3_41 + 1 + p1) := by rw [show x3_41 + 1 + p1 = x3_41 + p1 + 1 by omega]; exact dzR.next w41_2 (by omega) (by omega) kp0_69
              refine g_iload_n X dX10_aheadOf_72 2 rfl ?_
              refine g_iconst X dX10_aheadOf_73 ?_
              refine g_iadd X dX10_aheadOf_74 ?_
              refine g_istore_n X (lv' := [(3, vI (x3_41 + 1)), (0, .ref h), (1, vI p0)]) dX10_aheadOf_75 (by decide) rfl ?_
              refine g_goto X (tgt := 41) dX10_aheadOf_76 (by decide) ?_
              refine g_lv [1, 2, 0] rfl ?_
              exact ih41 (x3_41 + 1) slowRow_61 fastRow_69 r_slowRow_61 r_fastRow_69 (by first | assumption | omega) (by first | assumption | omega) (by first | assumption | omega) (by omega)
        refine g_lv [1, 2, 0] rfl ?_
        exact L41 _ 0 slowRow_6 fastRow_20 r_slowRow_6 r_fastRow_20 (by first | assumption | omega) (by first | assumption | omega) (by first | assumption | omega) (Nat.lt_succ_self _)
      · refine g_aload_n X dX10_aheadOf_25 0 rfl ?_
        refine gM_get X 0 rfl 50 (by decide) uw1229 rfl dX10_aheadOf_26 ?_
        refine g_iload_n X dX10_aheadOf_29 1 rfl ?_
        refine g_callSV X (c_X10_goesRound_b l D cI cB cJ (q 37) (p1 := p0) r_fastRow_20 (by first | assumption | omega) (by first | assumption | omega)) [38] [0, 1, 2, 3, 4, 5, 6, 7, 8, 9, 10, 11, 12, 13, 14, 15, 16, 17, 18, 19, 20, 21, 22, 23, 24, 25, 26, 27, 28, 29, 30, 31, 32, 33, 34, 35, 36, 37, 39, 40, 41, 42, 43, 44, 45, 46, 47, 48] rfl rfl rfl rfl rfl (by decide) cv_X10_goesRound uw1669 ⟨rfl, rfl, by decide, by decide⟩ rfl rfl (Nat.le_of_ble_eq_true rfl) ⟨Nat.zero_le _, Nat.zero_le _⟩ dX10_aheadOf_30 (fun ws30 k30 => ?_)
        obtain ⟨fastRow_30, r_fastRow_30, kp0_30, rfl⟩ := k30
        refine g_perm (ws2 := (wX10 cI cB cJ h q v_stalls v_claimMany v_taped v_place0 v_length0 v_fault v_number0 v_open v_codeMany v_waiting v_saidMany v_clauses v_newMany v_newStalls v_lines v_salesNow v_outNow v_isKept v_keptStalls v_now v_aside v_kept v_oneOf v_otherOf v_signOf v_byOf v_tape v_said v_waitsAt v_saidLetter v_saidFrom v_saidHalf v_saidTo v_codes v_clauseOf v_codeFrom v_codeHalf v_codeTo v_stack v_facts v_newOne v_newOther v_newSign v_newBy v_moreOf v_firstOf v_toldOf v_mostOf v_mostThen v_sumTo v_rowFrom v_ordersOf v_lessOf v_weightOf v_rowNow slowRow_6 fastRow_30 v_lineNow v_firstLine v_freeBy v_heldBy v_heightOf v_upTo v_downTo v_oftenOf v_newUpper v_newLower)) [0, 1, 2, 3, 4, 5, 6, 7, 8, 9, 10, 11, 12, 13, 14, 15, 16, 17, 18, 19, 20, 21, 22, 23, 24, 25, 26, 27, 28, 29, 30, 31, 32, 33, 34, 35, 36, 37, 48, 38, 39, 40, 41, 42, 43, 44, 45, 46, 47] rfl rfl rfl ?_
        have hf2 : dzR fastRow_30 p0 (dzF v_tape p0.toNat) (x3_20 + 1) := dzR.next w20_1 (by omega) (by omega) kp0_30
        refine g_iinc X (lv' := [(3, vI (x3_20 + 1)), (0, .ref h), (1, vI p0), (2, vI p1)]) dX10_aheadOf_33 3 rfl (by decide) rfl ?_
        refine g_goto X (tgt := 20) dX10_aheadOf_36 (by decide) ?_
        refine g_lv [1, 2, 3, 0] rfl ?_
        exact ih20 (x3_20 + 1) fastRow_30 r_fastRow_30 (by first | assumption | omega) (by first | assumption | omega) (by omega)
  refine g_lv [1, 2, 3, 0] rfl ?_
  exact L20 _ 0 fastRow_15 r_fastRow_15 (by first | assumption | omega) (by first | assumption | omega) (Nat.lt_succ_self _)
set_option maxHeartbeats 4000000 in
set_option maxRecDepth 100000 in
theorem c_X10_round (l : Launch) (D : va_G) (cI cB cJ : ClassId) (h : Nat) (q : Nat → Nat) {v_stalls v_claimMany v_taped v_place0 v_length0 v_fault v_number0 v_open v_codeMany v_waiting v_saidMany v_clauses v_newMany v_newStalls v_lines v_salesNow v_outNow v_isKept v_keptStalls : Int} {v_now v_aside v_kept v_oneOf v_otherOf v_signOf v_byOf v_tape v_said v_waitsAt v_saidLetter v_saidFrom v_saidHalf v_saidTo v_codes v_clauseOf v_codeFrom v_codeHalf v_codeTo v_stack v_facts v_newOne v_newOther v_newSign v_newBy v_moreOf v_firstOf v_toldOf v_mostOf v_mostThen v_sumTo v_rowFrom v_ordersOf v_lessOf v_weightOf v_rowNow v_slowRow v_fastRow v_lineNow v_firstLine v_freeBy v_heldBy v_heightOf v_upTo v_downTo v_oftenOf v_newUpper v_newLower : Nat → Int} {p0 p1 : Int} (kr_v_taped : 0 ≤ v_taped ∧ v_taped ≤ 260) (r_v_tape : RA (-128) 127 v_tape) (r_v_slowRow : RA 0 255 v_slowRow) (r_v_fastRow : RA 0 255 v_fastRow) (hp0 : IR p0) (hp1 : IR p1) : CtI l yX10_round cX10_round 4 (some .int) ⟨3, 0, 0, 68⟩ D (TY cI cB cJ) (wX10 cI cB cJ h q v_stalls v_claimMany v_taped v_place0 v_length0 v_fault v_number0 v_open v_codeMany v_waiting v_saidMany v_clauses v_newMany v_newStalls v_lines v_salesNow v_outNow v_isKept v_keptStalls v_now v_aside v_kept v_oneOf v_otherOf v_signOf v_byOf v_tape v_said v_waitsAt v_saidLetter v_saidFrom v_saidHalf v_saidTo v_codes v_clauseOf v_codeFrom v_codeHalf v_codeTo v_stack v_facts v_newOne v_newOther v_newSign v_newBy v_moreOf v_firstOf v_toldOf v_mostOf v_mostThen v_sumTo v_rowFrom v_ordersOf v_lessOf v_weightOf v_rowNow v_slowRow v_fastRow v_lineNow v_firstLine v_freeBy v_heldBy v_heightOf v_upTo v_downTo v_oftenOf v_newUpper v_newLower) [.ref h, vI p0, vI p1] (fun z ws' => ∃ n_taped : Int, ∃ n_slowRow : Nat → Int, ∃ n_fastRow : Nat → Int, (0 ≤ n_taped ∧ n_taped ≤ 260) ∧ (RA 0 255 n_slowRow) ∧ (RA 0 255 n_fastRow) ∧ (IR z) ∧ ((0 ≤ p1 ∧ p1 ≤ 2 ∧ 2 ≤ p0 ∧ p0 ≤ 8 ∧ p0 ≤ v_taped ∧ n_taped = 0) ∨ (¬ (0 ≤ p1 ∧ p1 ≤ 2 ∧ 2 ≤ p0 ∧ p0 ≤ 8 ∧ p0 ≤ v_taped) ∧ n_taped = v_taped)) ∧ (ws' = (wX10 cI cB cJ h q v_stalls v_claimMany n_taped v_place0 v_length0 v_fault v_number0 v_open v_codeMany v_waiting v_saidMany v_clauses v_newMany v_newStalls v_lines v_salesNow v_outNow v_isKept v_keptStalls v_now v_aside v_kept v_oneOf v_otherOf v_signOf v_byOf v_tape v_said v_waitsAt v_saidLetter v_saidFrom v_saidHalf v_saidTo v_codes v_clauseOf v_codeFrom v_codeHalf v_codeTo v_stack v_facts v_newOne v_newOther v_newSign v_newBy v_moreOf v_firstOf v_toldOf v_mostOf v_mostThen v_sumTo v_rowFrom v_ordersOf v_lessOf v_weightOf v_rowNow n_slowRow n_fastRow v_lineNow v_firstLine v_freeBy v_heldBy v_heightOf v_upTo v_downTo v_oftenOf v_newUpper v_newLower))) := by
  refine hdrI (own := RX10) rfl (by decide +kernel) (Nat.le_of_ble_eq_true rfl) ?_
  intro p e s m args below meth c Q A X hQ
  refine g_lvE (lv2 := [(0, .ref h), (1, vI p0), (2, vI p1)]) rfl ?_
  refine g_iload_n X dX10_round_0 1 rfl ?_
  refine g_iconst X dX10_round_1 ?_
  refine g_bipush X (z := 8) dX10_round_2 (by decide) ?_
  refine g_callSIE X (c_X10_in l D cI cB cJ (p0 := p0) (p1 := 2) (p2 := 8) (by first | assumption | omega) (by first | assumption | omega) (by first | assumption | omega)) cv_X10_in uw1394 ⟨rfl, rfl, by decide, by decide⟩ rfl rfl (Nat.le_of_ble_eq_true rfl) ⟨Nat.zero_le _, Nat.zero_le _⟩ dX10_round_4 (fun t4 ws4 k4 => ?_)
  obtain ⟨kb_4, ⟨kp0_4, rfl⟩⟩ := k4
  refine g_if_eq X (tgt := 27) dX10_round_7 (by decide) (by omega) (fun c7 => ?_) (fun c7 => ?_)
  · clear kb_4
    replace kp0_4 := (kp0_4.resolve_left (fun h => absurd h.1 (by omega))).2
    refine g_iconst X dX10_round_27 ?_
    exact hQ _ _ _ _ dX10_round_28 ⟨v_taped, v_slowRow, v_fastRow, (by omega), r_v_slowRow, r_v_fastRow, (by first | assumption | omega), (by first | assumption | omega), rfl⟩
  · replace kb_4 := kb_4.resolve_left (fun h => c7 h)
    replace kp0_4 := kp0_4.resolve_right (fun h => c7 h.1)
    refine g_iload_n X dX10_round_10 2 rfl ?_
    refine g_iconst X dX10_round_11 ?_
    refine g_iconst X dX10_round_12 ?_
    refine g_callSIE X (c_X10_in l D cI cB cJ (p0 := p1) (p1 := 0) (p2 := 2) (by first | assumption | omega) (by first | assumption | omega) (by first | assumption | omega)) cv_X10_in uw1394 ⟨rfl, rfl, by decide, by decide⟩ rfl rfl (Nat.le_of_ble_eq_true rfl) ⟨Nat.zero_le _, Nat.zero_le _⟩ dX10_round_13 (fun t13 ws13 k13 => ?_)
    obtain ⟨kb_13, ⟨kp0_13, rfl⟩⟩ := k13
    refine g_if_eq X (tgt := 27) dX10_round_16 (by decide) (by omega) (fun c16 => ?_) (fun c16 => ?_)
    · clear kb_13
      replace kp0_13 := (kp0_13.resolve_left (fun h => absurd h.1 (by omega))).2
      refine g_iconst X dX10_round_27 ?_
      exact hQ _ _ _ _ dX10_round_28 ⟨v_taped, v_slowRow, v_fastRow, (by omega), r_v_slowRow, r_v_fastRow, (by first | assumption | omega), (by first | assumption | omega), rfl⟩
    · replace kb_13 := kb_13.resolve_left (fun h => c16 h)
      replace kp0_13 := kp0_13.resolve_right (fun h => c16 h.1)
      refine g_iload_n X dX10_round_19 1 rfl ?_
      refine g_aload_n X dX10_round_20 0 rfl ?_
      refine gM_get X 0 rfl 10 (by decide) uw1189 rfl dX10_round_21 ?_
      refine g_icmp_le X (tgt := 29) dX10_round_24 (by decide) (by omega) (by omega) (fun c24 => ?_) (fun c24 => ?_)
      · refine g_aload_n X dX10_round_29 0 rfl ?_
        refine g_iconst X dX10_round_30 ?_
        refine gM_put X 0 rfl 10 (by decide) uw1189 rfl rfl rfl (Nat.le_of_ble_eq_true rfl) dX10_round_31 (ws2 := (wX10 cI cB cJ h q v_stalls v_claimMany 0 v_place0 v_length0 v_fault v_number0 v_open v_codeMany v_waiting v_saidMany v_clauses v_newMany v_newStalls v_lines v_salesNow v_outNow v_isKept v_keptStalls v_now v_aside v_kept v_oneOf v_otherOf v_signOf v_byOf v_tape v_said v_waitsAt v_saidLetter v_saidFrom v_saidHalf v_saidTo v_codes v_clauseOf v_codeFrom v_codeHalf v_codeTo v_stack v_facts v_newOne v_newOther v_newSign v_newBy v_moreOf v_firstOf v_toldOf v_mostOf v_mostThen v_sumTo v_rowFrom v_ordersOf v_lessOf v_weightOf v_rowNow v_slowRow v_fastRow v_lineNow v_firstLine v_freeBy v_heldBy v_heightOf v_upTo v_downTo v_oftenOf v_newUpper v_newLower)) rfl ?_
        refine g_aload_n X dX10_round_34 0 rfl ?_
        refine g_iload_n X dX10_round_35 1 rfl ?_
        refine g_callVI0 X (c_X10_ringOf l D cI cB cJ h q (p0 := p0) r_v_tape r_v_slowRow r_v_fastRow (by first | assumption | omega) (by first | assumption | omega)) cv_X10_ringOf uw1661 ⟨rfl, rfl, by decide, by decide⟩ 0 rfl rfl rfl rfl rfl (Nat.le_of_ble_eq_true rfl) ⟨Nat.zero_le _, Nat.zero_le _⟩ dX10_round_36 (fun t36 ws36 k36 => ?_)
        obtain ⟨slowRow_36, fastRow_36, r_slowRow_36, r_fastRow_36, kp0_36, kp1_36, rfl⟩ := k36
        refine g_istore_n X (lv' := [(3, vI t36), (0, .ref h), (1, vI p0), (2, vI p1)]) dX10_round_39 (by decide) rfl ?_
        refine g_iload_n X dX10_round_40 3 rfl ?_
        refine g_iconst X dX10_round_41 ?_
        refine g_icmp_ne X (tgt := 47) dX10_round_42 (by decide) (by omega) (by omega) (fun c42 => ?_) (fun c42 => ?_)
        · refine g_iload_n X dX10_round_47 3 rfl ?_
          refine g_if_ne X (tgt := 61) dX10_round_48 (by decide) (by omega) (fun c48 => ?_) (fun c48 => ?_)
          · refine g_aload_n X dX10_round_61 1 rfl ?_
            refine g_iload_n X dX10_round_62 2 rfl ?_
            refine g_iload_n X dX10_round_63 0 rfl ?_
            refine g_callVI0 X (c_X10_aheadOf l D cI cB cJ h q (p0 := p0) (p1 := t36) r_v_tape r_slowRow_36 r_fastRow_36 (by first | assumption | omega) (by first | assumption | omega) (by first | assumption | omega) (by first | assumption | omega) (by first | assumption | omega)) cv_X10_aheadOf uw1678 ⟨rfl, rfl, by decide, by decide⟩ 0 rfl rfl rfl rfl rfl (Nat.le_of_ble_eq_true rfl) ⟨Nat.zero_le _, Nat.zero_le _⟩ dX10_round_64 (fun t64 ws64 k64 => ?_)
            obtain ⟨slowRow_64, fastRow_64, r_slowRow_64, r_fastRow_64, kp0_64, rfl⟩ := k64
            exact hQ _ _ _ _ dX10_round_67 ⟨0, slowRow_64, fastRow_64, (by omega), r_slowRow_64, r_fastRow_64, (by first | assumption | omega), (by first | assumption | omega), rfl⟩
          · refine g_iload_n X dX10_round_51 0 rfl ?_
            refine g_iconst X dX10_round_52 ?_
            refine g_icmp_le X (tgt := 61) dX10_round_53 (by decide) (by omega) (by omega) (fun c53 => ?_) (fun c53 => ?_)
            · refine g_aload_n X dX10_round_61 1 rfl ?_
              refine g_iload_n X dX10_round_62 2 rfl ?_
              refine g_iload_n X dX10_round_63 0 rfl ?_
              refine g_callVI0 X (c_X10_aheadOf l D cI cB cJ h q (p0 := p0) (p1 := t36) r_v_tape r_slowRow_36 r_fastRow_36 (by first | assumption | omega) (by first | assumption | omega) (by first | assumption | omega) (by first | assumption | omega) (by first | assumption | omega)) cv_X10_aheadOf uw1678 ⟨rfl, rfl, by decide, by decide⟩ 0 rfl rfl rfl rfl rfl (Nat.le_of_ble_eq_true rfl) ⟨Nat.zero_le _, Nat.zero_le _⟩ dX10_round_64 (fun t64 ws64 k64 => ?_)
              obtain ⟨slowRow_64, fastRow_64, r_slowRow_64, r_fastRow_64, kp0_64, rfl⟩ := k64
              exact hQ _ _ _ _ dX10_round_67 ⟨0, slowRow_64, fastRow_64, (by omega), r_slowRow_64, r_fastRow_64, (by first | assumption | omega), (by first | assumption | omega), rfl⟩
            · refine g_bipush X (z := (-2)) dX10_round_56 (by decide) ?_
              refine g_goto X (tgt := 67) dX10_round_58 (by decide) ?_
              exact hQ _ _ _ _ dX10_round_67 ⟨0, slowRow_36, fastRow_36, (by omega), r_slowRow_36, r_fastRow_36, (by first | assumption | omega), (by first | assumption | omega), rfl⟩
        · refine g_iload_n X dX10_round_45 0 rfl ?_
          exact hQ _ _ _ _ dX10_round_46 ⟨0, slowRow_36, fastRow_36, (by omega), r_slowRow_36, r_fastRow_36, (by first | assumption | omega), (by first | assumption | omega), rfl⟩
      · refine g_iconst X dX10_round_27 ?_
        exact hQ _ _ _ _ dX10_round_28 ⟨v_taped, v_slowRow, v_fastRow, (by omega), r_v_slowRow, r_v_fastRow, (by first | assumption | omega), (by first | assumption | omega), rfl⟩
