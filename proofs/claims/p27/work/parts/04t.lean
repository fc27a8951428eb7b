set_option maxHeartbeats 4000000 in
set_option maxRecDepth 100000 in
theorem c_X10_begins (l : Launch) (D : va_G) (cI cB cJ : ClassId) (h : Nat) (q : Nat → Nat) {v_stalls v_claimMany v_taped v_place0 v_length0 v_fault v_number0 v_open v_codeMany v_waiting v_saidMany v_clauses v_newMany v_newStalls v_lines v_salesNow v_outNow v_isKept v_keptStalls : Int} {v_now v_aside v_kept v_oneOf v_otherOf v_signOf v_byOf v_tape v_said v_waitsAt v_saidLetter v_saidFrom v_saidHalf v_saidTo v_codes v_clauseOf v_codeFrom v_codeHalf v_codeTo v_stack v_facts v_newOne v_newOther v_newSign v_newBy v_moreOf v_firstOf v_toldOf v_mostOf v_mostThen v_sumTo v_rowFrom v_ordersOf v_lessOf v_weightOf v_rowNow v_slowRow v_fastRow v_lineNow v_firstLine v_freeBy v_heldBy v_heightOf v_upTo v_downTo v_oftenOf v_newUpper v_newLower : Nat → Int} {p1 : Int} (r_v_tape : RA (-128) 127 v_tape) (r_v_slowRow : RA 0 255 v_slowRow) (hp0 : IR p1) (hp1 : 0 ≤ p1 ∧ p1 ≤ 8) : CtV l yX10_begins cX10_begins 4 none ⟨1, 0, 0, 21⟩ D (TY cI cB cJ) (wX10 cI cB cJ h q v_stalls v_claimMany v_taped v_place0 v_length0 v_fault v_number0 v_open v_codeMany v_waiting v_saidMany v_clauses v_newMany v_newStalls v_lines v_salesNow v_outNow v_isKept v_keptStalls v_now v_aside v_kept v_oneOf v_otherOf v_signOf v_byOf v_tape v_said v_waitsAt v_saidLetter v_saidFrom v_saidHalf v_saidTo v_codes v_clauseOf v_codeFrom v_codeHalf v_codeTo v_stack v_facts v_newOne v_newOther v_newSign v_newBy v_moreOf v_firstOf v_toldOf v_mostOf v_mostThen v_sumTo v_rowFrom v_ordersOf v_lessOf v_weightOf v_rowNow v_slowRow v_fastRow v_lineNow v_firstLine v_freeBy v_heldBy v_heightOf v_upTo v_downTo v_oftenOf v_newUpper v_newLower) [.ref h, .ref (q 36), vI p1] (fun ws' => ∃ n_slowRow : Nat → Int, (RA 0 255 n_slowRow) ∧ (ws' = (wX10 cI cB cJ h q v_stalls v_claimMany v_taped v_place0 v_length0 v_fault v_number0 v_open v_codeMany v_waiting v_saidMany v_clauses v_newMany v_newStalls v_lines v_salesNow v_outNow v_isKept v_keptStalls v_now v_aside v_kept v_oneOf v_otherOf v_signOf v_byOf v_tape v_said v_waitsAt v_saidLetter v_saidFrom v_saidHalf v_saidTo v_codes v_clauseOf v_codeFrom v_codeHalf v_codeTo v_stack v_facts v_newOne v_newOther v_newSign v_newBy v_moreOf v_firstOf v_toldOf v_mostOf v_mostThen v_sumTo v_rowFrom v_ordersOf v_lessOf v_weightOf v_rowNow n_slowRow v_fastRow v_lineNow v_firstLine v_freeBy v_heldBy v_heightOf v_upTo v_downTo v_oftenOf v_newUpper v_newLower))) := by
  refine hdrV (own := RX10) rfl (by decide +kernel) (Nat.le_of_ble_eq_true rfl) ?_
  intro p e s m args below meth c Q A X hQ
  refine g_lvE (lv2 := [(0, .ref h), (1, .ref (q 36)), (2, vI p1)]) rfl ?_
  refine g_iconst X dX10_begins_0 ?_
  refine g_istore_n X (lv' := [(3, vI 0), (0, .ref h), (1, .ref (q 36)), (2, vI p1)]) dX10_begins_1 (by decide) rfl ?_
  have L2 : ∀ (n : Nat) (x3_2 : Int) (slowRow_2 : Nat → Int), (RA 0 255 slowRow_2) → (0 ≤ x3_2 ∧ x3_2 ≤ p1) → (p1 - x3_2).toNat < n → GG p l e ⟨1, 0, 0, 21⟩ s m args below meth c 0 0 Q D A s.heap 4 (wX10 cI cB cJ h q v_stalls v_claimMany v_taped v_place0 v_length0 v_fault v_number0 v_open v_codeMany v_waiting v_saidMany v_clauses v_newMany v_newStalls v_lines v_salesNow v_outNow v_isKept v_keptStalls v_now v_aside v_kept v_oneOf v_otherOf v_signOf v_byOf v_tape v_said v_waitsAt v_saidLetter v_saidFrom v_saidHalf v_saidTo v_codes v_clauseOf v_codeFrom v_codeHalf v_codeTo v_stack v_facts v_newOne v_newOther v_newSign v_newBy v_moreOf v_firstOf v_toldOf v_mostOf v_mostThen v_sumTo v_rowFrom v_ordersOf v_lessOf v_weightOf v_rowNow slowRow_2 v_fastRow v_lineNow v_firstLine v_freeBy v_heldBy v_heightOf v_upTo v_downTo v_oftenOf v_newUpper v_newLower) 2 [(0, .ref h), (1, .ref (q 36)), (2, vI p1), (3, vI x3_2)] [] := by
    intro n
    induction n with
    | zero => intros; exfalso; omega
    | succ n ih2 =>
      intro x3_2 slowRow_2 r_slowRow_2 w2_0 wm2
      refine g_iload_n X dX10_begins_2 3 rfl ?_
      refine g_iload_n X dX10_begins_3 2 rfl ?_
      refine g_icmp_ge X (tgt := 21) dX10_begins_4 (by decide) (by omega) (by omega) (fun c4 => ?_) (fun c4 => ?_)
      · exact hQ _ _ _ dX10_begins_21 ⟨slowRow_2, r_slowRow_2, rfl⟩
      · refine g_aload_n X dX10_begins_7 1 rfl ?_
        refine g_iload_n X dX10_begins_8 3 rfl ?_
        refine g_aload_n X dX10_begins_9 0 rfl ?_
        refine g_iload_n X dX10_begins_10 3 rfl ?_
        refine g_callVI0 X (c_X10_octet l D cI cB cJ h q (p0 := x3_2) r_v_tape (by first | assumption | omega) (by first | assumption | omega)) cv_X10_octet uw1641 ⟨rfl, rfl, by decide, by decide⟩ 0 rfl rfl rfl rfl rfl (Nat.le_of_ble_eq_true rfl) ⟨Nat.zero_le _, Nat.zero_le _⟩ dX10_begins_11 (fun t11 ws11 k11 => ?_)
        obtain ⟨kp0_11, kp1_11, kp2_11, rfl⟩ := k11
        refine g_iast X 37 0 rfl rfl (by omega) (by decide) dX10_begins_14 (fun slowRow_14 e14 => ?_)
        have r_slowRow_14 : RA 0 255 slowRow_14 := by rw [e14]; exact RA_up r_slowRow_2 (by omega)
        refine g_ws (ws2 := (wX10 cI cB cJ h q v_stalls v_claimMany v_taped v_place0 v_length0 v_fault v_number0 v_open v_codeMany v_waiting v_saidMany v_clauses v_newMany v_newStalls v_lines v_salesNow v_outNow v_isKept v_keptStalls v_now v_aside v_kept v_oneOf v_otherOf v_signOf v_byOf v_tape v_said v_waitsAt v_saidLetter v_saidFrom v_saidHalf v_saidTo v_codes v_clauseOf v_codeFrom v_codeHalf v_codeTo v_stack v_facts v_newOne v_newOther v_newSign v_newBy v_moreOf v_firstOf v_toldOf v_mostOf v_mostThen v_sumTo v_rowFrom v_ordersOf v_lessOf v_weightOf v_rowNow slowRow_14 v_fastRow v_lineNow v_firstLine v_freeBy v_heldBy v_heightOf v_upTo v_downTo v_oftenOf v_newUpper v_newLower)) rfl ?_
        refine g_iinc X (lv' := [(3, vI (x3_2 + 1)), (0, .ref h), (1, .ref (q 36)), (2, vI p1)]) dX10_begins_15 3 rfl (by decide) rfl ?_
        refine g_goto X (tgt := 2) dX10_begins_18 (by decide) ?_
        refine g_lv [1, 2, 3, 0] rfl ?_
        exact ih2 (x3_2 + 1) slowRow_14 r_slowRow_14 (by first | assumption | omega) (by omega)
  refine g_lv [1, 2, 3, 0] rfl ?_
  exact L2 _ 0 v_slowRow r_v_slowRow (by first | assumption | omega) (Nat.lt_succ_self _)
set_option maxHeartbeats 4000000 in
set_option maxRecDepth 100000 in
theorem c_X10_begins_f (l : Launch) (D : va_G) (cI cB cJ : ClassId) (h : Nat) (q : Nat → Nat) {v_stalls v_claimMany v_taped v_place0 v_length0 v_fault v_number0 v_open v_codeMany v_waiting v_saidMany v_clauses v_newMany v_newStalls v_lines v_salesNow v_outNow v_isKept v_keptStalls : Int} {v_now v_aside v_kept v_oneOf v_otherOf v_signOf v_byOf v_tape v_said v_waitsAt v_saidLetter v_saidFrom v_saidHalf v_saidTo v_codes v_clauseOf v_codeFrom v_codeHalf v_codeTo v_stack v_facts v_newOne v_newOther v_newSign v_newBy v_moreOf v_firstOf v_toldOf v_mostOf v_mostThen v_sumTo v_rowFrom v_ordersOf v_lessOf v_weightOf v_rowNow v_slowRow v_fastRow v_lineNow v_firstLine v_freeBy v_heldBy v_heightOf v_upTo v_downTo v_oftenOf v_newUpper v_newLower : Nat → Int} {p1 : Int} (r_v_tape : RA (-128) 127 v_tape) (r_v_fastRow : RA 0 255 v_fastRow) (hp0 : IR p1) (hp1 : 0 ≤ p1 ∧ p1 ≤ 8) : CtV l yX10_begins cX10_begins 4 none ⟨1, 0, 0, 21⟩ D (TY cI cB cJ) (wX10 cI cB cJ h q v_stalls v_claimMany v_taped v_place0 v_length0 v_fault v_number0 v_open v_codeMany v_waiting v_saidMany v_clauses v_newMany v_newStalls v_lines v_salesNow v_outNow v_isKept v_keptStalls v_now v_aside v_kept v_oneOf v_otherOf v_signOf v_byOf v_tape v_said v_waitsAt v_saidLetter v_saidFrom v_saidHalf v_saidTo v_codes v_clauseOf v_codeFrom v_codeHalf v_codeTo v_stack v_facts v_newOne v_newOther v_newSign v_newBy v_moreOf v_firstOf v_toldOf v_mostOf v_mostThen v_sumTo v_rowFrom v_ordersOf v_lessOf v_weightOf v_rowNow v_slowRow v_fastRow v_lineNow v_firstLine v_freeBy v_heldBy v_heightOf v_upTo v_downTo v_oftenOf v_newUpper v_newLower) [.ref h, .ref (q 37), vI p1] (fun ws' => ∃ n_fastRow : Nat → Int, (RA 0 255 n_fastRow) ∧ (ws' = (wX10 cI cB cJ h q v_stalls v_claimMany v_taped v_place0 v_length0 v_fault v_number0 v_open v_codeMany v_waiting v_saidMany v_clauses v_newMany v_newStalls v_lines v_salesNow v_outNow v_isKept v_keptStalls v_now v_aside v_kept v_oneOf v_otherOf v_signOf v_byOf v_tape v_said v_waitsAt v_saidLetter v_saidFrom v_saidHalf v_saidTo v_codes v_clauseOf v_codeFrom v_codeHalf v_codeTo v_stack v_facts v_newOne v_newOther v_newSign v_newBy v_moreOf v_firstOf v_toldOf v_mostOf v_mostThen v_sumTo v_rowFrom v_ordersOf v_lessOf v_weightOf v_rowNow v_slowRow n_fastRow v_lineNow v_firstLine v_freeBy v_heldBy v_heightOf v_upTo v_downTo v_oftenOf v_newUpper v_newLower))) := by
  refine hdrV (own := RX10) rfl (by decide +kernel) (Nat.le_of_ble_eq_true rfl) ?_
  intro p e s m args below meth c Q A X hQ
  refine g_lvE (lv2 := [(0, .ref h), (1, .ref (q 37)), (2, vI p1)]) rfl ?_
  refine g_iconst X dX10_begins_0 ?_
  refine g_istore_n X (lv' := [(3, vI 0), (0, .ref h), (1, .ref (q 37)), (2, vI p1)]) dX10_begins_1 (by decide) rfl ?_
  have L2 : ∀ (n : Nat) (x3_2 : Int) (fastRow_2 : Nat → Int), (RA 0 255 fastRow_2) → (0 ≤ x3_2 ∧ x3_2 ≤ p1) → (p1 - x3_2).toNat < n → GG p l e ⟨1, 0, 0, 21⟩ s m args below meth c 0 0 Q D A s.heap 4 (wX10 cI cB cJ h q v_stalls v_claimMany v_taped v_place0 v_length0 v_fault v_number0 v_open v_codeMany v_waiting v_saidMany v_clauses v_newMany v_newStalls v_lines v_salesNow v_outNow v_isKept v_keptStalls v_now v_aside v_kept v_oneOf v_otherOf v_signOf v_byOf v_tape v_said v_waitsAt v_saidLetter v_saidFrom v_saidHalf v_saidTo v_codes v_clauseOf v_codeFrom v_codeHalf v_codeTo v_stack v_facts v_newOne v_newOther v_newSign v_newBy v_moreOf v_firstOf v_toldOf v_mostOf v_mostThen v_sumTo v_rowFrom v_ordersOf v_lessOf v_weightOf v_rowNow v_slowRow fastRow_2 v_lineNow v_firstLine v_freeBy v_heldBy v_heightOf v_upTo v_downTo v_oftenOf v_newUpper v_newLower) 2 [(0, .ref h), (1, .ref (q 37)), (2, vI p1), (3, vI x3_2)] [] := by
    intro n
    induction n with
    | zero => intros; exfalso; omega
    | succ n ih2 =>
      intro x3_2 fastRow_2 r_fastRow_2 w2_0 wm2
      refine g_iload_n X dX10_begins_2 3 rfl ?_
      refine g_iload_n X dX10_begins_3 2 rfl ?_
      refine g_icmp_ge X (tgt := 21) dX10_begins_4 (by decide) (by omega) (by omega) (fun c4 => ?_) (fun c4 => ?_)
      · exact hQ _ _ _ dX10_begins_21 ⟨fastRow_2, r_fastRow_2, rfl⟩
      · refine g_aload_n X dX10_begins_7 1 rfl ?_
        refine g_iload_n X dX10_begins_8 3 rfl ?_
        refine g_aload_n X dX10_begins_9 0 rfl ?_
        refine g_iload_n X dX10_begins_10 3 rfl ?_
        refine g_callVI0 X (c_X10_octet l D cI cB cJ h q (p0 := x3_2) r_v_tape (by first | assumption | omega) (by first | assumption | omega)) cv_X10_octet uw1641 ⟨rfl, rfl, by decide, by decide⟩ 0 rfl rfl rfl rfl rfl (Nat.le_of_ble_eq_true rfl) ⟨Nat.zero_le _, Nat.zero_le _⟩ dX10_begins_11 (fun t11 ws11 k11 => ?_)
        obtain ⟨kp0_11, kp1_11, kp2_11, rfl⟩ := k11
        refine g_iast X 38 0 rfl rfl (by omega) (by decide) dX10_begins_14 (fun fastRow_14 e14 => ?_)
        have r_fastRow_14 : RA 0 255 fastRow_14 := by rw [e14]; exact RA_up r_fastRow_2 (by omega)
        refine g_ws (ws2 := (wX10 cI cB cJ h q v_stalls v_claimMany v_taped v_place0 v_length0 v_fault v_number0 v_open v_codeMany v_waiting v_saidMany v_clauses v_newMany v_newStalls v_lines v_salesNow v_outNow v_isKept v_keptStalls v_now v_aside v_kept v_oneOf v_otherOf v_signOf v_byOf v_tape v_said v_waitsAt v_saidLetter v_saidFrom v_saidHalf v_saidTo v_codes v_clauseOf v_codeFrom v_codeHalf v_codeTo v_stack v_facts v_newOne v_newOther v_newSign v_newBy v_moreOf v_firstOf v_toldOf v_mostOf v_mostThen v_sumTo v_rowFrom v_ordersOf v_lessOf v_weightOf v_rowNow v_slowRow fastRow_14 v_lineNow v_firstLine v_freeBy v_heldBy v_heightOf v_upTo v_downTo v_oftenOf v_newUpper v_newLower)) rfl ?_
        refine g_iinc X (lv' := [(3, vI (x3_2 + 1)), (0, .ref h), (1, .ref (q 37)), (2, vI p1)]) dX10_begins_15 3 rfl (by decide) rfl ?_
        refine g_goto X (tgt := 2) dX10_begins_18 (by decide) ?_
        refine g_lv [1, 2, 3, 0] rfl ?_
        exact ih2 (x3_2 + 1) fastRow_14 r_fastRow_14 (by first | assumption | omega) (by omega)
  refine g_lv [1, 2, 3, 0] rfl ?_
  exact L2 _ 0 v_fastRow r_v_fastRow (by first | assumption | omega) (Nat.lt_succ_self _)
set_option maxHeartbeats 4000000 in
set_option maxRecDepth 100000 in
theorem c_X10_goesRound (l : Launch) (D : va_G) (cI cB cJ : ClassId) (r_row : Nat) {v_row : Nat → Int} {p1 : Int} (r_v_row : RA 0 255 v_row) (hp0 : IR p1) (hp1 : 1 ≤ p1 ∧ p1 ≤ 8) : CtV l yX10_goesRound cX10_goesRound 4 none ⟨1, 0, 0, 20⟩ D (TY cI cB cJ) (wA cI 8 r_row v_row) [.ref r_row, vI p1] (fun ws' => ∃ n_row : Nat → Int, (RA 0 255 n_row) ∧ (ws' = (wA cI 8 r_row n_row))) := by
  refine hdrV (own := RX10) rfl (by decide +kernel) (Nat.le_of_ble_eq_true rfl) ?_
  intro p e s m args below meth c Q A X hQ
  refine g_lvE (lv2 := [(0, .ref r_row), (1, vI p1)]) rfl ?_
  refine g_aload_n X dX10_goesRound_0 0 rfl ?_
  refine g_iconst X dX10_goesRound_1 ?_
  refine g_iald X 0 0 rfl rfl (by omega) (by decide) dX10_goesRound_2 (fun t2 e2 => ?_)
  have r2 := r_v_row (0 : Int).toNat; rw [← e2] at r2
  refine g_istore_n X (lv' := [(2, vI t2), (0, .ref r_row), (1, vI p1)]) dX10_goesRound_3 (by decide) rfl ?_
  refine g_iconst X dX10_goesRound_4 ?_
  refine g_istore_n X (lv' := [(3, vI 0), (2, vI t2), (0, .ref r_row), (1, vI p1)]) dX10_goesRound_5 (by decide) rfl ?_
  have L6 : ∀ (n : Nat) (x3_6 : Int) (row_6 : Nat → Int), (RA 0 255 row_6) → (0 ≤ x3_6 ∧ x3_6 ≤ p1) → (p1 - x3_6).toNat < n → GG p l e ⟨1, 0, 0, 20⟩ s m args below meth c 0 0 Q D A s.heap 4 (wA cI 8 r_row row_6) 6 [(0, .ref r_row), (1, vI p1), (2, vI t2), (3, vI x3_6)] [] := by
    intro n
    induction n with
    | zero => intros; exfalso; omega
    | succ n ih6 =>
      intro x3_6 row_6 r_row_6 w6_0 wm6
      refine g_iload_n X dX10_goesRound_6 3 rfl ?_
      refine g_iload_n X dX10_goesRound_7 1 rfl ?_
      refine g_icmp_ge X (tgt := 43) dX10_goesRound_8 (by decide) (by omega) (by omega) (fun c8 => ?_) (fun c8 => ?_)
      · exact hQ _ _ _ dX10_goesRound_43 ⟨row_6, r_row_6, rfl⟩
      · refine g_aload_n X dX10_goesRound_11 0 rfl ?_
        refine g_iload_n X dX10_goesRound_12 3 rfl ?_
        refine g_aload_n X dX10_goesRound_13 0 rfl ?_
        refine g_iload_n X dX10_goesRound_14 3 rfl ?_
        refine g_iald X 0 0 rfl rfl (by omega) (by decide) dX10_goesRound_15 (fun t15 e15 => ?_)
        have r15 := r_row_6 (x3_6 : Int).toNat; rw [← e15] at r15
        refine g_iload_n X dX10_goesRound_16 3 rfl ?_
        refine g_iload_n X dX10_goesRound_17 1 rfl ?_
        refine g_iconst X dX10_goesRound_18 ?_
        refine g_isub X dX10_goesRound_19 ?_
        refine g_icmp_ne X (tgt := 27) dX10_goesRound_20 (by decide) (by omega) (by omega) (fun c20 => ?_) (fun c20 => ?_)
        · refine g_aload_n X dX10_goesRound_27 0 rfl ?_
          refine g_iload_n X dX10_goesRound_28 3 rfl ?_
          refine g_iconst X dX10_goesRound_29 ?_
          refine g_iadd X dX10_goesRound_30 ?_
          refine g_iald X 0 0 rfl rfl (by omega) (by decide) dX10_goesRound_31 (fun t31 e31 => ?_)
          have r31 := r_row_6 (x3_6 + 1 : Int).toNat; rw [← e31] at r31
          refine g_isub X dX10_goesRound_32 ?_
          refine g_callSIE X (c_X10_size l D cI cB cJ (p0 := t15 - t31) (by first | assumption | omega) (by first | assumption | omega)) cv_X10_size uw1672 ⟨rfl, rfl, by decide, by decide⟩ rfl rfl (Nat.le_of_ble_eq_true rfl) ⟨Nat.zero_le _, Nat.zero_le _⟩ dX10_goesRound_33 (fun t33 ws33 k33 => ?_)
          obtain ⟨kp0_33, rfl⟩ := k33
          refine g_iast X 0 0 rfl rfl (by omega) (by decide) dX10_goesRound_36 (fun row_36 e36 => ?_)
          have r_row_36 : RA 0 255 row_36 := by rw [e36]; exact RA_up r_row_6 (by omega)
          refine g_ws (ws2 := (wA cI 8 r_row row_36)) rfl ?_
          refine g_iinc X (lv' := [(3, vI (x3_6 + 1)), (0, .ref r_row), (1, vI p1), (2, vI t2)]) dX10_goesRound_37 3 rfl (by decide) rfl ?_
          refine g_goto X (tgt := 6) dX10_goesRound_40 (by decide) ?_
          refine g_lv [1, 2, 3, 0] rfl ?_
          exact ih6 (x3_6 + 1) row_36 r_row_36 (by first | assumption | omega) (by omega)
        · refine g_iload_n X dX10_goesRound_23 2 rfl ?_
          refine g_goto X (tgt := 32) dX10_goesRound_24 (by decide) ?_
          refine g_isub X dX10_goesRound_32 ?_
          refine g_callSIE X (c_X10_size l D cI cB cJ (p0 := t15 - t2) (by first | assumption | omega) (by first | assumption | omega)) cv_X10_size uw1672 ⟨rfl, rfl, by decide, by decide⟩ rfl rfl (Nat.le_of_ble_eq_true rfl) ⟨Nat.zero_le _, Nat.zero_le _⟩ dX10_goesRound_33 (fun t33 ws33 k33 => ?_)
          obtain ⟨kp0_33, rfl⟩ := k33
          refine g_iast X 0 0 rfl rfl (by omega) (by decide) dX10_goesRound_36 (fun row_36 e36 => ?_)
          have r_row_36 : RA 0 255 row_36 := by rw [e36]; exact RA_up r_row_6 (by omega)
          refine g_ws (ws2 := (wA cI 8 r_row row_36)) rfl ?_
          refine g_iinc X (lv' := [(3, vI (x3_6 + 1)), (0, .ref r_row), (1, vI p1), (2, vI t2)]) dX10_goesRound_37 3 rfl (by decide) rfl ?_
          refine g_goto X (tgt := 6) dX10_goesRound_40 (by decide) ?_
          refine g_lv [1, 2, 3, 0] rfl ?_
          exact ih6 (x3_6 + 1) row_36 r_row_36 (by first | assumption | omega) (by omega)
  refine g_lv [2, 3, 1, 0] rfl ?_
  exact L6 _ 0 v_row r_v_row (by first | assumption | omega) (Nat.lt_succ_self _)
set_option maxHeartbeats 4000000 in
set_option maxRecDepth 100000 in
theorem c_X10_areSame (l : Launch) (D : va_G) (cI cB cJ : ClassId) (r_one : Nat) (r_other : Nat) {v_one v_other : Nat → Int} {p2 : Int} (r_v_one : RA 0 255 v_one) (r_v_other : RA 0 255 v_other) (hp0 : IR p2) (hp1 : 0 ≤ p2 ∧ p2 ≤ 8) : CtI l yX10_areSame cX10_areSame 4 (some .boolean) ⟨0, 0, 0, 0⟩ D (TY cI cB cJ) ((wA cI 8 r_one v_one) ++ (wA cI 8 r_other v_other)) [.ref r_one, .ref r_other, vI p2] (fun z ws' => (z = 0 ∨ z = 1) ∧ (ws' = ((wA cI 8 r_one v_one) ++ (wA cI 8 r_other v_other)))) := by
  refine hdrZ (own := RX10) rfl (by decide +kernel) (Nat.le_of_ble_eq_true rfl) ?_
  intro p e s m args below meth c Q A X hQ
  refine g_lvE (lv2 := [(0, .ref r_one), (1, .ref r_other), (2, vI p2)]) rfl ?_
  refine g_iconst X dX10_areSame_0 ?_
  refine g_istore_n X (lv' := [(3, vI 0), (0, .ref r_one), (1, .ref r_other), (2, vI p2)]) dX10_areSame_1 (by decide) rfl ?_
  have L2 : ∀ (n : Nat) (x3_2 : Int), (0 ≤ x3_2 ∧ x3_2 ≤ p2) → (p2 - x3_2).toNat < n → GG p l e ⟨0, 0, 0, 0⟩ s m args below meth c 0 0 Q D A s.heap 4 ((wA cI 8 r_one v_one) ++ (wA cI 8 r_other v_other)) 2 [(0, .ref r_one), (1, .ref r_other), (2, vI p2), (3, vI x3_2)] [] := by
    intro n
    induction n with
    | zero => intros; exfalso; omega
    | succ n ih2 =>
      intro x3_2 w2_0 wm2
      refine g_iload_n X dX10_areSame_2 3 rfl ?_
      refine g_iload_n X dX10_areSame_3 2 rfl ?_
      refine g_icmp_ge X (tgt := 24) dX10_areSame_4 (by decide) (by omega) (by omega) (fun c4 => ?_) (fun c4 => ?_)
      · refine g_iconst X dX10_areSame_24 ?_
        exact hQ _ _ _ _ dX10_areSame_25 ⟨by omega, rfl⟩
      · refine g_aload_n X dX10_areSame_7 0 rfl ?_
        refine g_iload_n X dX10_areSame_8 3 rfl ?_
        refine g_iald X 0 0 rfl rfl (by omega) (by decide) dX10_areSame_9 (fun t9 e9 => ?_)
        have r9 := r_v_one (x3_2 : Int).toNat; rw [← e9] at r9
        refine g_aload_n X dX10_areSame_10 1 rfl ?_
        refine g_iload_n X dX10_areSame_11 3 rfl ?_
        refine g_iald X 1 0 rfl rfl (by omega) (by decide) dX10_areSame_12 (fun t12 e12 => ?_)
        have r12 := r_v_other (x3_2 : Int).toNat; rw [← e12] at r12
        refine g_icmp_eq X (tgt := 18) dX10_areSame_13 (by decide) (by omega) (by omega) (fun c13 => ?_) (fun c13 => ?_)
        · refine g_iinc X (lv' := [(3, vI (x3_2 + 1)), (0, .ref r_one), (1, .ref r_other), (2, vI p2)]) dX10_areSame_18 3 rfl (by decide) rfl ?_
          refine g_goto X (tgt := 2) dX10_areSame_21 (by decide) ?_
          refine g_lv [1, 2, 3, 0] rfl ?_
          exact ih2 (x3_2 + 1) (by first | assumption | omega) (by omega)
        · refine g_iconst X dX10_areSame_16 ?_
          exact hQ _ _ _ _ dX10_areSame_17 ⟨by omega, rfl⟩
  refine g_lv [1, 2, 3, 0] rfl ?_
  exact L2 _ 0 (by first | assumption | omega) (Nat.lt_succ_self _)
