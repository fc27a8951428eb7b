set_option maxHeartbeats 4000000 in
set_option maxRecDepth 100000 in
theorem c_X10_readsNumber_b (l : Launch) (D : va_G) (cI cB cJ : ClassId) (h : Nat) (q : Nat → Nat) {v_stalls v_claimMany v_taped v_place0 v_length0 v_fault v_number0 v_open v_codeMany v_waiting v_saidMany v_clauses v_newMany v_newStalls v_lines v_salesNow v_outNow v_isKept v_keptStalls : Int} {v_now v_aside v_kept v_oneOf v_otherOf v_signOf v_byOf v_tape v_said v_waitsAt v_saidLetter v_saidFrom v_saidHalf v_saidTo v_codes v_clauseOf v_codeFrom v_codeHalf v_codeTo v_stack v_facts v_newOne v_newOther v_newSign v_newBy v_moreOf v_firstOf v_toldOf v_mostOf v_mostThen v_sumTo v_rowFrom v_ordersOf v_lessOf v_weightOf v_rowNow v_slowRow v_fastRow v_lineNow v_firstLine v_freeBy v_heldBy v_heightOf v_upTo v_downTo v_oftenOf v_newUpper v_newLower : Nat → Int} (kr_v_place0 : 0 ≤ v_place0 ∧ v_place0 ≤ 260) (kr_v_length0 : 0 ≤ v_length0 ∧ v_length0 ≤ 260) (kr_v_fault : (-1000000) ≤ v_fault ∧ v_fault ≤ 1000000) (kr_v_number0 : 0 ≤ v_number0 ∧ v_number0 ≤ 99999) (r_v_tape : RA (-128) 127 v_tape) : CtI l yX10_readsNumber cX10_readsNumber 2 (some .boolean) ⟨2, 0, 0, 40⟩ D (TY cI cB cJ) (wX10 cI cB cJ h q v_stalls v_claimMany v_taped v_place0 v_length0 v_fault v_number0 v_open v_codeMany v_waiting v_saidMany v_clauses v_newMany v_newStalls v_lines v_salesNow v_outNow v_isKept v_keptStalls v_now v_aside v_kept v_oneOf v_otherOf v_signOf v_byOf v_tape v_said v_waitsAt v_saidLetter v_saidFrom v_saidHalf v_saidTo v_codes v_clauseOf v_codeFrom v_codeHalf v_codeTo v_stack v_facts v_newOne v_newOther v_newSign v_newBy v_moreOf v_firstOf v_toldOf v_mostOf v_mostThen v_sumTo v_rowFrom v_ordersOf v_lessOf v_weightOf v_rowNow v_slowRow v_fastRow v_lineNow v_firstLine v_freeBy v_heldBy v_heightOf v_upTo v_downTo v_oftenOf v_newUpper v_newLower) [.ref h] (fun z ws' => (z = 0 ∨ z = 1) ∧ ∃ n_place0 : Int, ∃ n_fault : Int, ∃ n_number0 : Int, (0 ≤ n_place0 ∧ n_place0 ≤ 260) ∧ ((-1000000) ≤ n_fault ∧ n_fault ≤ 1000000) ∧ (0 ≤ n_number0 ∧ n_number0 ≤ 99999) ∧ (v_place0 ≤ n_place0) ∧ (48 ≤ hereZ v_place0 v_length0 v_tape ∧ hereZ v_place0 v_length0 v_tape ≤ 57 → v_place0 < n_place0) ∧ (v_place0 ≤ v_length0 → n_place0 ≤ v_length0) ∧ (ws' = (wX10 cI cB cJ h q v_stalls v_claimMany v_taped n_place0 v_length0 n_fault n_number0 v_open v_codeMany v_waiting v_saidMany v_clauses v_newMany v_newStalls v_lines v_salesNow v_outNow v_isKept v_keptStalls v_now v_aside v_kept v_oneOf v_otherOf v_signOf v_byOf v_tape v_said v_waitsAt v_saidLetter v_saidFrom v_saidHalf v_saidTo v_codes v_clauseOf v_codeFrom v_codeHalf v_codeTo v_stack v_facts v_newOne v_newOther v_newSign v_newBy v_moreOf v_firstOf v_toldOf v_mostOf v_mostThen v_sumTo v_rowFrom v_ordersOf v_lessOf v_weightOf v_rowNow v_slowRow v_fastRow v_lineNow v_firstLine v_freeBy v_heldBy v_heightOf v_upTo v_downTo v_oftenOf v_newUpper v_newLower))) := by
  refine hdrZ (own := RX10) rfl (by decide +kernel) (Nat.le_of_ble_eq_true rfl) ?_
  intro p e s m args below meth c Q A X hQ
  refine g_lvE (lv2 := [(0, .ref h)]) rfl ?_
  refine g_aload_n X dX10_readsNumber_0 0 rfl ?_
  refine gM_get X 0 rfl 11 (by decide) uw1190 rfl dX10_readsNumber_1 ?_
  refine g_istore_n X (lv' := [(1, vI v_place0), (0, .ref h)]) dX10_readsNumber_4 (by decide) rfl ?_
  refine g_aload_n X dX10_readsNumber_5 1 rfl ?_
  refine g_iconst X dX10_readsNumber_6 ?_
  refine gM_put X 0 rfl 14 (by decide) uw1193 rfl rfl rfl (Nat.le_of_ble_eq_true rfl) dX10_readsNumber_7 (ws2 := (wX10 cI cB cJ h q v_stalls v_claimMany v_taped v_place0 v_length0 v_fault 0 v_open v_codeMany v_waiting v_saidMany v_clauses v_newMany v_newStalls v_lines v_salesNow v_outNow v_isKept v_keptStalls v_now v_aside v_kept v_oneOf v_otherOf v_signOf v_byOf v_tape v_said v_waitsAt v_saidLetter v_saidFrom v_saidHalf v_saidTo v_codes v_clauseOf v_codeFrom v_codeHalf v_codeTo v_stack v_facts v_newOne v_newOther v_newSign v_newBy v_moreOf v_firstOf v_toldOf v_mostOf v_mostThen v_sumTo v_rowFrom v_ordersOf v_lessOf v_weightOf v_rowNow v_slowRow v_fastRow v_lineNow v_firstLine v_freeBy v_heldBy v_heightOf v_upTo v_downTo v_oftenOf v_newUpper v_newLower)) rfl ?_
  have L10 : ∀ (n : Nat) (place0_10 : Int) (number0_10 : Int), (0 ≤ place0_10 ∧ place0_10 ≤ 260) → (0 ≤ number0_10 ∧ number0_10 ≤ 99999) → ((place0_10 = v_place0 ∧ number0_10 ≤ 0) ∨ (place0_10 = v_place0 + 1 ∧ number0_10 ≤ 9) ∨ (place0_10 = v_place0 + 2 ∧ number0_10 ≤ 99) ∨ (place0_10 = v_place0 + 3 ∧ number0_10 ≤ 999) ∨ (place0_10 = v_place0 + 4 ∧ number0_10 ≤ 9999) ∨ (place0_10 = v_place0 + 5 ∧ number0_10 ≤ 99999)) → (v_place0 ≤ v_length0 → place0_10 ≤ v_length0) → (v_place0 + 5 - place0_10).toNat < n → GG p l e ⟨2, 0, 0, 40⟩ s m args below meth c 0 0 Q D A s.heap 2 (wX10 cI cB cJ h q v_stalls v_claimMany v_taped place0_10 v_length0 v_fault number0_10 v_open v_codeMany v_waiting v_saidMany v_clauses v_newMany v_newStalls v_lines v_salesNow v_outNow v_isKept v_keptStalls v_now v_aside v_kept v_oneOf v_otherOf v_signOf v_byOf v_tape v_said v_waitsAt v_saidLetter v_saidFrom v_saidHalf v_saidTo v_codes v_clauseOf v_codeFrom v_codeHalf v_codeTo v_stack v_facts v_newOne v_newOther v_newSign v_newBy v_moreOf v_firstOf v_toldOf v_mostOf v_mostThen v_sumTo v_rowFrom v_ordersOf v_lessOf v_weightOf v_rowNow v_slowRow v_fastRow v_lineNow v_firstLine v_freeBy v_heldBy v_heightOf v_upTo v_downTo v_oftenOf v_newUpper v_newLower) 10 [(0, .ref h), (1, vI v_place0)] [] := by
    intro n
    induction n with
    | zero => intros; exfalso; omega
    | succ n ih10 =>
      intro place0_10 number0_10 kr_place0_10 kr_number0_10 w10_0 w10_1 wm10
      refine g_aload_n X dX10_readsNumber_10 0 rfl ?_
      refine g_callVI0 X (c_X10_isDigit l D cI cB cJ h q  (by omega) (by omega) r_v_tape) cv_X10_isDigit uw1426 ⟨rfl, rfl, by decide, by decide⟩ 0 rfl rfl rfl rfl rfl (Nat.le_of_ble_eq_true rfl) ⟨Nat.zero_le _, Nat.zero_le _⟩ dX10_readsNumber_11 (fun t11 ws11 k11 => ?_)
      obtain ⟨kb_11, ⟨kp0_11, kp1_11, rfl⟩⟩ := k11
      refine g_if_eq X (tgt := 69) dX10_readsNumber_14 (by decide) (by omega) (fun c14 => ?_) (fun c14 => ?_)
      · refine g_iconst X dX10_readsNumber_69 ?_
        have hq9 : place0_10 = v_place0 → hereZ place0_10 v_length0 v_tape = hereZ v_place0 v_length0 v_tape := fun h => by rw [h]
        exact hQ _ _ _ _ dX10_readsNumber_70 ⟨by omega, ⟨place0_10, v_fault, number0_10, (by omega), (by omega), (by omega), (by first | assumption | omega), (by first | assumption | omega), (by first | assumption | omega), rfl⟩⟩
      · refine g_aload_n X dX10_readsNumber_17 0 rfl ?_
        refine gM_get X 0 rfl 11 (by decide) uw1190 rfl dX10_readsNumber_18 ?_
        refine g_iload_n X dX10_readsNumber_21 1 rfl ?_
        refine g_iconst X dX10_readsNumber_22 ?_
        refine g_iadd X dX10_readsNumber_23 ?_
        refine g_icmp_ne X (tgt := 37) dX10_readsNumber_24 (by decide) (by omega) (by omega) (fun c24 => ?_) (fun c24 => ?_)
        · refine g_aload_n X dX10_readsNumber_37 0 rfl ?_
          refine g_bipush X (z := 10) dX10_readsNumber_38 (by decide) ?_
          refine g_aload_n X dX10_readsNumber_40 0 rfl ?_
          refine gM_get X 0 rfl 14 (by decide) uw1193 rfl dX10_readsNumber_41 ?_
          refine g_imul X dX10_readsNumber_44 ?_
          refine g_aload_n X dX10_readsNumber_45 0 rfl ?_
          refine g_callVI0 X (c_X10_here l D cI cB cJ h q  (by omega) (by omega) r_v_tape) cv_X10_here uw1405 ⟨rfl, rfl, by decide, by decide⟩ 0 rfl rfl rfl rfl rfl (Nat.le_of_ble_eq_true rfl) ⟨Nat.zero_le _, Nat.zero_le _⟩ dX10_readsNumber_46 (fun t46 ws46 k46 => ?_)
          obtain ⟨kp0_46, kp1_46, kp2_46, rfl⟩ := k46
          refine g_iadd X dX10_readsNumber_49 ?_
          refine g_bipush X (z := 48) dX10_readsNumber_50 (by decide) ?_
          refine g_isub X dX10_readsNumber_52 ?_
          refine gM_put X 0 rfl 14 (by decide) uw1193 rfl rfl rfl (Nat.le_of_ble_eq_true rfl) dX10_readsNumber_53 (ws2 := (wX10 cI cB cJ h q v_stalls v_claimMany v_taped place0_10 v_length0 v_fault (((10 * number0_10) + t46) - 48) v_open v_codeMany v_waiting v_saidMany v_clauses v_newMany v_newStalls v_lines v_salesNow v_outNow v_isKept v_keptStalls v_now v_aside v_kept v_oneOf v_otherOf v_signOf v_byOf v_tape v_said v_waitsAt v_saidLetter v_saidFrom v_saidHalf v_saidTo v_codes v_clauseOf v_codeFrom v_codeHalf v_codeTo v_stack v_facts v_newOne v_newOther v_newSign v_newBy v_moreOf v_firstOf v_toldOf v_mostOf v_mostThen v_sumTo v_rowFrom v_ordersOf v_lessOf v_weightOf v_rowNow v_slowRow v_fastRow v_lineNow v_firstLine v_freeBy v_heldBy v_heightOf v_upTo v_downTo v_oftenOf v_newUpper v_newLower)) rfl ?_
          refine g_aload_n X dX10_readsNumber_56 0 rfl ?_
          refine g_aload_n X dX10_readsNumber_57 0 rfl ?_
          refine gM_get X 0 rfl 11 (by decide) uw1190 rfl dX10_readsNumber_58 ?_
          refine g_iconst X dX10_readsNumber_61 ?_
          refine g_iadd X dX10_readsNumber_62 ?_
          refine gM_put X 0 rfl 11 (by decide) uw1190 rfl rfl rfl (Nat.le_of_ble_eq_true rfl) dX10_readsNumber_63 (ws2 := (wX10 cI cB cJ h q v_stalls v_claimMany v_taped (place0_10 + 1) v_length0 v_fault (((10 * number0_10) + t46) - 48) v_open v_codeMany v_waiting v_saidMany v_clauses v_newMany v_newStalls v_lines v_salesNow v_outNow v_isKept v_keptStalls v_now v_aside v_kept v_oneOf v_otherOf v_signOf v_byOf v_tape v_said v_waitsAt v_saidLetter v_saidFrom v_saidHalf v_saidTo v_codes v_clauseOf v_codeFrom v_codeHalf v_codeTo v_stack v_facts v_newOne v_newOther v_newSign v_newBy v_moreOf v_firstOf v_toldOf v_mostOf v_mostThen v_sumTo v_rowFrom v_ordersOf v_lessOf v_weightOf v_rowNow v_slowRow v_fastRow v_lineNow v_firstLine v_freeBy v_heldBy v_heightOf v_upTo v_downTo v_oftenOf v_newUpper v_newLower)) rfl ?_
          refine g_goto X (tgt := 10) dX10_readsNumber_66 (by decide) ?_
          exact ih10 (place0_10 + 1) (((10 * number0_10) + t46) - 48) (by omega) (by omega) (by first | assumption | omega) (by first | assumption | omega) (by omega)
        · refine g_aload_n X dX10_readsNumber_27 0 rfl ?_
          refine g_iconst X dX10_readsNumber_28 ?_
          refine g_aload_n X dX10_readsNumber_29 0 rfl ?_
          refine gM_get X 0 rfl 11 (by decide) uw1190 rfl dX10_readsNumber_30 ?_
          refine g_callVI0 X (c_X10_wrongAt l D cI cB cJ h q (p0 := 2) (p1 := place0_10) (by omega) (by first | assumption | omega) (by first | assumption | omega) (by first | assumption | omega) (by first | assumption | omega)) cv_X10_wrongAt uw1409 ⟨rfl, rfl, by decide, by decide⟩ 0 rfl rfl rfl rfl rfl (Nat.le_of_ble_eq_true rfl) ⟨Nat.zero_le _, Nat.zero_le _⟩ dX10_readsNumber_33 (fun t33 ws33 k33 => ?_)
          obtain ⟨kb_33, ⟨fault_33, kr_fault_33, kp0_33, kp1_33, rfl⟩⟩ := k33
          have hq9 : place0_10 = v_place0 → hereZ place0_10 v_length0 v_tape = hereZ v_place0 v_length0 v_tape := fun h => by rw [h]
          exact hQ _ _ _ _ dX10_readsNumber_36 ⟨by omega, ⟨place0_10, fault_33, number0_10, (by omega), (by omega), (by omega), (by first | assumption | omega), (by first | assumption | omega), (by first | assumption | omega), rfl⟩⟩
  refine g_lv [1, 0] rfl ?_
  exact L10 _ v_place0 0 (by omega) (by omega) (by first | assumption | omega) (by first | assumption | omega) (Nat.lt_succ_self _)
set_option maxHeartbeats 4000000 in
set_option maxRecDepth 100000 in
theorem c_X10_closesSums (l : Launch) (D : va_G) (cI cB cJ : ClassId) (h : Nat) (q : Nat → Nat) {v_stalls v_claimMany v_taped v_place0 v_length0 v_fault v_number0 v_open v_codeMany v_waiting v_saidMany v_clauses v_newMany v_newStalls v_lines v_salesNow v_outNow v_isKept v_keptStalls : Int} {v_now v_aside v_kept v_oneOf v_otherOf v_signOf v_byOf v_tape v_said v_waitsAt v_saidLetter v_saidFrom v_saidHalf v_saidTo v_codes v_clauseOf v_codeFrom v_codeHalf v_codeTo v_stack v_facts v_newOne v_newOther v_newSign v_newBy v_moreOf v_firstOf v_toldOf v_mostOf v_mostThen v_sumTo v_rowFrom v_ordersOf v_lessOf v_weightOf v_rowNow v_slowRow v_fastRow v_lineNow v_firstLine v_freeBy v_heldBy v_heightOf v_upTo v_downTo v_oftenOf v_newUpper v_newLower : Nat → Int} {p0 : Int} {lo gb : Int} (kr_v_codeMany : 0 ≤ v_codeMany ∧ v_codeMany ≤ 260) (kr_v_waiting : 0 ≤ v_waiting ∧ v_waiting ≤ 260) (r_v_said : RA 0 16777215 v_said) (r_v_waitsAt : RA 0 16777215 v_waitsAt) (hp0 : 0 ≤ p0 ∧ p0 ≤ 1) (hp1 : 0 ≤ gb) (hp2 : RD lo v_said v_codeMany v_waitsAt v_waiting (gb + 1 + cw 7340032 v_waitsAt v_waiting.toNat)) (hp3 : v_codeMany + cw 11534336 v_waitsAt v_waiting.toNat ≤ v_place0) (hp4 : v_place0 ≤ 240) (hp5 : Ge 2097152 v_waitsAt v_waiting) : CtV l yX10_closesSums cX10_closesSums 2 none ⟨1, 0, 0, 22⟩ D (TY cI cB cJ) (wX10 cI cB cJ h q v_stalls v_claimMany v_taped v_place0 v_length0 v_fault v_number0 v_open v_codeMany v_waiting v_saidMany v_clauses v_newMany v_newStalls v_lines v_salesNow v_outNow v_isKept v_keptStalls v_now v_aside v_kept v_oneOf v_otherOf v_signOf v_byOf v_tape v_said v_waitsAt v_saidLetter v_saidFrom v_saidHalf v_saidTo v_codes v_clauseOf v_codeFrom v_codeHalf v_codeTo v_stack v_facts v_newOne v_newOther v_newSign v_newBy v_moreOf v_firstOf v_toldOf v_mostOf v_mostThen v_sumTo v_rowFrom v_ordersOf v_lessOf v_weightOf v_rowNow v_slowRow v_fastRow v_lineNow v_firstLine v_freeBy v_heldBy v_heightOf v_upTo v_downTo v_oftenOf v_newUpper v_newLower) [.ref h, vI p0] (fun ws' => ∃ n_codeMany : Int, ∃ n_waiting : Int, ∃ n_said : Nat → Int, (0 ≤ n_codeMany ∧ n_codeMany ≤ 260) ∧ (0 ≤ n_waiting ∧ n_waiting ≤ 260) ∧ (RA 0 16777215 n_said) ∧ (RD lo n_said n_codeMany v_waitsAt n_waiting (gb + 1 + cw 7340032 v_waitsAt n_waiting.toNat)) ∧ (n_codeMany + cw 11534336 v_waitsAt n_waiting.toNat = v_codeMany + cw 11534336 v_waitsAt v_waiting.toNat) ∧ (n_waiting ≤ v_waiting) ∧ (∀ j : Nat, n_waiting ≤ (j : Int) → (j : Int) < v_waiting → v_waitsAt j < 7340032) ∧ (p0 = 1 → n_waiting = 0 ∨ 7340032 ≤ v_waitsAt (n_waiting - 1).toNat) ∧ (SB lo v_said n_said) ∧ (ws' = (wX10 cI cB cJ h q v_stalls v_claimMany v_taped v_place0 v_length0 v_fault v_number0 v_open n_codeMany n_waiting v_saidMany v_clauses v_newMany v_newStalls v_lines v_salesNow v_outNow v_isKept v_keptStalls v_now v_aside v_kept v_oneOf v_otherOf v_signOf v_byOf v_tape n_said v_waitsAt v_saidLetter v_saidFrom v_saidHalf v_saidTo v_codes v_clauseOf v_codeFrom v_codeHalf v_codeTo v_stack v_facts v_newOne v_newOther v_newSign v_newBy v_moreOf v_firstOf v_toldOf v_mostOf v_mostThen v_sumTo v_rowFrom v_ordersOf v_lessOf v_weightOf v_rowNow v_slowRow v_fastRow v_lineNow v_firstLine v_freeBy v_heldBy v_heightOf v_upTo v_downTo v_oftenOf v_newUpper v_newLower))) := by
  refine hdrV (own := RX10) rfl (by decide +kernel) (Nat.le_of_ble_eq_true rfl) ?_
  intro p e s m args below meth c Q A X hQ
  refine g_lvE (lv2 := [(0, .ref h), (1, vI p0)]) rfl ?_
  have L0 : ∀ (n : Nat) (codeMany_0 : Int) (waiting_0 : Int) (said_0 : Nat → Int), (0 ≤ codeMany_0 ∧ codeMany_0 ≤ 260) → (0 ≤ waiting_0 ∧ waiting_0 ≤ 260) → (RA 0 16777215 said_0) → (RD lo said_0 codeMany_0 v_waitsAt waiting_0 (gb + 1 + cw 7340032 v_waitsAt waiting_0.toNat)) → (codeMany_0 + cw 11534336 v_waitsAt waiting_0.toNat = v_codeMany + cw 11534336 v_waitsAt v_waiting.toNat) → (waiting_0 ≤ v_waiting) → (∀ j : Nat, waiting_0 ≤ (j : Int) → (j : Int) < v_waiting → v_waitsAt j < 7340032) → (SB lo v_said said_0) → (waiting_0).toNat < n → GG p l e ⟨1, 0, 0, 22⟩ s m args below meth c 0 0 Q D A s.heap 2 (wX10 cI cB cJ h q v_stalls v_claimMany v_taped v_place0 v_length0 v_fault v_number0 v_open codeMany_0 waiting_0 v_saidMany v_clauses v_newMany v_newStalls v_lines v_salesNow v_outNow v_isKept v_keptStalls v_now v_aside v_kept v_oneOf v_otherOf v_signOf v_byOf v_tape said_0 v_waitsAt v_saidLetter v_saidFrom v_saidHalf v_saidTo v_codes v_clauseOf v_codeFrom v_codeHalf v_codeTo v_stack v_facts v_newOne v_newOther v_newSign v_newBy v_moreOf v_firstOf v_toldOf v_mostOf v_mostThen v_sumTo v_rowFrom v_ordersOf v_lessOf v_weightOf v_rowNow v_slowRow v_fastRow v_lineNow v_firstLine v_freeBy v_heldBy v_heightOf v_upTo v_downTo v_oftenOf v_newUpper v_newLower) 0 [(0, .ref h), (1, vI p0)] [] := by
    intro n
    induction n with
    | zero => intros; exfalso; omega
    | succ n ih0 =>
      intro codeMany_0 waiting_0 said_0 kr_codeMany_0 kr_waiting_0 r_said_0 w0_0 w0_1 w0_2 w0_3 w0_4 wm0
      have hT : 0 < waiting_0 → 2097152 ≤ v_waitsAt (waiting_0 - 1).toNat := fun h => hp5 _ (by omega)
      have hb11 := cw_bd 11534336 v_waitsAt waiting_0.toNat
      have hbd := w0_0.bd
      refine g_aload_n X dX10_closesSums_0 0 rfl ?_
      refine g_callVI0 X (c_X10_waitTop l D cI cB cJ h q  (by omega) r_v_waitsAt) cv_X10_waitTop uw1448 ⟨rfl, rfl, by decide, by decide⟩ 0 rfl rfl rfl rfl rfl (Nat.le_of_ble_eq_true rfl) ⟨Nat.zero_le _, Nat.zero_le _⟩ dX10_closesSums_1 (fun t1 ws1 k1 => ?_)
      obtain ⟨kp0_1, kp1_1, rfl⟩ := k1
      refine g_iconst X dX10_closesSums_4 ?_
      refine g_icmp_lt X (tgt := 17) dX10_closesSums_5 (by decide) (by omega) (by omega) (fun c5 => ?_) (fun c5 => ?_)
      · refine g_iload_n X dX10_closesSums_17 1 rfl ?_
        refine g_if_eq X (tgt := 59) dX10_closesSums_18 (by decide) (by omega) (fun c18 => ?_) (fun c18 => ?_)
        · exact hQ _ _ _ dX10_closesSums_59 ⟨codeMany_0, waiting_0, said_0, (by omega), (by omega), r_said_0, (by first | assumption | omega), (by first | assumption | omega), (by first | assumption | omega), (by first | assumption | omega), (by intro hp; omega), (by first | assumption | exact SB.refl _ _ | omega), rfl⟩
        · refine g_aload_n X dX10_closesSums_21 0 rfl ?_
          refine g_callVI0 X (c_X10_waitTop l D cI cB cJ h q  (by omega) r_v_waitsAt) cv_X10_waitTop uw1448 ⟨rfl, rfl, by decide, by decide⟩ 0 rfl rfl rfl rfl rfl (Nat.le_of_ble_eq_true rfl) ⟨Nat.zero_le _, Nat.zero_le _⟩ dX10_closesSums_22 (fun t22 ws22 k22 => ?_)
          obtain ⟨kp0_22, kp1_22, rfl⟩ := k22
          refine g_iconst X dX10_closesSums_25 ?_
          refine g_icmp_eq X (tgt := 37) dX10_closesSums_26 (by decide) (by omega) (by omega) (fun c26 => ?_) (fun c26 => ?_)
          · have hq : 1 ≤ waiting_0 ∧ 2 ≤ v_waitsAt (waiting_0 - 1).toNat / 1048576 ∧ v_waitsAt (waiting_0 - 1).toNat / 1048576 ≤ 6 := by omega
            have h11 := cw_pop_lt 11534336 v_waitsAt (w := waiting_0) hq.1 (by omega)
            have hb12 := cw_bd 11534336 v_waitsAt (waiting_0 - 1).toNat
            refine g_aload_n X dX10_closesSums_37 0 rfl ?_
            refine g_aload_n X dX10_closesSums_38 0 rfl ?_
            refine g_callVI0 X (c_X10_waitTop l D cI cB cJ h q  (by omega) r_v_waitsAt) cv_X10_waitTop uw1448 ⟨rfl, rfl, by decide, by decide⟩ 0 rfl rfl rfl rfl rfl (Nat.le_of_ble_eq_true rfl) ⟨Nat.zero_le _, Nat.zero_le _⟩ dX10_closesSums_39 (fun t39 ws39 k39 => ?_)
            obtain ⟨kp0_39, kp1_39, rfl⟩ := k39
            refine g_iconst X dX10_closesSums_42 ?_
            refine g_callVV0 X (c_X10_notes l D cI cB cJ h q (p0 := t39) (p1 := 0) (by omega) r_said_0 (by first | assumption | omega) (by first | assumption | omega) (by first | assumption | omega) (by first | assumption | omega) (by first | assumption | omega)) cv_X10_notes uw1434 ⟨rfl, rfl, by decide, by decide⟩ 0 rfl rfl rfl rfl rfl (Nat.le_of_ble_eq_true rfl) ⟨Nat.zero_le _, Nat.zero_le _⟩ dX10_closesSums_43 (fun ws43 k43 => ?_)
            obtain ⟨codeMany_43, said_43, kr_codeMany_43, r_said_43, kp0_43, kp1_43, rfl⟩ := k43
            have hR : RD lo said_43 codeMany_43 v_waitsAt (waiting_0 - 1) (gb + 1 + cw 7340032 v_waitsAt (waiting_0 - 1).toNat) := by rw [kp1_43, kp0_43]; exact RD.closeOp w0_0 hp1 hq.1 (by omega) (by omega)
            have hPP : ∀ j : Nat, waiting_0 - 1 ≤ (j : Int) → (j : Int) < v_waiting → v_waitsAt j < 7340032 := fun j h1 h2 => by rcases (show waiting_0 ≤ (j : Int) ∨ j = (waiting_0 - 1).toNat by omega) with h | h; exact w0_3 j h h2; rw [h]; omega
            have hSB : SB lo v_said said_43 := by rw [kp1_43]; exact SB.up w0_4 (by omega) (by omega)
            refine g_aload_n X dX10_closesSums_46 0 rfl ?_
            refine g_aload_n X dX10_closesSums_47 0 rfl ?_
            refine gM_get X 0 rfl 17 (by decide) uw1196 rfl dX10_closesSums_48 ?_
            refine g_iconst X dX10_closesSums_51 ?_
            refine g_isub X dX10_closesSums_52 ?_
            refine gM_put X 0 rfl 17 (by decide) uw1196 rfl rfl rfl (Nat.le_of_ble_eq_true rfl) dX10_closesSums_53 (ws2 := (wX10 cI cB cJ h q v_stalls v_claimMany v_taped v_place0 v_length0 v_fault v_number0 v_open codeMany_43 (waiting_0 - 1) v_saidMany v_clauses v_newMany v_newStalls v_lines v_salesNow v_outNow v_isKept v_keptStalls v_now v_aside v_kept v_oneOf v_otherOf v_signOf v_byOf v_tape said_43 v_waitsAt v_saidLetter v_saidFrom v_saidHalf v_saidTo v_codes v_clauseOf v_codeFrom v_codeHalf v_codeTo v_stack v_facts v_newOne v_newOther v_newSign v_newBy v_moreOf v_firstOf v_toldOf v_mostOf v_mostThen v_sumTo v_rowFrom v_ordersOf v_lessOf v_weightOf v_rowNow v_slowRow v_fastRow v_lineNow v_firstLine v_freeBy v_heldBy v_heightOf v_upTo v_downTo v_oftenOf v_newUpper v_newLower)) rfl ?_
            refine g_goto X (tgt := 0) dX10_closesSums_56 (by decide) ?_
            exact ih0 codeMany_43 (waiting_0 - 1) said_43 (by omega) (by omega) r_said_43 (by first | assumption | omega) (by first | assumption | omega) (by first | assumption | omega) (by first | assumption | (intro j h1 h2; exfalso; omega)) (by first | assumption | exact SB.refl _ _ | omega) (by omega)
          · refine g_aload_n X dX10_closesSums_29 0 rfl ?_
            refine g_callVI0 X (c_X10_waitTop l D cI cB cJ h q  (by omega) r_v_waitsAt) cv_X10_waitTop uw1448 ⟨rfl, rfl, by decide, by decide⟩ 0 rfl rfl rfl rfl rfl (Nat.le_of_ble_eq_true rfl) ⟨Nat.zero_le _, Nat.zero_le _⟩ dX10_closesSums_30 (fun t30 ws30 k30 => ?_)
            obtain ⟨kp0_30, kp1_30, rfl⟩ := k30
            refine g_iconst X dX10_closesSums_33 ?_
            refine g_icmp_ne X (tgt := 59) dX10_closesSums_34 (by decide) (by omega) (by omega) (fun c34 => ?_) (fun c34 => ?_)
            · exact hQ _ _ _ dX10_closesSums_59 ⟨codeMany_0, waiting_0, said_0, (by omega), (by omega), r_said_0, (by first | assumption | omega), (by first | assumption | omega), (by first | assumption | omega), (by first | assumption | omega), (by intro hp; omega), (by first | assumption | exact SB.refl _ _ | omega), rfl⟩
            · have hq : 1 ≤ waiting_0 ∧ 2 ≤ v_waitsAt (waiting_0 - 1).toNat / 1048576 ∧ v_waitsAt (waiting_0 - 1).toNat / 1048576 ≤ 6 := by omega
              have h11 := cw_pop_lt 11534336 v_waitsAt (w := waiting_0) hq.1 (by omega)
              have hb12 := cw_bd 11534336 v_waitsAt (waiting_0 - 1).toNat
              refine g_aload_n X dX10_closesSums_37 0 rfl ?_
              refine g_aload_n X dX10_closesSums_38 0 rfl ?_
              refine g_callVI0 X (c_X10_waitTop l D cI cB cJ h q  (by omega) r_v_waitsAt) cv_X10_waitTop uw1448 ⟨rfl, rfl, by decide, by decide⟩ 0 rfl rfl rfl rfl rfl (Nat.le_of_ble_eq_true rfl) ⟨Nat.zero_le _, Nat.zero_le _⟩ dX10_closesSums_39 (fun t39 ws39 k39 => ?_)
              obtain ⟨kp0_39, kp1_39, rfl⟩ := k39
              refine g_iconst X dX10_closesSums_42 ?_
              refine g_callVV0 X (c_X10_notes l D cI cB cJ h q (p0 := t39) (p1 := 0) (by omega) r_said_0 (by first | assumption | omega) (by first | assumption | omega) (by first | assumption | omega) (by first | assumption | omega) (by first | assumption | omega)) cv_X10_notes uw1434 ⟨rfl, rfl, by decide, by decide⟩ 0 rfl rfl rfl rfl rfl (Nat.le_of_ble_eq_true rfl) ⟨Nat.zero_le _, Nat.zero_le _⟩ dX10_closesSums_43 (fun ws43 k43 => ?_)
              obtain ⟨codeMany_43, said_43, kr_codeMany_43, r_said_43, kp0_43, kp1_43, rfl⟩ := k43
              have hR : RD lo said_43 codeMany_43 v_waitsAt (waiting_0 - 1) (gb + 1 + cw 7340032 v_waitsAt (waiting_0 - 1).toNat) := by rw [kp1_43, kp0_43]; exact RD.closeOp w0_0 hp1 hq.1 (by omega) (by omega)
              have hPP : ∀ j : Nat, waiting_0 - 1 ≤ (j : Int) → (j : Int) < v_waiting → v_waitsAt j < 7340032 := fun j h1 h2 => by rcases (show waiting_0 ≤ (j : Int) ∨ j = (waiting_0 - 1).toNat by omega) with h | h; exact w0_3 j h h2; rw [h]; omega
              have hSB : SB lo v_said said_43 := by rw [kp1_43]; exact SB.up w0_4 (by omega) (by omega)
              refine g_aload_n X dX10_closesSums_46 0 rfl ?_
              refine g_aload_n X dX10_closesSums_47 0 rfl ?_
              refine gM_get X 0 rfl 17 (by decide) uw1196 rfl dX10_closesSums_48 ?_
              refine g_iconst X dX10_closesSums_51 ?_
              refine g_isub X dX10_closesSums_52 ?_
              refine gM_put X 0 rfl 17 (by decide) uw1196 rfl rfl rfl (Nat.le_of_ble_eq_true rfl) dX10_closesSums_53 (ws2 := (wX10 cI cB cJ h q v_stalls v_claimMany v_taped v_place0 v_length0 v_fault v_number0 v_open codeMany_43 (waiting_0 - 1) v_saidMany v_clauses v_newMany v_newStalls v_lines v_salesNow v_outNow v_isKept v_keptStalls v_now v_aside v_kept v_oneOf v_otherOf v_signOf v_byOf v_tape said_43 v_waitsAt v_saidLetter v_saidFrom v_saidHalf v_saidTo v_codes v_clauseOf v_codeFrom v_codeHalf v_codeTo v_stack v_facts v_newOne v_newOther v_newSign v_newBy v_moreOf v_firstOf v_toldOf v_mostOf v_mostThen v_sumTo v_rowFrom v_ordersOf v_lessOf v_weightOf v_rowNow v_slowRow v_fastRow v_lineNow v_firstLine v_freeBy v_heldBy v_heightOf v_upTo v_downTo v_oftenOf v_newUpper v_newLower)) rfl ?_
              refine g_goto X (tgt := 0) dX10_closesSums_56 (by decide) ?_
              exact ih0 codeMany_43 (waiting_0 - 1) said_43 (by omega) (by omega) r_said_43 (by first | assumption | omega) (by first | assumption | omega) (by first | assumption | omega) (by first | assumption | (intro j h1 h2; exfalso; omega)) (by first | assumption | exact SB.refl _ _ | omega) (by omega)
      · refine g_aload_n X dX10_closesSums_8 0 rfl ?_
        refine g_callVI0 X (c_X10_waitTop l D cI cB cJ h q  (by omega) r_v_waitsAt) cv_X10_waitTop uw1448 ⟨rfl, rfl, by decide, by decide⟩ 0 rfl rfl rfl rfl rfl (Nat.le_of_ble_eq_true rfl) ⟨Nat.zero_le _, Nat.zero_le _⟩ dX10_closesSums_9 (fun t9 ws9 k9 => ?_)
        obtain ⟨kp0_9, kp1_9, rfl⟩ := k9
        refine g_bipush X (z := 6) dX10_closesSums_12 (by decide) ?_
        refine g_icmp_le X (tgt := 37) dX10_closesSums_14 (by decide) (by omega) (by omega) (fun c14 => ?_) (fun c14 => ?_)
        · have hq : 1 ≤ waiting_0 ∧ 2 ≤ v_waitsAt (waiting_0 - 1).toNat / 1048576 ∧ v_waitsAt (waiting_0 - 1).toNat / 1048576 ≤ 6 := by omega
          have h11 := cw_pop_lt 11534336 v_waitsAt (w := waiting_0) hq.1 (by omega)
          have hb12 := cw_bd 11534336 v_waitsAt (waiting_0 - 1).toNat
          refine g_aload_n X dX10_closesSums_37 0 rfl ?_
          refine g_aload_n X dX10_closesSums_38 0 rfl ?_
          refine g_callVI0 X (c_X10_waitTop l D cI cB cJ h q  (by omega) r_v_waitsAt) cv_X10_waitTop uw1448 ⟨rfl, rfl, by decide, by decide⟩ 0 rfl rfl rfl rfl rfl (Nat.le_of_ble_eq_true rfl) ⟨Nat.zero_le _, Nat.zero_le _⟩ dX10_closesSums_39 (fun t39 ws39 k39 => ?_)
          obtain ⟨kp0_39, kp1_39, rfl⟩ := k39
          refine g_iconst X dX10_closesSums_42 ?_
          refine g_callVV0 X (c_X10_notes l D cI cB cJ h q (p0 := t39) (p1 := 0) (by omega) r_said_0 (by first | assumption | omega) (by first | assumption | omega) (by first | assumption | omega) (by first | assumption | omega) (by first | assumption | omega)) cv_X10_notes uw1434 ⟨rfl, rfl, by decide, by decide⟩ 0 rfl rfl rfl rfl rfl (Nat.le_of_ble_eq_true rfl) ⟨Nat.zero_le _, Nat.zero_le _⟩ dX10_closesSums_43 (fun ws43 k43 => ?_)
          obtain ⟨codeMany_43, said_43, kr_codeMany_43, r_said_43, kp0_43, kp1_43, rfl⟩ := k43
          have hR : RD lo said_43 codeMany_43 v_waitsAt (waiting_0 - 1) (gb + 1 + cw 7340032 v_waitsAt (waiting_0 - 1).toNat) := by rw [kp1_43, kp0_43]; exact RD.closeOp w0_0 hp1 hq.1 (by omega) (by omega)
          have hPP : ∀ j : Nat, waiting_0 - 1 ≤ (j : Int) → (j : Int) < v_waiting → v_waitsAt j < 7340032 := fun j h1 h2 => by rcases (show waiting_0 ≤ (j : Int) ∨ j = (waiting_0 - 1).toNat by omega) with h | h; exact w0_3 j h h2; rw [h]; omega
          have hSB : SB lo v_said said_43 := by rw [kp1_43]; exact SB.up w0_4 (by omega) (by omega)
          refine g_aload_n X dX10_closesSums_46 0 rfl ?_
          refine g_aload_n X dX10_closesSums_47 0 rfl ?_
          refine gM_get X 0 rfl 17 (by decide) uw1196 rfl dX10_closesSums_48 ?_
          refine g_iconst X dX10_closesSums_51 ?_
          refine g_isub X dX10_closesSums_52 ?_
          refine gM_put X 0 rfl 17 (by decide) uw1196 rfl rfl rfl (Nat.le_of_ble_eq_true rfl) dX10_closesSums_53 (ws2 := (wX10 cI cB cJ h q v_stalls v_claimMany v_taped v_place0 v_length0 v_fault v_number0 v_open codeMany_43 (waiting_0 - 1) v_saidMany v_clauses v_newMany v_newStalls v_lines v_salesNow v_outNow v_isKept v_keptStalls v_now v_aside v_kept v_oneOf v_otherOf v_signOf v_byOf v_tape said_43 v_waitsAt v_saidLetter v_saidFrom v_saidHalf v_saidTo v_codes v_clauseOf v_codeFrom v_codeHalf v_codeTo v_stack v_facts v_newOne v_newOther v_newSign v_newBy v_moreOf v_firstOf v_toldOf v_mostOf v_mostThen v_sumTo v_rowFrom v_ordersOf v_lessOf v_weightOf v_rowNow v_slowRow v_fastRow v_lineNow v_firstLine v_freeBy v_heldBy v_heightOf v_upTo v_downTo v_oftenOf v_newUpper v_newLower)) rfl ?_
          refine g_goto X (tgt := 0) dX10_closesSums_56 (by decide) ?_
          exact ih0 codeMany_43 (waiting_0 - 1) said_43 (by omega) (by omega) r_said_43 (by first | assumption | omega) (by first | assumption | omega) (by first | assumption | omega) (by first | assumption | (intro j h1 h2; exfalso; omega)) (by first | assumption | exact SB.refl _ _ | omega) (by omega)
        · refine g_iload_n X dX10_closesSums_17 1 rfl ?_
          refine g_if_eq X (tgt := 59) dX10_closesSums_18 (by decide) (by omega) (fun c18 => ?_) (fun c18 => ?_)
          · exact hQ _ _ _ dX10_closesSums_59 ⟨codeMany_0, waiting_0, said_0, (by omega), (by omega), r_said_0, (by first | assumption | omega), (by first | assumption | omega), (by first | assumption | omega), (by first | assumption | omega), (by intro hp; omega), (by first | assumption | exact SB.refl _ _ | omega), rfl⟩
          · refine g_aload_n X dX10_closesSums_21 0 rfl ?_
            refine g_callVI0 X (c_X10_waitTop l D cI cB cJ h q  (by omega) r_v_waitsAt) cv_X10_waitTop uw1448 ⟨rfl, rfl, by decide, by decide⟩ 0 rfl rfl rfl rfl rfl (Nat.le_of_ble_eq_true rfl) ⟨Nat.zero_le _, Nat.zero_le _⟩ dX10_closesSums_22 (fun t22 ws22 k22 => ?_)
            obtain ⟨kp0_22, kp1_22, rfl⟩ := k22
            refine g_iconst X dX10_closesSums_25 ?_
            refine g_icmp_eq X (tgt := 37) dX10_closesSums_26 (by decide) (by omega) (by omega) (fun c26 => ?_) (fun c26 => ?_)
            · have hq : 1 ≤ waiting_0 ∧ 2 ≤ v_waitsAt (waiting_0 - 1).toNat / 1048576 ∧ v_waitsAt (waiting_0 - 1).toNat / 1048576 ≤ 6 := by omega
              have h11 := cw_pop_lt 11534336 v_waitsAt (w := waiting_0) hq.1 (by omega)
              have hb12 := cw_bd 11534336 v_waitsAt (waiting_0 - 1).toNat
              refine g_aload_n X dX10_closesSums_37 0 rfl ?_
              refine g_aload_n X dX10_closesSums_38 0 rfl ?_
              refine g_callVI0 X (c_X10_waitTop l D cI cB cJ h q  (by omega) r_v_waitsAt) cv_X10_waitTop uw1448 ⟨rfl, rfl, by decide, by decide⟩ 0 rfl rfl rfl rfl rfl (Nat.le_of_ble_eq_true rfl) ⟨Nat.zero_le _, Nat.zero_le _⟩ dX10_closesSums_39 (fun t39 ws39 k39 => ?_)
              obtain ⟨kp0_39, kp1_39, rfl⟩ := k39
              refine g_iconst X dX10_closesSums_42 ?_
              refine g_callVV0 X (c_X10_notes l D cI cB cJ h q (p0 := t39) (p1 := 0) (by omega) r_said_0 (by first | assumption | omega) (by first | assumption | omega) (by first | assumption | omega) (by first | assumption | omega) (by first | assumption | omega)) cv_X10_notes uw1434 ⟨rfl, rfl, by decide, by decide⟩ 0 rfl rfl rfl rfl rfl (Nat.le_of_ble_eq_true rfl) ⟨Nat.zero_le _, Nat.zero_le _⟩ dX10_closesSums_43 (fun ws43 k43 => ?_)
              obtain ⟨codeMany_43, said_43, kr_codeMany_43, r_said_43, kp0_43, kp1_43, rfl⟩ := k43
              have hR : RD lo said_43 codeMany_43 v_waitsAt (waiting_0 - 1) (gb + 1 + cw 7340032 v_waitsAt (waiting_0 - 1).toNat) := by rw [kp1_43, kp0_43]; exact RD.closeOp w0_0 hp1 hq.1 (by omega) (by omega)
              have hPP : ∀ j : Nat, waiting_0 - 1 ≤ (j : Int) → (j : Int) < v_waiting → v_waitsAt j < 7340032 := fun j h1 h2 => by rcases (show waiting_0 ≤ (j : Int) ∨ j = (waiting_0 - 1).toNat by omega) with h | h; exact w0_3 j h h2; rw [h]; omega
              have hSB : SB lo v_said said_43 := by rw [kp1_43]; exact SB.up w0_4 (by omega) (by omega)
              refine g_aload_n X dX10_closesSums_46 0 rfl ?_
              refine g_aload_n X dX10_closesSums_47 0 rfl ?_
              refine gM_get X 0 rfl 17 (by decide) uw1196 rfl dX10_closesSums_48 ?_
              refine g_iconst X dX10_closesSums_51 ?_
              refine g_isub X dX10_closesSums_52 ?_
              refine gM_put X 0 rfl 17 (by decide) uw1196 rfl rfl rfl (Nat.le_of_ble_eq_true rfl) dX10_closesSums_53 (ws2 := (wX10 cI cB cJ h q v_stalls v_claimMany v_taped v_place0 v_length0 v_fault v_number0 v_open codeMany_43 (waiting_0 - 1) v_saidMany v_clauses v_newMany v_newStalls v_lines v_salesNow v_outNow v_isKept v_keptStalls v_now v_aside v_kept v_oneOf v_otherOf v_signOf v_byOf v_tape said_43 v_waitsAt v_saidLetter v_saidFrom v_saidHalf v_saidTo v_codes v_clauseOf v_codeFrom v_codeHalf v_codeTo v_stack v_facts v_newOne v_newOther v_newSign v_newBy v_moreOf v_firstOf v_toldOf v_mostOf v_mostThen v_sumTo v_rowFrom v_ordersOf v_lessOf v_weightOf v_rowNow v_slowRow v_fastRow v_lineNow v_firstLine v_freeBy v_heldBy v_heightOf v_upTo v_downTo v_oftenOf v_newUpper v_newLower)) rfl ?_
              refine g_goto X (tgt := 0) dX10_closesSums_56 (by decide) ?_
              exact ih0 codeMany_43 (waiting_0 - 1) said_43 (by omega) (by omega) r_said_43 (by first | assumption | omega) (by first | assumption | omega) (by first | assumption | omega) (by first | assumption | (intro j h1 h2; exfalso; omega)) (by first | assumption | exact SB.refl _ _ | omega) (by omega)
            · refine g_aload_n X dX10_closesSums_29 0 rfl ?_
              refine g_callVI0 X (c_X10_waitTop l D cI cB cJ h q  (by omega) r_v_waitsAt) cv_X10_waitTop uw1448 ⟨rfl, rfl, by decide, by decide⟩ 0 rfl rfl rfl rfl rfl (Nat.le_of_ble_eq_true rfl) ⟨Nat.zero_le _, Nat.zero_le _⟩ dX10_closesSums_30 (fun t30 ws30 k30 => ?_)
              obtain ⟨kp0_30, kp1_30, rfl⟩ := k30
              refine g_iconst X dX10_closesSums_33 ?_
              refine g_icmp_ne X (tgt := 59) dX10_closesSums_34 (by decide) (by omega) (by omega) (fun c34 => ?_) (fun c34 => ?_)
              · exact hQ _ _ _ dX10_closesSums_59 ⟨codeMany_0, waiting_0, said_0, (by omega), (by omega), r_said_0, (by first | assumption | omega), (by first | assumption | omega), (by first | assumption | omega), (by first | assumption | omega), (by intro hp; omega), (by first | assumption | exact SB.refl _ _ | omega), rfl⟩
              · have hq : 1 ≤ waiting_0 ∧ 2 ≤ v_waitsAt (waiting_0 - 1).toNat / 1048576 ∧ v_waitsAt (waiting_0 - 1).toNat / 1048576 ≤ 6 := by omega
                have h11 := cw_pop_lt 11534336 v_waitsAt (w := waiting_0) hq.1 (by omega)
                have hb12 := cw_bd 11534336 v_waitsAt (waiting_0 - 1).toNat
                refine g_aload_n X dX10_closesSums_37 0 rfl ?_
                refine g_aload_n X dX10_closesSums_38 0 rfl ?_
                refine g_callVI0 X (c_X10_waitTop l D cI cB cJ h q  (by omega) r_v_waitsAt) cv_X10_waitTop uw1448 ⟨rfl, rfl, by decide, by decide⟩ 0 rfl rfl rfl rfl rfl (Nat.le_of_ble_eq_true rfl) ⟨Nat.zero_le _, Nat.zero_le _⟩ dX10_closesSums_39 (fun t39 ws39 k39 => ?_)
                obtain ⟨kp0_39, kp1_39, rfl⟩ := k39
                refine g_iconst X dX10_closesSums_42 ?_
                refine g_callVV0 X (c_X10_notes l D cI cB cJ h q (p0 := t39) (p1 := 0) (by omega) r_said_0 (by first | assumption | omega) (by first | assumption | omega) (by first | assumption | omega) (by first | assumption | omega) (by first | assumption | omega)) cv_X10_notes uw1434 ⟨rfl, rfl, by decide, by decide⟩ 0 rfl rfl rfl rfl rfl (Nat.le_of_ble_eq_true rfl) ⟨Nat.zero_le _, Nat.zero_le _⟩ dX10_closesSums_43 (fun ws43 k43 => ?_)
                obtain ⟨codeMany_43, said_43, kr_codeMany_43, r_said_43, kp0_43, kp1_43, rfl⟩ := k43
                have hR : RD lo said_43 codeMany_43 v_waitsAt (waiting_0 - 1) (gb + 1 + cw 7340032 v_waitsAt (waiting_0 - 1).toNat) := by rw [kp1_43, kp0_43]; exact RD.closeOp w0_0 hp1 hq.1 (by omega) (by omega)
                have hPP : ∀ j : Nat, waiting_0 - 1 ≤ (j : Int) → (j : Int) < v_waiting → v_waitsAt j < 7340032 := fun j h1 h2 => by rcases (show waiting_0 ≤ (j : Int) ∨ j = (waiting_0 - 1).toNat by omega) with h | h; exact w0_3 j h h2; rw [h]; omega
                have hSB : SB lo v_said said_43 := by rw [kp1_43]; exact SB.up w0_4 (by omega) (by omega)
                refine g_aload_n X dX10_closesSums_46 0 rfl ?_
                refine g_aload_n X dX10_closesSums_47 0 rfl ?_
                refine gM_get X 0 rfl 17 (by decide) uw1196 rfl dX10_closesSums_48 ?_
                refine g_iconst X dX10_closesSums_51 ?_
                refine g_isub X dX10_closesSums_52 ?_
                refine gM_put X 0 rfl 17 (by decide) uw1196 rfl rfl rfl (Nat.le_of_ble_eq_true rfl) dX10_closesSums_53 (ws2 := (wX10 cI cB cJ h q v_stalls v_claimMany v_taped v_place0 v_length0 v_fault v_number0 v_open codeMany_43 (waiting_0 - 1) v_saidMany v_clauses v_newMany v_newStalls v_lines v_salesNow v_outNow v_isKept v_keptStalls v_now v_aside v_kept v_oneOf v_otherOf v_signOf v_byOf v_tape said_43 v_waitsAt v_saidLetter v_saidFrom v_saidHalf v_saidTo v_codes v_clauseOf v_codeFrom v_codeHalf v_codeTo v_stack v_facts v_newOne v_newOther v_newSign v_newBy v_moreOf v_firstOf v_toldOf v_mostOf v_mostThen v_sumTo v_rowFrom v_ordersOf v_lessOf v_weightOf v_rowNow v_slowRow v_fastRow v_lineNow v_firstLine v_freeBy v_heldBy v_heightOf v_upTo v_downTo v_oftenOf v_newUpper v_newLower)) rfl ?_
                refine g_goto X (tgt := 0) dX10_closesSums_56 (by decide) ?_
                exact ih0 codeMany_43 (waiting_0 - 1) said_43 (by omega) (by omega) r_said_43 (by first | assumption | omega) (by first | assumption | omega) (by first | assumption | omega) (by first | assumption | (intro j h1 h2; exfalso; omega)) (by first | assumption | exact SB.refl _ _ | omega) (by omega)
  exact L0 _ v_codeMany v_waiting v_said (by omega) (by omega) r_v_said (by first | assumption | omega) (by first | assumption | omega) (by first | assumption | omega) (by first | assumption | (intro j h1 h2; exfalso; omega)) (by first | assumption | exact SB.refl _ _ | omega) (Nat.lt_succ_self _)
set_option maxHeartbeats 4000000 in
set_option maxRecDepth 100000 in
theorem c_X10_hasOpenSum (l : Launch) (D : va_G) (cI cB cJ : ClassId) (h : Nat) (q : Nat → Nat) {v_stalls v_claimMany v_taped v_place0 v_length0 v_fault v_number0 v_open v_codeMany v_waiting v_saidMany v_clauses v_newMany v_newStalls v_lines v_salesNow v_outNow v_isKept v_keptStalls : Int} {v_now v_aside v_kept v_oneOf v_otherOf v_signOf v_byOf v_tape v_said v_waitsAt v_saidLetter v_saidFrom v_saidHalf v_saidTo v_codes v_clauseOf v_codeFrom v_codeHalf v_codeTo v_stack v_facts v_newOne v_newOther v_newSign v_newBy v_moreOf v_firstOf v_toldOf v_mostOf v_mostThen v_sumTo v_rowFrom v_ordersOf v_lessOf v_weightOf v_rowNow v_slowRow v_fastRow v_lineNow v_firstLine v_freeBy v_heldBy v_heightOf v_upTo v_downTo v_oftenOf v_newUpper v_newLower : Nat → Int} {p0 : Int} (kr_v_waiting : 0 ≤ v_waiting ∧ v_waiting ≤ 260) (r_v_waitsAt : RA 0 16777215 v_waitsAt) (hp0 : IR p0) (hp1 : 0 ≤ p0) : CtI l yX10_hasOpenSum cX10_hasOpenSum 3 (some .boolean) ⟨0, 0, 0, 0⟩ D (TY cI cB cJ) (wX10 cI cB cJ h q v_stalls v_claimMany v_taped v_place0 v_length0 v_fault v_number0 v_open v_codeMany v_waiting v_saidMany v_clauses v_newMany v_newStalls v_lines v_salesNow v_outNow v_isKept v_keptStalls v_now v_aside v_kept v_oneOf v_otherOf v_signOf v_byOf v_tape v_said v_waitsAt v_saidLetter v_saidFrom v_saidHalf v_saidTo v_codes v_clauseOf v_codeFrom v_codeHalf v_codeTo v_stack v_facts v_newOne v_newOther v_newSign v_newBy v_moreOf v_firstOf v_toldOf v_mostOf v_mostThen v_sumTo v_rowFrom v_ordersOf v_lessOf v_weightOf v_rowNow v_slowRow v_fastRow v_lineNow v_firstLine v_freeBy v_heldBy v_heightOf v_upTo v_downTo v_oftenOf v_newUpper v_newLower) [.ref h, vI p0] (fun z ws' => (z = 0 ∨ z = 1) ∧ ((z = 1 ∧ ∃ j : Nat, p0 ≤ (j : Int) ∧ (j : Int) < v_waiting ∧ v_waitsAt j / 1048576 = 14) ∨ (z = 0 ∧ ∀ j : Nat, p0 ≤ (j : Int) → (j : Int) < v_waiting → v_waitsAt j / 1048576 ≠ 14)) ∧ (ws' = (wX10 cI cB cJ h q v_stalls v_claimMany v_taped v_place0 v_length0 v_fault v_number0 v_open v_codeMany v_waiting v_saidMany v_clauses v_newMany v_newStalls v_lines v_salesNow v_outNow v_isKept v_keptStalls v_now v_aside v_kept v_oneOf v_otherOf v_signOf v_byOf v_tape v_said v_waitsAt v_saidLetter v_saidFrom v_saidHalf v_saidTo v_codes v_clauseOf v_codeFrom v_codeHalf v_codeTo v_stack v_facts v_newOne v_newOther v_newSign v_newBy v_moreOf v_firstOf v_toldOf v_mostOf v_mostThen v_sumTo v_rowFrom v_ordersOf v_lessOf v_weightOf v_rowNow v_slowRow v_fastRow v_lineNow v_firstLine v_freeBy v_heldBy v_heightOf v_upTo v_downTo v_oftenOf v_newUpper v_newLower))) := by
  refine hdrZ (own := RX10) rfl (by decide +kernel) (Nat.le_of_ble_eq_true rfl) ?_
  intro p e s m args below meth c Q A X hQ
  refine g_lvE (lv2 := [(0, .ref h), (1, vI p0)]) rfl ?_
  refine g_iload_n X dX10_hasOpenSum_0 1 rfl ?_
  refine g_istore_n X (lv' := [(2, vI p0), (0, .ref h), (1, vI p0)]) dX10_hasOpenSum_1 (by decide) rfl ?_
  have L2 : ∀ (n : Nat) (x2_2 : Int), (p0 ≤ x2_2 ∧ (x2_2 ≤ v_waiting ∨ x2_2 = p0)) → (∀ j : Nat, p0 ≤ (j : Int) → (j : Int) < x2_2 → v_waitsAt j / 1048576 ≠ 14) → (v_waiting - x2_2).toNat < n → GG p l e ⟨0, 0, 0, 0⟩ s m args below meth c 0 0 Q D A s.heap 3 (wX10 cI cB cJ h q v_stalls v_claimMany v_taped v_place0 v_length0 v_fault v_number0 v_open v_codeMany v_waiting v_saidMany v_clauses v_newMany v_newStalls v_lines v_salesNow v_outNow v_isKept v_keptStalls v_now v_aside v_kept v_oneOf v_otherOf v_signOf v_byOf v_tape v_said v_waitsAt v_saidLetter v_saidFrom v_saidHalf v_saidTo v_codes v_clauseOf v_codeFrom v_codeHalf v_codeTo v_stack v_facts v_newOne v_newOther v_newSign v_newBy v_moreOf v_firstOf v_toldOf v_mostOf v_mostThen v_sumTo v_rowFrom v_ordersOf v_lessOf v_weightOf v_rowNow v_slowRow v_fastRow v_lineNow v_firstLine v_freeBy v_heldBy v_heightOf v_upTo v_downTo v_oftenOf v_newUpper v_newLower) 2 [(0, .ref h), (2, vI x2_2)] [] := by
    intro n
    induction n with
    | zero => intros; exfalso; omega
    | succ n ih2 =>
      intro x2_2 w2_0 w2_1 wm2
      refine g_iload_n X dX10_hasOpenSum_2 1 rfl ?_
      refine g_aload_n X dX10_hasOpenSum_3 0 rfl ?_
      refine gM_get X 0 rfl 17 (by decide) uw1196 rfl dX10_hasOpenSum_4 ?_
      refine g_icmp_ge X (tgt := 32) dX10_hasOpenSum_7 (by decide) (by omega) (by omega) (fun c7 => ?_) (fun c7 => ?_)
      · refine g_iconst X dX10_hasOpenSum_32 ?_
        exact hQ _ _ _ _ dX10_hasOpenSum_33 ⟨by omega, ⟨(by first | exact Or.inl ⟨rfl, x2_2.toNat, by omega, by omega, by omega⟩ | exact Or.inr ⟨rfl, fun j h1 h2 => w2_1 j h1 (by omega)⟩), rfl⟩⟩
      · refine g_aload_n X dX10_hasOpenSum_10 0 rfl ?_
        refine gM_get X 0 rfl 21 (by decide) uw1200 rfl dX10_hasOpenSum_11 ?_
        refine g_iload_n X dX10_hasOpenSum_14 1 rfl ?_
        refine g_iald X 10 0 rfl rfl (by omega) (by decide) dX10_hasOpenSum_15 (fun t15 e15 => ?_)
        have r15 := r_v_waitsAt (x2_2 : Int).toNat; rw [← e15] at r15
        refine g_ldc X (z := 1048576) dX10_hasOpenSum_16 uw1425 (by decide) ?_
        refine g_idiv X dX10_hasOpenSum_18 (by omega) (by omega) ?_
        refine g_nm (fun t18 e18 => ?_)
        refine g_bipush X (z := 14) dX10_hasOpenSum_19 (by decide) ?_
        refine g_icmp_ne X (tgt := 26) dX10_hasOpenSum_21 (by decide) (by omega) (by omega) (fun c21 => ?_) (fun c21 => ?_)
        · refine g_iinc X (lv' := [(2, vI (x2_2 + 1)), (0, .ref h)]) dX10_hasOpenSum_26 1 rfl (by decide) rfl ?_
          refine g_goto X (tgt := 2) dX10_hasOpenSum_29 (by decide) ?_
          refine g_lv [1, 0] rfl ?_
          exact ih2 (x2_2 + 1) (by first | assumption | omega) (by intro j h1 h2; first | (exfalso; omega) | (rcases (show (j : Int) < x2_2 ∨ j = x2_2.toNat by omega) with h | h; exact w2_1 j h1 h; rw [h]; omega)) (by omega)
        · refine g_iconst X dX10_hasOpenSum_24 ?_
          exact hQ _ _ _ _ dX10_hasOpenSum_25 ⟨by omega, ⟨(by first | exact Or.inl ⟨rfl, x2_2.toNat, by omega, by omega, by omega⟩ | exact Or.inr ⟨rfl, fun j h1 h2 => w2_1 j h1 (by omega)⟩), rfl⟩⟩
  refine g_lv [1, 0] rfl ?_
  exact L2 _ p0 (by first | assumption | omega) (by intro j h1 h2; first | (exfalso; omega) | (rcases (show (j : Int) < x2_2 ∨ j = x2_2.toNat by omega) with h | h; exact w2_1 j h1 h; rw [h]; omega)) (Nat.lt_succ_self _)
set_option maxHeartbeats 4000000 in
set_option maxRecDepth 100000 in
theorem c_X10_readsFactor (l : Launch) (D : va_G) (cI cB cJ : ClassId) (h : Nat) (q : Nat → Nat) {v_stalls v_claimMany v_taped v_place0 v_length0 v_fault v_number0 v_open v_codeMany v_waiting v_saidMany v_clauses v_newMany v_newStalls v_lines v_salesNow v_outNow v_isKept v_keptStalls : Int} {v_now v_aside v_kept v_oneOf v_otherOf v_signOf v_byOf v_tape v_said v_waitsAt v_saidLetter v_saidFrom v_saidHalf v_saidTo v_codes v_clauseOf v_codeFrom v_codeHalf v_codeTo v_stack v_facts v_newOne v_newOther v_newSign v_newBy v_moreOf v_firstOf v_toldOf v_mostOf v_mostThen v_sumTo v_rowFrom v_ordersOf v_lessOf v_weightOf v_rowNow v_slowRow v_fastRow v_lineNow v_firstLine v_freeBy v_heldBy v_heightOf v_upTo v_downTo v_oftenOf v_newUpper v_newLower : Nat → Int} {lo gh : Int} (kr_v_place0 : 0 ≤ v_place0 ∧ v_place0 ≤ 260) (kr_v_length0 : 0 ≤ v_length0 ∧ v_length0 ≤ 260) (kr_v_fault : (-1000000) ≤ v_fault ∧ v_fault ≤ 1000000) (kr_v_number0 : 0 ≤ v_number0 ∧ v_number0 ≤ 99999) (kr_v_open : (-2147483648) ≤ v_open ∧ v_open ≤ 2147483647) (kr_v_codeMany : 0 ≤ v_codeMany ∧ v_codeMany ≤ 260) (kr_v_waiting : 0 ≤ v_waiting ∧ v_waiting ≤ 260) (r_v_tape : RA (-128) 127 v_tape) (r_v_said : RA 0 16777215 v_said) (r_v_waitsAt : RA 0 16777215 v_waitsAt) (hp0 : 0 ≤ gh) (hp1 : RD lo v_said v_codeMany v_waitsAt v_waiting gh) (hp2 : v_codeMany + cw 11534336 v_waitsAt v_waiting.toNat ≤ v_place0) (hp3 : v_waiting ≤ v_place0) (hp4 : v_place0 ≤ v_length0) (hp5 : v_length0 ≤ 240) : CtI l yX10_readsFactor cX10_readsFactor 2 (some .boolean) ⟨3, 0, 0, 61⟩ D (TY cI cB cJ) (wX10 cI cB cJ h q v_stalls v_claimMany v_taped v_place0 v_length0 v_fault v_number0 v_open v_codeMany v_waiting v_saidMany v_clauses v_newMany v_newStalls v_lines v_salesNow v_outNow v_isKept v_keptStalls v_now v_aside v_kept v_oneOf v_otherOf v_signOf v_byOf v_tape v_said v_waitsAt v_saidLetter v_saidFrom v_saidHalf v_saidTo v_codes v_clauseOf v_codeFrom v_codeHalf v_codeTo v_stack v_facts v_newOne v_newOther v_newSign v_newBy v_moreOf v_firstOf v_toldOf v_mostOf v_mostThen v_sumTo v_rowFrom v_ordersOf v_lessOf v_weightOf v_rowNow v_slowRow v_fastRow v_lineNow v_firstLine v_freeBy v_heldBy v_heightOf v_upTo v_downTo v_oftenOf v_newUpper v_newLower) [.ref h] (fun z ws' => (z = 0 ∨ z = 1) ∧ ∃ n_place0 : Int, ∃ n_fault : Int, ∃ n_number0 : Int, ∃ n_open : Int, ∃ n_codeMany : Int, ∃ n_waiting : Int, ∃ n_said : Nat → Int, ∃ n_waitsAt : Nat → Int, (0 ≤ n_place0 ∧ n_place0 ≤ 260) ∧ ((-1000000) ≤ n_fault ∧ n_fault ≤ 1000000) ∧ (0 ≤ n_number0 ∧ n_number0 ≤ 99999) ∧ ((-2147483648) ≤ n_open ∧ n_open ≤ 2147483647) ∧ (0 ≤ n_codeMany ∧ n_codeMany ≤ 260) ∧ (0 ≤ n_waiting ∧ n_waiting ≤ 260) ∧ (RA 0 16777215 n_said) ∧ (RA 0 16777215 n_waitsAt) ∧ (z = 1 → RD lo n_said n_codeMany n_waitsAt n_waiting (gh + 1)) ∧ (z = 1 → n_codeMany + cw 11534336 n_waitsAt n_waiting.toNat - n_place0 ≤ v_codeMany + cw 11534336 v_waitsAt v_waiting.toNat - v_place0) ∧ (z = 1 → n_waiting ≤ n_place0) ∧ (n_place0 ≤ v_length0) ∧ (z = 1 → SB v_waiting v_waitsAt n_waitsAt) ∧ (z = 1 → v_waiting ≤ n_waiting) ∧ (z = 1 → cw 7340032 n_waitsAt n_waiting.toNat = cw 7340032 v_waitsAt v_waiting.toNat) ∧ (z = 1 → ∀ j : Nat, v_waiting ≤ (j : Int) → (j : Int) < n_waiting → n_waitsAt j = 14680064) ∧ (SB lo v_said n_said) ∧ (z = 1 → v_place0 < n_place0) ∧ (v_place0 ≤ n_place0) ∧ (ws' = (wX10 cI cB cJ h q v_stalls v_claimMany v_taped n_place0 v_length0 n_fault n_number0 n_open n_codeMany n_waiting v_saidMany v_clauses v_newMany v_newStalls v_lines v_salesNow v_outNow v_isKept v_keptStalls v_now v_aside v_kept v_oneOf v_otherOf v_signOf v_byOf v_tape n_said n_waitsAt v_saidLetter v_saidFrom v_saidHalf v_saidTo v_codes v_clauseOf v_codeFrom v_codeHalf v_codeTo v_stack v_facts v_newOne v_newOther v_newSign v_newBy v_moreOf v_firstOf v_toldOf v_mostOf v_mostThen v_sumTo v_rowFrom v_ordersOf v_lessOf v_weightOf v_rowNow v_slowRow v_fastRow v_lineNow v_firstLine v_freeBy v_heldBy v_heightOf v_upTo v_downTo v_oftenOf v_newUpper v_newLower))) := by
  refine hdrZ (own := RX10) rfl (by decide +kernel) (Nat.le_of_ble_eq_true rfl) ?_
  intro p e s m args below meth c Q A X hQ
  refine g_lvE (lv2 := [(0, .ref h)]) rfl ?_
  have L0 : ∀ (n : Nat) (place0_0 : Int) (fault_0 : Int) (open_0 : Int) (waiting_0 : Int) (waitsAt_0 : Nat → Int), (0 ≤ place0_0 ∧ place0_0 ≤ 260) → ((-1000000) ≤ fault_0 ∧ fault_0 ≤ 1000000) → ((-2147483648) ≤ open_0 ∧ open_0 ≤ 2147483647) → (0 ≤ waiting_0 ∧ waiting_0 ≤ 260) → (RA 0 16777215 waitsAt_0) → (RD lo v_said v_codeMany waitsAt_0 waiting_0 gh) → (v_codeMany + cw 11534336 waitsAt_0 waiting_0.toNat - place0_0 ≤ v_codeMany + cw 11534336 v_waitsAt v_waiting.toNat - v_place0) → (waiting_0 ≤ place0_0) → (place0_0 ≤ v_length0) → (SB v_waiting v_waitsAt waitsAt_0) → (v_waiting ≤ waiting_0) → (cw 7340032 waitsAt_0 waiting_0.toNat = cw 7340032 v_waitsAt v_waiting.toNat) → (∀ j : Nat, v_waiting ≤ (j : Int) → (j : Int) < waiting_0 → waitsAt_0 j = 14680064) → (v_place0 ≤ place0_0) → (v_length0 - place0_0).toNat < n → GG p l e ⟨3, 0, 0, 61⟩ s m args below meth c 0 0 Q D A s.heap 2 (wX10 cI cB cJ h q v_stalls v_claimMany v_taped place0_0 v_length0 fault_0 v_number0 open_0 v_codeMany waiting_0 v_saidMany v_clauses v_newMany v_newStalls v_lines v_salesNow v_outNow v_isKept v_keptStalls v_now v_aside v_kept v_oneOf v_otherOf v_signOf v_byOf v_tape v_said waitsAt_0 v_saidLetter v_saidFrom v_saidHalf v_saidTo v_codes v_clauseOf v_codeFrom v_codeHalf v_codeTo v_stack v_facts v_newOne v_newOther v_newSign v_newBy v_moreOf v_firstOf v_toldOf v_mostOf v_mostThen v_sumTo v_rowFrom v_ordersOf v_lessOf v_weightOf v_rowNow v_slowRow v_fastRow v_lineNow v_firstLine v_freeBy v_heldBy v_heightOf v_upTo v_downTo v_oftenOf v_newUpper v_newLower) 0 [(0, .ref h)] [] := by
    intro n
    induction n with
    | zero => intros; exfalso; omega
    | succ n ih0 =>
      intro place0_0 fault_0 open_0 waiting_0 waitsAt_0 kr_place0_0 kr_fault_0 kr_open_0 kr_waiting_0 r_waitsAt_0 w0_0 w0_1 w0_2 w0_3 w0_4 w0_5 w0_6 w0_7 w0_8 wm0
      have hbd := w0_0.bd
      have hb11 := cw_bd 11534336 waitsAt_0 waiting_0.toNat
      refine g_aload_n X dX10_readsFactor_0 0 rfl ?_
      refine g_callVI0 X (c_X10_here l D cI cB cJ h q  (by omega) (by omega) r_v_tape) cv_X10_here uw1405 ⟨rfl, rfl, by decide, by decide⟩ 0 rfl rfl rfl rfl rfl (Nat.le_of_ble_eq_true rfl) ⟨Nat.zero_le _, Nat.zero_le _⟩ dX10_readsFactor_1 (fun t1 ws1 k1 => ?_)
      obtain ⟨kp0_1, kp1_1, kp2_1, rfl⟩ := k1
      refine g_bipush X (z := 91) dX10_readsFactor_4 (by decide) ?_
      refine g_icmp_ne X (tgt := 20) dX10_readsFactor_6 (by decide) (by omega) (by omega) (fun c6 => ?_) (fun c6 => ?_)
      · refine g_aload_n X dX10_readsFactor_20 0 rfl ?_
        refine g_callVI0 X (c_X10_isDigit l D cI cB cJ h q  (by omega) (by omega) r_v_tape) cv_X10_isDigit uw1426 ⟨rfl, rfl, by decide, by decide⟩ 0 rfl rfl rfl rfl rfl (Nat.le_of_ble_eq_true rfl) ⟨Nat.zero_le _, Nat.zero_le _⟩ dX10_readsFactor_21 (fun t21 ws21 k21 => ?_)
        obtain ⟨kb_21, ⟨kp0_21, kp1_21, rfl⟩⟩ := k21
        refine g_if_eq X (tgt := 47) dX10_readsFactor_24 (by decide) (by omega) (fun c24 => ?_) (fun c24 => ?_)
        · clear kb_21
          replace kp0_21 := (kp0_21.resolve_left (fun h => absurd h.1 (by omega))).2
          clear kp1_21
          refine g_aload_n X dX10_readsFactor_47 0 rfl ?_
          refine g_callVI0 X (c_X10_here l D cI cB cJ h q  (by omega) (by omega) r_v_tape) cv_X10_here uw1405 ⟨rfl, rfl, by decide, by decide⟩ 0 rfl rfl rfl rfl rfl (Nat.le_of_ble_eq_true rfl) ⟨Nat.zero_le _, Nat.zero_le _⟩ dX10_readsFactor_48 (fun t48 ws48 k48 => ?_)
          obtain ⟨kp0_48, kp1_48, kp2_48, rfl⟩ := k48
          refine g_callSIE X (c_X10_factOf l D cI cB cJ (p0 := t48) (by first | assumption | omega)) cv_X10_factOf uw1438 ⟨rfl, rfl, by decide, by decide⟩ rfl rfl (Nat.le_of_ble_eq_true rfl) ⟨Nat.zero_le _, Nat.zero_le _⟩ dX10_readsFactor_51 (fun t51 ws51 k51 => ?_)
          obtain ⟨kp0_51, rfl⟩ := k51
          refine g_istore_n X (lv' := [(1, vI t51), (0, .ref h)]) dX10_readsFactor_54 (by decide) rfl ?_
          refine g_iload_n X dX10_readsFactor_55 0 rfl ?_
          refine g_iconst X dX10_readsFactor_56 ?_
          refine g_icmp_ne X (tgt := 70) dX10_readsFactor_57 (by decide) (by omega) (by omega) (fun c57 => ?_) (fun c57 => ?_)
          · refine g_aload_n X dX10_readsFactor_70 1 rfl ?_
            refine g_iconst X dX10_readsFactor_71 ?_
            refine g_iload_n X dX10_readsFactor_72 0 rfl ?_
            refine g_callVV0 X (c_X10_notes l D cI cB cJ h q (p0 := 1) (p1 := t51) (by omega) r_v_said (by first | assumption | omega) (by first | assumption | omega) (by first | assumption | omega) (by first | assumption | omega) (by first | assumption | omega)) cv_X10_notes uw1434 ⟨rfl, rfl, by decide, by decide⟩ 0 rfl rfl rfl rfl rfl (Nat.le_of_ble_eq_true rfl) ⟨Nat.zero_le _, Nat.zero_le _⟩ dX10_readsFactor_73 (fun ws73 k73 => ?_)
            obtain ⟨codeMany_73, said_73, kr_codeMany_73, r_said_73, kp0_73, kp1_73, rfl⟩ := k73
            have hR : RD lo said_73 codeMany_73 waitsAt_0 waiting_0 (gh + 1) := by rw [kp1_73, kp0_73]; exact RD.note w0_0 _ _ (Or.inr (Or.inl ⟨by omega, by omega, rfl⟩))
            have hSB : SB lo v_said said_73 := by rw [kp1_73]; exact SB.up (SB.refl _ _) (by omega) (by omega)
            refine g_aload_n X dX10_readsFactor_76 1 rfl ?_
            refine g_aload_n X dX10_readsFactor_77 1 rfl ?_
            refine gM_get X 0 rfl 11 (by decide) uw1190 rfl dX10_readsFactor_78 ?_
            refine g_iconst X dX10_readsFactor_81 ?_
            refine g_iadd X dX10_readsFactor_82 ?_
            refine gM_put X 0 rfl 11 (by decide) uw1190 rfl rfl rfl (Nat.le_of_ble_eq_true rfl) dX10_readsFactor_83 (ws2 := (wX10 cI cB cJ h q v_stalls v_claimMany v_taped (place0_0 + 1) v_length0 fault_0 v_number0 open_0 codeMany_73 waiting_0 v_saidMany v_clauses v_newMany v_newStalls v_lines v_salesNow v_outNow v_isKept v_keptStalls v_now v_aside v_kept v_oneOf v_otherOf v_signOf v_byOf v_tape said_73 waitsAt_0 v_saidLetter v_saidFrom v_saidHalf v_saidTo v_codes v_clauseOf v_codeFrom v_codeHalf v_codeTo v_stack v_facts v_newOne v_newOther v_newSign v_newBy v_moreOf v_firstOf v_toldOf v_mostOf v_mostThen v_sumTo v_rowFrom v_ordersOf v_lessOf v_weightOf v_rowNow v_slowRow v_fastRow v_lineNow v_firstLine v_freeBy v_heldBy v_heightOf v_upTo v_downTo v_oftenOf v_newUpper v_newLower)) rfl ?_
            refine g_iconst X dX10_readsFactor_86 ?_
            exact hQ _ _ _ _ dX10_readsFactor_87 ⟨by omega, ⟨place0_0 + 1, fault_0, v_number0, open_0, codeMany_73, waiting_0, said_73, waitsAt_0, (by omega), (by omega), (by omega), (by omega), (by omega), (by omega), r_said_73, r_waitsAt_0, (by intro hr; first | assumption | (exfalso; omega) | omega), (by intro hr; first | assumption | (exfalso; omega) | omega), (by intro hr; first | assumption | (exfalso; omega) | omega), (by first | assumption | omega), (by intro hr; first | assumption | (exfalso; omega) | omega), (by intro hr; first | assumption | (exfalso; omega) | omega), (by intro hr; first | assumption | (exfalso; omega) | omega), (by intro hr; first | assumption | (exfalso; omega) | omega), (by first | assumption | exact SB.refl _ _ | omega), (by intro hr; first | assumption | (exfalso; omega) | omega), (by first | assumption | omega), rfl⟩⟩
          · refine g_aload_n X dX10_readsFactor_60 1 rfl ?_
            refine g_iconst X dX10_readsFactor_61 ?_
            refine g_aload_n X dX10_readsFactor_62 1 rfl ?_
            refine gM_get X 0 rfl 11 (by decide) uw1190 rfl dX10_readsFactor_63 ?_
            refine g_callVI0 X (c_X10_wrongAt l D cI cB cJ h q (p0 := 1) (p1 := place0_0) (by omega) (by first | assumption | omega) (by first | assumption | omega) (by first | assumption | omega) (by first | assumption | omega)) cv_X10_wrongAt uw1409 ⟨rfl, rfl, by decide, by decide⟩ 0 rfl rfl rfl rfl rfl (Nat.le_of_ble_eq_true rfl) ⟨Nat.zero_le _, Nat.zero_le _⟩ dX10_readsFactor_66 (fun t66 ws66 k66 => ?_)
            obtain ⟨kb_66, ⟨fault_66, kr_fault_66, kp0_66, kp1_66, rfl⟩⟩ := k66
            exact hQ _ _ _ _ dX10_readsFactor_69 ⟨by omega, ⟨place0_0, fault_66, v_number0, open_0, v_codeMany, waiting_0, v_said, waitsAt_0, (by omega), (by omega), (by omega), (by omega), (by omega), (by omega), r_v_said, r_waitsAt_0, (by intro hr; first | assumption | (exfalso; omega) | omega), (by intro hr; first | assumption | (exfalso; omega) | omega), (by intro hr; first | assumption | (exfalso; omega) | omega), (by first | assumption | omega), (by intro hr; first | assumption | (exfalso; omega) | omega), (by intro hr; first | assumption | (exfalso; omega) | omega), (by intro hr; first | assumption | (exfalso; omega) | omega), (by intro hr; first | assumption | (exfalso; omega) | omega), (by first | assumption | exact SB.refl _ _ | omega), (by intro hr; first | assumption | (exfalso; omega) | omega), (by first | assumption | omega), rfl⟩⟩
        · replace kb_21 := kb_21.resolve_left (fun h => c24 h)
          replace kp0_21 := kp0_21.resolve_right (fun h => c24 h.1)
          replace kp1_21 := kp1_21 kb_21
          refine g_aload_n X dX10_readsFactor_27 0 rfl ?_
          refine g_callVI0 X (c_X10_readsNumber_b l D cI cB cJ h q  (by omega) (by omega) (by omega) (by omega) r_v_tape) cv_X10_readsNumber uw1430 ⟨rfl, rfl, by decide, by decide⟩ 0 rfl rfl rfl rfl rfl (Nat.le_of_ble_eq_true rfl) ⟨Nat.zero_le _, Nat.zero_le _⟩ dX10_readsFactor_28 (fun t28 ws28 k28 => ?_)
          obtain ⟨kb_28, ⟨place0_28, fault_28, number0_28, kr_place0_28, kr_fault_28, kr_number0_28, kp0_28, kp1_28, kp2_28, rfl⟩⟩ := k28
          refine g_if_ne X (tgt := 36) dX10_readsFactor_31 (by decide) (by omega) (fun c31 => ?_) (fun c31 => ?_)
          · replace kb_28 := kb_28.resolve_left (fun h => c31 h)
            refine g_aload_n X dX10_readsFactor_36 0 rfl ?_
            refine g_iconst X dX10_readsFactor_37 ?_
            refine g_aload_n X dX10_readsFactor_38 0 rfl ?_
            refine gM_get X 0 rfl 14 (by decide) uw1193 rfl dX10_readsFactor_39 ?_
            refine g_callVV0 X (c_X10_notes l D cI cB cJ h q (p0 := 0) (p1 := number0_28) (by omega) r_v_said (by first | assumption | omega) (by first | assumption | omega) (by first | assumption | omega) (by first | assumption | omega) (by first | assumption | omega)) cv_X10_notes uw1434 ⟨rfl, rfl, by decide, by decide⟩ 0 rfl rfl rfl rfl rfl (Nat.le_of_ble_eq_true rfl) ⟨Nat.zero_le _, Nat.zero_le _⟩ dX10_readsFactor_42 (fun ws42 k42 => ?_)
            obtain ⟨codeMany_42, said_42, kr_codeMany_42, r_said_42, kp0_42, kp1_42, rfl⟩ := k42
            have hR : RD lo said_42 codeMany_42 waitsAt_0 waiting_0 (gh + 1) := by rw [kp1_42, kp0_42]; exact RD.note w0_0 _ _ (Or.inl ⟨by omega, rfl⟩)
            have hSB : SB lo v_said said_42 := by rw [kp1_42]; exact SB.up (SB.refl _ _) (by omega) (by omega)
            refine g_iconst X dX10_readsFactor_45 ?_
            exact hQ _ _ _ _ dX10_readsFactor_46 ⟨by omega, ⟨place0_28, fault_28, number0_28, open_0, codeMany_42, waiting_0, said_42, waitsAt_0, (by omega), (by omega), (by omega), (by omega), (by omega), (by omega), r_said_42, r_waitsAt_0, (by intro hr; first | assumption | (exfalso; omega) | omega), (by intro hr; first | assumption | (exfalso; omega) | omega), (by intro hr; first | assumption | (exfalso; omega) | omega), (by first | assumption | omega), (by intro hr; first | assumption | (exfalso; omega) | omega), (by intro hr; first | assumption | (exfalso; omega) | omega), (by intro hr; first | assumption | (exfalso; omega) | omega), (by intro hr; first | assumption | (exfalso; omega) | omega), (by first | assumption | exact SB.refl _ _ | omega), (by intro hr; first | assumption | (exfalso; omega) | omega), (by first | assumption | omega), rfl⟩⟩
          · clear kb_28
            refine g_iconst X dX10_readsFactor_34 ?_
            exact hQ _ _ _ _ dX10_readsFactor_35 ⟨by omega, ⟨place0_28, fault_28, number0_28, open_0, v_codeMany, waiting_0, v_said, waitsAt_0, (by omega), (by omega), (by omega), (by omega), (by omega), (by omega), r_v_said, r_waitsAt_0, (by intro hr; first | assumption | (exfalso; omega) | omega), (by intro hr; first | assumption | (exfalso; omega) | omega), (by intro hr; first | assumption | (exfalso; omega) | omega), (by first | assumption | omega), (by intro hr; first | assumption | (exfalso; omega) | omega), (by intro hr; first | assumption | (exfalso; omega) | omega), (by intro hr; first | assumption | (exfalso; omega) | omega), (by intro hr; first | assumption | (exfalso; omega) | omega), (by first | assumption | exact SB.refl _ _ | omega), (by intro hr; first | assumption | (exfalso; omega) | omega), (by first | assumption | omega), rfl⟩⟩
      · refine g_aload_n X dX10_readsFactor_9 0 rfl ?_
        refine g_bipush X (z := 14) dX10_readsFactor_10 (by decide) ?_
        refine g_callVI0 X (c_X10_opens l D cI cB cJ h q (p0 := 14) (by omega) (by omega) (by omega) (by omega) r_waitsAt_0 (by first | assumption | omega) (by first | assumption | omega) (by first | assumption | omega) (by first | assumption | omega)) cv_X10_opens uw1421 ⟨rfl, rfl, by decide, by decide⟩ 0 rfl rfl rfl rfl rfl (Nat.le_of_ble_eq_true rfl) ⟨Nat.zero_le _, Nat.zero_le _⟩ dX10_readsFactor_12 (fun t12 ws12 k12 => ?_)
        obtain ⟨kb_12, ⟨place0_12, fault_12, open_12, waiting_12, waitsAt_12, kr_place0_12, kr_fault_12, kr_open_12, kr_waiting_12, r_waitsAt_12, kp0_12, kp1_12, rfl⟩⟩ := k12
        refine g_if_ne X (tgt := 0) dX10_readsFactor_15 (by decide) (by omega) (fun c15 => ?_) (fun c15 => ?_)
        · replace kb_12 := kb_12.resolve_left (fun h => c15 h)
          replace kp0_12 := kp0_12.resolve_right (fun h => c15 h.1)
          replace kp1_12 := kp1_12 kb_12
          have hR : RD lo v_said v_codeMany waitsAt_12 waiting_12 gh := by rw [kp1_12, kp0_12.2.2]; exact RD.push w0_0 (by omega) (Or.inr (by omega))
          have h11 : cw 11534336 waitsAt_12 waiting_12.toNat = cw 11534336 waitsAt_0 waiting_0.toNat := by rw [kp1_12, kp0_12.2.2]; exact cw_push_ge _ _ (by omega) (by omega)
          have h7 : cw 7340032 waitsAt_12 waiting_12.toNat = cw 7340032 waitsAt_0 waiting_0.toNat := by rw [kp1_12, kp0_12.2.2]; exact cw_push_ge _ _ (by omega) (by omega)
          have hS : SB v_waiting v_waitsAt waitsAt_12 := by rw [kp1_12]; exact SB.up w0_4 (by omega) (by omega)
          have hQ : ∀ j : Nat, v_waiting ≤ (j : Int) → (j : Int) < waiting_12 → waitsAt_12 j = 14680064 := fun j h1 h2 => by rcases (show (j : Int) < waiting_0 ∨ j = waiting_0.toNat by omega) with h | h; (rw [kp1_12, updZ_n _ _ (by omega)]; exact w0_7 j h1 h); (rw [kp1_12, h, updZ_s]; decide)
          exact ih0 place0_12 fault_12 open_12 waiting_12 waitsAt_12 (by omega) (by omega) (by omega) (by omega) r_waitsAt_12 (by first | assumption | omega) (by first | assumption | omega) (by first | assumption | omega) (by first | assumption | omega) (by first | assumption | exact SB.refl _ _ | omega) (by first | assumption | omega) (by first | assumption | omega) (by first | assumption | (intro j h1 h2; exfalso; omega)) (by first | assumption | omega) (by omega)
        · clear kb_12
          replace kp0_12 := (kp0_12.resolve_left (fun h => absurd h.1 (by omega))).2
          clear kp1_12
          refine g_iconst X dX10_readsFactor_18 ?_
          exact hQ _ _ _ _ dX10_readsFactor_19 ⟨by omega, ⟨place0_12, fault_12, v_number0, open_12, v_codeMany, waiting_12, v_said, waitsAt_12, (by omega), (by omega), (by omega), (by omega), (by omega), (by omega), r_v_said, r_waitsAt_12, (by intro hr; first | assumption | (exfalso; omega) | omega), (by intro hr; first | assumption | (exfalso; omega) | omega), (by intro hr; first | assumption | (exfalso; omega) | omega), (by first | assumption | omega), (by intro hr; first | assumption | (exfalso; omega) | omega), (by intro hr; first | assumption | (exfalso; omega) | omega), (by intro hr; first | assumption | (exfalso; omega) | omega), (by intro hr; first | assumption | (exfalso; omega) | omega), (by first | assumption | exact SB.refl _ _ | omega), (by intro hr; first | assumption | (exfalso; omega) | omega), (by first | assumption | omega), rfl⟩⟩
  exact L0 _ v_place0 v_fault v_open v_waiting v_waitsAt (by omega) (by omega) (by omega) (by omega) r_v_waitsAt (by first | assumption | omega) (by first | assumption | omega) (by first | assumption | omega) (by first | assumption | omega) (by first | assumption | exact SB.refl _ _ | omega) (by first | assumption | omega) (by first | assumption | omega) (by first | assumption | (intro j h1 h2; exfalso; omega)) (by first | assumption | omega) (Nat.lt_succ_self _)
set_option maxHeartbeats 4000000 in
set_option maxRecDepth 100000 in
theorem c_X10_endsPiece (l : Launch) (D : va_G) (cI cB cJ : ClassId) (h : Nat) (q : Nat → Nat) {v_stalls v_claimMany v_taped v_place0 v_length0 v_fault v_number0 v_open v_codeMany v_waiting v_saidMany v_clauses v_newMany v_newStalls v_lines v_salesNow v_outNow v_isKept v_keptStalls : Int} {v_now v_aside v_kept v_oneOf v_otherOf v_signOf v_byOf v_tape v_said v_waitsAt v_saidLetter v_saidFrom v_saidHalf v_saidTo v_codes v_clauseOf v_codeFrom v_codeHalf v_codeTo v_stack v_facts v_newOne v_newOther v_newSign v_newBy v_moreOf v_firstOf v_toldOf v_mostOf v_mostThen v_sumTo v_rowFrom v_ordersOf v_lessOf v_weightOf v_rowNow v_slowRow v_fastRow v_lineNow v_firstLine v_freeBy v_heldBy v_heightOf v_upTo v_downTo v_oftenOf v_newUpper v_newLower : Nat → Int} {lo : Int} (kr_v_open : (-2147483648) ≤ v_open ∧ v_open ≤ 2147483647) (kr_v_codeMany : 0 ≤ v_codeMany ∧ v_codeMany ≤ 260) (kr_v_waiting : 0 ≤ v_waiting ∧ v_waiting ≤ 260) (r_v_said : RA 0 16777215 v_said) (r_v_waitsAt : RA 0 16777215 v_waitsAt) (hp0 : RD lo v_said v_codeMany v_waitsAt v_waiting 1) (hp1 : v_codeMany + cw 11534336 v_waitsAt v_waiting.toNat ≤ v_place0) (hp2 : v_place0 ≤ 240) : CtV l yX10_endsPiece cX10_endsPiece 1 none ⟨1, 0, 0, 22⟩ D (TY cI cB cJ) (wX10 cI cB cJ h q v_stalls v_claimMany v_taped v_place0 v_length0 v_fault v_number0 v_open v_codeMany v_waiting v_saidMany v_clauses v_newMany v_newStalls v_lines v_salesNow v_outNow v_isKept v_keptStalls v_now v_aside v_kept v_oneOf v_otherOf v_signOf v_byOf v_tape v_said v_waitsAt v_saidLetter v_saidFrom v_saidHalf v_saidTo v_codes v_clauseOf v_codeFrom v_codeHalf v_codeTo v_stack v_facts v_newOne v_newOther v_newSign v_newBy v_moreOf v_firstOf v_toldOf v_mostOf v_mostThen v_sumTo v_rowFrom v_ordersOf v_lessOf v_weightOf v_rowNow v_slowRow v_fastRow v_lineNow v_firstLine v_freeBy v_heldBy v_heightOf v_upTo v_downTo v_oftenOf v_newUpper v_newLower) [.ref h] (fun ws' => ∃ n_open : Int, ∃ n_codeMany : Int, ∃ n_waiting : Int, ∃ n_said : Nat → Int, ((-2147483648) ≤ n_open ∧ n_open ≤ 2147483647) ∧ (0 ≤ n_codeMany ∧ n_codeMany ≤ 260) ∧ (0 ≤ n_waiting ∧ n_waiting ≤ 260) ∧ (RA 0 16777215 n_said) ∧ (RD lo n_said n_codeMany v_waitsAt n_waiting 1) ∧ (n_codeMany + cw 11534336 v_waitsAt n_waiting.toNat = v_codeMany + cw 11534336 v_waitsAt v_waiting.toNat) ∧ (n_waiting ≤ v_waiting) ∧ (∀ j : Nat, n_waiting ≤ (j : Int) → (j : Int) < v_waiting → v_waitsAt j < 11534336) ∧ (SB lo v_said n_said) ∧ (ws' = (wX10 cI cB cJ h q v_stalls v_claimMany v_taped v_place0 v_length0 v_fault v_number0 n_open n_codeMany n_waiting v_saidMany v_clauses v_newMany v_newStalls v_lines v_salesNow v_outNow v_isKept v_keptStalls v_now v_aside v_kept v_oneOf v_otherOf v_signOf v_byOf v_tape n_said v_waitsAt v_saidLetter v_saidFrom v_saidHalf v_saidTo v_codes v_clauseOf v_codeFrom v_codeHalf v_codeTo v_stack v_facts v_newOne v_newOther v_newSign v_newBy v_moreOf v_firstOf v_toldOf v_mostOf v_mostThen v_sumTo v_rowFrom v_ordersOf v_lessOf v_weightOf v_rowNow v_slowRow v_fastRow v_lineNow v_firstLine v_freeBy v_heldBy v_heightOf v_upTo v_downTo v_oftenOf v_newUpper v_newLower))) := by
  refine hdrV (own := RX10) rfl (by decide +kernel) (Nat.le_of_ble_eq_true rfl) ?_
  intro p e s m args below meth c Q A X hQ
  refine g_lvE (lv2 := [(0, .ref h)]) rfl ?_
  have L0 : ∀ (n : Nat) (open_0 : Int) (codeMany_0 : Int) (waiting_0 : Int) (said_0 : Nat → Int), ((-2147483648) ≤ open_0 ∧ open_0 ≤ 2147483647) → (0 ≤ codeMany_0 ∧ codeMany_0 ≤ 260) → (0 ≤ waiting_0 ∧ waiting_0 ≤ 260) → (RA 0 16777215 said_0) → (RD lo said_0 codeMany_0 v_waitsAt waiting_0 1) → (codeMany_0 + cw 11534336 v_waitsAt waiting_0.toNat = v_codeMany + cw 11534336 v_waitsAt v_waiting.toNat) → (waiting_0 ≤ v_waiting) → (∀ j : Nat, waiting_0 ≤ (j : Int) → (j : Int) < v_waiting → v_waitsAt j < 11534336) → (SB lo v_said said_0) → (waiting_0).toNat < n → GG p l e ⟨1, 0, 0, 22⟩ s m args below meth c 0 0 Q D A s.heap 1 (wX10 cI cB cJ h q v_stalls v_claimMany v_taped v_place0 v_length0 v_fault v_number0 open_0 codeMany_0 waiting_0 v_saidMany v_clauses v_newMany v_newStalls v_lines v_salesNow v_outNow v_isKept v_keptStalls v_now v_aside v_kept v_oneOf v_otherOf v_signOf v_byOf v_tape said_0 v_waitsAt v_saidLetter v_saidFrom v_saidHalf v_saidTo v_codes v_clauseOf v_codeFrom v_codeHalf v_codeTo v_stack v_facts v_newOne v_newOther v_newSign v_newBy v_moreOf v_firstOf v_toldOf v_mostOf v_mostThen v_sumTo v_rowFrom v_ordersOf v_lessOf v_weightOf v_rowNow v_slowRow v_fastRow v_lineNow v_firstLine v_freeBy v_heldBy v_heightOf v_upTo v_downTo v_oftenOf v_newUpper v_newLower) 0 [(0, .ref h)] [] := by
    intro n
    induction n with
    | zero => intros; exfalso; omega
    | succ n ih0 =>
      intro open_0 codeMany_0 waiting_0 said_0 kr_open_0 kr_codeMany_0 kr_waiting_0 r_said_0 w0_0 w0_1 w0_2 w0_3 w0_4 wm0
      have hb11 := cw_bd 11534336 v_waitsAt waiting_0.toNat
      have hbd := w0_0.bd
      refine g_aload_n X dX10_endsPiece_0 0 rfl ?_
      refine g_callVI0 X (c_X10_waitTop l D cI cB cJ h q  (by omega) r_v_waitsAt) cv_X10_waitTop uw1448 ⟨rfl, rfl, by decide, by decide⟩ 0 rfl rfl rfl rfl rfl (Nat.le_of_ble_eq_true rfl) ⟨Nat.zero_le _, Nat.zero_le _⟩ dX10_endsPiece_1 (fun t1 ws1 k1 => ?_)
      obtain ⟨kp0_1, kp1_1, rfl⟩ := k1
      refine g_bipush X (z := 10) dX10_endsPiece_4 (by decide) ?_
      refine g_icmp_ne X (tgt := 39) dX10_endsPiece_6 (by decide) (by omega) (by omega) (fun c6 => ?_) (fun c6 => ?_)
      · exact hQ _ _ _ dX10_endsPiece_39 ⟨open_0, codeMany_0, waiting_0, said_0, (by omega), (by omega), (by omega), r_said_0, (by first | assumption | omega), (by first | assumption | omega), (by first | assumption | omega), (by first | assumption | omega), (by first | assumption | exact SB.refl _ _ | omega), rfl⟩
      · have hq : 1 ≤ waiting_0 ∧ v_waitsAt (waiting_0 - 1).toNat / 1048576 = 10 := by omega
        have h11 := cw_pop_lt 11534336 v_waitsAt (w := waiting_0) hq.1 (by omega)
        have hb12 := cw_bd 11534336 v_waitsAt (waiting_0 - 1).toNat
        refine g_aload_n X dX10_endsPiece_9 0 rfl ?_
        refine g_bipush X (z := 10) dX10_endsPiece_10 (by decide) ?_
        refine g_iconst X dX10_endsPiece_12 ?_
        refine g_callVV0 X (c_X10_notes l D cI cB cJ h q (p0 := 10) (p1 := 0) (by omega) r_said_0 (by first | assumption | omega) (by first | assumption | omega) (by first | assumption | omega) (by first | assumption | omega) (by first | assumption | omega)) cv_X10_notes uw1434 ⟨rfl, rfl, by decide, by decide⟩ 0 rfl rfl rfl rfl rfl (Nat.le_of_ble_eq_true rfl) ⟨Nat.zero_le _, Nat.zero_le _⟩ dX10_endsPiece_13 (fun ws13 k13 => ?_)
        obtain ⟨codeMany_13, said_13, kr_codeMany_13, r_said_13, kp0_13, kp1_13, rfl⟩ := k13
        have hR : RD lo said_13 codeMany_13 v_waitsAt (waiting_0 - 1) 1 := by rw [kp1_13, kp0_13]; exact RD.pop (RD.note w0_0 _ 1 (Or.inr (Or.inr (Or.inl ⟨by omega, by omega, rfl⟩)))) hq.1 (by omega)
        have hPP : ∀ j : Nat, waiting_0 - 1 ≤ (j : Int) → (j : Int) < v_waiting → v_waitsAt j < 11534336 := fun j h1 h2 => by rcases (show waiting_0 ≤ (j : Int) ∨ j = (waiting_0 - 1).toNat by omega) with h | h; exact w0_3 j h h2; rw [h]; omega
        have hSB : SB lo v_said said_13 := by rw [kp1_13]; exact SB.up w0_4 (by omega) (by omega)
        refine g_aload_n X dX10_endsPiece_16 0 rfl ?_
        refine g_aload_n X dX10_endsPiece_17 0 rfl ?_
        refine gM_get X 0 rfl 17 (by decide) uw1196 rfl dX10_endsPiece_18 ?_
        refine g_iconst X dX10_endsPiece_21 ?_
        refine g_isub X dX10_endsPiece_22 ?_
        refine gM_put X 0 rfl 17 (by decide) uw1196 rfl rfl rfl (Nat.le_of_ble_eq_true rfl) dX10_endsPiece_23 (ws2 := (wX10 cI cB cJ h q v_stalls v_claimMany v_taped v_place0 v_length0 v_fault v_number0 open_0 codeMany_13 (waiting_0 - 1) v_saidMany v_clauses v_newMany v_newStalls v_lines v_salesNow v_outNow v_isKept v_keptStalls v_now v_aside v_kept v_oneOf v_otherOf v_signOf v_byOf v_tape said_13 v_waitsAt v_saidLetter v_saidFrom v_saidHalf v_saidTo v_codes v_clauseOf v_codeFrom v_codeHalf v_codeTo v_stack v_facts v_newOne v_newOther v_newSign v_newBy v_moreOf v_firstOf v_toldOf v_mostOf v_mostThen v_sumTo v_rowFrom v_ordersOf v_lessOf v_weightOf v_rowNow v_slowRow v_fastRow v_lineNow v_firstLine v_freeBy v_heldBy v_heightOf v_upTo v_downTo v_oftenOf v_newUpper v_newLower)) rfl ?_
        refine g_aload_n X dX10_endsPiece_26 0 rfl ?_
        refine g_aload_n X dX10_endsPiece_27 0 rfl ?_
        refine gM_get X 0 rfl 15 (by decide) uw1194 rfl dX10_endsPiece_28 ?_
        refine g_iconst X dX10_endsPiece_31 ?_
        refine g_isub X dX10_endsPiece_32 ?_
        refine g_nr (fun t32 e32 r32 => ?_)
        refine gM_put X 0 rfl 15 (by decide) uw1194 rfl rfl rfl (Nat.le_of_ble_eq_true rfl) dX10_endsPiece_33 (ws2 := (wX10 cI cB cJ h q v_stalls v_claimMany v_taped v_place0 v_length0 v_fault v_number0 t32 codeMany_13 (waiting_0 - 1) v_saidMany v_clauses v_newMany v_newStalls v_lines v_salesNow v_outNow v_isKept v_keptStalls v_now v_aside v_kept v_oneOf v_otherOf v_signOf v_byOf v_tape said_13 v_waitsAt v_saidLetter v_saidFrom v_saidHalf v_saidTo v_codes v_clauseOf v_codeFrom v_codeHalf v_codeTo v_stack v_facts v_newOne v_newOther v_newSign v_newBy v_moreOf v_firstOf v_toldOf v_mostOf v_mostThen v_sumTo v_rowFrom v_ordersOf v_lessOf v_weightOf v_rowNow v_slowRow v_fastRow v_lineNow v_firstLine v_freeBy v_heldBy v_heightOf v_upTo v_downTo v_oftenOf v_newUpper v_newLower)) rfl ?_
        refine g_goto X (tgt := 0) dX10_endsPiece_36 (by decide) ?_
        exact ih0 t32 codeMany_13 (waiting_0 - 1) said_13 (by omega) (by omega) (by omega) r_said_13 (by first | assumption | omega) (by first | assumption | omega) (by first | assumption | omega) (by first | assumption | (intro j h1 h2; exfalso; omega)) (by first | assumption | exact SB.refl _ _ | omega) (by omega)
  exact L0 _ v_open v_codeMany v_waiting v_said (by omega) (by omega) (by omega) r_v_said (by first | assumption | omega) (by first | assumption | omega) (by first | assumption | omega) (by first | assumption | (intro j h1 h2; exfalso; omega)) (by first | assumption | exact SB.refl _ _ | omega) (Nat.lt_succ_self _)
set_option maxHeartbeats 4000000 in
set_option maxRecDepth 100000 in
theorem c_X10_lands (l : Launch) (D : va_G) (cI cB cJ : ClassId) (h : Nat) (q : Nat → Nat) {v_stalls v_claimMany v_taped v_place0 v_length0 v_fault v_number0 v_open v_codeMany v_waiting v_saidMany v_clauses v_newMany v_newStalls v_lines v_salesNow v_outNow v_isKept v_keptStalls : Int} {v_now v_aside v_kept v_oneOf v_otherOf v_signOf v_byOf v_tape v_said v_waitsAt v_saidLetter v_saidFrom v_saidHalf v_saidTo v_codes v_clauseOf v_codeFrom v_codeHalf v_codeTo v_stack v_facts v_newOne v_newOther v_newSign v_newBy v_moreOf v_firstOf v_toldOf v_mostOf v_mostThen v_sumTo v_rowFrom v_ordersOf v_lessOf v_weightOf v_rowNow v_slowRow v_fastRow v_lineNow v_firstLine v_freeBy v_heldBy v_heightOf v_upTo v_downTo v_oftenOf v_newUpper v_newLower : Nat → Int} {p0 : Int} {lo : Int} (kr_v_codeMany : 0 ≤ v_codeMany ∧ v_codeMany ≤ 260) (kr_v_waiting : 0 ≤ v_waiting ∧ v_waiting ≤ 260) (r_v_said : RA 0 16777215 v_said) (r_v_waitsAt : RA 0 16777215 v_waitsAt) (hp0 : 0 ≤ p0 ∧ p0 ≤ 1) (hp1 : RD lo v_said v_codeMany v_waitsAt v_waiting 1) : CtV l yX10_lands cX10_lands 3 none ⟨1, 0, 0, 20⟩ D (TY cI cB cJ) (wX10 cI cB cJ h q v_stalls v_claimMany v_taped v_place0 v_length0 v_fault v_number0 v_open v_codeMany v_waiting v_saidMany v_clauses v_newMany v_newStalls v_lines v_salesNow v_outNow v_isKept v_keptStalls v_now v_aside v_kept v_oneOf v_otherOf v_signOf v_byOf v_tape v_said v_waitsAt v_saidLetter v_saidFrom v_saidHalf v_saidTo v_codes v_clauseOf v_codeFrom v_codeHalf v_codeTo v_stack v_facts v_newOne v_newOther v_newSign v_newBy v_moreOf v_firstOf v_toldOf v_mostOf v_mostThen v_sumTo v_rowFrom v_ordersOf v_lessOf v_weightOf v_rowNow v_slowRow v_fastRow v_lineNow v_firstLine v_freeBy v_heldBy v_heightOf v_upTo v_downTo v_oftenOf v_newUpper v_newLower) [.ref h, vI p0] (fun ws' => ∃ n_waiting : Int, ∃ n_said : Nat → Int, (0 ≤ n_waiting ∧ n_waiting ≤ 260) ∧ (RA 0 16777215 n_said) ∧ (RD lo n_said v_codeMany v_waitsAt n_waiting 1) ∧ (cw 11534336 v_waitsAt n_waiting.toNat = cw 11534336 v_waitsAt v_waiting.toNat) ∧ (n_waiting ≤ v_waiting) ∧ (∀ j : Nat, n_waiting ≤ (j : Int) → (j : Int) < v_waiting → 11534336 ≤ v_waitsAt j ∧ v_waitsAt j < 13631488) ∧ (p0 = 1 → n_waiting = 0 ∨ v_waitsAt (n_waiting - 1).toNat < 11534336 ∨ 13631488 ≤ v_waitsAt (n_waiting - 1).toNat) ∧ (SB lo v_said n_said) ∧ (ws' = (wX10 cI cB cJ h q v_stalls v_claimMany v_taped v_place0 v_length0 v_fault v_number0 v_open v_codeMany n_waiting v_saidMany v_clauses v_newMany v_newStalls v_lines v_salesNow v_outNow v_isKept v_keptStalls v_now v_aside v_kept v_oneOf v_otherOf v_signOf v_byOf v_tape n_said v_waitsAt v_saidLetter v_saidFrom v_saidHalf v_saidTo v_codes v_clauseOf v_codeFrom v_codeHalf v_codeTo v_stack v_facts v_newOne v_newOther v_newSign v_newBy v_moreOf v_firstOf v_toldOf v_mostOf v_mostThen v_sumTo v_rowFrom v_ordersOf v_lessOf v_weightOf v_rowNow v_slowRow v_fastRow v_lineNow v_firstLine v_freeBy v_heldBy v_heightOf v_upTo v_downTo v_oftenOf v_newUpper v_newLower))) := by
  refine hdrV (own := RX10) rfl (by decide +kernel) (Nat.le_of_ble_eq_true rfl) ?_
  intro p e s m args below meth c Q A X hQ
  refine g_lvE (lv2 := [(0, .ref h), (1, vI p0)]) rfl ?_
  have L0 : ∀ (n : Nat) (waiting_0 : Int) (said_0 : Nat → Int), (0 ≤ waiting_0 ∧ waiting_0 ≤ 260) → (RA 0 16777215 said_0) → (RD lo said_0 v_codeMany v_waitsAt waiting_0 1) → (cw 11534336 v_waitsAt waiting_0.toNat = cw 11534336 v_waitsAt v_waiting.toNat) → (waiting_0 ≤ v_waiting) → (∀ j : Nat, waiting_0 ≤ (j : Int) → (j : Int) < v_waiting → 11534336 ≤ v_waitsAt j ∧ v_waitsAt j < 13631488) → (SB lo v_said said_0) → (waiting_0).toNat < n → GG p l e ⟨1, 0, 0, 20⟩ s m args below meth c 0 0 Q D A s.heap 3 (wX10 cI cB cJ h q v_stalls v_claimMany v_taped v_place0 v_length0 v_fault v_number0 v_open v_codeMany waiting_0 v_saidMany v_clauses v_newMany v_newStalls v_lines v_salesNow v_outNow v_isKept v_keptStalls v_now v_aside v_kept v_oneOf v_otherOf v_signOf v_byOf v_tape said_0 v_waitsAt v_saidLetter v_saidFrom v_saidHalf v_saidTo v_codes v_clauseOf v_codeFrom v_codeHalf v_codeTo v_stack v_facts v_newOne v_newOther v_newSign v_newBy v_moreOf v_firstOf v_toldOf v_mostOf v_mostThen v_sumTo v_rowFrom v_ordersOf v_lessOf v_weightOf v_rowNow v_slowRow v_fastRow v_lineNow v_firstLine v_freeBy v_heldBy v_heightOf v_upTo v_downTo v_oftenOf v_newUpper v_newLower) 0 [(0, .ref h), (1, vI p0)] [] := by
    intro n
    induction n with
    | zero => intros; exfalso; omega
    | succ n ih0 =>
      intro waiting_0 said_0 kr_waiting_0 r_said_0 w0_0 w0_1 w0_2 w0_3 w0_4 wm0
      have hbd := w0_0.bd
      refine g_aload_n X dX10_lands_0 0 rfl ?_
      refine g_callVI0 X (c_X10_waitTop l D cI cB cJ h q  (by omega) r_v_waitsAt) cv_X10_waitTop uw1448 ⟨rfl, rfl, by decide, by decide⟩ 0 rfl rfl rfl rfl rfl (Nat.le_of_ble_eq_true rfl) ⟨Nat.zero_le _, Nat.zero_le _⟩ dX10_lands_1 (fun t1 ws1 k1 => ?_)
      obtain ⟨kp0_1, kp1_1, rfl⟩ := k1
      refine g_bipush X (z := 11) dX10_lands_4 (by decide) ?_
      refine g_icmp_eq X (tgt := 22) dX10_lands_6 (by decide) (by omega) (by omega) (fun c6 => ?_) (fun c6 => ?_)
      · have hq : 1 ≤ waiting_0 ∧ 11534336 ≤ v_waitsAt (waiting_0 - 1).toNat ∧ v_waitsAt (waiting_0 - 1).toNat < 13631488 := by omega
        have hA := RD.at w0_0 hq.1 hq.2
        have h11 := cw_pop_ge 11534336 v_waitsAt (w := waiting_0) hq.1 hq.2.1
        refine g_aload_n X dX10_lands_22 0 rfl ?_
        refine gM_get X 0 rfl 21 (by decide) uw1200 rfl dX10_lands_23 ?_
        refine g_aload_n X dX10_lands_26 0 rfl ?_
        refine gM_get X 0 rfl 17 (by decide) uw1196 rfl dX10_lands_27 ?_
        refine g_iconst X dX10_lands_30 ?_
        refine g_isub X dX10_lands_31 ?_
        refine g_iald X 10 0 rfl rfl (by omega) (by decide) dX10_lands_32 (fun t32 e32 => ?_)
        have r32 := r_v_waitsAt (waiting_0 - 1 : Int).toNat; rw [← e32] at r32
        refine g_ldc X (z := 1048576) dX10_lands_33 uw1425 (by decide) ?_
        refine g_irem X dX10_lands_35 (by omega) (by omega) ?_
        refine g_nm (fun t35 e35 => ?_)
        have r35 : 0 ≤ t35 ∧ ((0 : Int) < 1048576 → t35 < 1048576) := by rw [e35]; exact ⟨Int.emod_nonneg _ (by omega), fun h => Int.emod_lt_of_pos _ h⟩
        have hk : t35 = v_waitsAt (waiting_0 - 1).toNat % 1048576 := by omega
        rw [← hk] at hA
        refine g_istore_n X (lv' := [(2, vI t35), (0, .ref h), (1, vI p0)]) dX10_lands_36 (by decide) rfl ?_
        refine g_aload_n X dX10_lands_37 1 rfl ?_
        refine gM_get X 0 rfl 20 (by decide) uw1199 rfl dX10_lands_38 ?_
        refine g_iload_n X dX10_lands_41 0 rfl ?_
        refine g_ldc X (z := 1048576) dX10_lands_42 uw1425 (by decide) ?_
        refine g_aload_n X dX10_lands_44 1 rfl ?_
        refine gM_get X 0 rfl 20 (by decide) uw1199 rfl dX10_lands_45 ?_
        refine g_iload_n X dX10_lands_48 0 rfl ?_
        refine g_iald X 9 0 rfl rfl (by omega) (by decide) dX10_lands_49 (fun t49 e49 => ?_)
        have r49 := r_said_0 (t35 : Int).toNat; rw [← e49] at r49
        have hA3 := hA.2.2
        rw [← e49] at hA3
        refine g_ldc X (z := 1048576) dX10_lands_50 uw1425 (by decide) ?_
        refine g_idiv X dX10_lands_52 (by omega) (by omega) ?_
        refine g_nm (fun t52 e52 => ?_)
        refine g_imul X dX10_lands_53 ?_
        refine g_aload_n X dX10_lands_54 1 rfl ?_
        refine gM_get X 0 rfl 16 (by decide) uw1195 rfl dX10_lands_55 ?_
        refine g_iadd X dX10_lands_58 ?_
        refine g_iast X 9 0 rfl rfl (by omega) (by decide) dX10_lands_59 (fun said_59 e59 => ?_)
        have r_said_59 : RA 0 16777215 said_59 := by rw [e59]; exact RA_up r_said_0 (by omega)
        refine g_ws (ws2 := (wX10 cI cB cJ h q v_stalls v_claimMany v_taped v_place0 v_length0 v_fault v_number0 v_open v_codeMany waiting_0 v_saidMany v_clauses v_newMany v_newStalls v_lines v_salesNow v_outNow v_isKept v_keptStalls v_now v_aside v_kept v_oneOf v_otherOf v_signOf v_byOf v_tape said_59 v_waitsAt v_saidLetter v_saidFrom v_saidHalf v_saidTo v_codes v_clauseOf v_codeFrom v_codeHalf v_codeTo v_stack v_facts v_newOne v_newOther v_newSign v_newBy v_moreOf v_firstOf v_toldOf v_mostOf v_mostThen v_sumTo v_rowFrom v_ordersOf v_lessOf v_weightOf v_rowNow v_slowRow v_fastRow v_lineNow v_firstLine v_freeBy v_heldBy v_heightOf v_upTo v_downTo v_oftenOf v_newUpper v_newLower)) rfl ?_
        have hR : RD lo said_59 v_codeMany v_waitsAt (waiting_0 - 1) 1 := by rw [e59]; exact RD.land w0_0 hq.1 hq.2 (by omega) hk (by omega)
        have hPP : ∀ j : Nat, waiting_0 - 1 ≤ (j : Int) → (j : Int) < v_waiting → 11534336 ≤ v_waitsAt j ∧ v_waitsAt j < 13631488 := fun j h1 h2 => by rcases (show waiting_0 ≤ (j : Int) ∨ j = (waiting_0 - 1).toNat by omega) with h | h; exact w0_3 j h h2; rw [h]; exact hq.2
        have hSB : SB lo v_said said_59 := by rw [e59]; exact SB.up w0_4 hA.1 (by omega)
        refine g_aload_n X dX10_lands_60 1 rfl ?_
        refine g_aload_n X dX10_lands_61 1 rfl ?_
        refine gM_get X 0 rfl 17 (by decide) uw1196 rfl dX10_lands_62 ?_
        refine g_iconst X dX10_lands_65 ?_
        refine g_isub X dX10_lands_66 ?_
        refine gM_put X 0 rfl 17 (by decide) uw1196 rfl rfl rfl (Nat.le_of_ble_eq_true rfl) dX10_lands_67 (ws2 := (wX10 cI cB cJ h q v_stalls v_claimMany v_taped v_place0 v_length0 v_fault v_number0 v_open v_codeMany (waiting_0 - 1) v_saidMany v_clauses v_newMany v_newStalls v_lines v_salesNow v_outNow v_isKept v_keptStalls v_now v_aside v_kept v_oneOf v_otherOf v_signOf v_byOf v_tape said_59 v_waitsAt v_saidLetter v_saidFrom v_saidHalf v_saidTo v_codes v_clauseOf v_codeFrom v_codeHalf v_codeTo v_stack v_facts v_newOne v_newOther v_newSign v_newBy v_moreOf v_firstOf v_toldOf v_mostOf v_mostThen v_sumTo v_rowFrom v_ordersOf v_lessOf v_weightOf v_rowNow v_slowRow v_fastRow v_lineNow v_firstLine v_freeBy v_heldBy v_heightOf v_upTo v_downTo v_oftenOf v_newUpper v_newLower)) rfl ?_
        refine g_goto X (tgt := 0) dX10_lands_70 (by decide) ?_
        refine g_lv [1, 2] rfl ?_
        exact ih0 (waiting_0 - 1) said_59 (by omega) r_said_59 (by first | assumption | omega) (by first | assumption | omega) (by first | assumption | omega) (by first | assumption | (intro j h1 h2; exfalso; omega)) (by first | assumption | exact SB.refl _ _ | omega) (by omega)
      · refine g_iload_n X dX10_lands_9 1 rfl ?_
        refine g_if_eq X (tgt := 73) dX10_lands_10 (by decide) (by omega) (fun c10 => ?_) (fun c10 => ?_)
        · exact hQ _ _ _ dX10_lands_73 ⟨waiting_0, said_0, (by omega), r_said_0, (by first | assumption | omega), (by first | assumption | omega), (by first | assumption | omega), (by first | assumption | omega), (by intro hp; omega), (by first | assumption | exact SB.refl _ _ | omega), rfl⟩
        · refine g_aload_n X dX10_lands_13 0 rfl ?_
          refine g_callVI0 X (c_X10_waitTop l D cI cB cJ h q  (by omega) r_v_waitsAt) cv_X10_waitTop uw1448 ⟨rfl, rfl, by decide, by decide⟩ 0 rfl rfl rfl rfl rfl (Nat.le_of_ble_eq_true rfl) ⟨Nat.zero_le _, Nat.zero_le _⟩ dX10_lands_14 (fun t14 ws14 k14 => ?_)
          obtain ⟨kp0_14, kp1_14, rfl⟩ := k14
          refine g_bipush X (z := 12) dX10_lands_17 (by decide) ?_
          refine g_icmp_ne X (tgt := 73) dX10_lands_19 (by decide) (by omega) (by omega) (fun c19 => ?_) (fun c19 => ?_)
          · exact hQ _ _ _ dX10_lands_73 ⟨waiting_0, said_0, (by omega), r_said_0, (by first | assumption | omega), (by first | assumption | omega), (by first | assumption | omega), (by first | assumption | omega), (by intro hp; omega), (by first | assumption | exact SB.refl _ _ | omega), rfl⟩
          · have hq : 1 ≤ waiting_0 ∧ 11534336 ≤ v_waitsAt (waiting_0 - 1).toNat ∧ v_waitsAt (waiting_0 - 1).toNat < 13631488 := by omega
            have hA := RD.at w0_0 hq.1 hq.2
            have h11 := cw_pop_ge 11534336 v_waitsAt (w := waiting_0) hq.1 hq.2.1
            refine g_aload_n X dX10_lands_22 0 rfl ?_
            refine gM_get X 0 rfl 21 (by decide) uw1200 rfl dX10_lands_23 ?_
            refine g_aload_n X dX10_lands_26 0 rfl ?_
            refine gM_get X 0 rfl 17 (by decide) uw1196 rfl dX10_lands_27 ?_
            refine g_iconst X dX10_lands_30 ?_
            refine g_isub X dX10_lands_31 ?_
            refine g_iald X 10 0 rfl rfl (by omega) (by decide) dX10_lands_32 (fun t32 e32 => ?_)
            have r32 := r_v_waitsAt (waiting_0 - 1 : Int).toNat; rw [← e32] at r32
            refine g_ldc X (z := 1048576) dX10_lands_33 uw1425 (by decide) ?_
            refine g_irem X dX10_lands_35 (by omega) (by omega) ?_
            refine g_nm (fun t35 e35 => ?_)
            have r35 : 0 ≤ t35 ∧ ((0 : Int) < 1048576 → t35 < 1048576) := by rw [e35]; exact ⟨Int.emod_nonneg _ (by omega), fun h => Int.emod_lt_of_pos _ h⟩
            have hk : t35 = v_waitsAt (waiting_0 - 1).toNat % 1048576 := by omega
            rw [← hk] at hA
            refine g_istore_n X (lv' := [(2, vI t35), (0, .ref h), (1, vI p0)]) dX10_lands_36 (by decide) rfl ?_
            refine g_aload_n X dX10_lands_37 1 rfl ?_
            refine gM_get X 0 rfl 20 (by decide) uw1199 rfl dX10_lands_38 ?_
            refine g_iload_n X dX10_lands_41 0 rfl ?_
            refine g_ldc X (z := 1048576) dX10_lands_42 uw1425 (by decide) ?_
            refine g_aload_n X dX10_lands_44 1 rfl ?_
            refine gM_get X 0 rfl 20 (by decide) uw1199 rfl dX10_lands_45 ?_
            refine g_iload_n X dX10_lands_48 0 rfl ?_
            refine g_iald X 9 0 rfl rfl (by omega) (by decide) dX10_lands_49 (fun t49 e49 => ?_)
            have r49 := r_said_0 (t35 : Int).toNat; rw [← e49] at r49
            have hA3 := hA.2.2
            rw [← e49] at hA3
            refine g_ldc X (z := 1048576) dX10_lands_50 uw1425 (by decide) ?_
            refine g_idiv X dX10_lands_52 (by omega) (by omega) ?_
            refine g_nm (fun t52 e52 => ?_)
            refine g_imul X dX10_lands_53 ?_
            refine g_aload_n X dX10_lands_54 1 rfl ?_
            refine gM_get X 0 rfl 16 (by decide) uw1195 rfl dX10_lands_55 ?_
            refine g_iadd X dX10_lands_58 ?_
            refine g_iast X 9 0 rfl rfl (by omega) (by decide) dX10_lands_59 (fun said_59 e59 => ?_)
            have r_said_59 : RA 0 16777215 said_59 := by rw [e59]; exact RA_up r_said_0 (by omega)
            refine g_ws (ws2 := (wX10 cI cB cJ h q v_stalls v_claimMany v_taped v_place0 v_length0 v_fault v_number0 v_open v_codeMany waiting_0 v_saidMany v_clauses v_newMany v_newStalls v_lines v_salesNow v_outNow v_isKept v_keptStalls v_now v_aside v_kept v_oneOf v_otherOf v_signOf v_byOf v_tape said_59 v_waitsAt v_saidLetter v_saidFrom v_saidHalf v_saidTo v_codes v_clauseOf v_codeFrom v_codeHalf v_codeTo v_stack v_facts v_newOne v_newOther v_newSign v_newBy v_moreOf v_firstOf v_toldOf v_mostOf v_mostThen v_sumTo v_rowFrom v_ordersOf v_lessOf v_weightOf v_rowNow v_slowRow v_fastRow v_lineNow v_firstLine v_freeBy v_heldBy v_heightOf v_upTo v_downTo v_oftenOf v_newUpper v_newLower)) rfl ?_
            have hR : RD lo said_59 v_codeMany v_waitsAt (waiting_0 - 1) 1 := by rw [e59]; exact RD.land w0_0 hq.1 hq.2 (by omega) hk (by omega)
            have hPP : ∀ j : Nat, waiting_0 - 1 ≤ (j : Int) → (j : Int) < v_waiting → 11534336 ≤ v_waitsAt j ∧ v_waitsAt j < 13631488 := fun j h1 h2 => by rcases (show waiting_0 ≤ (j : Int) ∨ j = (waiting_0 - 1).toNat by omega) with h | h; exact w0_3 j h h2; rw [h]; exact hq.2
            have hSB : SB lo v_said said_59 := by rw [e59]; exact SB.up w0_4 hA.1 (by omega)
            refine g_aload_n X dX10_lands_60 1 rfl ?_
            refine g_aload_n X dX10_lands_61 1 rfl ?_
            refine gM_get X 0 rfl 17 (by decide) uw1196 rfl dX10_lands_62 ?_
            refine g_iconst X dX10_lands_65 ?_
            refine g_isub X dX10_lands_66 ?_
            refine gM_put X 0 rfl 17 (by decide) uw1196 rfl rfl rfl (Nat.le_of_ble_eq_true rfl) dX10_lands_67 (ws2 := (wX10 cI cB cJ h q v_stalls v_claimMany v_taped v_place0 v_length0 v_fault v_number0 v_open v_codeMany (waiting_0 - 1) v_saidMany v_clauses v_newMany v_newStalls v_lines v_salesNow v_outNow v_isKept v_keptStalls v_now v_aside v_kept v_oneOf v_otherOf v_signOf v_byOf v_tape said_59 v_waitsAt v_saidLetter v_saidFrom v_saidHalf v_saidTo v_codes v_clauseOf v_codeFrom v_codeHalf v_codeTo v_stack v_facts v_newOne v_newOther v_newSign v_newBy v_moreOf v_firstOf v_toldOf v_mostOf v_mostThen v_sumTo v_rowFrom v_ordersOf v_lessOf v_weightOf v_rowNow v_slowRow v_fastRow v_lineNow v_firstLine v_freeBy v_heldBy v_heightOf v_upTo v_downTo v_oftenOf v_newUpper v_newLower)) rfl ?_
            refine g_goto X (tgt := 0) dX10_lands_70 (by decide) ?_
            refine g_lv [1, 2] rfl ?_
            exact ih0 (waiting_0 - 1) said_59 (by omega) r_said_59 (by first | assumption | omega) (by first | assumption | omega) (by first | assumption | omega) (by first | assumption | (intro j h1 h2; exfalso; omega)) (by first | assumption | exact SB.refl _ _ | omega) (by omega)
  exact L0 _ v_waiting v_said (by omega) r_v_said (by first | assumption | omega) (by first | assumption | omega) (by first | assumption | omega) (by first | assumption | (intro j h1 h2; exfalso; omega)) (by first | assumption | exact SB.refl _ _ | omega) (Nat.lt_succ_self _)
