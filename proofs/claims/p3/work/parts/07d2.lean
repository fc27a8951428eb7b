set_option maxHeartbeats 8000000 in
set_option maxRecDepth 100000 in
theorem c_X10_readsCondition (l : Launch) (D : va_G) (cI cB cJ : ClassId) (h : Nat) (q : Nat → Nat) {v_stalls v_claimMany v_taped v_place0 v_length0 v_fault v_number0 v_open v_codeMany v_waiting v_saidMany v_clauses v_newMany v_newStalls v_lines v_salesNow v_outNow v_isKept v_keptStalls : Int} {v_now v_aside v_kept v_oneOf v_otherOf v_signOf v_byOf v_tape v_said v_waitsAt v_saidLetter v_saidFrom v_saidHalf v_saidTo v_codes v_clauseOf v_codeFrom v_codeHalf v_codeTo v_stack v_facts v_newOne v_newOther v_newSign v_newBy v_moreOf v_firstOf v_toldOf v_mostOf v_mostThen v_sumTo v_rowFrom v_ordersOf v_lessOf v_weightOf v_rowNow v_slowRow v_fastRow v_lineNow v_firstLine v_freeBy v_heldBy v_heightOf v_upTo v_downTo v_oftenOf v_newUpper v_newLower : Nat → Int} (kr_v_place0 : 0 ≤ v_place0 ∧ v_place0 ≤ 260) (kr_v_length0 : 0 ≤ v_length0 ∧ v_length0 ≤ 260) (kr_v_fault : (-1000000) ≤ v_fault ∧ v_fault ≤ 1000000) (kr_v_number0 : 0 ≤ v_number0 ∧ v_number0 ≤ 99999) (kr_v_open : (-2147483648) ≤ v_open ∧ v_open ≤ 2147483647) (kr_v_codeMany : 0 ≤ v_codeMany ∧ v_codeMany ≤ 260) (kr_v_waiting : 0 ≤ v_waiting ∧ v_waiting ≤ 260) (r_v_tape : RA (-128) 127 v_tape) (r_v_said : RA 0 16777215 v_said) (r_v_waitsAt : RA 0 16777215 v_waitsAt) (hp0 : v_codeMany ≤ v_place0) (hp1 : v_place0 ≤ v_length0) (hp2 : v_length0 ≤ 240) : CtI l yX10_readsCondition cX10_readsCondition 1 (some .boolean) ⟨6, 0, 0, 125⟩ D (TY cI cB cJ) (wX10 cI cB cJ h q v_stalls v_claimMany v_taped v_place0 v_length0 v_fault v_number0 v_open v_codeMany v_waiting v_saidMany v_clauses v_newMany v_newStalls v_lines v_salesNow v_outNow v_isKept v_keptStalls v_now v_aside v_kept v_oneOf v_otherOf v_signOf v_byOf v_tape v_said v_waitsAt v_saidLetter v_saidFrom v_saidHalf v_saidTo v_codes v_clauseOf v_codeFrom v_codeHalf v_codeTo v_stack v_facts v_newOne v_newOther v_newSign v_newBy v_moreOf v_firstOf v_toldOf v_mostOf v_mostThen v_sumTo v_rowFrom v_ordersOf v_lessOf v_weightOf v_rowNow v_slowRow v_fastRow v_lineNow v_firstLine v_freeBy v_heldBy v_heightOf v_upTo v_downTo v_oftenOf v_newUpper v_newLower) [.ref h] (fun z ws' => (z = 0 ∨ z = 1) ∧ ∃ n_place0 : Int, ∃ n_fault : Int, ∃ n_number0 : Int, ∃ n_open : Int, ∃ n_codeMany : Int, ∃ n_waiting : Int, ∃ n_said : Nat → Int, ∃ n_waitsAt : Nat → Int, (0 ≤ n_place0 ∧ n_place0 ≤ 260) ∧ ((-1000000) ≤ n_fault ∧ n_fault ≤ 1000000) ∧ (0 ≤ n_number0 ∧ n_number0 ≤ 99999) ∧ ((-2147483648) ≤ n_open ∧ n_open ≤ 2147483647) ∧ (0 ≤ n_codeMany ∧ n_codeMany ≤ 260) ∧ (0 ≤ n_waiting ∧ n_waiting ≤ 260) ∧ (RA 0 16777215 n_said) ∧ (RA 0 16777215 n_waitsAt) ∧ (z = 1 → clOK n_said v_codeMany n_codeMany) ∧ (z = 1 → n_codeMany ≤ n_place0) ∧ (n_place0 ≤ v_length0) ∧ (z = 1 → v_place0 < n_place0) ∧ (SB v_codeMany v_said n_said) ∧ (v_place0 ≤ n_place0) ∧ (z = 1 → lwJ (sgP v_length0 (oct v_tape)) v_length0 (fun _ _ => True) 5 (fun _ => []) v_place0 6 (fun _ => []) n_place0) ∧ (z = 0 → lwV (sgP v_length0 (oct v_tape)) v_length0 (fun _ _ => True) 5 (fun _ => []) v_place0 n_fault) ∧ (ws' = (wX10 cI cB cJ h q v_stalls v_claimMany v_taped n_place0 v_length0 n_fault n_number0 n_open n_codeMany n_waiting v_saidMany v_clauses v_newMany v_newStalls v_lines v_salesNow v_outNow v_isKept v_keptStalls v_now v_aside v_kept v_oneOf v_otherOf v_signOf v_byOf v_tape n_said n_waitsAt v_saidLetter v_saidFrom v_saidHalf v_saidTo v_codes v_clauseOf v_codeFrom v_codeHalf v_codeTo v_stack v_facts v_newOne v_newOther v_newSign v_newBy v_moreOf v_firstOf v_toldOf v_mostOf v_mostThen v_sumTo v_rowFrom v_ordersOf v_lessOf v_weightOf v_rowNow v_slowRow v_fastRow v_lineNow v_firstLine v_freeBy v_heldBy v_heightOf v_upTo v_downTo v_oftenOf v_newUpper v_newLower))) := by
  refine hdrZ (own := RX10) rfl (by decide +kernel) (Nat.le_of_ble_eq_true rfl) ?_
  intro p e s m args below meth c Q A X hQ
  refine g_lvE (lv2 := [(0, .ref h)]) rfl ?_
  have hH0 : (sgP v_length0 (oct v_tape)) v_place0 = hereZ v_place0 v_length0 v_tape := rfl
  refine g_aload_n X dX10_readsCondition_0 0 rfl ?_
  refine g_callVI0 X (c_X10_here l D cI cB cJ h q  (by omega) (by omega) r_v_tape) cv_X10_here uw1405 ⟨rfl, rfl, by decide, by decide⟩ 0 rfl rfl rfl rfl rfl (Nat.le_of_ble_eq_true rfl) ⟨Nat.zero_le _, Nat.zero_le _⟩ dX10_readsCondition_1 (fun t1 ws1 k1 => ?_)
  obtain ⟨kp0_1, kp1_1, kp2_1, rfl⟩ := k1
  refine g_bipush X (z := 40) dX10_readsCondition_4 (by decide) ?_
  refine g_icmp_eq X (tgt := 19) dX10_readsCondition_6 (by decide) (by omega) (by omega) (fun c6 => ?_) (fun c6 => ?_)
  · refine g_aload_n X dX10_readsCondition_19 0 rfl ?_
    refine g_iconst X dX10_readsCondition_20 ?_
    refine gM_put X 0 rfl 15 (by decide) uw1194 rfl rfl rfl (Nat.le_of_ble_eq_true rfl) dX10_readsCondition_21 (ws2 := (wX10 cI cB cJ h q v_stalls v_claimMany v_taped v_place0 v_length0 v_fault v_number0 0 v_codeMany v_waiting v_saidMany v_clauses v_newMany v_newStalls v_lines v_salesNow v_outNow v_isKept v_keptStalls v_now v_aside v_kept v_oneOf v_otherOf v_signOf v_byOf v_tape v_said v_waitsAt v_saidLetter v_saidFrom v_saidHalf v_saidTo v_codes v_clauseOf v_codeFrom v_codeHalf v_codeTo v_stack v_facts v_newOne v_newOther v_newSign v_newBy v_moreOf v_firstOf v_toldOf v_mostOf v_mostThen v_sumTo v_rowFrom v_ordersOf v_lessOf v_weightOf v_rowNow v_slowRow v_fastRow v_lineNow v_firstLine v_freeBy v_heldBy v_heightOf v_upTo v_downTo v_oftenOf v_newUpper v_newLower)) rfl ?_
    refine g_aload_n X dX10_readsCondition_24 0 rfl ?_
    refine g_iconst X dX10_readsCondition_25 ?_
    refine gM_put X 0 rfl 17 (by decide) uw1196 rfl rfl rfl (Nat.le_of_ble_eq_true rfl) dX10_readsCondition_26 (ws2 := (wX10 cI cB cJ h q v_stalls v_claimMany v_taped v_place0 v_length0 v_fault v_number0 0 v_codeMany 0 v_saidMany v_clauses v_newMany v_newStalls v_lines v_salesNow v_outNow v_isKept v_keptStalls v_now v_aside v_kept v_oneOf v_otherOf v_signOf v_byOf v_tape v_said v_waitsAt v_saidLetter v_saidFrom v_saidHalf v_saidTo v_codes v_clauseOf v_codeFrom v_codeHalf v_codeTo v_stack v_facts v_newOne v_newOther v_newSign v_newBy v_moreOf v_firstOf v_toldOf v_mostOf v_mostThen v_sumTo v_rowFrom v_ordersOf v_lessOf v_weightOf v_rowNow v_slowRow v_fastRow v_lineNow v_firstLine v_freeBy v_heldBy v_heightOf v_upTo v_downTo v_oftenOf v_newUpper v_newLower)) rfl ?_
    refine g_aload_n X dX10_readsCondition_29 0 rfl ?_
    refine g_bipush X (z := 13) dX10_readsCondition_30 (by decide) ?_
    refine g_callVI0 X (c_X10_opens l D cI cB cJ h q (p0 := 13) (by omega) (by omega) (by omega) (by omega) r_v_waitsAt (by first | assumption | omega) (by first | assumption | omega) (by first | assumption | omega) (by first | assumption | omega) (by first | assumption | omega)) cv_X10_opens uw1421 ⟨rfl, rfl, by decide, by decide⟩ 0 rfl rfl rfl rfl rfl (Nat.le_of_ble_eq_true rfl) ⟨Nat.zero_le _, Nat.zero_le _⟩ dX10_readsCondition_32 (fun t32 ws32 k32 => ?_)
    obtain ⟨kb_32, ⟨place0_32, fault_32, open_32, waiting_32, waitsAt_32, kr_place0_32, kr_fault_32, kr_open_32, kr_waiting_32, r_waitsAt_32, kp0_32, kp1_32, kp2_32, rfl⟩⟩ := k32
    refine g_if_ne X (tgt := 40) dX10_readsCondition_35 (by decide) (by omega) (fun c35 => ?_) (fun c35 => ?_)
    · replace kb_32 := kb_32.resolve_left (fun h => c35 h)
      replace kp0_32 := kp0_32.resolve_right (fun h => c35 h.1)
      replace kp1_32 := kp1_32 kb_32
      replace kp2_32 := kp2_32.resolve_right (fun h => c35 h.1)
      have hR : RD v_codeMany v_said v_codeMany waitsAt_32 waiting_32 0 := by rw [kp1_32, kp0_32.2.2]; exact RD.push (RD.ini _ _ (by omega)) (by omega) (Or.inr (by omega))
      have h11 : cw 11534336 waitsAt_32 waiting_32.toNat = 0 := by rw [kp1_32, kp0_32.2.2]; exact (cw_push_ge _ _ (by omega) (by omega)).trans rfl
      have hG : Ge 10485760 waitsAt_32 waiting_32 := by rw [kp1_32, kp0_32.2.2]; exact Ge.push (fun j hj => by omega) (by omega) (by omega)
      have hW : 13631488 ≤ waitsAt_32 0 := by rw [kp1_32]; show 13631488 ≤ updZ v_waitsAt 0 (1048576 * 13) 0; rw [updZ_s]; decide
      have h1w := lw_one kp1_32 (w := waiting_32) (by omega)
      have hL1 := h1w.1
      have hJ3 : lwJ (sgP v_length0 (oct v_tape)) v_length0 (fun _ _ => True) 5 (fun _ => []) v_place0 3 (fun _ => lwL waitsAt_32 waiting_32.toNat) place0_32 := lwJ.go (fun m S _ => by rw [lwT_5, if_pos (by omega), hL1]; exact congrArg (fun q9 => Sum.inl (3, m, [1], q9)) (by omega))
      have hDO : open_32 = (lwD (lwL waitsAt_32 waiting_32.toNat) : Int) ∧ open_32 ≤ 6 := by rw [hL1]; exact ⟨by show open_32 = ((1 : Nat) : Int); omega, by omega⟩
      have hLG : lwG waitsAt_32 waiting_32.toNat := h1w.2
      have L40 : ∀ (n : Nat) (place0_40 : Int) (fault_40 : Int) (number0_40 : Int) (open_40 : Int) (codeMany_40 : Int) (waiting_40 : Int) (said_40 : Nat → Int) (waitsAt_40 : Nat → Int), (0 ≤ place0_40 ∧ place0_40 ≤ 260) → ((-1000000) ≤ fault_40 ∧ fault_40 ≤ 1000000) → (0 ≤ number0_40 ∧ number0_40 ≤ 99999) → ((-2147483648) ≤ open_40 ∧ open_40 ≤ 2147483647) → (0 ≤ codeMany_40 ∧ codeMany_40 ≤ 260) → (0 ≤ waiting_40 ∧ waiting_40 ≤ 260) → (RA 0 16777215 said_40) → (RA 0 16777215 waitsAt_40) → (RD v_codeMany said_40 codeMany_40 waitsAt_40 waiting_40 0) → (codeMany_40 + cw 11534336 waitsAt_40 waiting_40.toNat ≤ place0_40) → (waiting_40 ≤ place0_40) → (place0_40 ≤ v_length0) → (v_place0 < place0_40) → (1 ≤ waiting_40) → (Ge 10485760 waitsAt_40 waiting_40) → (13631488 ≤ waitsAt_40 0) → (SB v_codeMany v_said said_40) → (lwJ (sgP v_length0 (oct v_tape)) v_length0 (fun _ _ => True) 5 (fun _ => []) v_place0 3 (fun _ => lwL waitsAt_40 waiting_40.toNat) place0_40) → (open_40 = (lwD (lwL waitsAt_40 waiting_40.toNat) : Int) ∧ open_40 ≤ 6) → (lwG waitsAt_40 waiting_40.toNat) → (v_length0 - place0_40).toNat < n → GG p l e ⟨6, 0, 0, 125⟩ s m args below meth c 0 0 Q D A s.heap 1 (wX10 cI cB cJ h q v_stalls v_claimMany v_taped place0_40 v_length0 fault_40 number0_40 open_40 codeMany_40 waiting_40 v_saidMany v_clauses v_newMany v_newStalls v_lines v_salesNow v_outNow v_isKept v_keptStalls v_now v_aside v_kept v_oneOf v_otherOf v_signOf v_byOf v_tape said_40 waitsAt_40 v_saidLetter v_saidFrom v_saidHalf v_saidTo v_codes v_clauseOf v_codeFrom v_codeHalf v_codeTo v_stack v_facts v_newOne v_newOther v_newSign v_newBy v_moreOf v_firstOf v_toldOf v_mostOf v_mostThen v_sumTo v_rowFrom v_ordersOf v_lessOf v_weightOf v_rowNow v_slowRow v_fastRow v_lineNow v_firstLine v_freeBy v_heldBy v_heightOf v_upTo v_downTo v_oftenOf v_newUpper v_newLower) 40 [(0, .ref h)] [] := by
        intro n
        induction n with
        | zero => intros; exfalso; omega
        | succ n ih40 =>
          intro place0_40 fault_40 number0_40 open_40 codeMany_40 waiting_40 said_40 waitsAt_40 kr_place0_40 kr_fault_40 kr_number0_40 kr_open_40 kr_codeMany_40 kr_waiting_40 r_said_40 r_waitsAt_40 w40_0 w40_1 w40_2 w40_3 w40_4 w40_5 w40_6 w40_7 w40_8 w40_9 w40_10 w40_11 wm40
          have hb40 := cw_bd 11534336 waitsAt_40 waiting_40.toNat
          have hbd := w40_0.bd
          have hHs : (sgP v_length0 (oct v_tape)) place0_40 = hereZ place0_40 v_length0 v_tape := rfl
          refine g_aload_n X dX10_readsCondition_40 0 rfl ?_
          refine g_callVI0 X (c_X10_here l D cI cB cJ h q  (by omega) (by omega) r_v_tape) cv_X10_here uw1405 ⟨rfl, rfl, by decide, by decide⟩ 0 rfl rfl rfl rfl rfl (Nat.le_of_ble_eq_true rfl) ⟨Nat.zero_le _, Nat.zero_le _⟩ dX10_readsCondition_41 (fun t41 ws41 k41 => ?_)
          obtain ⟨kp0_41, kp1_41, kp2_41, rfl⟩ := k41
          refine g_bipush X (z := 33) dX10_readsCondition_44 (by decide) ?_
          refine g_icmp_eq X (tgt := 58) dX10_readsCondition_46 (by decide) (by omega) (by omega) (fun c46 => ?_) (fun c46 => ?_)
          · refine g_aload_n X dX10_readsCondition_58 0 rfl ?_
            refine g_aload_n X dX10_readsCondition_59 0 rfl ?_
            refine g_callVI0 X (c_X10_here l D cI cB cJ h q  (by omega) (by omega) r_v_tape) cv_X10_here uw1405 ⟨rfl, rfl, by decide, by decide⟩ 0 rfl rfl rfl rfl rfl (Nat.le_of_ble_eq_true rfl) ⟨Nat.zero_le _, Nat.zero_le _⟩ dX10_readsCondition_60 (fun t60 ws60 k60 => ?_)
            obtain ⟨kp0_60, kp1_60, kp2_60, rfl⟩ := k60
            refine g_bipush X (z := 33) dX10_readsCondition_63 (by decide) ?_
            refine g_icmp_ne X (tgt := 73) dX10_readsCondition_65 (by decide) (by omega) (by omega) (fun c65 => ?_) (fun c65 => ?_)
            · refine g_bipush X (z := 13) dX10_readsCondition_73 (by decide) ?_
              refine g_callVI0 X (c_X10_opens l D cI cB cJ h q (p0 := 13) (by omega) (by omega) (by omega) (by omega) r_waitsAt_40 (by first | assumption | omega) (by first | assumption | omega) (by first | assumption | omega) (by first | assumption | omega) (by first | assumption | omega)) cv_X10_opens uw1421 ⟨rfl, rfl, by decide, by decide⟩ 0 rfl rfl rfl rfl rfl (Nat.le_of_ble_eq_true rfl) ⟨Nat.zero_le _, Nat.zero_le _⟩ dX10_readsCondition_75 (fun t75 ws75 k75 => ?_)
              obtain ⟨kb_75, ⟨place0_75, fault_75, open_75, waiting_75, waitsAt_75, kr_place0_75, kr_fault_75, kr_open_75, kr_waiting_75, r_waitsAt_75, kp0_75, kp1_75, kp2_75, rfl⟩⟩ := k75
              refine g_if_ne X (tgt := 40) dX10_readsCondition_78 (by decide) (by omega) (fun c78 => ?_) (fun c78 => ?_)
              · replace kb_75 := kb_75.resolve_left (fun h => c78 h)
                replace kp0_75 := kp0_75.resolve_right (fun h => c78 h.1)
                replace kp1_75 := kp1_75 kb_75
                replace kp2_75 := kp2_75.resolve_right (fun h => c78 h.1)
                try (have hR : RD v_codeMany said_40 codeMany_40 waitsAt_75 waiting_75 0 := by rw [kp1_75, kp0_75.2.2]; exact RD.push w40_0 (by omega) (by omega))
                try (have h11 : cw 11534336 waitsAt_75 waiting_75.toNat ≤ cw 11534336 waitsAt_40 waiting_40.toNat + 1 := by rw [kp1_75, kp0_75.2.2]; first | exact Int.le_of_eq (cw_push_lt _ _ (by omega) (by omega)) | (rw [cw_push_ge _ _ (by omega) (by omega)]; omega))
                try (have hG : Ge 10485760 waitsAt_75 waiting_75 := by rw [kp1_75, kp0_75.2.2]; exact Ge.push w40_6 (by omega) (by omega))
                try (have hW : 13631488 ≤ waitsAt_75 0 := by rw [kp1_75, updZ_n _ _ (by omega)]; exact w40_7)
                try (have hJ3 : lwJ (sgP v_length0 (oct v_tape)) v_length0 (fun _ _ => True) 5 (fun _ => []) v_place0 3 (fun _ => lwL waitsAt_75 waiting_75.toNat) place0_75 := by rw [kp0_75.2.2]; first | exact lwJ.no w40_9 (by omega) (by omega) (by omega) (by omega) kp1_75 | exact lwJ.op w40_9 (by omega) (by omega) (by omega) (by omega) kp1_75)
                try (have hDO : open_75 = (lwD (lwL waitsAt_75 waiting_75.toNat) : Int) ∧ open_75 ≤ 6 := by rw [kp1_75, kp0_75.2.2]; first | (rw [lwL_p10 _ (by omega) (by decide), lwD_2]; omega) | (rw [lwL_p13 _ (by omega) (by decide), lwD_1]; omega))
                try (have hLG : lwG waitsAt_75 waiting_75.toNat := by rw [kp1_75, kp0_75.2.2]; exact lwG.push w40_11 (by omega) (by decide) (fun a b => by exfalso; revert a b; decide))
                exact ih40 place0_75 fault_75 number0_40 open_75 codeMany_40 waiting_75 said_40 waitsAt_75 (by omega) (by omega) (by omega) (by omega) (by omega) (by omega) r_said_40 r_waitsAt_75 (by first | assumption | omega) (by first | assumption | omega) (by first | assumption | omega) (by first | assumption | omega) (by first | assumption | omega) (by first | assumption | omega) (by first | assumption | omega) (by first | assumption | omega) (by first | assumption | exact SB.refl _ _ | omega) (by exact hJ3) (by exact hDO) (by exact hLG) (by omega)
              · clear kb_75
                replace kp0_75 := (kp0_75.resolve_left (fun h => absurd h.1 (by omega))).2
                clear kp1_75
                replace kp2_75 := (kp2_75.resolve_left (fun h => absurd h.1 (by omega))).2
                have hV : lwV (sgP v_length0 (oct v_tape)) v_length0 (fun _ _ => True) 5 (fun _ => []) v_place0 fault_75 := lwJ.opx w40_9 (by omega) (by omega) (by omega)
                refine g_iconst X dX10_readsCondition_81 ?_
                exact hQ _ _ _ _ dX10_readsCondition_82 ⟨by omega, ⟨place0_75, fault_75, number0_40, open_75, codeMany_40, waiting_75, said_40, waitsAt_75, (by omega), (by omega), (by omega), (by omega), (by omega), (by omega), r_said_40, r_waitsAt_75, (by intro hr; first | (exfalso; omega) | exact RD.close hR1 (by omega) (by omega)), (by intro hr; first | assumption | (exfalso; omega) | omega), (by first | assumption | omega), (by intro hr; first | assumption | (exfalso; omega) | omega), (by first | assumption | exact SB.refl _ _ | exact SB.trans w40_8 kp6_84 (Int.le_refl _) | exact SB.trans w92_8 kp5_103 (Int.le_refl _)), (by first | assumption | omega), (by intro hr; first | exact hJ | (exfalso; omega)), (by intro hr; first | exact hV | (exfalso; omega)), rfl⟩⟩
            · refine g_bipush X (z := 10) dX10_readsCondition_68 (by decide) ?_
              refine g_goto X (tgt := 75) dX10_readsCondition_70 (by decide) ?_
              refine g_callVI0 X (c_X10_opens l D cI cB cJ h q (p0 := 10) (by omega) (by omega) (by omega) (by omega) r_waitsAt_40 (by first | assumption | omega) (by first | assumption | omega) (by first | assumption | omega) (by first | assumption | omega) (by first | assumption | omega)) cv_X10_opens uw1421 ⟨rfl, rfl, by decide, by decide⟩ 0 rfl rfl rfl rfl rfl (Nat.le_of_ble_eq_true rfl) ⟨Nat.zero_le _, Nat.zero_le _⟩ dX10_readsCondition_75 (fun t75 ws75 k75 => ?_)
              obtain ⟨kb_75, ⟨place0_75, fault_75, open_75, waiting_75, waitsAt_75, kr_place0_75, kr_fault_75, kr_open_75, kr_waiting_75, r_waitsAt_75, kp0_75, kp1_75, kp2_75, rfl⟩⟩ := k75
              refine g_if_ne X (tgt := 40) dX10_readsCondition_78 (by decide) (by omega) (fun c78 => ?_) (fun c78 => ?_)
              · replace kb_75 := kb_75.resolve_left (fun h => c78 h)
                replace kp0_75 := kp0_75.resolve_right (fun h => c78 h.1)
                replace kp1_75 := kp1_75 kb_75
                replace kp2_75 := kp2_75.resolve_right (fun h => c78 h.1)
                try (have hR : RD v_codeMany said_40 codeMany_40 waitsAt_75 waiting_75 0 := by rw [kp1_75, kp0_75.2.2]; exact RD.push w40_0 (by omega) (by omega))
                try (have h11 : cw 11534336 waitsAt_75 waiting_75.toNat ≤ cw 11534336 waitsAt_40 waiting_40.toNat + 1 := by rw [kp1_75, kp0_75.2.2]; first | exact Int.le_of_eq (cw_push_lt _ _ (by omega) (by omega)) | (rw [cw_push_ge _ _ (by omega) (by omega)]; omega))
                try (have hG : Ge 10485760 waitsAt_75 waiting_75 := by rw [kp1_75, kp0_75.2.2]; exact Ge.push w40_6 (by omega) (by omega))
                try (have hW : 13631488 ≤ waitsAt_75 0 := by rw [kp1_75, updZ_n _ _ (by omega)]; exact w40_7)
                try (have hJ3 : lwJ (sgP v_length0 (oct v_tape)) v_length0 (fun _ _ => True) 5 (fun _ => []) v_place0 3 (fun _ => lwL waitsAt_75 waiting_75.toNat) place0_75 := by rw [kp0_75.2.2]; first | exact lwJ.no w40_9 (by omega) (by omega) (by omega) (by omega) kp1_75 | exact lwJ.op w40_9 (by omega) (by omega) (by omega) (by omega) kp1_75)
                try (have hDO : open_75 = (lwD (lwL waitsAt_75 waiting_75.toNat) : Int) ∧ open_75 ≤ 6 := by rw [kp1_75, kp0_75.2.2]; first | (rw [lwL_p10 _ (by omega) (by decide), lwD_2]; omega) | (rw [lwL_p13 _ (by omega) (by decide), lwD_1]; omega))
                try (have hLG : lwG waitsAt_75 waiting_75.toNat := by rw [kp1_75, kp0_75.2.2]; exact lwG.push w40_11 (by omega) (by decide) (fun a b => by exfalso; revert a b; decide))
                exact ih40 place0_75 fault_75 number0_40 open_75 codeMany_40 waiting_75 said_40 waitsAt_75 (by omega) (by omega) (by omega) (by omega) (by omega) (by omega) r_said_40 r_waitsAt_75 (by first | assumption | omega) (by first | assumption | omega) (by first | assumption | omega) (by first | assumption | omega) (by first | assumption | omega) (by first | assumption | omega) (by first | assumption | omega) (by first | assumption | omega) (by first | assumption | exact SB.refl _ _ | omega) (by exact hJ3) (by exact hDO) (by exact hLG) (by omega)
              · clear kb_75
                replace kp0_75 := (kp0_75.resolve_left (fun h => absurd h.1 (by omega))).2
                clear kp1_75
                replace kp2_75 := (kp2_75.resolve_left (fun h => absurd h.1 (by omega))).2
                have hV : lwV (sgP v_length0 (oct v_tape)) v_length0 (fun _ _ => True) 5 (fun _ => []) v_place0 fault_75 := lwJ.opx w40_9 (by omega) (by omega) (by omega)
                refine g_iconst X dX10_readsCondition_81 ?_
                exact hQ _ _ _ _ dX10_readsCondition_82 ⟨by omega, ⟨place0_75, fault_75, number0_40, open_75, codeMany_40, waiting_75, said_40, waitsAt_75, (by omega), (by omega), (by omega), (by omega), (by omega), (by omega), r_said_40, r_waitsAt_75, (by intro hr; first | (exfalso; omega) | exact RD.close hR1 (by omega) (by omega)), (by intro hr; first | assumption | (exfalso; omega) | omega), (by first | assumption | omega), (by intro hr; first | assumption | (exfalso; omega) | omega), (by first | assumption | exact SB.refl _ _ | exact SB.trans w40_8 kp6_84 (Int.le_refl _) | exact SB.trans w92_8 kp5_103 (Int.le_refl _)), (by first | assumption | omega), (by intro hr; first | exact hJ | (exfalso; omega)), (by intro hr; first | exact hV | (exfalso; omega)), rfl⟩⟩
          · refine g_aload_n X dX10_readsCondition_49 0 rfl ?_
            refine g_callVI0 X (c_X10_here l D cI cB cJ h q  (by omega) (by omega) r_v_tape) cv_X10_here uw1405 ⟨rfl, rfl, by decide, by decide⟩ 0 rfl rfl rfl rfl rfl (Nat.le_of_ble_eq_true rfl) ⟨Nat.zero_le _, Nat.zero_le _⟩ dX10_readsCondition_50 (fun t50 ws50 k50 => ?_)
            obtain ⟨kp0_50, kp1_50, kp2_50, rfl⟩ := k50
            refine g_bipush X (z := 40) dX10_readsCondition_53 (by decide) ?_
            refine g_icmp_ne X (tgt := 83) dX10_readsCondition_55 (by decide) (by omega) (by omega) (fun c55 => ?_) (fun c55 => ?_)
            · refine g_aload_n X dX10_readsCondition_83 0 rfl ?_
              refine g_callVI0 X (c_X10_readsCompared l D cI cB cJ h q  (lo := v_codeMany) (by omega) (by omega) (by omega) (by omega) (by omega) (by omega) (by omega) r_v_tape r_said_40 r_waitsAt_40 (by first | assumption | omega) (by first | assumption | omega) (by first | assumption | omega) (by first | assumption | omega) (by first | assumption | omega) (by first | assumption | omega) (by first | assumption | omega) (by first | assumption | omega) (by first | assumption | omega)) cv_X10_readsCompared uw1460 ⟨rfl, rfl, by decide, by decide⟩ 0 rfl rfl rfl rfl rfl (Nat.le_of_ble_eq_true rfl) ⟨Nat.zero_le _, Nat.zero_le _⟩ dX10_readsCondition_84 (fun t84 ws84 k84 => ?_)
              obtain ⟨kb_84, ⟨place0_84, fault_84, number0_84, open_84, codeMany_84, waiting_84, said_84, waitsAt_84, kr_place0_84, kr_fault_84, kr_number0_84, kr_open_84, kr_codeMany_84, kr_waiting_84, r_said_84, r_waitsAt_84, kp0_84, kp1_84, kp2_84, kp3_84, kp4_84, kp5_84, kp6_84, kp7_84, kp8_84, kp9_84, kp10_84, kp11_84, kp12_84, rfl⟩⟩ := k84
              refine g_if_ne X (tgt := 92) dX10_readsCondition_87 (by decide) (by omega) (fun c87 => ?_) (fun c87 => ?_)
              · replace kb_84 := kb_84.resolve_left (fun h => c87 h)
                replace kp0_84 := kp0_84 kb_84
                replace kp1_84 := kp1_84 kb_84
                replace kp3_84 := kp3_84 kb_84
                replace kp4_84 := kp4_84 kb_84
                replace kp5_84 := kp5_84 kb_84
                replace kp7_84 := kp7_84 kb_84
                replace kp9_84 := kp9_84 kb_84
                replace kp10_84 := kp10_84 kb_84
                replace kp12_84 := kp12_84 kb_84
                have hG92 : Ge 10485760 waitsAt_84 waiting_84 := (w40_6.same kp5_84).less kp4_84
                have hw84 : 1 ≤ waiting_84 := by rcases (show waiting_84 ≤ 0 ∨ 1 ≤ waiting_84 by omega) with h | h; (exfalso; have h1 := kp7_84 0 h (by omega); omega); exact h
                have hW92 : 13631488 ≤ waitsAt_84 0 := by rw [kp5_84 0 (by omega)]; exact w40_7
                have hS92 : SB v_codeMany v_said said_84 := SB.trans w40_8 kp6_84 (Int.le_refl _)
                have hJ4 : lwJ (sgP v_length0 (oct v_tape)) v_length0 (fun _ _ => True) 5 (fun _ => []) v_place0 4 (fun _ => lwL waitsAt_84 waiting_84.toNat) place0_84 := w40_9.trans kp9_84
                have hLG : lwG waitsAt_84 waiting_84.toNat := lwG.same w40_11 (fun j hj => kp5_84 j (by omega)) (by omega) (by omega)
                have hHD : ∃ S1, lwL waitsAt_84 waiting_84.toNat = 1 :: S1 := lwG.top hLG hw84 (by have h9 := kp12_84; omega) (by exact hG92 (waiting_84 - 1).toNat (by omega))
                have hDO : open_84 = (lwD (lwL waitsAt_84 waiting_84.toNat) : Int) ∧ open_84 ≤ 6 := kp10_84
                have L92 : ∀ (n : Nat) (place0_92 : Int) (open_92 : Int) (codeMany_92 : Int) (waiting_92 : Int) (said_92 : Nat → Int), (0 ≤ place0_92 ∧ place0_92 ≤ 260) → ((-2147483648) ≤ open_92 ∧ open_92 ≤ 2147483647) → (0 ≤ codeMany_92 ∧ codeMany_92 ≤ 260) → (0 ≤ waiting_92 ∧ waiting_92 ≤ 260) → (RA 0 16777215 said_92) → (RD v_codeMany said_92 codeMany_92 waitsAt_84 waiting_92 1) → (codeMany_92 + cw 11534336 waitsAt_84 waiting_92.toNat ≤ place0_92) → (waiting_92 ≤ place0_92) → (place0_92 ≤ v_length0) → (v_place0 < place0_92) → (1 ≤ waiting_92) → (Ge 10485760 waitsAt_84 waiting_92) → (13631488 ≤ waitsAt_84 0) → (SB v_codeMany v_said said_92) → (place0_40 < place0_92) → (lwJ (sgP v_length0 (oct v_tape)) v_length0 (fun _ _ => True) 5 (fun _ => []) v_place0 4 (fun _ => lwL waitsAt_84 waiting_92.toNat) place0_92) → (open_92 = (lwD (lwL waitsAt_84 waiting_92.toNat) : Int) ∧ open_92 ≤ 6) → (lwG waitsAt_84 waiting_92.toNat) → (∃ S1, lwL waitsAt_84 waiting_92.toNat = 1 :: S1) → (v_length0 - place0_92).toNat < n → GG p l e ⟨6, 0, 0, 125⟩ s m args below meth c 0 0 Q D A s.heap 1 (wX10 cI cB cJ h q v_stalls v_claimMany v_taped place0_92 v_length0 fault_84 number0_84 open_92 codeMany_92 waiting_92 v_saidMany v_clauses v_newMany v_newStalls v_lines v_salesNow v_outNow v_isKept v_keptStalls v_now v_aside v_kept v_oneOf v_otherOf v_signOf v_byOf v_tape said_92 waitsAt_84 v_saidLetter v_saidFrom v_saidHalf v_saidTo v_codes v_clauseOf v_codeFrom v_codeHalf v_codeTo v_stack v_facts v_newOne v_newOther v_newSign v_newBy v_moreOf v_firstOf v_toldOf v_mostOf v_mostThen v_sumTo v_rowFrom v_ordersOf v_lessOf v_weightOf v_rowNow v_slowRow v_fastRow v_lineNow v_firstLine v_freeBy v_heldBy v_heightOf v_upTo v_downTo v_oftenOf v_newUpper v_newLower) 92 [(0, .ref h)] [] := by
                  intro n
                  induction n with
                  | zero => intros; exfalso; omega
                  | succ n ih92 =>
                    intro place0_92 open_92 codeMany_92 waiting_92 said_92 kr_place0_92 kr_open_92 kr_codeMany_92 kr_waiting_92 r_said_92 w92_0 w92_1 w92_2 w92_3 w92_4 w92_5 w92_6 w92_7 w92_8 w92_9 w92_10 w92_11 w92_12 w92_13 wm92
                    have hb92 := cw_bd 11534336 waitsAt_84 waiting_92.toNat
                    have hbd2 := w92_0.bd
                    have hHs : (sgP v_length0 (oct v_tape)) place0_92 = hereZ place0_92 v_length0 v_tape := rfl
                    refine g_aload_n X dX10_readsCondition_92 0 rfl ?_
                    refine g_callVI0 X (c_X10_here l D cI cB cJ h q  (by omega) (by omega) r_v_tape) cv_X10_here uw1405 ⟨rfl, rfl, by decide, by decide⟩ 0 rfl rfl rfl rfl rfl (Nat.le_of_ble_eq_true rfl) ⟨Nat.zero_le _, Nat.zero_le _⟩ dX10_readsCondition_93 (fun t93 ws93 k93 => ?_)
                    obtain ⟨kp0_93, kp1_93, kp2_93, rfl⟩ := k93
                    refine g_bipush X (z := 41) dX10_readsCondition_96 (by decide) ?_
                    refine g_icmp_ne X (tgt := 152) dX10_readsCondition_98 (by decide) (by omega) (by omega) (fun c98 => ?_) (fun c98 => ?_)
                    · refine g_aload_n X dX10_readsCondition_152 0 rfl ?_
                      refine g_callVI0 X (c_X10_here l D cI cB cJ h q  (by omega) (by omega) r_v_tape) cv_X10_here uw1405 ⟨rfl, rfl, by decide, by decide⟩ 0 rfl rfl rfl rfl rfl (Nat.le_of_ble_eq_true rfl) ⟨Nat.zero_le _, Nat.zero_le _⟩ dX10_readsCondition_153 (fun t153 ws153 k153 => ?_)
                      obtain ⟨kp0_153, kp1_153, kp2_153, rfl⟩ := k153
                      refine g_bipush X (z := 38) dX10_readsCondition_156 (by decide) ?_
                      refine g_icmp_eq X (tgt := 180) dX10_readsCondition_158 (by decide) (by omega) (by omega) (fun c158 => ?_) (fun c158 => ?_)
                      · refine g_aload_n X dX10_readsCondition_180 0 rfl ?_
                        refine g_aload_n X dX10_readsCondition_181 0 rfl ?_
                        refine g_callVI0 X (c_X10_here l D cI cB cJ h q  (by omega) (by omega) r_v_tape) cv_X10_here uw1405 ⟨rfl, rfl, by decide, by decide⟩ 0 rfl rfl rfl rfl rfl (Nat.le_of_ble_eq_true rfl) ⟨Nat.zero_le _, Nat.zero_le _⟩ dX10_readsCondition_182 (fun t182 ws182 k182 => ?_)
                        obtain ⟨kp0_182, kp1_182, kp2_182, rfl⟩ := k182
                        refine g_bipush X (z := 124) dX10_readsCondition_185 (by decide) ?_
                        refine g_icmp_ne X (tgt := 194) dX10_readsCondition_187 (by decide) (by omega) (by omega) (fun c187 => ?_) (fun c187 => ?_)
                        · refine g_iconst X dX10_readsCondition_194 ?_
                          refine g_callVV0 X (c_X10_lands l D cI cB cJ h q (p0 := 0) (lo := v_codeMany) (by omega) (by omega) r_said_92 r_waitsAt_84 (by first | assumption | omega) (by first | assumption | omega)) cv_X10_lands uw1468 ⟨rfl, rfl, by decide, by decide⟩ 0 rfl rfl rfl rfl rfl (Nat.le_of_ble_eq_true rfl) ⟨Nat.zero_le _, Nat.zero_le _⟩ dX10_readsCondition_195 (fun ws195 k195 => ?_)
                          obtain ⟨waiting_195, said_195, kr_waiting_195, r_said_195, kp0_195, kp1_195, kp2_195, kp3_195, kp4_195, kp5_195, rfl⟩ := k195
                          have hw5 : 1 ≤ waiting_195 := by rcases (show waiting_195 ≤ 0 ∨ 1 ≤ waiting_195 by omega) with h | h; (exfalso; have h1 := kp3_195 0 h (by omega); omega); exact h
                          have hb195 := cw_bd 11534336 waitsAt_84 waiting_195.toNat
                          obtain ⟨S9, hS9⟩ := w92_13
                          have hsk := lwL_skip (W := waitsAt_84) (a := waiting_195) (b := waiting_92) (by omega) (by omega) kp3_195
                          refine g_aload_n X dX10_readsCondition_198 0 rfl ?_
                          refine g_aload_n X dX10_readsCondition_199 0 rfl ?_
                          refine g_callVI0 X (c_X10_here l D cI cB cJ h q  (by omega) (by omega) r_v_tape) cv_X10_here uw1405 ⟨rfl, rfl, by decide, by decide⟩ 0 rfl rfl rfl rfl rfl (Nat.le_of_ble_eq_true rfl) ⟨Nat.zero_le _, Nat.zero_le _⟩ dX10_readsCondition_200 (fun t200 ws200 k200 => ?_)
                          obtain ⟨kp0_200, kp1_200, kp2_200, rfl⟩ := k200
                          refine g_bipush X (z := 38) dX10_readsCondition_203 (by decide) ?_
                          refine g_icmp_ne X (tgt := 213) dX10_readsCondition_205 (by decide) (by omega) (by omega) (fun c205 => ?_) (fun c205 => ?_)
                          · refine g_bipush X (z := 12) dX10_readsCondition_213 (by decide) ?_
                            refine g_callVV0 X (c_X10_jumps l D cI cB cJ h q (p0 := 12) (by omega) (by omega) (by omega) r_said_195 r_waitsAt_84 (by first | assumption | omega) (by first | assumption | omega) (by first | assumption | omega) (by first | assumption | omega) (by first | assumption | omega)) cv_X10_jumps uw1472 ⟨rfl, rfl, by decide, by decide⟩ 0 rfl rfl rfl rfl rfl (Nat.le_of_ble_eq_true rfl) ⟨Nat.zero_le _, Nat.zero_le _⟩ dX10_readsCondition_215 (fun ws215 k215 => ?_)
                            obtain ⟨place0_215, codeMany_215, waiting_215, said_215, waitsAt_215, kr_place0_215, kr_codeMany_215, kr_waiting_215, r_said_215, r_waitsAt_215, kp0_215, kp1_215, kp2_215, kp3_215, kp4_215, rfl⟩ := k215
                            have hR : RD v_codeMany said_215 codeMany_215 waitsAt_215 waiting_215 0 := by rw [kp3_215, kp4_215, kp0_215, kp1_215]; exact RD.jump kp0_195 (by omega) (by omega) (by omega)
                            have h11 : cw 11534336 waitsAt_215 waiting_215.toNat = cw 11534336 waitsAt_84 waiting_195.toNat := by rw [kp4_215, kp1_215]; exact cw_push_ge _ _ (by omega) (by omega)
                            have hG : Ge 10485760 waitsAt_215 waiting_215 := by rw [kp4_215, kp1_215]; exact Ge.push (w92_6.less (by omega)) (by omega) (by omega)
                            have hW : 13631488 ≤ waitsAt_215 0 := by rw [kp4_215, updZ_n _ _ (by omega)]; exact w92_7
                            have hSB : SB v_codeMany v_said said_215 := by rw [kp3_215]; exact SB.up (SB.trans w92_8 kp5_195 (Int.le_refl _)) (by omega) (by omega)
                            have hJ3 : lwJ (sgP v_length0 (oct v_tape)) v_length0 (fun _ _ => True) 5 (fun _ => []) v_place0 3 (fun _ => lwL waitsAt_215 waiting_215.toNat) place0_215 := by rw [kp1_215, show place0_215 = place0_92 + 1 by omega]; first | exact lwJ.and w92_10 (by omega) hS9 hsk (by omega) rfl (by omega) kp4_215
                            have hDO : open_92 = (lwD (lwL waitsAt_215 waiting_215.toNat) : Int) ∧ open_92 ≤ 6 := by rw [kp4_215, kp1_215, lwL_pno _ (by omega) (by omega), hsk]; exact w92_11
                            have hLG : lwG waitsAt_215 waiting_215.toNat := by rw [kp4_215, kp1_215]; exact lwG.push (lwG.less w92_12 (by omega)) (by omega) (by omega) (fun _ _ => ⟨S9, hsk.trans hS9⟩)
                            refine g_goto X (tgt := 40) dX10_readsCondition_218 (by decide) ?_
                            try (have hR : RD v_codeMany said_215 codeMany_215 waitsAt_215 waiting_215 0 := by rw [kp1_75, kp0_75.2.2]; exact RD.push w40_0 (by omega) (by omega))
                            try (have h11 : cw 11534336 waitsAt_215 waiting_215.toNat ≤ cw 11534336 waitsAt_40 waiting_40.toNat + 1 := by rw [kp1_75, kp0_75.2.2]; first | exact Int.le_of_eq (cw_push_lt _ _ (by omega) (by omega)) | (rw [cw_push_ge _ _ (by omega) (by omega)]; omega))
                            try (have hG : Ge 10485760 waitsAt_215 waiting_215 := by rw [kp1_75, kp0_75.2.2]; exact Ge.push w40_6 (by omega) (by omega))
                            try (have hW : 13631488 ≤ waitsAt_215 0 := by rw [kp1_75, updZ_n _ _ (by omega)]; exact w40_7)
                            try (have hJ3 : lwJ (sgP v_length0 (oct v_tape)) v_length0 (fun _ _ => True) 5 (fun _ => []) v_place0 3 (fun _ => lwL waitsAt_215 waiting_215.toNat) place0_215 := by rw [kp0_75.2.2]; first | exact lwJ.no w40_9 (by omega) (by omega) (by omega) (by omega) kp1_75 | exact lwJ.op w40_9 (by omega) (by omega) (by omega) (by omega) kp1_75)
                            try (have hDO : open_92 = (lwD (lwL waitsAt_215 waiting_215.toNat) : Int) ∧ open_92 ≤ 6 := by rw [kp1_75, kp0_75.2.2]; first | (rw [lwL_p10 _ (by omega) (by decide), lwD_2]; omega) | (rw [lwL_p13 _ (by omega) (by decide), lwD_1]; omega))
                            try (have hLG : lwG waitsAt_215 waiting_215.toNat := by rw [kp1_75, kp0_75.2.2]; exact lwG.push w40_11 (by omega) (by decide) (fun a b => by exfalso; revert a b; decide))
                            exact ih40 place0_215 fault_84 number0_84 open_92 codeMany_215 waiting_215 said_215 waitsAt_215 (by omega) (by omega) (by omega) (by omega) (by omega) (by omega) r_said_215 r_waitsAt_215 (by first | assumption | omega) (by first | assumption | omega) (by first | assumption | omega) (by first | assumption | omega) (by first | assumption | omega) (by first | assumption | omega) (by first | assumption | omega) (by first | assumption | omega) (by first | assumption | exact SB.refl _ _ | omega) (by exact hJ3) (by exact hDO) (by exact hLG) (by omega)
                          · refine g_bipush X (z := 11) dX10_readsCondition_208 (by decide) ?_
                            refine g_goto X (tgt := 215) dX10_readsCondition_210 (by decide) ?_
                            refine g_callVV0 X (c_X10_jumps l D cI cB cJ h q (p0 := 11) (by omega) (by omega) (by omega) r_said_195 r_waitsAt_84 (by first | assumption | omega) (by first | assumption | omega) (by first | assumption | omega) (by first | assumption | omega) (by first | assumption | omega)) cv_X10_jumps uw1472 ⟨rfl, rfl, by decide, by decide⟩ 0 rfl rfl rfl rfl rfl (Nat.le_of_ble_eq_true rfl) ⟨Nat.zero_le _, Nat.zero_le _⟩ dX10_readsCondition_215 (fun ws215 k215 => ?_)
                            obtain ⟨place0_215, codeMany_215, waiting_215, said_215, waitsAt_215, kr_place0_215, kr_codeMany_215, kr_waiting_215, r_said_215, r_waitsAt_215, kp0_215, kp1_215, kp2_215, kp3_215, kp4_215, rfl⟩ := k215
                            have hR : RD v_codeMany said_215 codeMany_215 waitsAt_215 waiting_215 0 := by rw [kp3_215, kp4_215, kp0_215, kp1_215]; exact RD.jump kp0_195 (by omega) (by omega) (by omega)
                            have h11 : cw 11534336 waitsAt_215 waiting_215.toNat = cw 11534336 waitsAt_84 waiting_195.toNat := by rw [kp4_215, kp1_215]; exact cw_push_ge _ _ (by omega) (by omega)
                            have hG : Ge 10485760 waitsAt_215 waiting_215 := by rw [kp4_215, kp1_215]; exact Ge.push (w92_6.less (by omega)) (by omega) (by omega)
                            have hW : 13631488 ≤ waitsAt_215 0 := by rw [kp4_215, updZ_n _ _ (by omega)]; exact w92_7
                            have hSB : SB v_codeMany v_said said_215 := by rw [kp3_215]; exact SB.up (SB.trans w92_8 kp5_195 (Int.le_refl _)) (by omega) (by omega)
                            have hJ3 : lwJ (sgP v_length0 (oct v_tape)) v_length0 (fun _ _ => True) 5 (fun _ => []) v_place0 3 (fun _ => lwL waitsAt_215 waiting_215.toNat) place0_215 := by rw [kp1_215, show place0_215 = place0_92 + 1 by omega]; first | exact lwJ.and w92_10 (by omega) hS9 hsk (by omega) rfl (by omega) kp4_215
                            have hDO : open_92 = (lwD (lwL waitsAt_215 waiting_215.toNat) : Int) ∧ open_92 ≤ 6 := by rw [kp4_215, kp1_215, lwL_pno _ (by omega) (by omega), hsk]; exact w92_11
                            have hLG : lwG waitsAt_215 waiting_215.toNat := by rw [kp4_215, kp1_215]; exact lwG.push (lwG.less w92_12 (by omega)) (by omega) (by omega) (fun _ _ => ⟨S9, hsk.trans hS9⟩)
                            refine g_goto X (tgt := 40) dX10_readsCondition_218 (by decide) ?_
                            try (have hR : RD v_codeMany said_215 codeMany_215 waitsAt_215 waiting_215 0 := by rw [kp1_75, kp0_75.2.2]; exact RD.push w40_0 (by omega) (by omega))
                            try (have h11 : cw 11534336 waitsAt_215 waiting_215.toNat ≤ cw 11534336 waitsAt_40 waiting_40.toNat + 1 := by rw [kp1_75, kp0_75.2.2]; first | exact Int.le_of_eq (cw_push_lt _ _ (by omega) (by omega)) | (rw [cw_push_ge _ _ (by omega) (by omega)]; omega))
                            try (have hG : Ge 10485760 waitsAt_215 waiting_215 := by rw [kp1_75, kp0_75.2.2]; exact Ge.push w40_6 (by omega) (by omega))
                            try (have hW : 13631488 ≤ waitsAt_215 0 := by rw [kp1_75, updZ_n _ _ (by omega)]; exact w40_7)
                            try (have hJ3 : lwJ (sgP v_length0 (oct v_tape)) v_length0 (fun _ _ => True) 5 (fun _ => []) v_place0 3 (fun _ => lwL waitsAt_215 waiting_215.toNat) place0_215 := by rw [kp0_75.2.2]; first | exact lwJ.no w40_9 (by omega) (by omega) (by omega) (by omega) kp1_75 | exact lwJ.op w40_9 (by omega) (by omega) (by omega) (by omega) kp1_75)
                            try (have hDO : open_92 = (lwD (lwL waitsAt_215 waiting_215.toNat) : Int) ∧ open_92 ≤ 6 := by rw [kp1_75, kp0_75.2.2]; first | (rw [lwL_p10 _ (by omega) (by decide), lwD_2]; omega) | (rw [lwL_p13 _ (by omega) (by decide), lwD_1]; omega))
                            try (have hLG : lwG waitsAt_215 waiting_215.toNat := by rw [kp1_75, kp0_75.2.2]; exact lwG.push w40_11 (by omega) (by decide) (fun a b => by exfalso; revert a b; decide))
                            exact ih40 place0_215 fault_84 number0_84 open_92 codeMany_215 waiting_215 said_215 waitsAt_215 (by omega) (by omega) (by omega) (by omega) (by omega) (by omega) r_said_215 r_waitsAt_215 (by first | assumption | omega) (by first | assumption | omega) (by first | assumption | omega) (by first | assumption | omega) (by first | assumption | omega) (by first | assumption | omega) (by first | assumption | omega) (by first | assumption | omega) (by first | assumption | exact SB.refl _ _ | omega) (by exact hJ3) (by exact hDO) (by exact hLG) (by omega)
                        · refine g_iconst X dX10_readsCondition_190 ?_
                          refine g_goto X (tgt := 195) dX10_readsCondition_191 (by decide) ?_
                          refine g_callVV0 X (c_X10_lands l D cI cB cJ h q (p0 := 1) (lo := v_codeMany) (by omega) (by omega) r_said_92 r_waitsAt_84 (by first | assumption | omega) (by first | assumption | omega)) cv_X10_lands uw1468 ⟨rfl, rfl, by decide, by decide⟩ 0 rfl rfl rfl rfl rfl (Nat.le_of_ble_eq_true rfl) ⟨Nat.zero_le _, Nat.zero_le _⟩ dX10_readsCondition_195 (fun ws195 k195 => ?_)
                          obtain ⟨waiting_195, said_195, kr_waiting_195, r_said_195, kp0_195, kp1_195, kp2_195, kp3_195, kp4_195, kp5_195, rfl⟩ := k195
                          have hw5 : 1 ≤ waiting_195 := by rcases (show waiting_195 ≤ 0 ∨ 1 ≤ waiting_195 by omega) with h | h; (exfalso; have h1 := kp3_195 0 h (by omega); omega); exact h
                          have hb195 := cw_bd 11534336 waitsAt_84 waiting_195.toNat
                          obtain ⟨S9, hS9⟩ := w92_13
                          have hsk := lwL_skip (W := waitsAt_84) (a := waiting_195) (b := waiting_92) (by omega) (by omega) kp3_195
                          refine g_aload_n X dX10_readsCondition_198 0 rfl ?_
                          refine g_aload_n X dX10_readsCondition_199 0 rfl ?_
                          refine g_callVI0 X (c_X10_here l D cI cB cJ h q  (by omega) (by omega) r_v_tape) cv_X10_here uw1405 ⟨rfl, rfl, by decide, by decide⟩ 0 rfl rfl rfl rfl rfl (Nat.le_of_ble_eq_true rfl) ⟨Nat.zero_le _, Nat.zero_le _⟩ dX10_readsCondition_200 (fun t200 ws200 k200 => ?_)
                          obtain ⟨kp0_200, kp1_200, kp2_200, rfl⟩ := k200
                          refine g_bipush X (z := 38) dX10_readsCondition_203 (by decide) ?_
                          refine g_icmp_ne X (tgt := 213) dX10_readsCondition_205 (by decide) (by omega) (by omega) (fun c205 => ?_) (fun c205 => ?_)
                          · refine g_bipush X (z := 12) dX10_readsCondition_213 (by decide) ?_
                            refine g_callVV0 X (c_X10_jumps l D cI cB cJ h q (p0 := 12) (by omega) (by omega) (by omega) r_said_195 r_waitsAt_84 (by first | assumption | omega) (by first | assumption | omega) (by first | assumption | omega) (by first | assumption | omega) (by first | assumption | omega)) cv_X10_jumps uw1472 ⟨rfl, rfl, by decide, by decide⟩ 0 rfl rfl rfl rfl rfl (Nat.le_of_ble_eq_true rfl) ⟨Nat.zero_le _, Nat.zero_le _⟩ dX10_readsCondition_215 (fun ws215 k215 => ?_)
                            obtain ⟨place0_215, codeMany_215, waiting_215, said_215, waitsAt_215, kr_place0_215, kr_codeMany_215, kr_waiting_215, r_said_215, r_waitsAt_215, kp0_215, kp1_215, kp2_215, kp3_215, kp4_215, rfl⟩ := k215
                            have hR : RD v_codeMany said_215 codeMany_215 waitsAt_215 waiting_215 0 := by rw [kp3_215, kp4_215, kp0_215, kp1_215]; exact RD.jump kp0_195 (by omega) (by omega) (by omega)
                            have h11 : cw 11534336 waitsAt_215 waiting_215.toNat = cw 11534336 waitsAt_84 waiting_195.toNat := by rw [kp4_215, kp1_215]; exact cw_push_ge _ _ (by omega) (by omega)
                            have hG : Ge 10485760 waitsAt_215 waiting_215 := by rw [kp4_215, kp1_215]; exact Ge.push (w92_6.less (by omega)) (by omega) (by omega)
                            have hW : 13631488 ≤ waitsAt_215 0 := by rw [kp4_215, updZ_n _ _ (by omega)]; exact w92_7
                            have hSB : SB v_codeMany v_said said_215 := by rw [kp3_215]; exact SB.up (SB.trans w92_8 kp5_195 (Int.le_refl _)) (by omega) (by omega)
                            have hJ3 : lwJ (sgP v_length0 (oct v_tape)) v_length0 (fun _ _ => True) 5 (fun _ => []) v_place0 3 (fun _ => lwL waitsAt_215 waiting_215.toNat) place0_215 := by rw [kp1_215, show place0_215 = place0_92 + 1 by omega]; first | exact lwJ.and w92_10 (by omega) hS9 hsk (by omega) rfl (by omega) kp4_215
                            have hDO : open_92 = (lwD (lwL waitsAt_215 waiting_215.toNat) : Int) ∧ open_92 ≤ 6 := by rw [kp4_215, kp1_215, lwL_pno _ (by omega) (by omega), hsk]; exact w92_11
                            have hLG : lwG waitsAt_215 waiting_215.toNat := by rw [kp4_215, kp1_215]; exact lwG.push (lwG.less w92_12 (by omega)) (by omega) (by omega) (fun _ _ => ⟨S9, hsk.trans hS9⟩)
                            refine g_goto X (tgt := 40) dX10_readsCondition_218 (by decide) ?_
                            try (have hR : RD v_codeMany said_215 codeMany_215 waitsAt_215 waiting_215 0 := by rw [kp1_75, kp0_75.2.2]; exact RD.push w40_0 (by omega) (by omega))
                            try (have h11 : cw 11534336 waitsAt_215 waiting_215.toNat ≤ cw 11534336 waitsAt_40 waiting_40.toNat + 1 := by rw [kp1_75, kp0_75.2.2]; first | exact Int.le_of_eq (cw_push_lt _ _ (by omega) (by omega)) | (rw [cw_push_ge _ _ (by omega) (by omega)]; omega))
                            try (have hG : Ge 10485760 waitsAt_215 waiting_215 := by rw [kp1_75, kp0_75.2.2]; exact Ge.push w40_6 (by omega) (by omega))
                            try (have hW : 13631488 ≤ waitsAt_215 0 := by rw [kp1_75, updZ_n _ _ (by omega)]; exact w40_7)
                            try (have hJ3 : lwJ (sgP v_length0 (oct v_tape)) v_length0 (fun _ _ => True) 5 (fun _ => []) v_place0 3 (fun _ => lwL waitsAt_215 waiting_215.toNat) place0_215 := by rw [kp0_75.2.2]; first | exact lwJ.no w40_9 (by omega) (by omega) (by omega) (by omega) kp1_75 | exact lwJ.op w40_9 (by omega) (by omega) (by omega) (by omega) kp1_75)
                            try (have hDO : open_92 = (lwD (lwL waitsAt_215 waiting_215.toNat) : Int) ∧ open_92 ≤ 6 := by rw [kp1_75, kp0_75.2.2]; first | (rw [lwL_p10 _ (by omega) (by decide), lwD_2]; omega) | (rw [lwL_p13 _ (by omega) (by decide), lwD_1]; omega))
                            try (have hLG : lwG waitsAt_215 waiting_215.toNat := by rw [kp1_75, kp0_75.2.2]; exact lwG.push w40_11 (by omega) (by decide) (fun a b => by exfalso; revert a b; decide))
                            exact ih40 place0_215 fault_84 number0_84 open_92 codeMany_215 waiting_215 said_215 waitsAt_215 (by omega) (by omega) (by omega) (by omega) (by omega) (by omega) r_said_215 r_waitsAt_215 (by first | assumption | omega) (by first | assumption | omega) (by first | assumption | omega) (by first | assumption | omega) (by first | assumption | omega) (by first | assumption | omega) (by first | assumption | omega) (by first | assumption | omega) (by first | assumption | exact SB.refl _ _ | omega) (by exact hJ3) (by exact hDO) (by exact hLG) (by omega)
                          · refine g_bipush X (z := 11) dX10_readsCondition_208 (by decide) ?_
                            refine g_goto X (tgt := 215) dX10_readsCondition_210 (by decide) ?_
                            refine g_callVV0 X (c_X10_jumps l D cI cB cJ h q (p0 := 11) (by omega) (by omega) (by omega) r_said_195 r_waitsAt_84 (by first | assumption | omega) (by first | assumption | omega) (by first | assumption | omega) (by first | assumption | omega) (by first | assumption | omega)) cv_X10_jumps uw1472 ⟨rfl, rfl, by decide, by decide⟩ 0 rfl rfl rfl rfl rfl (Nat.le_of_ble_eq_true rfl) ⟨Nat.zero_le _, Nat.zero_le _⟩ dX10_readsCondition_215 (fun ws215 k215 => ?_)
                            obtain ⟨place0_215, codeMany_215, waiting_215, said_215, waitsAt_215, kr_place0_215, kr_codeMany_215, kr_waiting_215, r_said_215, r_waitsAt_215, kp0_215, kp1_215, kp2_215, kp3_215, kp4_215, rfl⟩ := k215
                            have hR : RD v_codeMany said_215 codeMany_215 waitsAt_215 waiting_215 0 := by rw [kp3_215, kp4_215, kp0_215, kp1_215]; exact RD.jump kp0_195 (by omega) (by omega) (by omega)
                            have h11 : cw 11534336 waitsAt_215 waiting_215.toNat = cw 11534336 waitsAt_84 waiting_195.toNat := by rw [kp4_215, kp1_215]; exact cw_push_ge _ _ (by omega) (by omega)
                            have hG : Ge 10485760 waitsAt_215 waiting_215 := by rw [kp4_215, kp1_215]; exact Ge.push (w92_6.less (by omega)) (by omega) (by omega)
                            have hW : 13631488 ≤ waitsAt_215 0 := by rw [kp4_215, updZ_n _ _ (by omega)]; exact w92_7
                            have hSB : SB v_codeMany v_said said_215 := by rw [kp3_215]; exact SB.up (SB.trans w92_8 kp5_195 (Int.le_refl _)) (by omega) (by omega)
                            have hJ3 : lwJ (sgP v_length0 (oct v_tape)) v_length0 (fun _ _ => True) 5 (fun _ => []) v_place0 3 (fun _ => lwL waitsAt_215 waiting_215.toNat) place0_215 := by rw [kp1_215, show place0_215 = place0_92 + 1 by omega]; first | exact lwJ.and w92_10 (by omega) hS9 hsk (by omega) rfl (by omega) kp4_215
                            have hDO : open_92 = (lwD (lwL waitsAt_215 waiting_215.toNat) : Int) ∧ open_92 ≤ 6 := by rw [kp4_215, kp1_215, lwL_pno _ (by omega) (by omega), hsk]; exact w92_11
                            have hLG : lwG waitsAt_215 waiting_215.toNat := by rw [kp4_215, kp1_215]; exact lwG.push (lwG.less w92_12 (by omega)) (by omega) (by omega) (fun _ _ => ⟨S9, hsk.trans hS9⟩)
                            refine g_goto X (tgt := 40) dX10_readsCondition_218 (by decide) ?_
                            try (have hR : RD v_codeMany said_215 codeMany_215 waitsAt_215 waiting_215 0 := by rw [kp1_75, kp0_75.2.2]; exact RD.push w40_0 (by omega) (by omega))
                            try (have h11 : cw 11534336 waitsAt_215 waiting_215.toNat ≤ cw 11534336 waitsAt_40 waiting_40.toNat + 1 := by rw [kp1_75, kp0_75.2.2]; first | exact Int.le_of_eq (cw_push_lt _ _ (by omega) (by omega)) | (rw [cw_push_ge _ _ (by omega) (by omega)]; omega))
                            try (have hG : Ge 10485760 waitsAt_215 waiting_215 := by rw [kp1_75, kp0_75.2.2]; exact Ge.push w40_6 (by omega) (by omega))
                            try (have hW : 13631488 ≤ waitsAt_215 0 := by rw [kp1_75, updZ_n _ _ (by omega)]; exact w40_7)
                            try (have hJ3 : lwJ (sgP v_length0 (oct v_tape)) v_length0 (fun _ _ => True) 5 (fun _ => []) v_place0 3 (fun _ => lwL waitsAt_215 waiting_215.toNat) place0_215 := by rw [kp0_75.2.2]; first | exact lwJ.no w40_9 (by omega) (by omega) (by omega) (by omega) kp1_75 | exact lwJ.op w40_9 (by omega) (by omega) (by omega) (by omega) kp1_75)
                            try (have hDO : open_92 = (lwD (lwL waitsAt_215 waiting_215.toNat) : Int) ∧ open_92 ≤ 6 := by rw [kp1_75, kp0_75.2.2]; first | (rw [lwL_p10 _ (by omega) (by decide), lwD_2]; omega) | (rw [lwL_p13 _ (by omega) (by decide), lwD_1]; omega))
                            try (have hLG : lwG waitsAt_215 waiting_215.toNat := by rw [kp1_75, kp0_75.2.2]; exact lwG.push w40_11 (by omega) (by decide) (fun a b => by exfalso; revert a b; decide))
                            exact ih40 place0_215 fault_84 number0_84 open_92 codeMany_215 waiting_215 said_215 waitsAt_215 (by omega) (by omega) (by omega) (by omega) (by omega) (by omega) r_said_215 r_waitsAt_215 (by first | assumption | omega) (by first | assumption | omega) (by first | assumption | omega) (by first | assumption | omega) (by first | assumption | omega) (by first | assumption | omega) (by first | assumption | omega) (by first | assumption | omega) (by first | assumption | exact SB.refl _ _ | omega) (by exact hJ3) (by exact hDO) (by exact hLG) (by omega)
                      · refine g_aload_n X dX10_readsCondition_161 0 rfl ?_
                        refine g_callVI0 X (c_X10_here l D cI cB cJ h q  (by omega) (by omega) r_v_tape) cv_X10_here uw1405 ⟨rfl, rfl, by decide, by decide⟩ 0 rfl rfl rfl rfl rfl (Nat.le_of_ble_eq_true rfl) ⟨Nat.zero_le _, Nat.zero_le _⟩ dX10_readsCondition_162 (fun t162 ws162 k162 => ?_)
                        obtain ⟨kp0_162, kp1_162, kp2_162, rfl⟩ := k162
                        refine g_bipush X (z := 124) dX10_readsCondition_165 (by decide) ?_
                        refine g_icmp_eq X (tgt := 180) dX10_readsCondition_167 (by decide) (by omega) (by omega) (fun c167 => ?_) (fun c167 => ?_)
                        · refine g_aload_n X dX10_readsCondition_180 0 rfl ?_
                          refine g_aload_n X dX10_readsCondition_181 0 rfl ?_
                          refine g_callVI0 X (c_X10_here l D cI cB cJ h q  (by omega) (by omega) r_v_tape) cv_X10_here uw1405 ⟨rfl, rfl, by decide, by decide⟩ 0 rfl rfl rfl rfl rfl (Nat.le_of_ble_eq_true rfl) ⟨Nat.zero_le _, Nat.zero_le _⟩ dX10_readsCondition_182 (fun t182 ws182 k182 => ?_)
                          obtain ⟨kp0_182, kp1_182, kp2_182, rfl⟩ := k182
                          refine g_bipush X (z := 124) dX10_readsCondition_185 (by decide) ?_
                          refine g_icmp_ne X (tgt := 194) dX10_readsCondition_187 (by decide) (by omega) (by omega) (fun c187 => ?_) (fun c187 => ?_)
                          · refine g_iconst X dX10_readsCondition_194 ?_
                            refine g_callVV0 X (c_X10_lands l D cI cB cJ h q (p0 := 0) (lo := v_codeMany) (by omega) (by omega) r_said_92 r_waitsAt_84 (by first | assumption | omega) (by first | assumption | omega)) cv_X10_lands uw1468 ⟨rfl, rfl, by decide, by decide⟩ 0 rfl rfl rfl rfl rfl (Nat.le_of_ble_eq_true rfl) ⟨Nat.zero_le _, Nat.zero_le _⟩ dX10_readsCondition_195 (fun ws195 k195 => ?_)
                            obtain ⟨waiting_195, said_195, kr_waiting_195, r_said_195, kp0_195, kp1_195, kp2_195, kp3_195, kp4_195, kp5_195, rfl⟩ := k195
                            have hw5 : 1 ≤ waiting_195 := by rcases (show waiting_195 ≤ 0 ∨ 1 ≤ waiting_195 by omega) with h | h; (exfalso; have h1 := kp3_195 0 h (by omega); omega); exact h
                            have hb195 := cw_bd 11534336 waitsAt_84 waiting_195.toNat
                            obtain ⟨S9, hS9⟩ := w92_13
                            have hsk := lwL_skip (W := waitsAt_84) (a := waiting_195) (b := waiting_92) (by omega) (by omega) kp3_195
                            refine g_aload_n X dX10_readsCondition_198 0 rfl ?_
                            refine g_aload_n X dX10_readsCondition_199 0 rfl ?_
                            refine g_callVI0 X (c_X10_here l D cI cB cJ h q  (by omega) (by omega) r_v_tape) cv_X10_here uw1405 ⟨rfl, rfl, by decide, by decide⟩ 0 rfl rfl rfl rfl rfl (Nat.le_of_ble_eq_true rfl) ⟨Nat.zero_le _, Nat.zero_le _⟩ dX10_readsCondition_200 (fun t200 ws200 k200 => ?_)
                            obtain ⟨kp0_200, kp1_200, kp2_200, rfl⟩ := k200
                            refine g_bipush X (z := 38) dX10_readsCondition_203 (by decide) ?_
                            refine g_icmp_ne X (tgt := 213) dX10_readsCondition_205 (by decide) (by omega) (by omega) (fun c205 => ?_) (fun c205 => ?_)
                            · refine g_bipush X (z := 12) dX10_readsCondition_213 (by decide) ?_
                              refine g_callVV0 X (c_X10_jumps l D cI cB cJ h q (p0 := 12) (by omega) (by omega) (by omega) r_said_195 r_waitsAt_84 (by first | assumption | omega) (by first | assumption | omega) (by first | assumption | omega) (by first | assumption | omega) (by first | assumption | omega)) cv_X10_jumps uw1472 ⟨rfl, rfl, by decide, by decide⟩ 0 rfl rfl rfl rfl rfl (Nat.le_of_ble_eq_true rfl) ⟨Nat.zero_le _, Nat.zero_le _⟩ dX10_readsCondition_215 (fun ws215 k215 => ?_)
                              obtain ⟨place0_215, codeMany_215, waiting_215, said_215, waitsAt_215, kr_place0_215, kr_codeMany_215, kr_waiting_215, r_said_215, r_waitsAt_215, kp0_215, kp1_215, kp2_215, kp3_215, kp4_215, rfl⟩ := k215
                              have hR : RD v_codeMany said_215 codeMany_215 waitsAt_215 waiting_215 0 := by rw [kp3_215, kp4_215, kp0_215, kp1_215]; exact RD.jump kp0_195 (by omega) (by omega) (by omega)
                              have h11 : cw 11534336 waitsAt_215 waiting_215.toNat = cw 11534336 waitsAt_84 waiting_195.toNat := by rw [kp4_215, kp1_215]; exact cw_push_ge _ _ (by omega) (by omega)
                              have hG : Ge 10485760 waitsAt_215 waiting_215 := by rw [kp4_215, kp1_215]; exact Ge.push (w92_6.less (by omega)) (by omega) (by omega)
                              have hW : 13631488 ≤ waitsAt_215 0 := by rw [kp4_215, updZ_n _ _ (by omega)]; exact w92_7
                              have hSB : SB v_codeMany v_said said_215 := by rw [kp3_215]; exact SB.up (SB.trans w92_8 kp5_195 (Int.le_refl _)) (by omega) (by omega)
                              have hJ3 : lwJ (sgP v_length0 (oct v_tape)) v_length0 (fun _ _ => True) 5 (fun _ => []) v_place0 3 (fun _ => lwL waitsAt_215 waiting_215.toNat) place0_215 := by rw [kp1_215, show place0_215 = place0_92 + 1 by omega]; first | exact lwJ.and w92_10 (by omega) hS9 hsk (by omega) rfl (by omega) kp4_215
                              have hDO : open_92 = (lwD (lwL waitsAt_215 waiting_215.toNat) : Int) ∧ open_92 ≤ 6 := by rw [kp4_215, kp1_215, lwL_pno _ (by omega) (by omega), hsk]; exact w92_11
                              have hLG : lwG waitsAt_215 waiting_215.toNat := by rw [kp4_215, kp1_215]; exact lwG.push (lwG.less w92_12 (by omega)) (by omega) (by omega) (fun _ _ => ⟨S9, hsk.trans hS9⟩)
                              refine g_goto X (tgt := 40) dX10_readsCondition_218 (by decide) ?_
                              try (have hR : RD v_codeMany said_215 codeMany_215 waitsAt_215 waiting_215 0 := by rw [kp1_75, kp0_75.2.2]; exact RD.push w40_0 (by omega) (by omega))
                              try (have h11 : cw 11534336 waitsAt_215 waiting_215.toNat ≤ cw 11534336 waitsAt_40 waiting_40.toNat + 1 := by rw [kp1_75, kp0_75.2.2]; first | exact Int.le_of_eq (cw_push_lt _ _ (by omega) (by omega)) | (rw [cw_push_ge _ _ (by omega) (by omega)]; omega))
                              try (have hG : Ge 10485760 waitsAt_215 waiting_215 := by rw [kp1_75, kp0_75.2.2]; exact Ge.push w40_6 (by omega) (by omega))
                              try (have hW : 13631488 ≤ waitsAt_215 0 := by rw [kp1_75, updZ_n _ _ (by omega)]; exact w40_7)
                              try (have hJ3 : lwJ (sgP v_length0 (oct v_tape)) v_length0 (fun _ _ => True) 5 (fun _ => []) v_place0 3 (fun _ => lwL waitsAt_215 waiting_215.toNat) place0_215 := by rw [kp0_75.2.2]; first | exact lwJ.no w40_9 (by omega) (by omega) (by omega) (by omega) kp1_75 | exact lwJ.op w40_9 (by omega) (by omega) (by omega) (by omega) kp1_75)
                              try (have hDO : open_92 = (lwD (lwL waitsAt_215 waiting_215.toNat) : Int) ∧ open_92 ≤ 6 := by rw [kp1_75, kp0_75.2.2]; first | (rw [lwL_p10 _ (by omega) (by decide), lwD_2]; omega) | (rw [lwL_p13 _ (by omega) (by decide), lwD_1]; omega))
                              try (have hLG : lwG waitsAt_215 waiting_215.toNat := by rw [kp1_75, kp0_75.2.2]; exact lwG.push w40_11 (by omega) (by decide) (fun a b => by exfalso; revert a b; decide))
                              exact ih40 place0_215 fault_84 number0_84 open_92 codeMany_215 waiting_215 said_215 waitsAt_215 (by omega) (by omega) (by omega) (by omega) (by omega) (by omega) r_said_215 r_waitsAt_215 (by first | assumption | omega) (by first | assumption | omega) (by first | assumption | omega) (by first | assumption | omega) (by first | assumption | omega) (by first | assumption | omega) (by first | assumption | omega) (by first | assumption | omega) (by first | assumption | exact SB.refl _ _ | omega) (by exact hJ3) (by exact hDO) (by exact hLG) (by omega)
                            · refine g_bipush X (z := 11) dX10_readsCondition_208 (by decide) ?_
                              refine g_goto X (tgt := 215) dX10_readsCondition_210 (by decide) ?_
                              refine g_callVV0 X (c_X10_jumps l D cI cB cJ h q (p0 := 11) (by omega) (by omega) (by omega) r_said_195 r_waitsAt_84 (by first | assumption | omega) (by first | assumption | omega) (by first | assumption | omega) (by first | assumption | omega) (by first | assumption | omega)) cv_X10_jumps uw1472 ⟨rfl, rfl, by decide, by decide⟩ 0 rfl rfl rfl rfl rfl (Nat.le_of_ble_eq_true rfl) ⟨Nat.zero_le _, Nat.zero_le _⟩ dX10_readsCondition_215 (fun ws215 k215 => ?_)
                              obtain ⟨place0_215, codeMany_215, waiting_215, said_215, waitsAt_215, kr_place0_215, kr_codeMany_215, kr_waiting_215, r_said_215, r_waitsAt_215, kp0_215, kp1_215, kp2_215, kp3_215, kp4_215, rfl⟩ := k215
                              have hR : RD v_codeMany said_215 codeMany_215 waitsAt_215 waiting_215 0 := by rw [kp3_215, kp4_215, kp0_215, kp1_215]; exact RD.jump kp0_195 (by omega) (by omega) (by omega)
                              have h11 : cw 11534336 waitsAt_215 waiting_215.toNat = cw 11534336 waitsAt_84 waiting_195.toNat := by rw [kp4_215, kp1_215]; exact cw_push_ge _ _ (by omega) (by omega)
                              have hG : Ge 10485760 waitsAt_215 waiting_215 := by rw [kp4_215, kp1_215]; exact Ge.push (w92_6.less (by omega)) (by omega) (by omega)
                              have hW : 13631488 ≤ waitsAt_215 0 := by rw [kp4_215, updZ_n _ _ (by omega)]; exact w92_7
                              have hSB : SB v_codeMany v_said said_215 := by rw [kp3_215]; exact SB.up (SB.trans w92_8 kp5_195 (Int.le_refl _)) (by omega) (by omega)
                              have hJ3 : lwJ (sgP v_length0 (oct v_tape)) v_length0 (fun _ _ => True) 5 (fun _ => []) v_place0 3 (fun _ => lwL waitsAt_215 waiting_215.toNat) place0_215 := by rw [kp1_215, show place0_215 = place0_92 + 1 by omega]; first | exact lwJ.and w92_10 (by omega) hS9 hsk (by omega) rfl (by omega) kp4_215
                              have hDO : open_92 = (lwD (lwL waitsAt_215 waiting_215.toNat) : Int) ∧ open_92 ≤ 6 := by rw [kp4_215, kp1_215, lwL_pno _ (by omega) (by omega), hsk]; exact w92_11
                              have hLG : lwG waitsAt_215 waiting_215.toNat := by rw [kp4_215, kp1_215]; exact lwG.push (lwG.less w92_12 (by omega)) (by omega) (by omega) (fun _ _ => ⟨S9, hsk.trans hS9⟩)
                              refine g_goto X (tgt := 40) dX10_readsCondition_218 (by decide) ?_
                              try (have hR : RD v_codeMany said_215 codeMany_215 waitsAt_215 waiting_215 0 := by rw [kp1_75, kp0_75.2.2]; exact RD.push w40_0 (by omega) (by omega))
                              try (have h11 : cw 11534336 waitsAt_215 waiting_215.toNat ≤ cw 11534336 waitsAt_40 waiting_40.toNat + 1 := by rw [kp1_75, kp0_75.2.2]; first | exact Int.le_of_eq (cw_push_lt _ _ (by omega) (by omega)) | (rw [cw_push_ge _ _ (by omega) (by omega)]; omega))
                              try (have hG : Ge 10485760 waitsAt_215 waiting_215 := by rw [kp1_75, kp0_75.2.2]; exact Ge.push w40_6 (by omega) (by omega))
                              try (have hW : 13631488 ≤ waitsAt_215 0 := by rw [kp1_75, updZ_n _ _ (by omega)]; exact w40_7)
                              try (have hJ3 : lwJ (sgP v_length0 (oct v_tape)) v_length0 (fun _ _ => True) 5 (fun _ => []) v_place0 3 (fun _ => lwL waitsAt_215 waiting_215.toNat) place0_215 := by rw [kp0_75.2.2]; first | exact lwJ.no w40_9 (by omega) (by omega) (by omega) (by omega) kp1_75 | exact lwJ.op w40_9 (by omega) (by omega) (by omega) (by omega) kp1_75)
                              try (have hDO : open_92 = (lwD (lwL waitsAt_215 waiting_215.toNat) : Int) ∧ open_92 ≤ 6 := by rw [kp1_75, kp0_75.2.2]; first | (rw [lwL_p10 _ (by omega) (by decide), lwD_2]; omega) | (rw [lwL_p13 _ (by omega) (by decide), lwD_1]; omega))
                              try (have hLG : lwG waitsAt_215 waiting_215.toNat := by rw [kp1_75, kp0_75.2.2]; exact lwG.push w40_11 (by omega) (by decide) (fun a b => by exfalso; revert a b; decide))
                              exact ih40 place0_215 fault_84 number0_84 open_92 codeMany_215 waiting_215 said_215 waitsAt_215 (by omega) (by omega) (by omega) (by omega) (by omega) (by omega) r_said_215 r_waitsAt_215 (by first | assumption | omega) (by first | assumption | omega) (by first | assumption | omega) (by first | assumption | omega) (by first | assumption | omega) (by first | assumption | omega) (by first | assumption | omega) (by first | assumption | omega) (by first | assumption | exact SB.refl _ _ | omega) (by exact hJ3) (by exact hDO) (by exact hLG) (by omega)
                          · refine g_iconst X dX10_readsCondition_190 ?_
                            refine g_goto X (tgt := 195) dX10_readsCondition_191 (by decide) ?_
                            refine g_callVV0 X (c_X10_lands l D cI cB cJ h q (p0 := 1) (lo := v_codeMany) (by omega) (by omega) r_said_92 r_waitsAt_84 (by first | assumption | omega) (by first | assumption | omega)) cv_X10_lands uw1468 ⟨rfl, rfl, by decide, by decide⟩ 0 rfl rfl rfl rfl rfl (Nat.le_of_ble_eq_true rfl) ⟨Nat.zero_le _, Nat.zero_le _⟩ dX10_readsCondition_195 (fun ws195 k195 => ?_)
                            obtain ⟨waiting_195, said_195, kr_waiting_195, r_said_195, kp0_195, kp1_195, kp2_195, kp3_195, kp4_195, kp5_195, rfl⟩ := k195
                            have hw5 : 1 ≤ waiting_195 := by rcases (show waiting_195 ≤ 0 ∨ 1 ≤ waiting_195 by omega) with h | h; (exfalso; have h1 := kp3_195 0 h (by omega); omega); exact h
                            have hb195 := cw_bd 11534336 waitsAt_84 waiting_195.toNat
                            obtain ⟨S9, hS9⟩ := w92_13
                            have hsk := lwL_skip (W := waitsAt_84) (a := waiting_195) (b := waiting_92) (by omega) (by omega) kp3_195
                            refine g_aload_n X dX10_readsCondition_198 0 rfl ?_
                            refine g_aload_n X dX10_readsCondition_199 0 rfl ?_
                            refine g_callVI0 X (c_X10_here l D cI cB cJ h q  (by omega) (by omega) r_v_tape) cv_X10_here uw1405 ⟨rfl, rfl, by decide, by decide⟩ 0 rfl rfl rfl rfl rfl (Nat.le_of_ble_eq_true rfl) ⟨Nat.zero_le _, Nat.zero_le _⟩ dX10_readsCondition_200 (fun t200 ws200 k200 => ?_)
                            obtain ⟨kp0_200, kp1_200, kp2_200, rfl⟩ := k200
                            refine g_bipush X (z := 38) dX10_readsCondition_203 (by decide) ?_
                            refine g_icmp_ne X (tgt := 213) dX10_readsCondition_205 (by decide) (by omega) (by omega) (fun c205 => ?_) (fun c205 => ?_)
                            · refine g_bipush X (z := 12) dX10_readsCondition_213 (by decide) ?_
                              refine g_callVV0 X (c_X10_jumps l D cI cB cJ h q (p0 := 12) (by omega) (by omega) (by omega) r_said_195 r_waitsAt_84 (by first | assumption | omega) (by first | assumption | omega) (by first | assumption | omega) (by first | assumption | omega) (by first | assumption | omega)) cv_X10_jumps uw1472 ⟨rfl, rfl, by decide, by decide⟩ 0 rfl rfl rfl rfl rfl (Nat.le_of_ble_eq_true rfl) ⟨Nat.zero_le _, Nat.zero_le _⟩ dX10_readsCondition_215 (fun ws215 k215 => ?_)
                              obtain ⟨place0_215, codeMany_215, waiting_215, said_215, waitsAt_215, kr_place0_215, kr_codeMany_215, kr_waiting_215, r_said_215, r_waitsAt_215, kp0_215, kp1_215, kp2_215, kp3_215, kp4_215, rfl⟩ := k215
                              have hR : RD v_codeMany said_215 codeMany_215 waitsAt_215 waiting_215 0 := by rw [kp3_215, kp4_215, kp0_215, kp1_215]; exact RD.jump kp0_195 (by omega) (by omega) (by omega)
                              have h11 : cw 11534336 waitsAt_215 waiting_215.toNat = cw 11534336 waitsAt_84 waiting_195.toNat := by rw [kp4_215, kp1_215]; exact cw_push_ge _ _ (by omega) (by omega)
                              have hG : Ge 10485760 waitsAt_215 waiting_215 := by rw [kp4_215, kp1_215]; exact Ge.push (w92_6.less (by omega)) (by omega) (by omega)
                              have hW : 13631488 ≤ waitsAt_215 0 := by rw [kp4_215, updZ_n _ _ (by omega)]; exact w92_7
                              have hSB : SB v_codeMany v_said said_215 := by rw [kp3_215]; exact SB.up (SB.trans w92_8 kp5_195 (Int.le_refl _)) (by omega) (by omega)
                              have hJ3 : lwJ (sgP v_length0 (oct v_tape)) v_length0 (fun _ _ => True) 5 (fun _ => []) v_place0 3 (fun _ => lwL waitsAt_215 waiting_215.toNat) place0_215 := by rw [kp1_215, show place0_215 = place0_92 + 1 by omega]; first | exact lwJ.and w92_10 (by omega) hS9 hsk (by omega) rfl (by omega) kp4_215
                              have hDO : open_92 = (lwD (lwL waitsAt_215 waiting_215.toNat) : Int) ∧ open_92 ≤ 6 := by rw [kp4_215, kp1_215, lwL_pno _ (by omega) (by omega), hsk]; exact w92_11
                              have hLG : lwG waitsAt_215 waiting_215.toNat := by rw [kp4_215, kp1_215]; exact lwG.push (lwG.less w92_12 (by omega)) (by omega) (by omega) (fun _ _ => ⟨S9, hsk.trans hS9⟩)
                              refine g_goto X (tgt := 40) dX10_readsCondition_218 (by decide) ?_
                              try (have hR : RD v_codeMany said_215 codeMany_215 waitsAt_215 waiting_215 0 := by rw [kp1_75, kp0_75.2.2]; exact RD.push w40_0 (by omega) (by omega))
                              try (have h11 : cw 11534336 waitsAt_215 waiting_215.toNat ≤ cw 11534336 waitsAt_40 waiting_40.toNat + 1 := by rw [kp1_75, kp0_75.2.2]; first | exact Int.le_of_eq (cw_push_lt _ _ (by omega) (by omega)) | (rw [cw_push_ge _ _ (by omega) (by omega)]; omega))
                              try (have hG : Ge 10485760 waitsAt_215 waiting_215 := by rw [kp1_75, kp0_75.2.2]; exact Ge.push w40_6 (by omega) (by omega))
                              try (have hW : 13631488 ≤ waitsAt_215 0 := by rw [kp1_75, updZ_n _ _ (by omega)]; exact w40_7)
                              try (have hJ3 : lwJ (sgP v_length0 (oct v_tape)) v_length0 (fun _ _ => True) 5 (fun _ => []) v_place0 3 (fun _ => lwL waitsAt_215 waiting_215.toNat) place0_215 := by rw [kp0_75.2.2]; first | exact lwJ.no w40_9 (by omega) (by omega) (by omega) (by omega) kp1_75 | exact lwJ.op w40_9 (by omega) (by omega) (by omega) (by omega) kp1_75)
                              try (have hDO : open_92 = (lwD (lwL waitsAt_215 waiting_215.toNat) : Int) ∧ open_92 ≤ 6 := by rw [kp1_75, kp0_75.2.2]; first | (rw [lwL_p10 _ (by omega) (by decide), lwD_2]; omega) | (rw [lwL_p13 _ (by omega) (by decide), lwD_1]; omega))
                              try (have hLG : lwG waitsAt_215 waiting_215.toNat := by rw [kp1_75, kp0_75.2.2]; exact lwG.push w40_11 (by omega) (by decide) (fun a b => by exfalso; revert a b; decide))
                              exact ih40 place0_215 fault_84 number0_84 open_92 codeMany_215 waiting_215 said_215 waitsAt_215 (by omega) (by omega) (by omega) (by omega) (by omega) (by omega) r_said_215 r_waitsAt_215 (by first | assumption | omega) (by first | assumption | omega) (by first | assumption | omega) (by first | assumption | omega) (by first | assumption | omega) (by first | assumption | omega) (by first | assumption | omega) (by first | assumption | omega) (by first | assumption | exact SB.refl _ _ | omega) (by exact hJ3) (by exact hDO) (by exact hLG) (by omega)
                            · refine g_bipush X (z := 11) dX10_readsCondition_208 (by decide) ?_
                              refine g_goto X (tgt := 215) dX10_readsCondition_210 (by decide) ?_
                              refine g_callVV0 X (c_X10_jumps l D cI cB cJ h q (p0 := 11) (by omega) (by omega) (by omega) r_said_195 r_waitsAt_84 (by first | assumption | omega) (by first | assumption | omega) (by first | assumption | omega) (by first | assumption | omega) (by first | assumption | omega)) cv_X10_jumps uw1472 ⟨rfl, rfl, by decide, by decide⟩ 0 rfl rfl rfl rfl rfl (Nat.le_of_ble_eq_true rfl) ⟨Nat.zero_le _, Nat.zero_le _⟩ dX10_readsCondition_215 (fun ws215 k215 => ?_)
                              obtain ⟨place0_215, codeMany_215, waiting_215, said_215, waitsAt_215, kr_place0_215, kr_codeMany_215, kr_waiting_215, r_said_215, r_waitsAt_215, kp0_215, kp1_215, kp2_215, kp3_215, kp4_215, rfl⟩ := k215
                              have hR : RD v_codeMany said_215 codeMany_215 waitsAt_215 waiting_215 0 := by rw [kp3_215, kp4_215, kp0_215, kp1_215]; exact RD.jump kp0_195 (by omega) (by omega) (by omega)
                              have h11 : cw 11534336 waitsAt_215 waiting_215.toNat = cw 11534336 waitsAt_84 waiting_195.toNat := by rw [kp4_215, kp1_215]; exact cw_push_ge _ _ (by omega) (by omega)
                              have hG : Ge 10485760 waitsAt_215 waiting_215 := by rw [kp4_215, kp1_215]; exact Ge.push (w92_6.less (by omega)) (by omega) (by omega)
                              have hW : 13631488 ≤ waitsAt_215 0 := by rw [kp4_215, updZ_n _ _ (by omega)]; exact w92_7
                              have hSB : SB v_codeMany v_said said_215 := by rw [kp3_215]; exact SB.up (SB.trans w92_8 kp5_195 (Int.le_refl _)) (by omega) (by omega)
                              have hJ3 : lwJ (sgP v_length0 (oct v_tape)) v_length0 (fun _ _ => True) 5 (fun _ => []) v_place0 3 (fun _ => lwL waitsAt_215 waiting_215.toNat) place0_215 := by rw [kp1_215, show place0_215 = place0_92 + 1 by omega]; first | exact lwJ.and w92_10 (by omega) hS9 hsk (by omega) rfl (by omega) kp4_215
                              have hDO : open_92 = (lwD (lwL waitsAt_215 waiting_215.toNat) : Int) ∧ open_92 ≤ 6 := by rw [kp4_215, kp1_215, lwL_pno _ (by omega) (by omega), hsk]; exact w92_11
                              have hLG : lwG waitsAt_215 waiting_215.toNat := by rw [kp4_215, kp1_215]; exact lwG.push (lwG.less w92_12 (by omega)) (by omega) (by omega) (fun _ _ => ⟨S9, hsk.trans hS9⟩)
                              refine g_goto X (tgt := 40) dX10_readsCondition_218 (by decide) ?_
                              try (have hR : RD v_codeMany said_215 codeMany_215 waitsAt_215 waiting_215 0 := by rw [kp1_75, kp0_75.2.2]; exact RD.push w40_0 (by omega) (by omega))
                              try (have h11 : cw 11534336 waitsAt_215 waiting_215.toNat ≤ cw 11534336 waitsAt_40 waiting_40.toNat + 1 := by rw [kp1_75, kp0_75.2.2]; first | exact Int.le_of_eq (cw_push_lt _ _ (by omega) (by omega)) | (rw [cw_push_ge _ _ (by omega) (by omega)]; omega))
                              try (have hG : Ge 10485760 waitsAt_215 waiting_215 := by rw [kp1_75, kp0_75.2.2]; exact Ge.push w40_6 (by omega) (by omega))
                              try (have hW : 13631488 ≤ waitsAt_215 0 := by rw [kp1_75, updZ_n _ _ (by omega)]; exact w40_7)
                              try (have hJ3 : lwJ (sgP v_length0 (oct v_tape)) v_length0 (fun _ _ => True) 5 (fun _ => []) v_place0 3 (fun _ => lwL waitsAt_215 waiting_215.toNat) place0_215 := by rw [kp0_75.2.2]; first | exact lwJ.no w40_9 (by omega) (by omega) (by omega) (by omega) kp1_75 | exact lwJ.op w40_9 (by omega) (by omega) (by omega) (by omega) kp1_75)
                              try (have hDO : open_92 = (lwD (lwL waitsAt_215 waiting_215.toNat) : Int) ∧ open_92 ≤ 6 := by rw [kp1_75, kp0_75.2.2]; first | (rw [lwL_p10 _ (by omega) (by decide), lwD_2]; omega) | (rw [lwL_p13 _ (by omega) (by decide), lwD_1]; omega))
                              try (have hLG : lwG waitsAt_215 waiting_215.toNat := by rw [kp1_75, kp0_75.2.2]; exact lwG.push w40_11 (by omega) (by decide) (fun a b => by exfalso; revert a b; decide))
                              exact ih40 place0_215 fault_84 number0_84 open_92 codeMany_215 waiting_215 said_215 waitsAt_215 (by omega) (by omega) (by omega) (by omega) (by omega) (by omega) r_said_215 r_waitsAt_215 (by first | assumption | omega) (by first | assumption | omega) (by first | assumption | omega) (by first | assumption | omega) (by first | assumption | omega) (by first | assumption | omega) (by first | assumption | omega) (by first | assumption | omega) (by first | assumption | exact SB.refl _ _ | omega) (by exact hJ3) (by exact hDO) (by exact hLG) (by omega)
                        · refine g_aload_n X dX10_readsCondition_170 0 rfl ?_
                          refine g_iconst X dX10_readsCondition_171 ?_
                          refine g_aload_n X dX10_readsCondition_172 0 rfl ?_
                          refine gM_get X 0 rfl 11 (by decide) uw1190 rfl dX10_readsCondition_173 ?_
                          refine g_callVI0 X (c_X10_wrongAt l D cI cB cJ h q (p0 := 1) (p1 := place0_92) (by omega) (by first | assumption | omega) (by first | assumption | omega) (by first | assumption | omega) (by first | assumption | omega)) cv_X10_wrongAt uw1409 ⟨rfl, rfl, by decide, by decide⟩ 0 rfl rfl rfl rfl rfl (Nat.le_of_ble_eq_true rfl) ⟨Nat.zero_le _, Nat.zero_le _⟩ dX10_readsCondition_176 (fun t176 ws176 k176 => ?_)
                          obtain ⟨kb_176, ⟨fault_176, kr_fault_176, kp0_176, kp1_176, rfl⟩⟩ := k176
                          obtain ⟨S9, hS9⟩ := w92_13
                          have hV : lwV (sgP v_length0 (oct v_tape)) v_length0 (fun _ _ => True) 5 (fun _ => []) v_place0 fault_176 := lwJ.andx w92_10 (by omega) (by omega) (by omega) hS9 (by omega)
                          exact hQ _ _ _ _ dX10_readsCondition_179 ⟨by omega, ⟨place0_92, fault_176, number0_84, open_92, codeMany_92, waiting_92, said_92, waitsAt_84, (by omega), (by omega), (by omega), (by omega), (by omega), (by omega), r_said_92, r_waitsAt_84, (by intro hr; first | (exfalso; omega) | exact RD.close hR1 (by omega) (by omega)), (by intro hr; first | assumption | (exfalso; omega) | omega), (by first | assumption | omega), (by intro hr; first | assumption | (exfalso; omega) | omega), (by first | assumption | exact SB.refl _ _ | exact SB.trans w40_8 kp6_84 (Int.le_refl _) | exact SB.trans w92_8 kp5_103 (Int.le_refl _)), (by first | assumption | omega), (by intro hr; first | exact hJ | (exfalso; omega)), (by intro hr; first | exact hV | (exfalso; omega)), rfl⟩⟩
                    · refine g_aload_n X dX10_readsCondition_101 0 rfl ?_
                      refine g_iconst X dX10_readsCondition_102 ?_
                      refine g_callVV0 X (c_X10_lands l D cI cB cJ h q (p0 := 1) (lo := v_codeMany) (by omega) (by omega) r_said_92 r_waitsAt_84 (by first | assumption | omega) (by first | assumption | omega)) cv_X10_lands uw1468 ⟨rfl, rfl, by decide, by decide⟩ 0 rfl rfl rfl rfl rfl (Nat.le_of_ble_eq_true rfl) ⟨Nat.zero_le _, Nat.zero_le _⟩ dX10_readsCondition_103 (fun ws103 k103 => ?_)
                      obtain ⟨waiting_103, said_103, kr_waiting_103, r_said_103, kp0_103, kp1_103, kp2_103, kp3_103, kp4_103, kp5_103, rfl⟩ := k103
                      have hw3 : 1 ≤ waiting_103 := by rcases (show waiting_103 ≤ 0 ∨ 1 ≤ waiting_103 by omega) with h | h; (exfalso; have h1 := kp3_103 0 h (by omega); omega); exact h
                      have hR1 : RD v_codeMany said_103 codeMany_92 waitsAt_84 (waiting_103 - 1) 1 := RD.pop kp0_103 hw3 (by omega)
                      have h11a := cw_pop_le 11534336 waitsAt_84 (w := waiting_103) hw3
                      have hb103 := cw_bd 11534336 waitsAt_84 (waiting_103 - 1).toNat
                      obtain ⟨S9, hS9⟩ := w92_13
                      have hsk := lwL_skip (W := waitsAt_84) (a := waiting_103) (b := waiting_92) (by omega) (by omega) kp3_103
                      have hLGc : lwG waitsAt_84 waiting_103.toNat := lwG.less w92_12 (by omega)
                      have hat := lwG.at hLGc hw3 (by exact w92_6 (waiting_103 - 1).toNat (by omega)) (by have h9 := kp4_103 rfl; omega) (hsk.trans hS9)
                      have hL9 : lwL waitsAt_84 waiting_92.toNat = 1 :: lwL waitsAt_84 (waiting_103 - 1).toNat := by rw [hS9, hat.2]
                      have hD9 := congrArg lwD hL9
                      rw [lwD_1] at hD9
                      have hLGb : lwG waitsAt_84 (waiting_103 - 1).toNat := lwG.less hLGc (by omega)
                      refine g_aload_n X dX10_readsCondition_106 0 rfl ?_
                      refine g_aload_n X dX10_readsCondition_107 0 rfl ?_
                      refine gM_get X 0 rfl 17 (by decide) uw1196 rfl dX10_readsCondition_108 ?_
                      refine g_iconst X dX10_readsCondition_111 ?_
                      refine g_isub X dX10_readsCondition_112 ?_
                      refine gM_put X 0 rfl 17 (by decide) uw1196 rfl rfl rfl (Nat.le_of_ble_eq_true rfl) dX10_readsCondition_113 (ws2 := (wX10 cI cB cJ h q v_stalls v_claimMany v_taped place0_92 v_length0 fault_84 number0_84 open_92 codeMany_92 (waiting_103 - 1) v_saidMany v_clauses v_newMany v_newStalls v_lines v_salesNow v_outNow v_isKept v_keptStalls v_now v_aside v_kept v_oneOf v_otherOf v_signOf v_byOf v_tape said_103 waitsAt_84 v_saidLetter v_saidFrom v_saidHalf v_saidTo v_codes v_clauseOf v_codeFrom v_codeHalf v_codeTo v_stack v_facts v_newOne v_newOther v_newSign v_newBy v_moreOf v_firstOf v_toldOf v_mostOf v_mostThen v_sumTo v_rowFrom v_ordersOf v_lessOf v_weightOf v_rowNow v_slowRow v_fastRow v_lineNow v_firstLine v_freeBy v_heldBy v_heightOf v_upTo v_downTo v_oftenOf v_newUpper v_newLower)) rfl ?_
                      refine g_aload_n X dX10_readsCondition_116 0 rfl ?_
                      refine g_aload_n X dX10_readsCondition_117 0 rfl ?_
                      refine gM_get X 0 rfl 15 (by decide) uw1194 rfl dX10_readsCondition_118 ?_
                      refine g_iconst X dX10_readsCondition_121 ?_
                      refine g_isub X dX10_readsCondition_122 ?_
                      refine gM_put X 0 rfl 15 (by decide) uw1194 rfl rfl rfl (Nat.le_of_ble_eq_true rfl) dX10_readsCondition_123 (ws2 := (wX10 cI cB cJ h q v_stalls v_claimMany v_taped place0_92 v_length0 fault_84 number0_84 (open_92 - 1) codeMany_92 (waiting_103 - 1) v_saidMany v_clauses v_newMany v_newStalls v_lines v_salesNow v_outNow v_isKept v_keptStalls v_now v_aside v_kept v_oneOf v_otherOf v_signOf v_byOf v_tape said_103 waitsAt_84 v_saidLetter v_saidFrom v_saidHalf v_saidTo v_codes v_clauseOf v_codeFrom v_codeHalf v_codeTo v_stack v_facts v_newOne v_newOther v_newSign v_newBy v_moreOf v_firstOf v_toldOf v_mostOf v_mostThen v_sumTo v_rowFrom v_ordersOf v_lessOf v_weightOf v_rowNow v_slowRow v_fastRow v_lineNow v_firstLine v_freeBy v_heldBy v_heightOf v_upTo v_downTo v_oftenOf v_newUpper v_newLower)) rfl ?_
                      refine g_aload_n X dX10_readsCondition_126 0 rfl ?_
                      refine g_aload_n X dX10_readsCondition_127 0 rfl ?_
                      refine gM_get X 0 rfl 11 (by decide) uw1190 rfl dX10_readsCondition_128 ?_
                      refine g_iconst X dX10_readsCondition_131 ?_
                      refine g_iadd X dX10_readsCondition_132 ?_
                      refine gM_put X 0 rfl 11 (by decide) uw1190 rfl rfl rfl (Nat.le_of_ble_eq_true rfl) dX10_readsCondition_133 (ws2 := (wX10 cI cB cJ h q v_stalls v_claimMany v_taped (place0_92 + 1) v_length0 fault_84 number0_84 (open_92 - 1) codeMany_92 (waiting_103 - 1) v_saidMany v_clauses v_newMany v_newStalls v_lines v_salesNow v_outNow v_isKept v_keptStalls v_now v_aside v_kept v_oneOf v_otherOf v_signOf v_byOf v_tape said_103 waitsAt_84 v_saidLetter v_saidFrom v_saidHalf v_saidTo v_codes v_clauseOf v_codeFrom v_codeHalf v_codeTo v_stack v_facts v_newOne v_newOther v_newSign v_newBy v_moreOf v_firstOf v_toldOf v_mostOf v_mostThen v_sumTo v_rowFrom v_ordersOf v_lessOf v_weightOf v_rowNow v_slowRow v_fastRow v_lineNow v_firstLine v_freeBy v_heldBy v_heightOf v_upTo v_downTo v_oftenOf v_newUpper v_newLower)) rfl ?_
                      refine g_aload_n X dX10_readsCondition_136 0 rfl ?_
                      refine gM_get X 0 rfl 17 (by decide) uw1196 rfl dX10_readsCondition_137 ?_
                      refine g_if_ne X (tgt := 145) dX10_readsCondition_140 (by decide) (by omega) (fun c140 => ?_) (fun c140 => ?_)
                      · have hJb : lwJ (sgP v_length0 (oct v_tape)) v_length0 (fun _ _ => True) 5 (fun _ => []) v_place0 4 (fun _ => lwL waitsAt_84 (waiting_103 - 1).toNat) (place0_92 + 1) := lwJ.cl w92_10 (by omega) hL9 w92_12.1 (by omega) rfl
                        refine g_aload_n X dX10_readsCondition_145 0 rfl ?_
                        refine g_callVV0 X (c_X10_endsPiece l D cI cB cJ h q  (lo := v_codeMany) (by omega) (by omega) (by omega) r_said_103 r_waitsAt_84 (by first | assumption | omega) (by first | assumption | omega) (by first | assumption | omega) (by first | assumption | omega) (by first | assumption | omega)) cv_X10_endsPiece uw1464 ⟨rfl, rfl, by decide, by decide⟩ 0 rfl rfl rfl rfl rfl (Nat.le_of_ble_eq_true rfl) ⟨Nat.zero_le _, Nat.zero_le _⟩ dX10_readsCondition_146 (fun ws146 k146 => ?_)
                        obtain ⟨open_146, codeMany_146, waiting_146, said_146, kr_open_146, kr_codeMany_146, kr_waiting_146, r_said_146, kp0_146, kp1_146, kp2_146, kp3_146, kp4_146, kp5_146, kp6_146, kp7_146, kp8_146, rfl⟩ := k146
                        refine g_goto X (tgt := 92) dX10_readsCondition_149 (by decide) ?_
                        have hR : RD v_codeMany said_146 codeMany_146 waitsAt_84 waiting_146 1 := kp0_146
                        have hG : Ge 10485760 waitsAt_84 waiting_146 := w92_6.less (by omega)
                        have hW1 : 1 ≤ waiting_146 := by rcases (show waiting_146 ≤ 0 ∨ 1 ≤ waiting_146 by omega) with h | h; (exfalso; have h1 := kp3_146 0 h (by omega); omega); exact h
                        have hSB : SB v_codeMany v_said said_146 := SB.trans (SB.trans w92_8 kp5_103 (Int.le_refl _)) kp4_146 (Int.le_refl _)
                        have hJ4 : lwJ (sgP v_length0 (oct v_tape)) v_length0 (fun _ _ => True) 5 (fun _ => []) v_place0 4 (fun _ => lwL waitsAt_84 waiting_146.toNat) (place0_92 + 1) := hJb.trans kp5_146
                        have hLG : lwG waitsAt_84 waiting_146.toNat := lwG.less hLGb (by omega)
                        have hHD : ∃ S1, lwL waitsAt_84 waiting_146.toNat = 1 :: S1 := lwG.top hLG hW1 (by have h9 := kp8_146; omega) (by exact hG (waiting_146 - 1).toNat (by omega))
                        have hDO : open_146 = (lwD (lwL waitsAt_84 waiting_146.toNat) : Int) ∧ open_146 ≤ 6 := ⟨kp6_146, kp7_146⟩
                        exact ih92 (place0_92 + 1) open_146 codeMany_146 waiting_146 said_146 (by omega) (by omega) (by omega) (by omega) r_said_146 (by first | assumption | omega) (by first | assumption | omega) (by first | assumption | omega) (by first | assumption | omega) (by first | assumption | omega) (by first | assumption | omega) (by first | assumption | omega) (by first | assumption | omega) (by first | assumption | omega) (by first | assumption | omega) (by exact hJ4) (by exact hDO) (by exact hLG) (by exact hHD) (by omega)
                      · have hJ : lwJ (sgP v_length0 (oct v_tape)) v_length0 (fun _ _ => True) 5 (fun _ => []) v_place0 6 (fun _ => []) (place0_92 + 1) := lwJ.end w92_10 (by omega) (by have h9 : lwL waitsAt_84 0 = [] := rfl; rw [hL9, show (waiting_103 - 1).toNat = 0 by omega, h9]) rfl
                        refine g_iconst X dX10_readsCondition_143 ?_
                        exact hQ _ _ _ _ dX10_readsCondition_144 ⟨by omega, ⟨place0_92 + 1, fault_84, number0_84, open_92 - 1, codeMany_92, waiting_103 - 1, said_103, waitsAt_84, (by omega), (by omega), (by omega), (by omega), (by omega), (by omega), r_said_103, r_waitsAt_84, (by intro hr; first | (exfalso; omega) | exact RD.close hR1 (by omega) (by omega)), (by intro hr; first | assumption | (exfalso; omega) | omega), (by first | assumption | omega), (by intro hr; first | assumption | (exfalso; omega) | omega), (by first | assumption | exact SB.refl _ _ | exact SB.trans w40_8 kp6_84 (Int.le_refl _) | exact SB.trans w92_8 kp5_103 (Int.le_refl _)), (by first | assumption | omega), (by intro hr; first | exact hJ | (exfalso; omega)), (by intro hr; first | exact hV | (exfalso; omega)), rfl⟩⟩
                exact L92 _ place0_84 open_84 codeMany_84 waiting_84 said_84 (by omega) (by omega) (by omega) (by omega) r_said_84 (by first | assumption | omega) (by first | assumption | omega) (by first | assumption | omega) (by first | assumption | omega) (by first | assumption | omega) (by first | assumption | omega) (by first | assumption | omega) (by first | assumption | omega) (by first | assumption | omega) (by first | assumption | omega) (by exact hJ4) (by exact hDO) (by exact hLG) (by exact hHD) (Nat.lt_succ_self _)
              · clear kb_84
                clear kp0_84
                clear kp1_84
                clear kp3_84
                clear kp4_84
                clear kp5_84
                clear kp7_84
                clear kp9_84
                clear kp10_84
                clear kp12_84
                have hV : lwV (sgP v_length0 (oct v_tape)) v_length0 (fun _ _ => True) 5 (fun _ => []) v_place0 fault_84 := w40_9.v (kp11_84 (by omega))
                refine g_iconst X dX10_readsCondition_90 ?_
                exact hQ _ _ _ _ dX10_readsCondition_91 ⟨by omega, ⟨place0_84, fault_84, number0_84, open_84, codeMany_84, waiting_84, said_84, waitsAt_84, (by omega), (by omega), (by omega), (by omega), (by omega), (by omega), r_said_84, r_waitsAt_84, (by intro hr; first | (exfalso; omega) | exact RD.close hR1 (by omega) (by omega)), (by intro hr; first | assumption | (exfalso; omega) | omega), (by first | assumption | omega), (by intro hr; first | assumption | (exfalso; omega) | omega), (by first | assumption | exact SB.refl _ _ | exact SB.trans w40_8 kp6_84 (Int.le_refl _) | exact SB.trans w92_8 kp5_103 (Int.le_refl _)), (by first | assumption | omega), (by intro hr; first | exact hJ | (exfalso; omega)), (by intro hr; first | exact hV | (exfalso; omega)), rfl⟩⟩
            · refine g_aload_n X dX10_readsCondition_58 0 rfl ?_
              refine g_aload_n X dX10_readsCondition_59 0 rfl ?_
              refine g_callVI0 X (c_X10_here l D cI cB cJ h q  (by omega) (by omega) r_v_tape) cv_X10_here uw1405 ⟨rfl, rfl, by decide, by decide⟩ 0 rfl rfl rfl rfl rfl (Nat.le_of_ble_eq_true rfl) ⟨Nat.zero_le _, Nat.zero_le _⟩ dX10_readsCondition_60 (fun t60 ws60 k60 => ?_)
              obtain ⟨kp0_60, kp1_60, kp2_60, rfl⟩ := k60
              refine g_bipush X (z := 33) dX10_readsCondition_63 (by decide) ?_
              refine g_icmp_ne X (tgt := 73) dX10_readsCondition_65 (by decide) (by omega) (by omega) (fun c65 => ?_) (fun c65 => ?_)
              · refine g_bipush X (z := 13) dX10_readsCondition_73 (by decide) ?_
                refine g_callVI0 X (c_X10_opens l D cI cB cJ h q (p0 := 13) (by omega) (by omega) (by omega) (by omega) r_waitsAt_40 (by first | assumption | omega) (by first | assumption | omega) (by first | assumption | omega) (by first | assumption | omega) (by first | assumption | omega)) cv_X10_opens uw1421 ⟨rfl, rfl, by decide, by decide⟩ 0 rfl rfl rfl rfl rfl (Nat.le_of_ble_eq_true rfl) ⟨Nat.zero_le _, Nat.zero_le _⟩ dX10_readsCondition_75 (fun t75 ws75 k75 => ?_)
                obtain ⟨kb_75, ⟨place0_75, fault_75, open_75, waiting_75, waitsAt_75, kr_place0_75, kr_fault_75, kr_open_75, kr_waiting_75, r_waitsAt_75, kp0_75, kp1_75, kp2_75, rfl⟩⟩ := k75
                refine g_if_ne X (tgt := 40) dX10_readsCondition_78 (by decide) (by omega) (fun c78 => ?_) (fun c78 => ?_)
                · replace kb_75 := kb_75.resolve_left (fun h => c78 h)
                  replace kp0_75 := kp0_75.resolve_right (fun h => c78 h.1)
                  replace kp1_75 := kp1_75 kb_75
                  replace kp2_75 := kp2_75.resolve_right (fun h => c78 h.1)
                  try (have hR : RD v_codeMany said_40 codeMany_40 waitsAt_75 waiting_75 0 := by rw [kp1_75, kp0_75.2.2]; exact RD.push w40_0 (by omega) (by omega))
                  try (have h11 : cw 11534336 waitsAt_75 waiting_75.toNat ≤ cw 11534336 waitsAt_40 waiting_40.toNat + 1 := by rw [kp1_75, kp0_75.2.2]; first | exact Int.le_of_eq (cw_push_lt _ _ (by omega) (by omega)) | (rw [cw_push_ge _ _ (by omega) (by omega)]; omega))
                  try (have hG : Ge 10485760 waitsAt_75 waiting_75 := by rw [kp1_75, kp0_75.2.2]; exact Ge.push w40_6 (by omega) (by omega))
                  try (have hW : 13631488 ≤ waitsAt_75 0 := by rw [kp1_75, updZ_n _ _ (by omega)]; exact w40_7)
                  try (have hJ3 : lwJ (sgP v_length0 (oct v_tape)) v_length0 (fun _ _ => True) 5 (fun _ => []) v_place0 3 (fun _ => lwL waitsAt_75 waiting_75.toNat) place0_75 := by rw [kp0_75.2.2]; first | exact lwJ.no w40_9 (by omega) (by omega) (by omega) (by omega) kp1_75 | exact lwJ.op w40_9 (by omega) (by omega) (by omega) (by omega) kp1_75)
                  try (have hDO : open_75 = (lwD (lwL waitsAt_75 waiting_75.toNat) : Int) ∧ open_75 ≤ 6 := by rw [kp1_75, kp0_75.2.2]; first | (rw [lwL_p10 _ (by omega) (by decide), lwD_2]; omega) | (rw [lwL_p13 _ (by omega) (by decide), lwD_1]; omega))
                  try (have hLG : lwG waitsAt_75 waiting_75.toNat := by rw [kp1_75, kp0_75.2.2]; exact lwG.push w40_11 (by omega) (by decide) (fun a b => by exfalso; revert a b; decide))
                  exact ih40 place0_75 fault_75 number0_40 open_75 codeMany_40 waiting_75 said_40 waitsAt_75 (by omega) (by omega) (by omega) (by omega) (by omega) (by omega) r_said_40 r_waitsAt_75 (by first | assumption | omega) (by first | assumption | omega) (by first | assumption | omega) (by first | assumption | omega) (by first | assumption | omega) (by first | assumption | omega) (by first | assumption | omega) (by first | assumption | omega) (by first | assumption | exact SB.refl _ _ | omega) (by exact hJ3) (by exact hDO) (by exact hLG) (by omega)
                · clear kb_75
                  replace kp0_75 := (kp0_75.resolve_left (fun h => absurd h.1 (by omega))).2
                  clear kp1_75
                  replace kp2_75 := (kp2_75.resolve_left (fun h => absurd h.1 (by omega))).2
                  have hV : lwV (sgP v_length0 (oct v_tape)) v_length0 (fun _ _ => True) 5 (fun _ => []) v_place0 fault_75 := lwJ.opx w40_9 (by omega) (by omega) (by omega)
                  refine g_iconst X dX10_readsCondition_81 ?_
                  exact hQ _ _ _ _ dX10_readsCondition_82 ⟨by omega, ⟨place0_75, fault_75, number0_40, open_75, codeMany_40, waiting_75, said_40, waitsAt_75, (by omega), (by omega), (by omega), (by omega), (by omega), (by omega), r_said_40, r_waitsAt_75, (by intro hr; first | (exfalso; omega) | exact RD.close hR1 (by omega) (by omega)), (by intro hr; first | assumption | (exfalso; omega) | omega), (by first | assumption | omega), (by intro hr; first | assumption | (exfalso; omega) | omega), (by first | assumption | exact SB.refl _ _ | exact SB.trans w40_8 kp6_84 (Int.le_refl _) | exact SB.trans w92_8 kp5_103 (Int.le_refl _)), (by first | assumption | omega), (by intro hr; first | exact hJ | (exfalso; omega)), (by intro hr; first | exact hV | (exfalso; omega)), rfl⟩⟩
              · refine g_bipush X (z := 10) dX10_readsCondition_68 (by decide) ?_
                refine g_goto X (tgt := 75) dX10_readsCondition_70 (by decide) ?_
                refine g_callVI0 X (c_X10_opens l D cI cB cJ h q (p0 := 10) (by omega) (by omega) (by omega) (by omega) r_waitsAt_40 (by first | assumption | omega) (by first | assumption | omega) (by first | assumption | omega) (by first | assumption | omega) (by first | assumption | omega)) cv_X10_opens uw1421 ⟨rfl, rfl, by decide, by decide⟩ 0 rfl rfl rfl rfl rfl (Nat.le_of_ble_eq_true rfl) ⟨Nat.zero_le _, Nat.zero_le _⟩ dX10_readsCondition_75 (fun t75 ws75 k75 => ?_)
                obtain ⟨kb_75, ⟨place0_75, fault_75, open_75, waiting_75, waitsAt_75, kr_place0_75, kr_fault_75, kr_open_75, kr_waiting_75, r_waitsAt_75, kp0_75, kp1_75, kp2_75, rfl⟩⟩ := k75
                refine g_if_ne X (tgt := 40) dX10_readsCondition_78 (by decide) (by omega) (fun c78 => ?_) (fun c78 => ?_)
                · replace kb_75 := kb_75.resolve_left (fun h => c78 h)
                  replace kp0_75 := kp0_75.resolve_right (fun h => c78 h.1)
                  replace kp1_75 := kp1_75 kb_75
                  replace kp2_75 := kp2_75.resolve_right (fun h => c78 h.1)
                  try (have hR : RD v_codeMany said_40 codeMany_40 waitsAt_75 waiting_75 0 := by rw [kp1_75, kp0_75.2.2]; exact RD.push w40_0 (by omega) (by omega))
                  try (have h11 : cw 11534336 waitsAt_75 waiting_75.toNat ≤ cw 11534336 waitsAt_40 waiting_40.toNat + 1 := by rw [kp1_75, kp0_75.2.2]; first | exact Int.le_of_eq (cw_push_lt _ _ (by omega) (by omega)) | (rw [cw_push_ge _ _ (by omega) (by omega)]; omega))
                  try (have hG : Ge 10485760 waitsAt_75 waiting_75 := by rw [kp1_75, kp0_75.2.2]; exact Ge.push w40_6 (by omega) (by omega))
                  try (have hW : 13631488 ≤ waitsAt_75 0 := by rw [kp1_75, updZ_n _ _ (by omega)]; exact w40_7)
                  try (have hJ3 : lwJ (sgP v_length0 (oct v_tape)) v_length0 (fun _ _ => True) 5 (fun _ => []) v_place0 3 (fun _ => lwL waitsAt_75 waiting_75.toNat) place0_75 := by rw [kp0_75.2.2]; first | exact lwJ.no w40_9 (by omega) (by omega) (by omega) (by omega) kp1_75 | exact lwJ.op w40_9 (by omega) (by omega) (by omega) (by omega) kp1_75)
                  try (have hDO : open_75 = (lwD (lwL waitsAt_75 waiting_75.toNat) : Int) ∧ open_75 ≤ 6 := by rw [kp1_75, kp0_75.2.2]; first | (rw [lwL_p10 _ (by omega) (by decide), lwD_2]; omega) | (rw [lwL_p13 _ (by omega) (by decide), lwD_1]; omega))
                  try (have hLG : lwG waitsAt_75 waiting_75.toNat := by rw [kp1_75, kp0_75.2.2]; exact lwG.push w40_11 (by omega) (by decide) (fun a b => by exfalso; revert a b; decide))
                  exact ih40 place0_75 fault_75 number0_40 open_75 codeMany_40 waiting_75 said_40 waitsAt_75 (by omega) (by omega) (by omega) (by omega) (by omega) (by omega) r_said_40 r_waitsAt_75 (by first | assumption | omega) (by first | assumption | omega) (by first | assumption | omega) (by first | assumption | omega) (by first | assumption | omega) (by first | assumption | omega) (by first | assumption | omega) (by first | assumption | omega) (by first | assumption | exact SB.refl _ _ | omega) (by exact hJ3) (by exact hDO) (by exact hLG) (by omega)
                · clear kb_75
                  replace kp0_75 := (kp0_75.resolve_left (fun h => absurd h.1 (by omega))).2
                  clear kp1_75
                  replace kp2_75 := (kp2_75.resolve_left (fun h => absurd h.1 (by omega))).2
                  have hV : lwV (sgP v_length0 (oct v_tape)) v_length0 (fun _ _ => True) 5 (fun _ => []) v_place0 fault_75 := lwJ.opx w40_9 (by omega) (by omega) (by omega)
                  refine g_iconst X dX10_readsCondition_81 ?_
                  exact hQ _ _ _ _ dX10_readsCondition_82 ⟨by omega, ⟨place0_75, fault_75, number0_40, open_75, codeMany_40, waiting_75, said_40, waitsAt_75, (by omega), (by omega), (by omega), (by omega), (by omega), (by omega), r_said_40, r_waitsAt_75, (by intro hr; first | (exfalso; omega) | exact RD.close hR1 (by omega) (by omega)), (by intro hr; first | assumption | (exfalso; omega) | omega), (by first | assumption | omega), (by intro hr; first | assumption | (exfalso; omega) | omega), (by first | assumption | exact SB.refl _ _ | exact SB.trans w40_8 kp6_84 (Int.le_refl _) | exact SB.trans w92_8 kp5_103 (Int.le_refl _)), (by first | assumption | omega), (by intro hr; first | exact hJ | (exfalso; omega)), (by intro hr; first | exact hV | (exfalso; omega)), rfl⟩⟩
      exact L40 _ place0_32 fault_32 v_number0 open_32 v_codeMany waiting_32 v_said waitsAt_32 (by omega) (by omega) (by omega) (by omega) (by omega) (by omega) r_v_said r_waitsAt_32 (by first | assumption | omega) (by first | assumption | omega) (by first | assumption | omega) (by first | assumption | omega) (by first | assumption | omega) (by first | assumption | omega) (by first | assumption | omega) (by first | assumption | omega) (by first | assumption | exact SB.refl _ _ | omega) (by exact hJ3) (by exact hDO) (by exact hLG) (Nat.lt_succ_self _)
    · clear kb_32
      replace kp0_32 := (kp0_32.resolve_left (fun h => absurd h.1 (by omega))).2
      clear kp1_32
      replace kp2_32 := (kp2_32.resolve_left (fun h => absurd h.1 (by omega))).2
      refine g_iconst X dX10_readsCondition_38 ?_
      exact hQ _ _ _ _ dX10_readsCondition_39 ⟨by omega, ⟨place0_32, fault_32, v_number0, open_32, v_codeMany, waiting_32, v_said, waitsAt_32, (by omega), (by omega), (by omega), (by omega), (by omega), (by omega), r_v_said, r_waitsAt_32, (by intro hr; first | (exfalso; omega) | exact RD.close hR1 (by omega) (by omega)), (by intro hr; first | assumption | (exfalso; omega) | omega), (by first | assumption | omega), (by intro hr; first | assumption | (exfalso; omega) | omega), (by first | assumption | exact SB.refl _ _ | exact SB.trans w40_8 kp6_84 (Int.le_refl _) | exact SB.trans w92_8 kp5_103 (Int.le_refl _)), (by first | assumption | omega), (by intro hr; first | exact hJ | (exfalso; omega)), (by intro hr; first | exact hV | (exfalso; omega)), rfl⟩⟩
  · refine g_aload_n X dX10_readsCondition_9 0 rfl ?_
    refine g_iconst X dX10_readsCondition_10 ?_
    refine g_aload_n X dX10_readsCondition_11 0 rfl ?_
    refine gM_get X 0 rfl 11 (by decide) uw1190 rfl dX10_readsCondition_12 ?_
    refine g_callVI0 X (c_X10_wrongAt l D cI cB cJ h q (p0 := 1) (p1 := v_place0) (by omega) (by first | assumption | omega) (by first | assumption | omega) (by first | assumption | omega) (by first | assumption | omega)) cv_X10_wrongAt uw1409 ⟨rfl, rfl, by decide, by decide⟩ 0 rfl rfl rfl rfl rfl (Nat.le_of_ble_eq_true rfl) ⟨Nat.zero_le _, Nat.zero_le _⟩ dX10_readsCondition_15 (fun t15 ws15 k15 => ?_)
    obtain ⟨kb_15, ⟨fault_15, kr_fault_15, kp0_15, kp1_15, rfl⟩⟩ := k15
    have hV : lwV (sgP v_length0 (oct v_tape)) v_length0 (fun _ _ => True) 5 (fun _ => []) v_place0 fault_15 := lwV.fin (fun m S _ => by rw [lwT_5, if_neg (by omega)]; exact congrArg Sum.inr (by omega))
    exact hQ _ _ _ _ dX10_readsCondition_18 ⟨by omega, ⟨v_place0, fault_15, v_number0, v_open, v_codeMany, v_waiting, v_said, v_waitsAt, (by omega), (by omega), (by omega), (by omega), (by omega), (by omega), r_v_said, r_v_waitsAt, (by intro hr; first | (exfalso; omega) | exact RD.close hR1 (by omega) (by omega)), (by intro hr; first | assumption | (exfalso; omega) | omega), (by first | assumption | omega), (by intro hr; first | assumption | (exfalso; omega) | omega), (by first | assumption | exact SB.refl _ _ | exact SB.trans w40_8 kp6_84 (Int.le_refl _) | exact SB.trans w92_8 kp5_103 (Int.le_refl _)), (by first | assumption | omega), (by intro hr; first | exact hJ | (exfalso; omega)), (by intro hr; first | exact hV | (exfalso; omega)), rfl⟩⟩
