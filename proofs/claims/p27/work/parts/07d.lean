set_option maxHeartbeats 8000000 in
set_option maxRecDepth 100000 in
theorem c_X10_readsCompared (l : Launch) (D : va_G) (cI cB cJ : ClassId) (h : Nat) (q : Nat → Nat) {v_stalls v_claimMany v_taped v_place0 v_length0 v_fault v_number0 v_open v_codeMany v_waiting v_saidMany v_clauses v_newMany v_newStalls v_lines v_salesNow v_outNow v_isKept v_keptStalls : Int} {v_now v_aside v_kept v_oneOf v_otherOf v_signOf v_byOf v_tape v_said v_waitsAt v_saidLetter v_saidFrom v_saidHalf v_saidTo v_codes v_clauseOf v_codeFrom v_codeHalf v_codeTo v_stack v_facts v_newOne v_newOther v_newSign v_newBy v_moreOf v_firstOf v_toldOf v_mostOf v_mostThen v_sumTo v_rowFrom v_ordersOf v_lessOf v_weightOf v_rowNow v_slowRow v_fastRow v_lineNow v_firstLine v_freeBy v_heldBy v_heightOf v_upTo v_downTo v_oftenOf v_newUpper v_newLower : Nat → Int} {lo : Int} (kr_v_place0 : 0 ≤ v_place0 ∧ v_place0 ≤ 260) (kr_v_length0 : 0 ≤ v_length0 ∧ v_length0 ≤ 260) (kr_v_fault : (-1000000) ≤ v_fault ∧ v_fault ≤ 1000000) (kr_v_number0 : 0 ≤ v_number0 ∧ v_number0 ≤ 99999) (kr_v_open : (-2147483648) ≤ v_open ∧ v_open ≤ 2147483647) (kr_v_codeMany : 0 ≤ v_codeMany ∧ v_codeMany ≤ 260) (kr_v_waiting : 0 ≤ v_waiting ∧ v_waiting ≤ 260) (r_v_tape : RA (-128) 127 v_tape) (r_v_said : RA 0 16777215 v_said) (r_v_waitsAt : RA 0 16777215 v_waitsAt) (hp0 : RD lo v_said v_codeMany v_waitsAt v_waiting 0) (hp1 : v_codeMany + cw 11534336 v_waitsAt v_waiting.toNat ≤ v_place0) (hp2 : v_waiting ≤ v_place0) (hp3 : v_place0 ≤ v_length0) (hp4 : v_length0 ≤ 240) (hp5 : Ge 10485760 v_waitsAt v_waiting) : CtI l yX10_readsCompared cX10_readsCompared 2 (some .boolean) ⟨5, 0, 0, 104⟩ D (TY cI cB cJ) (wX10 cI cB cJ h q v_stalls v_claimMany v_taped v_place0 v_length0 v_fault v_number0 v_open v_codeMany v_waiting v_saidMany v_clauses v_newMany v_newStalls v_lines v_salesNow v_outNow v_isKept v_keptStalls v_now v_aside v_kept v_oneOf v_otherOf v_signOf v_byOf v_tape v_said v_waitsAt v_saidLetter v_saidFrom v_saidHalf v_saidTo v_codes v_clauseOf v_codeFrom v_codeHalf v_codeTo v_stack v_facts v_newOne v_newOther v_newSign v_newBy v_moreOf v_firstOf v_toldOf v_mostOf v_mostThen v_sumTo v_rowFrom v_ordersOf v_lessOf v_weightOf v_rowNow v_slowRow v_fastRow v_lineNow v_firstLine v_freeBy v_heldBy v_heightOf v_upTo v_downTo v_oftenOf v_newUpper v_newLower) [.ref h] (fun z ws' => (z = 0 ∨ z = 1) ∧ ∃ n_place0 : Int, ∃ n_fault : Int, ∃ n_number0 : Int, ∃ n_open : Int, ∃ n_codeMany : Int, ∃ n_waiting : Int, ∃ n_said : Nat → Int, ∃ n_waitsAt : Nat → Int, (0 ≤ n_place0 ∧ n_place0 ≤ 260) ∧ ((-1000000) ≤ n_fault ∧ n_fault ≤ 1000000) ∧ (0 ≤ n_number0 ∧ n_number0 ≤ 99999) ∧ ((-2147483648) ≤ n_open ∧ n_open ≤ 2147483647) ∧ (0 ≤ n_codeMany ∧ n_codeMany ≤ 260) ∧ (0 ≤ n_waiting ∧ n_waiting ≤ 260) ∧ (RA 0 16777215 n_said) ∧ (RA 0 16777215 n_waitsAt) ∧ (z = 1 → RD lo n_said n_codeMany n_waitsAt n_waiting 1) ∧ (z = 1 → n_codeMany + cw 11534336 n_waitsAt n_waiting.toNat - n_place0 ≤ v_codeMany + cw 11534336 v_waitsAt v_waiting.toNat - v_place0) ∧ (n_place0 ≤ v_length0) ∧ (z = 1 → v_place0 < n_place0) ∧ (z = 1 → n_waiting ≤ v_waiting) ∧ (z = 1 → SB v_waiting v_waitsAt n_waitsAt) ∧ (SB lo v_said n_said) ∧ (z = 1 → ∀ j : Nat, n_waiting ≤ (j : Int) → (j : Int) < v_waiting → v_waitsAt j < 11534336) ∧ (v_place0 ≤ n_place0) ∧ (ws' = (wX10 cI cB cJ h q v_stalls v_claimMany v_taped n_place0 v_length0 n_fault n_number0 n_open n_codeMany n_waiting v_saidMany v_clauses v_newMany v_newStalls v_lines v_salesNow v_outNow v_isKept v_keptStalls v_now v_aside v_kept v_oneOf v_otherOf v_signOf v_byOf v_tape n_said n_waitsAt v_saidLetter v_saidFrom v_saidHalf v_saidTo v_codes v_clauseOf v_codeFrom v_codeHalf v_codeTo v_stack v_facts v_newOne v_newOther v_newSign v_newBy v_moreOf v_firstOf v_toldOf v_mostOf v_mostThen v_sumTo v_rowFrom v_ordersOf v_lessOf v_weightOf v_rowNow v_slowRow v_fastRow v_lineNow v_firstLine v_freeBy v_heldBy v_heightOf v_upTo v_downTo v_oftenOf v_newUpper v_newLower))) := by
  refine hdrZ (own := RX10) rfl (by decide +kernel) (Nat.le_of_ble_eq_true rfl) ?_
  intro p e s m args below meth c Q A X hQ
  refine g_lvE (lv2 := [(0, .ref h)]) rfl ?_
  refine g_aload_n X dX10_readsCompared_0 0 rfl ?_
  refine g_callVI0 X (c_X10_readsSum l D cI cB cJ h q  (lo := lo) (gb := 0) (by omega) (by omega) (by omega) (by omega) (by omega) (by omega) (by omega) r_v_tape r_v_said r_v_waitsAt (by first | assumption | omega) (by first | assumption | omega) (by first | assumption | omega) (by first | assumption | omega) (by first | assumption | omega) (by first | assumption | omega) (by first | assumption | omega)) cv_X10_readsSum uw1413 ⟨rfl, rfl, by decide, by decide⟩ 0 rfl rfl rfl rfl rfl (Nat.le_of_ble_eq_true rfl) ⟨Nat.zero_le _, Nat.zero_le _⟩ dX10_readsCompared_1 (fun t1 ws1 k1 => ?_)
  obtain ⟨kb_1, ⟨place0_1, fault_1, number0_1, open_1, codeMany_1, waiting_1, said_1, waitsAt_1, kr_place0_1, kr_fault_1, kr_number0_1, kr_open_1, kr_codeMany_1, kr_waiting_1, r_said_1, r_waitsAt_1, kp0_1, kp1_1, kp2_1, kp3_1, kp4_1, kp5_1, kp6_1, kp7_1, rfl⟩⟩ := k1
  refine g_if_ne X (tgt := 9) dX10_readsCompared_4 (by decide) (by omega) (fun c4 => ?_) (fun c4 => ?_)
  · replace kb_1 := kb_1.resolve_left (fun h => c4 h)
    replace kp0_1 := kp0_1 kb_1
    replace kp1_1 := kp1_1 kb_1
    replace kp3_1 := kp3_1 kb_1
    replace kp4_1 := kp4_1 kb_1
    replace kp5_1 := kp5_1 kb_1
    refine g_aload_n X dX10_readsCompared_9 0 rfl ?_
    refine g_callVI0 X (c_X10_here l D cI cB cJ h q  (by omega) (by omega) r_v_tape) cv_X10_here uw1405 ⟨rfl, rfl, by decide, by decide⟩ 0 rfl rfl rfl rfl rfl (Nat.le_of_ble_eq_true rfl) ⟨Nat.zero_le _, Nat.zero_le _⟩ dX10_readsCompared_10 (fun t10 ws10 k10 => ?_)
    obtain ⟨kp0_10, kp1_10, kp2_10, rfl⟩ := k10
    refine g_bipush X (z := 60) dX10_readsCompared_13 (by decide) ?_
    refine g_icmp_ne X (tgt := 23) dX10_readsCompared_15 (by decide) (by omega) (by omega) (fun c15 => ?_) (fun c15 => ?_)
    · refine g_aload_n X dX10_readsCompared_23 0 rfl ?_
      refine g_callVI0 X (c_X10_here l D cI cB cJ h q  (by omega) (by omega) r_v_tape) cv_X10_here uw1405 ⟨rfl, rfl, by decide, by decide⟩ 0 rfl rfl rfl rfl rfl (Nat.le_of_ble_eq_true rfl) ⟨Nat.zero_le _, Nat.zero_le _⟩ dX10_readsCompared_24 (fun t24 ws24 k24 => ?_)
      obtain ⟨kp0_24, kp1_24, kp2_24, rfl⟩ := k24
      refine g_bipush X (z := 62) dX10_readsCompared_27 (by decide) ?_
      refine g_icmp_ne X (tgt := 37) dX10_readsCompared_29 (by decide) (by omega) (by omega) (fun c29 => ?_) (fun c29 => ?_)
      · refine g_aload_n X dX10_readsCompared_37 0 rfl ?_
        refine g_callVI0 X (c_X10_here l D cI cB cJ h q  (by omega) (by omega) r_v_tape) cv_X10_here uw1405 ⟨rfl, rfl, by decide, by decide⟩ 0 rfl rfl rfl rfl rfl (Nat.le_of_ble_eq_true rfl) ⟨Nat.zero_le _, Nat.zero_le _⟩ dX10_readsCompared_38 (fun t38 ws38 k38 => ?_)
        obtain ⟨kp0_38, kp1_38, kp2_38, rfl⟩ := k38
        refine g_bipush X (z := 61) dX10_readsCompared_41 (by decide) ?_
        refine g_icmp_ne X (tgt := 51) dX10_readsCompared_43 (by decide) (by omega) (by omega) (fun c43 => ?_) (fun c43 => ?_)
        · refine g_iconst X dX10_readsCompared_51 ?_
          refine g_istore_n X (lv' := [(1, vI (-1)), (0, .ref h)]) dX10_readsCompared_52 (by decide) rfl ?_
          refine g_iload_n X dX10_readsCompared_53 0 rfl ?_
          refine g_iconst X dX10_readsCompared_54 ?_
          refine g_icmp_ne X (tgt := 68) dX10_readsCompared_55 (by decide) (by omega) (by omega) (fun c55 => ?_) (fun c55 => ?_)
          · have hG : Ge 10485760 waitsAt_1 waiting_1 := by rw [kp4_1]; exact Ge.same hp5 kp5_1
            have hb1 := cw_bd 11534336 waitsAt_1 waiting_1.toNat
            refine g_aload_n X dX10_readsCompared_68 1 rfl ?_
            refine g_aload_n X dX10_readsCompared_69 1 rfl ?_
            refine gM_get X 0 rfl 11 (by decide) uw1190 rfl dX10_readsCompared_70 ?_
            refine g_iconst X dX10_readsCompared_73 ?_
            refine g_iadd X dX10_readsCompared_74 ?_
            refine gM_put X 0 rfl 11 (by decide) uw1190 rfl rfl rfl (Nat.le_of_ble_eq_true rfl) dX10_readsCompared_75 (ws2 := (wX10 cI cB cJ h q v_stalls v_claimMany v_taped (place0_1 + 1) v_length0 fault_1 number0_1 open_1 codeMany_1 waiting_1 v_saidMany v_clauses v_newMany v_newStalls v_lines v_salesNow v_outNow v_isKept v_keptStalls v_now v_aside v_kept v_oneOf v_otherOf v_signOf v_byOf v_tape said_1 waitsAt_1 v_saidLetter v_saidFrom v_saidHalf v_saidTo v_codes v_clauseOf v_codeFrom v_codeHalf v_codeTo v_stack v_facts v_newOne v_newOther v_newSign v_newBy v_moreOf v_firstOf v_toldOf v_mostOf v_mostThen v_sumTo v_rowFrom v_ordersOf v_lessOf v_weightOf v_rowNow v_slowRow v_fastRow v_lineNow v_firstLine v_freeBy v_heldBy v_heightOf v_upTo v_downTo v_oftenOf v_newUpper v_newLower)) rfl ?_
            refine g_aload_n X dX10_readsCompared_78 1 rfl ?_
            refine g_callVI0 X (c_X10_readsSum l D cI cB cJ h q  (lo := lo) (gb := 1) (by omega) (by omega) (by omega) (by omega) (by omega) (by omega) (by omega) r_v_tape r_said_1 r_waitsAt_1 (by first | assumption | omega) (by first | assumption | omega) (by first | assumption | omega) (by first | assumption | omega) (by first | assumption | omega) (by first | assumption | omega) (by first | assumption | omega)) cv_X10_readsSum uw1413 ⟨rfl, rfl, by decide, by decide⟩ 0 rfl rfl rfl rfl rfl (Nat.le_of_ble_eq_true rfl) ⟨Nat.zero_le _, Nat.zero_le _⟩ dX10_readsCompared_79 (fun t79 ws79 k79 => ?_)
            obtain ⟨kb_79, ⟨place0_79, fault_79, number0_79, open_79, codeMany_79, waiting_79, said_79, waitsAt_79, kr_place0_79, kr_fault_79, kr_number0_79, kr_open_79, kr_codeMany_79, kr_waiting_79, r_said_79, r_waitsAt_79, kp0_79, kp1_79, kp2_79, kp3_79, kp4_79, kp5_79, kp6_79, kp7_79, rfl⟩⟩ := k79
            refine g_if_ne X (tgt := 87) dX10_readsCompared_82 (by decide) (by omega) (fun c82 => ?_) (fun c82 => ?_)
            · replace kb_79 := kb_79.resolve_left (fun h => c82 h)
              replace kp0_79 := kp0_79 kb_79
              replace kp1_79 := kp1_79 kb_79
              replace kp3_79 := kp3_79 kb_79
              replace kp4_79 := kp4_79 kb_79
              replace kp5_79 := kp5_79 kb_79
              have hS1 := SB.trans kp5_1 kp5_79 (by omega)
              have hb79 := cw_bd 11534336 waitsAt_79 waiting_79.toNat
              have hbd := kp0_79.bd
              refine g_aload_n X dX10_readsCompared_87 1 rfl ?_
              refine g_iload_n X dX10_readsCompared_88 0 rfl ?_
              refine g_iconst X dX10_readsCompared_89 ?_
              refine g_callVV0 X (c_X10_notes l D cI cB cJ h q (p0 := (-1)) (p1 := 0) (by omega) r_said_79 (by first | assumption | omega) (by first | assumption | omega) (by first | assumption | omega) (by first | assumption | omega) (by first | assumption | omega)) cv_X10_notes uw1434 ⟨rfl, rfl, by decide, by decide⟩ 0 rfl rfl rfl rfl rfl (Nat.le_of_ble_eq_true rfl) ⟨Nat.zero_le _, Nat.zero_le _⟩ dX10_readsCompared_90 (fun ws90 k90 => ?_)
              obtain ⟨codeMany_90, said_90, kr_codeMany_90, r_said_90, kp0_90, kp1_90, rfl⟩ := k90
              have hR : RD lo said_90 codeMany_90 waitsAt_79 waiting_79 1 := by rw [kp1_90, kp0_90]; exact RD.note kp0_79 _ 1 (Or.inr (Or.inr (Or.inr ⟨by omega, by omega, by omega, by omega⟩)))
              have hSB : SB lo v_said said_90 := by rw [kp1_90]; exact SB.up (SB.trans kp6_1 kp6_79 (Int.le_refl _)) (by omega) (by omega)
              refine g_aload_n X dX10_readsCompared_93 1 rfl ?_
              refine g_callVV0 X (c_X10_endsPiece l D cI cB cJ h q  (lo := lo) (by omega) (by omega) (by omega) r_said_90 r_waitsAt_79 (by first | assumption | omega) (by first | assumption | omega) (by first | assumption | omega)) cv_X10_endsPiece uw1464 ⟨rfl, rfl, by decide, by decide⟩ 0 rfl rfl rfl rfl rfl (Nat.le_of_ble_eq_true rfl) ⟨Nat.zero_le _, Nat.zero_le _⟩ dX10_readsCompared_94 (fun ws94 k94 => ?_)
              obtain ⟨open_94, codeMany_94, waiting_94, said_94, kr_open_94, kr_codeMany_94, kr_waiting_94, r_said_94, kp0_94, kp1_94, kp2_94, kp3_94, kp4_94, rfl⟩ := k94
              have hSB2 := SB.trans hSB kp4_94 (Int.le_refl _)
              have hPP : ∀ j : Nat, waiting_94 ≤ (j : Int) → (j : Int) < v_waiting → v_waitsAt j < 11534336 := fun j h1 h2 => by have h3 := kp3_94 j h1 (by omega); rw [hS1 j h2] at h3; exact h3
              refine g_iconst X dX10_readsCompared_97 ?_
              exact hQ _ _ _ _ dX10_readsCompared_98 ⟨by omega, ⟨place0_79, fault_79, number0_79, open_94, codeMany_94, waiting_94, said_94, waitsAt_79, (by omega), (by omega), (by omega), (by omega), (by omega), (by omega), r_said_94, r_waitsAt_79, (by intro hr; first | assumption | (exfalso; omega) | omega), (by intro hr; first | assumption | (exfalso; omega) | omega), (by first | assumption | omega), (by intro hr; first | assumption | (exfalso; omega) | omega), (by intro hr; first | assumption | (exfalso; omega) | omega), (by intro hr; first | assumption | (exfalso; omega) | omega), (by first | assumption | exact SB.refl _ _ | exact kp6_1 | exact SB.trans kp6_1 kp6_79 (Int.le_refl _)), (by intro hr; first | assumption | (exfalso; omega) | omega), (by first | assumption | omega), rfl⟩⟩
            · clear kb_79
              clear kp0_79
              clear kp1_79
              clear kp3_79
              clear kp4_79
              clear kp5_79
              refine g_iconst X dX10_readsCompared_85 ?_
              exact hQ _ _ _ _ dX10_readsCompared_86 ⟨by omega, ⟨place0_79, fault_79, number0_79, open_79, codeMany_79, waiting_79, said_79, waitsAt_79, (by omega), (by omega), (by omega), (by omega), (by omega), (by omega), r_said_79, r_waitsAt_79, (by intro hr; first | assumption | (exfalso; omega) | omega), (by intro hr; first | assumption | (exfalso; omega) | omega), (by first | assumption | omega), (by intro hr; first | assumption | (exfalso; omega) | omega), (by intro hr; first | assumption | (exfalso; omega) | omega), (by intro hr; first | assumption | (exfalso; omega) | omega), (by first | assumption | exact SB.refl _ _ | exact kp6_1 | exact SB.trans kp6_1 kp6_79 (Int.le_refl _)), (by intro hr; first | assumption | (exfalso; omega) | omega), (by first | assumption | omega), rfl⟩⟩
          · refine g_aload_n X dX10_readsCompared_58 1 rfl ?_
            refine g_iconst X dX10_readsCompared_59 ?_
            refine g_aload_n X dX10_readsCompared_60 1 rfl ?_
            refine gM_get X 0 rfl 11 (by decide) uw1190 rfl dX10_readsCompared_61 ?_
            refine g_callVI0 X (c_X10_wrongAt l D cI cB cJ h q (p0 := 1) (p1 := place0_1) (by omega) (by first | assumption | omega) (by first | assumption | omega) (by first | assumption | omega) (by first | assumption | omega)) cv_X10_wrongAt uw1409 ⟨rfl, rfl, by decide, by decide⟩ 0 rfl rfl rfl rfl rfl (Nat.le_of_ble_eq_true rfl) ⟨Nat.zero_le _, Nat.zero_le _⟩ dX10_readsCompared_64 (fun t64 ws64 k64 => ?_)
            obtain ⟨kb_64, ⟨fault_64, kr_fault_64, kp0_64, kp1_64, rfl⟩⟩ := k64
            exact hQ _ _ _ _ dX10_readsCompared_67 ⟨by omega, ⟨place0_1, fault_64, number0_1, open_1, codeMany_1, waiting_1, said_1, waitsAt_1, (by omega), (by omega), (by omega), (by omega), (by omega), (by omega), r_said_1, r_waitsAt_1, (by intro hr; first | assumption | (exfalso; omega) | omega), (by intro hr; first | assumption | (exfalso; omega) | omega), (by first | assumption | omega), (by intro hr; first | assumption | (exfalso; omega) | omega), (by intro hr; first | assumption | (exfalso; omega) | omega), (by intro hr; first | assumption | (exfalso; omega) | omega), (by first | assumption | exact SB.refl _ _ | exact kp6_1 | exact SB.trans kp6_1 kp6_79 (Int.le_refl _)), (by intro hr; first | assumption | (exfalso; omega) | omega), (by first | assumption | omega), rfl⟩⟩
        · refine g_bipush X (z := 9) dX10_readsCompared_46 (by decide) ?_
          refine g_goto X (tgt := 52) dX10_readsCompared_48 (by decide) ?_
          refine g_istore_n X (lv' := [(1, vI 9), (0, .ref h)]) dX10_readsCompared_52 (by decide) rfl ?_
          refine g_iload_n X dX10_readsCompared_53 0 rfl ?_
          refine g_iconst X dX10_readsCompared_54 ?_
          refine g_icmp_ne X (tgt := 68) dX10_readsCompared_55 (by decide) (by omega) (by omega) (fun c55 => ?_) (fun c55 => ?_)
          · have hG : Ge 10485760 waitsAt_1 waiting_1 := by rw [kp4_1]; exact Ge.same hp5 kp5_1
            have hb1 := cw_bd 11534336 waitsAt_1 waiting_1.toNat
            refine g_aload_n X dX10_readsCompared_68 1 rfl ?_
            refine g_aload_n X dX10_readsCompared_69 1 rfl ?_
            refine gM_get X 0 rfl 11 (by decide) uw1190 rfl dX10_readsCompared_70 ?_
            refine g_iconst X dX10_readsCompared_73 ?_
            refine g_iadd X dX10_readsCompared_74 ?_
            refine gM_put X 0 rfl 11 (by decide) uw1190 rfl rfl rfl (Nat.le_of_ble_eq_true rfl) dX10_readsCompared_75 (ws2 := (wX10 cI cB cJ h q v_stalls v_claimMany v_taped (place0_1 + 1) v_length0 fault_1 number0_1 open_1 codeMany_1 waiting_1 v_saidMany v_clauses v_newMany v_newStalls v_lines v_salesNow v_outNow v_isKept v_keptStalls v_now v_aside v_kept v_oneOf v_otherOf v_signOf v_byOf v_tape said_1 waitsAt_1 v_saidLetter v_saidFrom v_saidHalf v_saidTo v_codes v_clauseOf v_codeFrom v_codeHalf v_codeTo v_stack v_facts v_newOne v_newOther v_newSign v_newBy v_moreOf v_firstOf v_toldOf v_mostOf v_mostThen v_sumTo v_rowFrom v_ordersOf v_lessOf v_weightOf v_rowNow v_slowRow v_fastRow v_lineNow v_firstLine v_freeBy v_heldBy v_heightOf v_upTo v_downTo v_oftenOf v_newUpper v_newLower)) rfl ?_
            refine g_aload_n X dX10_readsCompared_78 1 rfl ?_
            refine g_callVI0 X (c_X10_readsSum l D cI cB cJ h q  (lo := lo) (gb := 1) (by omega) (by omega) (by omega) (by omega) (by omega) (by omega) (by omega) r_v_tape r_said_1 r_waitsAt_1 (by first | assumption | omega) (by first | assumption | omega) (by first | assumption | omega) (by first | assumption | omega) (by first | assumption | omega) (by first | assumption | omega) (by first | assumption | omega)) cv_X10_readsSum uw1413 ⟨rfl, rfl, by decide, by decide⟩ 0 rfl rfl rfl rfl rfl (Nat.le_of_ble_eq_true rfl) ⟨Nat.zero_le _, Nat.zero_le _⟩ dX10_readsCompared_79 (fun t79 ws79 k79 => ?_)
            obtain ⟨kb_79, ⟨place0_79, fault_79, number0_79, open_79, codeMany_79, waiting_79, said_79, waitsAt_79, kr_place0_79, kr_fault_79, kr_number0_79, kr_open_79, kr_codeMany_79, kr_waiting_79, r_said_79, r_waitsAt_79, kp0_79, kp1_79, kp2_79, kp3_79, kp4_79, kp5_79, kp6_79, kp7_79, rfl⟩⟩ := k79
            refine g_if_ne X (tgt := 87) dX10_readsCompared_82 (by decide) (by omega) (fun c82 => ?_) (fun c82 => ?_)
            · replace kb_79 := kb_79.resolve_left (fun h => c82 h)
              replace kp0_79 := kp0_79 kb_79
              replace kp1_79 := kp1_79 kb_79
              replace kp3_79 := kp3_79 kb_79
              replace kp4_79 := kp4_79 kb_79
              replace kp5_79 := kp5_79 kb_79
              have hS1 := SB.trans kp5_1 kp5_79 (by omega)
              have hb79 := cw_bd 11534336 waitsAt_79 waiting_79.toNat
              have hbd := kp0_79.bd
              refine g_aload_n X dX10_readsCompared_87 1 rfl ?_
              refine g_iload_n X dX10_readsCompared_88 0 rfl ?_
              refine g_iconst X dX10_readsCompared_89 ?_
              refine g_callVV0 X (c_X10_notes l D cI cB cJ h q (p0 := 9) (p1 := 0) (by omega) r_said_79 (by first | assumption | omega) (by first | assumption | omega) (by first | assumption | omega) (by first | assumption | omega) (by first | assumption | omega)) cv_X10_notes uw1434 ⟨rfl, rfl, by decide, by decide⟩ 0 rfl rfl rfl rfl rfl (Nat.le_of_ble_eq_true rfl) ⟨Nat.zero_le _, Nat.zero_le _⟩ dX10_readsCompared_90 (fun ws90 k90 => ?_)
              obtain ⟨codeMany_90, said_90, kr_codeMany_90, r_said_90, kp0_90, kp1_90, rfl⟩ := k90
              have hR : RD lo said_90 codeMany_90 waitsAt_79 waiting_79 1 := by rw [kp1_90, kp0_90]; exact RD.note kp0_79 _ 1 (Or.inr (Or.inr (Or.inr ⟨by omega, by omega, by omega, by omega⟩)))
              have hSB : SB lo v_said said_90 := by rw [kp1_90]; exact SB.up (SB.trans kp6_1 kp6_79 (Int.le_refl _)) (by omega) (by omega)
              refine g_aload_n X dX10_readsCompared_93 1 rfl ?_
              refine g_callVV0 X (c_X10_endsPiece l D cI cB cJ h q  (lo := lo) (by omega) (by omega) (by omega) r_said_90 r_waitsAt_79 (by first | assumption | omega) (by first | assumption | omega) (by first | assumption | omega)) cv_X10_endsPiece uw1464 ⟨rfl, rfl, by decide, by decide⟩ 0 rfl rfl rfl rfl rfl (Nat.le_of_ble_eq_true rfl) ⟨Nat.zero_le _, Nat.zero_le _⟩ dX10_readsCompared_94 (fun ws94 k94 => ?_)
              obtain ⟨open_94, codeMany_94, waiting_94, said_94, kr_open_94, kr_codeMany_94, kr_waiting_94, r_said_94, kp0_94, kp1_94, kp2_94, kp3_94, kp4_94, rfl⟩ := k94
              have hSB2 := SB.trans hSB kp4_94 (Int.le_refl _)
              have hPP : ∀ j : Nat, waiting_94 ≤ (j : Int) → (j : Int) < v_waiting → v_waitsAt j < 11534336 := fun j h1 h2 => by have h3 := kp3_94 j h1 (by omega); rw [hS1 j h2] at h3; exact h3
              refine g_iconst X dX10_readsCompared_97 ?_
              exact hQ _ _ _ _ dX10_readsCompared_98 ⟨by omega, ⟨place0_79, fault_79, number0_79, open_94, codeMany_94, waiting_94, said_94, waitsAt_79, (by omega), (by omega), (by omega), (by omega), (by omega), (by omega), r_said_94, r_waitsAt_79, (by intro hr; first | assumption | (exfalso; omega) | omega), (by intro hr; first | assumption | (exfalso; omega) | omega), (by first | assumption | omega), (by intro hr; first | assumption | (exfalso; omega) | omega), (by intro hr; first | assumption | (exfalso; omega) | omega), (by intro hr; first | assumption | (exfalso; omega) | omega), (by first | assumption | exact SB.refl _ _ | exact kp6_1 | exact SB.trans kp6_1 kp6_79 (Int.le_refl _)), (by intro hr; first | assumption | (exfalso; omega) | omega), (by first | assumption | omega), rfl⟩⟩
            · clear kb_79
              clear kp0_79
              clear kp1_79
              clear kp3_79
              clear kp4_79
              clear kp5_79
              refine g_iconst X dX10_readsCompared_85 ?_
              exact hQ _ _ _ _ dX10_readsCompared_86 ⟨by omega, ⟨place0_79, fault_79, number0_79, open_79, codeMany_79, waiting_79, said_79, waitsAt_79, (by omega), (by omega), (by omega), (by omega), (by omega), (by omega), r_said_79, r_waitsAt_79, (by intro hr; first | assumption | (exfalso; omega) | omega), (by intro hr; first | assumption | (exfalso; omega) | omega), (by first | assumption | omega), (by intro hr; first | assumption | (exfalso; omega) | omega), (by intro hr; first | assumption | (exfalso; omega) | omega), (by intro hr; first | assumption | (exfalso; omega) | omega), (by first | assumption | exact SB.refl _ _ | exact kp6_1 | exact SB.trans kp6_1 kp6_79 (Int.le_refl _)), (by intro hr; first | assumption | (exfalso; omega) | omega), (by first | assumption | omega), rfl⟩⟩
          · refine g_aload_n X dX10_readsCompared_58 1 rfl ?_
            refine g_iconst X dX10_readsCompared_59 ?_
            refine g_aload_n X dX10_readsCompared_60 1 rfl ?_
            refine gM_get X 0 rfl 11 (by decide) uw1190 rfl dX10_readsCompared_61 ?_
            refine g_callVI0 X (c_X10_wrongAt l D cI cB cJ h q (p0 := 1) (p1 := place0_1) (by omega) (by first | assumption | omega) (by first | assumption | omega) (by first | assumption | omega) (by first | assumption | omega)) cv_X10_wrongAt uw1409 ⟨rfl, rfl, by decide, by decide⟩ 0 rfl rfl rfl rfl rfl (Nat.le_of_ble_eq_true rfl) ⟨Nat.zero_le _, Nat.zero_le _⟩ dX10_readsCompared_64 (fun t64 ws64 k64 => ?_)
            obtain ⟨kb_64, ⟨fault_64, kr_fault_64, kp0_64, kp1_64, rfl⟩⟩ := k64
            exact hQ _ _ _ _ dX10_readsCompared_67 ⟨by omega, ⟨place0_1, fault_64, number0_1, open_1, codeMany_1, waiting_1, said_1, waitsAt_1, (by omega), (by omega), (by omega), (by omega), (by omega), (by omega), r_said_1, r_waitsAt_1, (by intro hr; first | assumption | (exfalso; omega) | omega), (by intro hr; first | assumption | (exfalso; omega) | omega), (by first | assumption | omega), (by intro hr; first | assumption | (exfalso; omega) | omega), (by intro hr; first | assumption | (exfalso; omega) | omega), (by intro hr; first | assumption | (exfalso; omega) | omega), (by first | assumption | exact SB.refl _ _ | exact kp6_1 | exact SB.trans kp6_1 kp6_79 (Int.le_refl _)), (by intro hr; first | assumption | (exfalso; omega) | omega), (by first | assumption | omega), rfl⟩⟩
      · refine g_bipush X (z := 8) dX10_readsCompared_32 (by decide) ?_
        refine g_goto X (tgt := 52) dX10_readsCompared_34 (by decide) ?_
        refine g_istore_n X (lv' := [(1, vI 8), (0, .ref h)]) dX10_readsCompared_52 (by decide) rfl ?_
        refine g_iload_n X dX10_readsCompared_53 0 rfl ?_
        refine g_iconst X dX10_readsCompared_54 ?_
        refine g_icmp_ne X (tgt := 68) dX10_readsCompared_55 (by decide) (by omega) (by omega) (fun c55 => ?_) (fun c55 => ?_)
        · have hG : Ge 10485760 waitsAt_1 waiting_1 := by rw [kp4_1]; exact Ge.same hp5 kp5_1
          have hb1 := cw_bd 11534336 waitsAt_1 waiting_1.toNat
          refine g_aload_n X dX10_readsCompared_68 1 rfl ?_
          refine g_aload_n X dX10_readsCompared_69 1 rfl ?_
          refine gM_get X 0 rfl 11 (by decide) uw1190 rfl dX10_readsCompared_70 ?_
          refine g_iconst X dX10_readsCompared_73 ?_
          refine g_iadd X dX10_readsCompared_74 ?_
          refine gM_put X 0 rfl 11 (by decide) uw1190 rfl rfl rfl (Nat.le_of_ble_eq_true rfl) dX10_readsCompared_75 (ws2 := (wX10 cI cB cJ h q v_stalls v_claimMany v_taped (place0_1 + 1) v_length0 fault_1 number0_1 open_1 codeMany_1 waiting_1 v_saidMany v_clauses v_newMany v_newStalls v_lines v_salesNow v_outNow v_isKept v_keptStalls v_now v_aside v_kept v_oneOf v_otherOf v_signOf v_byOf v_tape said_1 waitsAt_1 v_saidLetter v_saidFrom v_saidHalf v_saidTo v_codes v_clauseOf v_codeFrom v_codeHalf v_codeTo v_stack v_facts v_newOne v_newOther v_newSign v_newBy v_moreOf v_firstOf v_toldOf v_mostOf v_mostThen v_sumTo v_rowFrom v_ordersOf v_lessOf v_weightOf v_rowNow v_slowRow v_fastRow v_lineNow v_firstLine v_freeBy v_heldBy v_heightOf v_upTo v_downTo v_oftenOf v_newUpper v_newLower)) rfl ?_
          refine g_aload_n X dX10_readsCompared_78 1 rfl ?_
          refine g_callVI0 X (c_X10_readsSum l D cI cB cJ h q  (lo := lo) (gb := 1) (by omega) (by omega) (by omega) (by omega) (by omega) (by omega) (by omega) r_v_tape r_said_1 r_waitsAt_1 (by first | assumption | omega) (by first | assumption | omega) (by first | assumption | omega) (by first | assumption | omega) (by first | assumption | omega) (by first | assumption | omega) (by first | assumption | omega)) cv_X10_readsSum uw1413 ⟨rfl, rfl, by decide, by decide⟩ 0 rfl rfl rfl rfl rfl (Nat.le_of_ble_eq_true rfl) ⟨Nat.zero_le _, Nat.zero_le _⟩ dX10_readsCompared_79 (fun t79 ws79 k79 => ?_)
          obtain ⟨kb_79, ⟨place0_79, fault_79, number0_79, open_79, codeMany_79, waiting_79, said_79, waitsAt_79, kr_place0_79, kr_fault_79, kr_number0_79, kr_open_79, kr_codeMany_79, kr_waiting_79, r_said_79, r_waitsAt_79, kp0_79, kp1_79, kp2_79, kp3_79, kp4_79, kp5_79, kp6_79, kp7_79, rfl⟩⟩ := k79
          refine g_if_ne X (tgt := 87) dX10_readsCompared_82 (by decide) (by omega) (fun c82 => ?_) (fun c82 => ?_)
          · replace kb_79 := kb_79.resolve_left (fun h => c82 h)
            replace kp0_79 := kp0_79 kb_79
            replace kp1_79 := kp1_79 kb_79
            replace kp3_79 := kp3_79 kb_79
            replace kp4_79 := kp4_79 kb_79
            replace kp5_79 := kp5_79 kb_79
            have hS1 := SB.trans kp5_1 kp5_79 (by omega)
            have hb79 := cw_bd 11534336 waitsAt_79 waiting_79.toNat
            have hbd := kp0_79.bd
            refine g_aload_n X dX10_readsCompared_87 1 rfl ?_
            refine g_iload_n X dX10_readsCompared_88 0 rfl ?_
            refine g_iconst X dX10_readsCompared_89 ?_
            refine g_callVV0 X (c_X10_notes l D cI cB cJ h q (p0 := 8) (p1 := 0) (by omega) r_said_79 (by first | assumption | omega) (by first | assumption | omega) (by first | assumption | omega) (by first | assumption | omega) (by first | assumption | omega)) cv_X10_notes uw1434 ⟨rfl, rfl, by decide, by decide⟩ 0 rfl rfl rfl rfl rfl (Nat.le_of_ble_eq_true rfl) ⟨Nat.zero_le _, Nat.zero_le _⟩ dX10_readsCompared_90 (fun ws90 k90 => ?_)
            obtain ⟨codeMany_90, said_90, kr_codeMany_90, r_said_90, kp0_90, kp1_90, rfl⟩ := k90
            have hR : RD lo said_90 codeMany_90 waitsAt_79 waiting_79 1 := by rw [kp1_90, kp0_90]; exact RD.note kp0_79 _ 1 (Or.inr (Or.inr (Or.inr ⟨by omega, by omega, by omega, by omega⟩)))
            have hSB : SB lo v_said said_90 := by rw [kp1_90]; exact SB.up (SB.trans kp6_1 kp6_79 (Int.le_refl _)) (by omega) (by omega)
            refine g_aload_n X dX10_readsCompared_93 1 rfl ?_
            refine g_callVV0 X (c_X10_endsPiece l D cI cB cJ h q  (lo := lo) (by omega) (by omega) (by omega) r_said_90 r_waitsAt_79 (by first | assumption | omega) (by first | assumption | omega) (by first | assumption | omega)) cv_X10_endsPiece uw1464 ⟨rfl, rfl, by decide, by decide⟩ 0 rfl rfl rfl rfl rfl (Nat.le_of_ble_eq_true rfl) ⟨Nat.zero_le _, Nat.zero_le _⟩ dX10_readsCompared_94 (fun ws94 k94 => ?_)
            obtain ⟨open_94, codeMany_94, waiting_94, said_94, kr_open_94, kr_codeMany_94, kr_waiting_94, r_said_94, kp0_94, kp1_94, kp2_94, kp3_94, kp4_94, rfl⟩ := k94
            have hSB2 := SB.trans hSB kp4_94 (Int.le_refl _)
            have hPP : ∀ j : Nat, waiting_94 ≤ (j : Int) → (j : Int) < v_waiting → v_waitsAt j < 11534336 := fun j h1 h2 => by have h3 := kp3_94 j h1 (by omega); rw [hS1 j h2] at h3; exact h3
            refine g_iconst X dX10_readsCompared_97 ?_
            exact hQ _ _ _ _ dX10_readsCompared_98 ⟨by omega, ⟨place0_79, fault_79, number0_79, open_94, codeMany_94, waiting_94, said_94, waitsAt_79, (by omega), (by omega), (by omega), (by omega), (by omega), (by omega), r_said_94, r_waitsAt_79, (by intro hr; first | assumption | (exfalso; omega) | omega), (by intro hr; first | assumption | (exfalso; omega) | omega), (by first | assumption | omega), (by intro hr; first | assumption | (exfalso; omega) | omega), (by intro hr; first | assumption | (exfalso; omega) | omega), (by intro hr; first | assumption | (exfalso; omega) | omega), (by first | assumption | exact SB.refl _ _ | exact kp6_1 | exact SB.trans kp6_1 kp6_79 (Int.le_refl _)), (by intro hr; first | assumption | (exfalso; omega) | omega), (by first | assumption | omega), rfl⟩⟩
          · clear kb_79
            clear kp0_79
            clear kp1_79
            clear kp3_79
            clear kp4_79
            clear kp5_79
            refine g_iconst X dX10_readsCompared_85 ?_
            exact hQ _ _ _ _ dX10_readsCompared_86 ⟨by omega, ⟨place0_79, fault_79, number0_79, open_79, codeMany_79, waiting_79, said_79, waitsAt_79, (by omega), (by omega), (by omega), (by omega), (by omega), (by omega), r_said_79, r_waitsAt_79, (by intro hr; first | assumption | (exfalso; omega) | omega), (by intro hr; first | assumption | (exfalso; omega) | omega), (by first | assumption | omega), (by intro hr; first | assumption | (exfalso; omega) | omega), (by intro hr; first | assumption | (exfalso; omega) | omega), (by intro hr; first | assumption | (exfalso; omega) | omega), (by first | assumption | exact SB.refl _ _ | exact kp6_1 | exact SB.trans kp6_1 kp6_79 (Int.le_refl _)), (by intro hr; first | assumption | (exfalso; omega) | omega), (by first | assumption | omega), rfl⟩⟩
        · refine g_aload_n X dX10_readsCompared_58 1 rfl ?_
          refine g_iconst X dX10_readsCompared_59 ?_
          refine g_aload_n X dX10_readsCompared_60 1 rfl ?_
          refine gM_get X 0 rfl 11 (by decide) uw1190 rfl dX10_readsCompared_61 ?_
          refine g_callVI0 X (c_X10_wrongAt l D cI cB cJ h q (p0 := 1) (p1 := place0_1) (by omega) (by first | assumption | omega) (by first | assumption | omega) (by first | assumption | omega) (by first | assumption | omega)) cv_X10_wrongAt uw1409 ⟨rfl, rfl, by decide, by decide⟩ 0 rfl rfl rfl rfl rfl (Nat.le_of_ble_eq_true rfl) ⟨Nat.zero_le _, Nat.zero_le _⟩ dX10_readsCompared_64 (fun t64 ws64 k64 => ?_)
          obtain ⟨kb_64, ⟨fault_64, kr_fault_64, kp0_64, kp1_64, rfl⟩⟩ := k64
          exact hQ _ _ _ _ dX10_readsCompared_67 ⟨by omega, ⟨place0_1, fault_64, number0_1, open_1, codeMany_1, waiting_1, said_1, waitsAt_1, (by omega), (by omega), (by omega), (by omega), (by omega), (by omega), r_said_1, r_waitsAt_1, (by intro hr; first | assumption | (exfalso; omega) | omega), (by intro hr; first | assumption | (exfalso; omega) | omega), (by first | assumption | omega), (by intro hr; first | assumption | (exfalso; omega) | omega), (by intro hr; first | assumption | (exfalso; omega) | omega), (by intro hr; first | assumption | (exfalso; omega) | omega), (by first | assumption | exact SB.refl _ _ | exact kp6_1 | exact SB.trans kp6_1 kp6_79 (Int.le_refl _)), (by intro hr; first | assumption | (exfalso; omega) | omega), (by first | assumption | omega), rfl⟩⟩
    · refine g_bipush X (z := 7) dX10_readsCompared_18 (by decide) ?_
      refine g_goto X (tgt := 52) dX10_readsCompared_20 (by decide) ?_
      refine g_istore_n X (lv' := [(1, vI 7), (0, .ref h)]) dX10_readsCompared_52 (by decide) rfl ?_
      refine g_iload_n X dX10_readsCompared_53 0 rfl ?_
      refine g_iconst X dX10_readsCompared_54 ?_
      refine g_icmp_ne X (tgt := 68) dX10_readsCompared_55 (by decide) (by omega) (by omega) (fun c55 => ?_) (fun c55 => ?_)
      · have hG : Ge 10485760 waitsAt_1 waiting_1 := by rw [kp4_1]; exact Ge.same hp5 kp5_1
        have hb1 := cw_bd 11534336 waitsAt_1 waiting_1.toNat
        refine g_aload_n X dX10_readsCompared_68 1 rfl ?_
        refine g_aload_n X dX10_readsCompared_69 1 rfl ?_
        refine gM_get X 0 rfl 11 (by decide) uw1190 rfl dX10_readsCompared_70 ?_
        refine g_iconst X dX10_readsCompared_73 ?_
        refine g_iadd X dX10_readsCompared_74 ?_
        refine gM_put X 0 rfl 11 (by decide) uw1190 rfl rfl rfl (Nat.le_of_ble_eq_true rfl) dX10_readsCompared_75 (ws2 := (wX10 cI cB cJ h q v_stalls v_claimMany v_taped (place0_1 + 1) v_length0 fault_1 number0_1 open_1 codeMany_1 waiting_1 v_saidMany v_clauses v_newMany v_newStalls v_lines v_salesNow v_outNow v_isKept v_keptStalls v_now v_aside v_kept v_oneOf v_otherOf v_signOf v_byOf v_tape said_1 waitsAt_1 v_saidLetter v_saidFrom v_saidHalf v_saidTo v_codes v_clauseOf v_codeFrom v_codeHalf v_codeTo v_stack v_facts v_newOne v_newOther v_newSign v_newBy v_moreOf v_firstOf v_toldOf v_mostOf v_mostThen v_sumTo v_rowFrom v_ordersOf v_lessOf v_weightOf v_rowNow v_slowRow v_fastRow v_lineNow v_firstLine v_freeBy v_heldBy v_heightOf v_upTo v_downTo v_oftenOf v_newUpper v_newLower)) rfl ?_
        refine g_aload_n X dX10_readsCompared_78 1 rfl ?_
        refine g_callVI0 X (c_X10_readsSum l D cI cB cJ h q  (lo := lo) (gb := 1) (by omega) (by omega) (by omega) (by omega) (by omega) (by omega) (by omega) r_v_tape r_said_1 r_waitsAt_1 (by first | assumption | omega) (by first | assumption | omega) (by first | assumption | omega) (by first | assumption | omega) (by first | assumption | omega) (by first | assumption | omega) (by first | assumption | omega)) cv_X10_readsSum uw1413 ⟨rfl, rfl, by decide, by decide⟩ 0 rfl rfl rfl rfl rfl (Nat.le_of_ble_eq_true rfl) ⟨Nat.zero_le _, Nat.zero_le _⟩ dX10_readsCompared_79 (fun t79 ws79 k79 => ?_)
        obtain ⟨kb_79, ⟨place0_79, fault_79, number0_79, open_79, codeMany_79, waiting_79, said_79, waitsAt_79, kr_place0_79, kr_fault_79, kr_number0_79, kr_open_79, kr_codeMany_79, kr_waiting_79, r_said_79, r_waitsAt_79, kp0_79, kp1_79, kp2_79, kp3_79, kp4_79, kp5_79, kp6_79, kp7_79, rfl⟩⟩ := k79
        refine g_if_ne X (tgt := 87) dX10_readsCompared_82 (by decide) (by omega) (fun c82 => ?_) (fun c82 => ?_)
        · replace kb_79 := kb_79.resolve_left (fun h => c82 h)
          replace kp0_79 := kp0_79 kb_79
          replace kp1_79 := kp1_79 kb_79
          replace kp3_79 := kp3_79 kb_79
          replace kp4_79 := kp4_79 kb_79
          replace kp5_79 := kp5_79 kb_79
          have hS1 := SB.trans kp5_1 kp5_79 (by omega)
          have hb79 := cw_bd 11534336 waitsAt_79 waiting_79.toNat
          have hbd := kp0_79.bd
          refine g_aload_n X dX10_readsCompared_87 1 rfl ?_
          refine g_iload_n X dX10_readsCompared_88 0 rfl ?_
          refine g_iconst X dX10_readsCompared_89 ?_
          refine g_callVV0 X (c_X10_notes l D cI cB cJ h q (p0 := 7) (p1 := 0) (by omega) r_said_79 (by first | assumption | omega) (by first | assumption | omega) (by first | assumption | omega) (by first | assumption | omega) (by first | assumption | omega)) cv_X10_notes uw1434 ⟨rfl, rfl, by decide, by decide⟩ 0 rfl rfl rfl rfl rfl (Nat.le_of_ble_eq_true rfl) ⟨Nat.zero_le _, Nat.zero_le _⟩ dX10_readsCompared_90 (fun ws90 k90 => ?_)
          obtain ⟨codeMany_90, said_90, kr_codeMany_90, r_said_90, kp0_90, kp1_90, rfl⟩ := k90
          have hR : RD lo said_90 codeMany_90 waitsAt_79 waiting_79 1 := by rw [kp1_90, kp0_90]; exact RD.note kp0_79 _ 1 (Or.inr (Or.inr (Or.inr ⟨by omega, by omega, by omega, by omega⟩)))
          have hSB : SB lo v_said said_90 := by rw [kp1_90]; exact SB.up (SB.trans kp6_1 kp6_79 (Int.le_refl _)) (by omega) (by omega)
          refine g_aload_n X dX10_readsCompared_93 1 rfl ?_
          refine g_callVV0 X (c_X10_endsPiece l D cI cB cJ h q  (lo := lo) (by omega) (by omega) (by omega) r_said_90 r_waitsAt_79 (by first | assumption | omega) (by first | assumption | omega) (by first | assumption | omega)) cv_X10_endsPiece uw1464 ⟨rfl, rfl, by decide, by decide⟩ 0 rfl rfl rfl rfl rfl (Nat.le_of_ble_eq_true rfl) ⟨Nat.zero_le _, Nat.zero_le _⟩ dX10_readsCompared_94 (fun ws94 k94 => ?_)
          obtain ⟨open_94, codeMany_94, waiting_94, said_94, kr_open_94, kr_codeMany_94, kr_waiting_94, r_said_94, kp0_94, kp1_94, kp2_94, kp3_94, kp4_94, rfl⟩ := k94
          have hSB2 := SB.trans hSB kp4_94 (Int.le_refl _)
          have hPP : ∀ j : Nat, waiting_94 ≤ (j : Int) → (j : Int) < v_waiting → v_waitsAt j < 11534336 := fun j h1 h2 => by have h3 := kp3_94 j h1 (by omega); rw [hS1 j h2] at h3; exact h3
          refine g_iconst X dX10_readsCompared_97 ?_
          exact hQ _ _ _ _ dX10_readsCompared_98 ⟨by omega, ⟨place0_79, fault_79, number0_79, open_94, codeMany_94, waiting_94, said_94, waitsAt_79, (by omega), (by omega), (by omega), (by omega), (by omega), (by omega), r_said_94, r_waitsAt_79, (by intro hr; first | assumption | (exfalso; omega) | omega), (by intro hr; first | assumption | (exfalso; omega) | omega), (by first | assumption | omega), (by intro hr; first | assumption | (exfalso; omega) | omega), (by intro hr; first | assumption | (exfalso; omega) | omega), (by intro hr; first | assumption | (exfalso; omega) | omega), (by first | assumption | exact SB.refl _ _ | exact kp6_1 | exact SB.trans kp6_1 kp6_79 (Int.le_refl _)), (by intro hr; first | assumption | (exfalso; omega) | omega), (by first | assumption | omega), rfl⟩⟩
        · clear kb_79
          clear kp0_79
          clear kp1_79
          clear kp3_79
          clear kp4_79
          clear kp5_79
          refine g_iconst X dX10_readsCompared_85 ?_
          exact hQ _ _ _ _ dX10_readsCompared_86 ⟨by omega, ⟨place0_79, fault_79, number0_79, open_79, codeMany_79, waiting_79, said_79, waitsAt_79, (by omega), (by omega), (by omega), (by omega), (by omega), (by omega), r_said_79, r_waitsAt_79, (by intro hr; first | assumption | (exfalso; omega) | omega), (by intro hr; first | assumption | (exfalso; omega) | omega), (by first | assumption | omega), (by intro hr; first | assumption | (exfalso; omega) | omega), (by intro hr; first | assumption | (exfalso; omega) | omega), (by intro hr; first | assumption | (exfalso; omega) | omega), (by first | assumption | exact SB.refl _ _ | exact kp6_1 | exact SB.trans kp6_1 kp6_79 (Int.le_refl _)), (by intro hr; first | assumption | (exfalso; omega) | omega), (by first | assumption | omega), rfl⟩⟩
      · refine g_aload_n X dX10_readsCompared_58 1 rfl ?_
        refine g_iconst X dX10_readsCompared_59 ?_
        refine g_aload_n X dX10_readsCompared_60 1 rfl ?_
        refine gM_get X 0 rfl 11 (by decide) uw1190 rfl dX10_readsCompared_61 ?_
        refine g_callVI0 X (c_X10_wrongAt l D cI cB cJ h q (p0 := 1) (p1 := place0_1) (by omega) (by first | assumption | omega) (by first | assumption | omega) (by first | assumption | omega) (by first | assumption | omega)) cv_X10_wrongAt uw1409 ⟨rfl, rfl, by decide, by decide⟩ 0 rfl rfl rfl rfl rfl (Nat.le_of_ble_eq_true rfl) ⟨Nat.zero_le _, Nat.zero_le _⟩ dX10_readsCompared_64 (fun t64 ws64 k64 => ?_)
        obtain ⟨kb_64, ⟨fault_64, kr_fault_64, kp0_64, kp1_64, rfl⟩⟩ := k64
        exact hQ _ _ _ _ dX10_readsCompared_67 ⟨by omega, ⟨place0_1, fault_64, number0_1, open_1, codeMany_1, waiting_1, said_1, waitsAt_1, (by omega), (by omega), (by omega), (by omega), (by omega), (by omega), r_said_1, r_waitsAt_1, (by intro hr; first | assumption | (exfalso; omega) | omega), (by intro hr; first | assumption | (exfalso; omega) | omega), (by first | assumption | omega), (by intro hr; first | assumption | (exfalso; omega) | omega), (by intro hr; first | assumption | (exfalso; omega) | omega), (by intro hr; first | assumption | (exfalso; omega) | omega), (by first | assumption | exact SB.refl _ _ | exact kp6_1 | exact SB.trans kp6_1 kp6_79 (Int.le_refl _)), (by intro hr; first | assumption | (exfalso; omega) | omega), (by first | assumption | omega), rfl⟩⟩
  · clear kb_1
    clear kp0_1
    clear kp1_1
    clear kp3_1
    clear kp4_1
    clear kp5_1
    refine g_iconst X dX10_readsCompared_7 ?_
    exact hQ _ _ _ _ dX10_readsCompared_8 ⟨by omega, ⟨place0_1, fault_1, number0_1, open_1, codeMany_1, waiting_1, said_1, waitsAt_1, (by omega), (by omega), (by omega), (by omega), (by omega), (by omega), r_said_1, r_waitsAt_1, (by intro hr; first | assumption | (exfalso; omega) | omega), (by intro hr; first | assumption | (exfalso; omega) | omega), (by first | assumption | omega), (by intro hr; first | assumption | (exfalso; omega) | omega), (by intro hr; first | assumption | (exfalso; omega) | omega), (by intro hr; first | assumption | (exfalso; omega) | omega), (by first | assumption | exact SB.refl _ _ | exact kp6_1 | exact SB.trans kp6_1 kp6_79 (Int.le_refl _)), (by intro hr; first | assumption | (exfalso; omega) | omega), (by first | assumption | omega), rfl⟩⟩
set_option maxHeartbeats 8000000 in
set_option maxRecDepth 100000 in
theorem c_X10_readsCondition (l : Launch) (D : va_G) (cI cB cJ : ClassId) (h : Nat) (q : Nat → Nat) {v_stalls v_claimMany v_taped v_place0 v_length0 v_fault v_number0 v_open v_codeMany v_waiting v_saidMany v_clauses v_newMany v_newStalls v_lines v_salesNow v_outNow v_isKept v_keptStalls : Int} {v_now v_aside v_kept v_oneOf v_otherOf v_signOf v_byOf v_tape v_said v_waitsAt v_saidLetter v_saidFrom v_saidHalf v_saidTo v_codes v_clauseOf v_codeFrom v_codeHalf v_codeTo v_stack v_facts v_newOne v_newOther v_newSign v_newBy v_moreOf v_firstOf v_toldOf v_mostOf v_mostThen v_sumTo v_rowFrom v_ordersOf v_lessOf v_weightOf v_rowNow v_slowRow v_fastRow v_lineNow v_firstLine v_freeBy v_heldBy v_heightOf v_upTo v_downTo v_oftenOf v_newUpper v_newLower : Nat → Int} (kr_v_place0 : 0 ≤ v_place0 ∧ v_place0 ≤ 260) (kr_v_length0 : 0 ≤ v_length0 ∧ v_length0 ≤ 260) (kr_v_fault : (-1000000) ≤ v_fault ∧ v_fault ≤ 1000000) (kr_v_number0 : 0 ≤ v_number0 ∧ v_number0 ≤ 99999) (kr_v_open : (-2147483648) ≤ v_open ∧ v_open ≤ 2147483647) (kr_v_codeMany : 0 ≤ v_codeMany ∧ v_codeMany ≤ 260) (kr_v_waiting : 0 ≤ v_waiting ∧ v_waiting ≤ 260) (r_v_tape : RA (-128) 127 v_tape) (r_v_said : RA 0 16777215 v_said) (r_v_waitsAt : RA 0 16777215 v_waitsAt) (hp0 : v_codeMany ≤ v_place0) (hp1 : v_place0 ≤ v_length0) (hp2 : v_length0 ≤ 240) : CtI l yX10_readsCondition cX10_readsCondition 1 (some .boolean) ⟨6, 0, 0, 125⟩ D (TY cI cB cJ) (wX10 cI cB cJ h q v_stalls v_claimMany v_taped v_place0 v_length0 v_fault v_number0 v_open v_codeMany v_waiting v_saidMany v_clauses v_newMany v_newStalls v_lines v_salesNow v_outNow v_isKept v_keptStalls v_now v_aside v_kept v_oneOf v_otherOf v_signOf v_byOf v_tape v_said v_waitsAt v_saidLetter v_saidFrom v_saidHalf v_saidTo v_codes v_clauseOf v_codeFrom v_codeHalf v_codeTo v_stack v_facts v_newOne v_newOther v_newSign v_newBy v_moreOf v_firstOf v_toldOf v_mostOf v_mostThen v_sumTo v_rowFrom v_ordersOf v_lessOf v_weightOf v_rowNow v_slowRow v_fastRow v_lineNow v_firstLine v_freeBy v_heldBy v_heightOf v_upTo v_downTo v_oftenOf v_newUpper v_newLower) [.ref h] (fun z ws' => (z = 0 ∨ z = 1) ∧ ∃ n_place0 : Int, ∃ n_fault : Int, ∃ n_number0 : Int, ∃ n_open : Int, ∃ n_codeMany : Int, ∃ n_waiting : Int, ∃ n_said : Nat → Int, ∃ n_waitsAt : Nat → Int, (0 ≤ n_place0 ∧ n_place0 ≤ 260) ∧ ((-1000000) ≤ n_fault ∧ n_fault ≤ 1000000) ∧ (0 ≤ n_number0 ∧ n_number0 ≤ 99999) ∧ ((-2147483648) ≤ n_open ∧ n_open ≤ 2147483647) ∧ (0 ≤ n_codeMany ∧ n_codeMany ≤ 260) ∧ (0 ≤ n_waiting ∧ n_waiting ≤ 260) ∧ (RA 0 16777215 n_said) ∧ (RA 0 16777215 n_waitsAt) ∧ (z = 1 → clOK n_said v_codeMany n_codeMany) ∧ (z = 1 → n_codeMany ≤ n_place0) ∧ (n_place0 ≤ v_length0) ∧ (z = 1 → v_place0 < n_place0) ∧ (SB v_codeMany v_said n_said) ∧ (v_place0 ≤ n_place0) ∧ (ws' = (wX10 cI cB cJ h q v_stalls v_claimMany v_taped n_place0 v_length0 n_fault n_number0 n_open n_codeMany n_waiting v_saidMany v_clauses v_newMany v_newStalls v_lines v_salesNow v_outNow v_isKept v_keptStalls v_now v_aside v_kept v_oneOf v_otherOf v_signOf v_byOf v_tape n_said n_waitsAt v_saidLetter v_saidFrom v_saidHalf v_saidTo v_codes v_clauseOf v_codeFrom v_codeHalf v_codeTo v_stack v_facts v_newOne v_newOther v_newSign v_newBy v_moreOf v_firstOf v_toldOf v_mostOf v_mostThen v_sumTo v_rowFrom v_ordersOf v_lessOf v_weightOf v_rowNow v_slowRow v_fastRow v_lineNow v_firstLine v_freeBy v_heldBy v_heightOf v_upTo v_downTo v_oftenOf v_newUpper v_newLower))) := by
  refine hdrZ (own := RX10) rfl (by decide +kernel) (Nat.le_of_ble_eq_true rfl) ?_
  intro p e s m args below meth c Q A X hQ
  refine g_lvE (lv2 := [(0, .ref h)]) rfl ?_
  refine g_aload_n X dX10_readsCondition_0 0 rfl ?_
  refine g_callVI0 X (c_X10_here l D cI cB cJ h q  (by omega) (by omega) r_v_tape) cv_X10_here uw1405 ⟨rfl, rfl, by decide, by decide⟩ 0 rfl rfl rfl rfl rfl (Nat.le_of_ble_eq_true rfl) ⟨Nat.zero_le _, Nat.zero_le _⟩ dX10_readsCondition_1 (fun t1 ws1 k1 => ?_)
  obtain ⟨kp0_1, kp1_1, kp2_1, rfl⟩ := k1
  refine g_bipush X (z := 40) dX10_readsCondition_4 (by decide) ?_
  refine g_icmp_eq X (tgt := 19) dX10_readsCondition_6 (by decide) (by omega) (by omega) (fun c6 => ?_) (fun c6 => ?_)
  · refine g_aload_n X dX10_readsCondition_19 0 rfl ?_
    refine g_iconst X dX10_readsCondition_20 ?_
    refine gM_put X 0 rfl 15 (by decide) uw1194 rfl rfl rfl (Nat.le_of_ble_eq_true rfl) dX10_readsCondition_21 (ws2 := (wX10 cI cB cJ h q v_stalls v_claimMany v_taped v_place0 v_length0 v_fault v_number0 0 v_codeMany v_waiting v_saidMany v_clauses v_newMany v_newStalls v_lines v_salesNow v_outNow v_isKept v_keptStalls v_now v_aside v_kept v_oneOf v_otherOf v_signOf v_byOf v_tape v_said v_waitsAt v_saidLetter v_saidFrom v_saidHalf v_saidTo v_codes v_clauseOf v_codeFrom v_codeHalf v_codeTo v_stack v_facts v_newOne v_newOther v_newSign v_newBy v_moreOf v_firstOf v_toldOf v_mostOf v_mostThen v_sumTo v_rowFrom v_ordersOf v_lessOf v_weightOf v_rowNow v_slowRow v_fastRow v_lineNow v_firstLine v_freeBy v_heldBy v_heightOf v_upTo v_downTo v_oftenOf v_newUpper v_newLower)) rfl ?_
    refine g_aload_n X dX10_readsCondition_24 0 rfl ?_
    refine g_iconst X dX10_readsCondition_25 ?_
    refine gM_put X 0 rfl 17 (by decide) uw1196 rfl rfl rfl (Nat.le_of_ble_eq_true rfl) dX10_readsCondition_26 (ws2 := (wX10 cI cB cJ h q v_stalls v_claimMany v_taped v_place0 v_length0 v_fault v_number0 0 v_codeMany 0 v_saidMany v_clauses v_newMany v_newStalls v_lines v_salesNow v_outNow v_isKept v_keptStalls v_now v_aside v_kept v_oneOf v_otherOf v_signOf v_byOf v_tape v_said v_waitsAt v_saidLetter v_saidFrom v_saidHalf v_saidTo v_codes v_clauseOf v_codeFrom v_codeHalf v_codeTo v_stack v_facts v_newOne v_newOther v_newSign v_newBy v_moreOf v_firstOf v_toldOf v_mostOf v_mostThen v_sumTo v_rowFrom v_ordersOf v_lessOf v_weightOf v_rowNow v_slowRow v_fastRow v_lineNow v_firstLine v_freeBy v_heldBy v_heightOf v_upTo v_downTo v_oftenOf v_newUpper v_newLower)) rfl ?_
    refine g_aload_n X dX10_readsCondition_29 0 rfl ?_
    refine g_bipush X (z := 13) dX10_readsCondition_30 (by decide) ?_
    refine g_callVI0 X (c_X10_opens l D cI cB cJ h q (p0 := 13) (by omega) (by omega) (by omega) (by omega) r_v_waitsAt (by first | assumption | omega) (by first | assumption | omega) (by first | assumption | omega) (by first | assumption | omega)) cv_X10_opens uw1421 ⟨rfl, rfl, by decide, by decide⟩ 0 rfl rfl rfl rfl rfl (Nat.le_of_ble_eq_true rfl) ⟨Nat.zero_le _, Nat.zero_le _⟩ dX10_readsCondition_32 (fun t32 ws32 k32 => ?_)
    obtain ⟨kb_32, ⟨place0_32, fault_32, open_32, waiting_32, waitsAt_32, kr_place0_32, kr_fault_32, kr_open_32, kr_waiting_32, r_waitsAt_32, kp0_32, kp1_32, rfl⟩⟩ := k32
    refine g_if_ne X (tgt := 40) dX10_readsCondition_35 (by decide) (by omega) (fun c35 => ?_) (fun c35 => ?_)
    · replace kb_32 := kb_32.resolve_left (fun h => c35 h)
      replace kp0_32 := kp0_32.resolve_right (fun h => c35 h.1)
      replace kp1_32 := kp1_32 kb_32
      have hR : RD v_codeMany v_said v_codeMany waitsAt_32 waiting_32 0 := by rw [kp1_32, kp0_32.2.2]; exact RD.push (RD.ini _ _ (by omega)) (by omega) (Or.inr (by omega))
      have h11 : cw 11534336 waitsAt_32 waiting_32.toNat = 0 := by rw [kp1_32, kp0_32.2.2]; exact (cw_push_ge _ _ (by omega) (by omega)).trans rfl
      have hG : Ge 10485760 waitsAt_32 waiting_32 := by rw [kp1_32, kp0_32.2.2]; exact Ge.push (fun j hj => by omega) (by omega) (by omega)
      have hW : 13631488 ≤ waitsAt_32 0 := by rw [kp1_32]; show 13631488 ≤ updZ v_waitsAt 0 (1048576 * 13) 0; rw [updZ_s]; decide
      have L40 : ∀ (n : Nat) (place0_40 : Int) (fault_40 : Int) (number0_40 : Int) (open_40 : Int) (codeMany_40 : Int) (waiting_40 : Int) (said_40 : Nat → Int) (waitsAt_40 : Nat → Int), (0 ≤ place0_40 ∧ place0_40 ≤ 260) → ((-1000000) ≤ fault_40 ∧ fault_40 ≤ 1000000) → (0 ≤ number0_40 ∧ number0_40 ≤ 99999) → ((-2147483648) ≤ open_40 ∧ open_40 ≤ 2147483647) → (0 ≤ codeMany_40 ∧ codeMany_40 ≤ 260) → (0 ≤ waiting_40 ∧ waiting_40 ≤ 260) → (RA 0 16777215 said_40) → (RA 0 16777215 waitsAt_40) → (RD v_codeMany said_40 codeMany_40 waitsAt_40 waiting_40 0) → (codeMany_40 + cw 11534336 waitsAt_40 waiting_40.toNat ≤ place0_40) → (waiting_40 ≤ place0_40) → (place0_40 ≤ v_length0) → (v_place0 < place0_40) → (1 ≤ waiting_40) → (Ge 10485760 waitsAt_40 waiting_40) → (13631488 ≤ waitsAt_40 0) → (SB v_codeMany v_said said_40) → (v_length0 - place0_40).toNat < n → GG p l e ⟨6, 0, 0, 125⟩ s m args below meth c 0 0 Q D A s.heap 1 (wX10 cI cB cJ h q v_stalls v_claimMany v_taped place0_40 v_length0 fault_40 number0_40 open_40 codeMany_40 waiting_40 v_saidMany v_clauses v_newMany v_newStalls v_lines v_salesNow v_outNow v_isKept v_keptStalls v_now v_aside v_kept v_oneOf v_otherOf v_signOf v_byOf v_tape said_40 waitsAt_40 v_saidLetter v_saidFrom v_saidHalf v_saidTo v_codes v_clauseOf v_codeFrom v_codeHalf v_codeTo v_stack v_facts v_newOne v_newOther v_newSign v_newBy v_moreOf v_firstOf v_toldOf v_mostOf v_mostThen v_sumTo v_rowFrom v_ordersOf v_lessOf v_weightOf v_rowNow v_slowRow v_fastRow v_lineNow v_firstLine v_freeBy v_heldBy v_heightOf v_upTo v_downTo v_oftenOf v_newUpper v_newLower) 40 [(0, .ref h)] [] := by
        intro n
        induction n with
        | zero => intros; exfalso; omega
        | succ n ih40 =>
          intro place0_40 fault_40 number0_40 open_40 codeMany_40 waiting_40 said_40 waitsAt_40 kr_place0_40 kr_fault_40 kr_number0_40 kr_open_40 kr_codeMany_40 kr_waiting_40 r_said_40 r_waitsAt_40 w40_0 w40_1 w40_2 w40_3 w40_4 w40_5 w40_6 w40_7 w40_8 wm40
          have hb40 := cw_bd 11534336 waitsAt_40 waiting_40.toNat
          have hbd := w40_0.bd
          refine g_aload_n X dX10_readsCondition_40 0 rfl ?_
          refine g_callVI0 X (c_X10_here l D cI cB cJ h q  (by omega) (by omega) r_v_tape) cv_X10_here uw1405 ⟨rfl, rfl, by decide, by decide⟩ 0 rfl rfl rfl rfl rfl (Nat.le_of_ble_eq_true rfl) ⟨Nat.zero_le _, Nat.zero_le _⟩ dX10_readsCondition_41 (fun t41 ws41 k41 => ?_)
          obtain ⟨kp0_41, kp1_41, kp2_41, rfl⟩ := k41
          refine g_bipush X (z := 33) dX10_readsCondition_44 (by decide) ?_
          refine g_icmp_eq X (tgt := 58) dX10_readsCondition_46 (by decide) (by omega) (by omega) (fun c46 => ?_) (fun c46 => ?_)
          · refine g_aload_n X dX10_readsCondition_58 0 rfl ?_
            refine g_aload_n X dX10_readsCondition_59 0 rfl ?_
            refine g_callVI0 X (c_X10_here l D cI cB cJ h q  (by omega) (by omega) r_v_tape) cv_X10_here uw1405 ⟨rfl, rfl, by decide, by decide⟩ 0 rfl rfl rfl rfl rfl (Nat.le_of_ble_eq_true rfl) ⟨Nat.zero_le _, Nat.zero_le _⟩ dX10_readsCondition_60 (fun t60 ws60 k60 => ?_)
            obtain ⟨kp0_60, kp1_60, kp2_60, rfl⟩ := k60
            refine g_bipush X (z := 33) dX10_readsCondition_63 (by decide) ?_
            refine g_icmp_ne X (tgt := 73) dX10_readsCondition_65 (by decide) (by omega) (by omega) (fun c65 => ?_) (fun c65 => ?_)
            · refine g_bipush X (z := 13) dX10_readsCondition_73 (by decide) ?_
              refine g_callVI0 X (c_X10_opens l D cI cB cJ h q (p0 := 13) (by omega) (by omega) (by omega) (by omega) r_waitsAt_40 (by first | assumption | omega) (by first | assumption | omega) (by first | assumption | omega) (by first | assumption | omega)) cv_X10_opens uw1421 ⟨rfl, rfl, by decide, by decide⟩ 0 rfl rfl rfl rfl rfl (Nat.le_of_ble_eq_true rfl) ⟨Nat.zero_le _, Nat.zero_le _⟩ dX10_readsCondition_75 (fun t75 ws75 k75 => ?_)
              obtain ⟨kb_75, ⟨place0_75, fault_75, open_75, waiting_75, waitsAt_75, kr_place0_75, kr_fault_75, kr_open_75, kr_waiting_75, r_waitsAt_75, kp0_75, kp1_75, rfl⟩⟩ := k75
              refine g_if_ne X (tgt := 40) dX10_readsCondition_78 (by decide) (by omega) (fun c78 => ?_) (fun c78 => ?_)
              · replace kb_75 := kb_75.resolve_left (fun h => c78 h)
                replace kp0_75 := kp0_75.resolve_right (fun h => c78 h.1)
                replace kp1_75 := kp1_75 kb_75
                try (have hR : RD v_codeMany said_40 codeMany_40 waitsAt_75 waiting_75 0 := by rw [kp1_75, kp0_75.2.2]; exact RD.push w40_0 (by omega) (by omega))
                try (have h11 : cw 11534336 waitsAt_75 waiting_75.toNat ≤ cw 11534336 waitsAt_40 waiting_40.toNat + 1 := by rw [kp1_75, kp0_75.2.2]; first | exact Int.le_of_eq (cw_push_lt _ _ (by omega) (by omega)) | (rw [cw_push_ge _ _ (by omega) (by omega)]; omega))
                try (have hG : Ge 10485760 waitsAt_75 waiting_75 := by rw [kp1_75, kp0_75.2.2]; exact Ge.push w40_6 (by omega) (by omega))
                try (have hW : 13631488 ≤ waitsAt_75 0 := by rw [kp1_75, updZ_n _ _ (by omega)]; exact w40_7)
                exact ih40 place0_75 fault_75 number0_40 open_75 codeMany_40 waiting_75 said_40 waitsAt_75 (by omega) (by omega) (by omega) (by omega) (by omega) (by omega) r_said_40 r_waitsAt_75 (by first | assumption | omega) (by first | assumption | omega) (by first | assumption | omega) (by first | assumption | omega) (by first | assumption | omega) (by first | assumption | omega) (by first | assumption | omega) (by first | assumption | omega) (by first | assumption | exact SB.refl _ _ | omega) (by omega)
              · clear kb_75
                replace kp0_75 := (kp0_75.resolve_left (fun h => absurd h.1 (by omega))).2
                clear kp1_75
                refine g_iconst X dX10_readsCondition_81 ?_
                exact hQ _ _ _ _ dX10_readsCondition_82 ⟨by omega, ⟨place0_75, fault_75, number0_40, open_75, codeMany_40, waiting_75, said_40, waitsAt_75, (by omega), (by omega), (by omega), (by omega), (by omega), (by omega), r_said_40, r_waitsAt_75, (by intro hr; first | (exfalso; omega) | exact RD.close hR1 (by omega) (by omega)), (by intro hr; first | assumption | (exfalso; omega) | omega), (by first | assumption | omega), (by intro hr; first | assumption | (exfalso; omega) | omega), (by first | assumption | exact SB.refl _ _ | exact SB.trans w40_8 kp6_84 (Int.le_refl _) | exact SB.trans w92_8 kp5_103 (Int.le_refl _)), (by first | assumption | omega), rfl⟩⟩
            · refine g_bipush X (z := 10) dX10_readsCondition_68 (by decide) ?_
              refine g_goto X (tgt := 75) dX10_readsCondition_70 (by decide) ?_
              refine g_callVI0 X (c_X10_opens l D cI cB cJ h q (p0 := 10) (by omega) (by omega) (by omega) (by omega) r_waitsAt_40 (by first | assumption | omega) (by first | assumption | omega) (by first | assumption | omega) (by first | assumption | omega)) cv_X10_opens uw1421 ⟨rfl, rfl, by decide, by decide⟩ 0 rfl rfl rfl rfl rfl (Nat.le_of_ble_eq_true rfl) ⟨Nat.zero_le _, Nat.zero_le _⟩ dX10_readsCondition_75 (fun t75 ws75 k75 => ?_)
              obtain ⟨kb_75, ⟨place0_75, fault_75, open_75, waiting_75, waitsAt_75, kr_place0_75, kr_fault_75, kr_open_75, kr_waiting_75, r_waitsAt_75, kp0_75, kp1_75, rfl⟩⟩ := k75
              refine g_if_ne X (tgt := 40) dX10_readsCondition_78 (by decide) (by omega) (fun c78 => ?_) (fun c78 => ?_)
              · replace kb_75 := kb_75.resolve_left (fun h => c78 h)
                replace kp0_75 := kp0_75.resolve_right (fun h => c78 h.1)
                replace kp1_75 := kp1_75 kb_75
                try (have hR : RD v_codeMany said_40 codeMany_40 waitsAt_75 waiting_75 0 := by rw [kp1_75, kp0_75.2.2]; exact RD.push w40_0 (by omega) (by omega))
                try (have h11 : cw 11534336 waitsAt_75 waiting_75.toNat ≤ cw 11534336 waitsAt_40 waiting_40.toNat + 1 := by rw [kp1_75, kp0_75.2.2]; first | exact Int.le_of_eq (cw_push_lt _ _ (by omega) (by omega)) | (rw [cw_push_ge _ _ (by omega) (by omega)]; omega))
                try (have hG : Ge 10485760 waitsAt_75 waiting_75 := by rw [kp1_75, kp0_75.2.2]; exact Ge.push w40_6 (by omega) (by omega))
                try (have hW : 13631488 ≤ waitsAt_75 0 := by rw [kp1_75, updZ_n _ _ (by omega)]; exact w40_7)
                exact ih40 place0_75 fault_75 number0_40 open_75 codeMany_40 waiting_75 said_40 waitsAt_75 (by omega) (by omega) (by omega) (by omega) (by omega) (by omega) r_said_40 r_waitsAt_75 (by first | assumption | omega) (by first | assumption | omega) (by first | assumption | omega) (by first | assumption | omega) (by first | assumption | omega) (by first | assumption | omega) (by first | assumption | omega) (by first | assumption | omega) (by first | assumption | exact SB.refl _ _ | omega) (by omega)
              · clear kb_75
                replace kp0_75 := (kp0_75.resolve_left (fun h => absurd h.1 (by omega))).2
                clear kp1_75
                refine g_iconst X dX10_readsCondition_81 ?_
                exact hQ _ _ _ _ dX10_readsCondition_82 ⟨by omega, ⟨place0_75, fault_75, number0_40, open_75, codeMany_40, waiting_75, said_40, waitsAt_75, (by omega), (by omega), (by omega), (by omega), (by omega), (by omega), r_said_40, r_waitsAt_75, (by intro hr; first | (exfalso; omega) | exact RD.close hR1 (by omega) (by omega)), (by intro hr; first | assumption | (exfalso; omega) | omega), (by first | assumption | omega), (by intro hr; first | assumption | (exfalso; omega) | omega), (by first | assumption | exact SB.refl _ _ | exact SB.trans w40_8 kp6_84 (Int.le_refl _) | exact SB.trans w92_8 kp5_103 (Int.le_refl _)), (by first | assumption | omega), rfl⟩⟩
          · refine g_aload_n X dX10_readsCondition_49 0 rfl ?_
            refine g_callVI0 X (c_X10_here l D cI cB cJ h q  (by omega) (by omega) r_v_tape) cv_X10_here uw1405 ⟨rfl, rfl, by decide, by decide⟩ 0 rfl rfl rfl rfl rfl (Nat.le_of_ble_eq_true rfl) ⟨Nat.zero_le _, Nat.zero_le _⟩ dX10_readsCondition_50 (fun t50 ws50 k50 => ?_)
            obtain ⟨kp0_50, kp1_50, kp2_50, rfl⟩ := k50
            refine g_bipush X (z := 40) dX10_readsCondition_53 (by decide) ?_
            refine g_icmp_ne X (tgt := 83) dX10_readsCondition_55 (by decide) (by omega) (by omega) (fun c55 => ?_) (fun c55 => ?_)
            · refine g_aload_n X dX10_readsCondition_83 0 rfl ?_
              refine g_callVI0 X (c_X10_readsCompared l D cI cB cJ h q  (lo := v_codeMany) (by omega) (by omega) (by omega) (by omega) (by omega) (by omega) (by omega) r_v_tape r_said_40 r_waitsAt_40 (by first | assumption | omega) (by first | assumption | omega) (by first | assumption | omega) (by first | assumption | omega) (by first | assumption | omega) (by first | assumption | omega)) cv_X10_readsCompared uw1460 ⟨rfl, rfl, by decide, by decide⟩ 0 rfl rfl rfl rfl rfl (Nat.le_of_ble_eq_true rfl) ⟨Nat.zero_le _, Nat.zero_le _⟩ dX10_readsCondition_84 (fun t84 ws84 k84 => ?_)
              obtain ⟨kb_84, ⟨place0_84, fault_84, number0_84, open_84, codeMany_84, waiting_84, said_84, waitsAt_84, kr_place0_84, kr_fault_84, kr_number0_84, kr_open_84, kr_codeMany_84, kr_waiting_84, r_said_84, r_waitsAt_84, kp0_84, kp1_84, kp2_84, kp3_84, kp4_84, kp5_84, kp6_84, kp7_84, kp8_84, rfl⟩⟩ := k84
              refine g_if_ne X (tgt := 92) dX10_readsCondition_87 (by decide) (by omega) (fun c87 => ?_) (fun c87 => ?_)
              · replace kb_84 := kb_84.resolve_left (fun h => c87 h)
                replace kp0_84 := kp0_84 kb_84
                replace kp1_84 := kp1_84 kb_84
                replace kp3_84 := kp3_84 kb_84
                replace kp4_84 := kp4_84 kb_84
                replace kp5_84 := kp5_84 kb_84
                replace kp7_84 := kp7_84 kb_84
                have hG92 : Ge 10485760 waitsAt_84 waiting_84 := (w40_6.same kp5_84).less kp4_84
                have hw84 : 1 ≤ waiting_84 := by rcases (show waiting_84 ≤ 0 ∨ 1 ≤ waiting_84 by omega) with h | h; (exfalso; have h1 := kp7_84 0 h (by omega); omega); exact h
                have hW92 : 13631488 ≤ waitsAt_84 0 := by rw [kp5_84 0 (by omega)]; exact w40_7
                have hS92 : SB v_codeMany v_said said_84 := SB.trans w40_8 kp6_84 (Int.le_refl _)
                have L92 : ∀ (n : Nat) (place0_92 : Int) (open_92 : Int) (codeMany_92 : Int) (waiting_92 : Int) (said_92 : Nat → Int), (0 ≤ place0_92 ∧ place0_92 ≤ 260) → ((-2147483648) ≤ open_92 ∧ open_92 ≤ 2147483647) → (0 ≤ codeMany_92 ∧ codeMany_92 ≤ 260) → (0 ≤ waiting_92 ∧ waiting_92 ≤ 260) → (RA 0 16777215 said_92) → (RD v_codeMany said_92 codeMany_92 waitsAt_84 waiting_92 1) → (codeMany_92 + cw 11534336 waitsAt_84 waiting_92.toNat ≤ place0_92) → (waiting_92 ≤ place0_92) → (place0_92 ≤ v_length0) → (v_place0 < place0_92) → (1 ≤ waiting_92) → (Ge 10485760 waitsAt_84 waiting_92) → (13631488 ≤ waitsAt_84 0) → (SB v_codeMany v_said said_92) → (place0_40 < place0_92) → (v_length0 - place0_92).toNat < n → GG p l e ⟨6, 0, 0, 125⟩ s m args below meth c 0 0 Q D A s.heap 1 (wX10 cI cB cJ h q v_stalls v_claimMany v_taped place0_92 v_length0 fault_84 number0_84 open_92 codeMany_92 waiting_92 v_saidMany v_clauses v_newMany v_newStalls v_lines v_salesNow v_outNow v_isKept v_keptStalls v_now v_aside v_kept v_oneOf v_otherOf v_signOf v_byOf v_tape said_92 waitsAt_84 v_saidLetter v_saidFrom v_saidHalf v_saidTo v_codes v_clauseOf v_codeFrom v_codeHalf v_codeTo v_stack v_facts v_newOne v_newOther v_newSign v_newBy v_moreOf v_firstOf v_toldOf v_mostOf v_mostThen v_sumTo v_rowFrom v_ordersOf v_lessOf v_weightOf v_rowNow v_slowRow v_fastRow v_lineNow v_firstLine v_freeBy v_heldBy v_heightOf v_upTo v_downTo v_oftenOf v_newUpper v_newLower) 92 [(0, .ref h)] [] := by
                  intro n
                  induction n with
                  | zero => intros; exfalso; omega
                  | succ n ih92 =>
                    intro place0_92 open_92 codeMany_92 waiting_92 said_92 kr_place0_92 kr_open_92 kr_codeMany_92 kr_waiting_92 r_said_92 w92_0 w92_1 w92_2 w92_3 w92_4 w92_5 w92_6 w92_7 w92_8 w92_9 wm92
                    have hb92 := cw_bd 11534336 waitsAt_84 waiting_92.toNat
                    have hbd2 := w92_0.bd
                    refine g_aload_n X dX10_readsCondition_92 0 rfl ?_
                    refine g_callVI0 X (c_X10_here l D cI cB cJ h q  (by omega) (by omega) r_v_tape) cv_X10_here uw1405 ⟨rfl, rfl, by decide, by decide⟩ 0 rfl rfl rfl rfl rfl (Nat.le_of_ble_eq_true rfl) ⟨Nat.zero_le _, Nat.zero_le _⟩ dX10_readsCondition_93 (fun t93 ws93 k93 => ?_)
                    obtain ⟨kp0_93, kp1_93, kp2_93, rfl⟩ := k93
                    refine g_bipush X (z := 41) dX10_readsCondition_96 (by decide) ?_
                    refine g_icmp_ne X (tgt := 152) dX10_readsCondition_98 (by decide) (by omega) (by omega) (fun c98 => ?_) (fun c98 => ?_)
                    · refine g_aload_n X dX10_readsCondition_152 0 rfl ?_
                      refine g_callVI0 X (c_X10_here l D cI cB cJ h q  (by omega) (by omega) r_v_tape) cv_X10_here uw1405 ⟨rfl, rfl, by decide, by decide⟩ 0 rfl rfl rfl rfl rfl (Nat.le_of_ble_eq_true rfl) ⟨Nat.zero_le _, Nat.zero_le _⟩ dX10_readsCondition_153 (fun t153 ws153 k153 => ?_)
                      obtain ⟨kp0_153, kp1_153, kp2_153, rfl⟩ := k153
                      refine g_bipush X (z := 38) dX10_readsCondition_156 (by decide) ?_
                      refine g_icmp_eq X (tgt := 180) dX10_readsCondition_158 (by decide) (by omega) (by omega) (fun c158 => ?_) (fun c158 => ?_)
                      · refine g_aload_n X dX10_readsCondition_180 0 rfl ?_
                        refine g_aload_n X dX10_readsCondition_181 0 rfl ?_
                        refine g_callVI0 X (c_X10_here l D cI cB cJ h q  (by omega) (by omega) r_v_tape) cv_X10_here uw1405 ⟨rfl, rfl, by decide, by decide⟩ 0 rfl rfl rfl rfl rfl (Nat.le_of_ble_eq_true rfl) ⟨Nat.zero_le _, Nat.zero_le _⟩ dX10_readsCondition_182 (fun t182 ws182 k182 => ?_)
                        obtain ⟨kp0_182, kp1_182, kp2_182, rfl⟩ := k182
                        refine g_bipush X (z := 124) dX10_readsCondition_185 (by decide) ?_
                        refine g_icmp_ne X (tgt := 194) dX10_readsCondition_187 (by decide) (by omega) (by omega) (fun c187 => ?_) (fun c187 => ?_)
                        · refine g_iconst X dX10_readsCondition_194 ?_
                          refine g_callVV0 X (c_X10_lands l D cI cB cJ h q (p0 := 0) (lo := v_codeMany) (by omega) (by omega) r_said_92 r_waitsAt_84 (by first | assumption | omega) (by first | assumption | omega)) cv_X10_lands uw1468 ⟨rfl, rfl, by decide, by decide⟩ 0 rfl rfl rfl rfl rfl (Nat.le_of_ble_eq_true rfl) ⟨Nat.zero_le _, Nat.zero_le _⟩ dX10_readsCondition_195 (fun ws195 k195 => ?_)
                          obtain ⟨waiting_195, said_195, kr_waiting_195, r_said_195, kp0_195, kp1_195, kp2_195, kp3_195, kp4_195, kp5_195, rfl⟩ := k195
                          have hw5 : 1 ≤ waiting_195 := by rcases (show waiting_195 ≤ 0 ∨ 1 ≤ waiting_195 by omega) with h | h; (exfalso; have h1 := kp3_195 0 h (by omega); omega); exact h
                          have hb195 := cw_bd 11534336 waitsAt_84 waiting_195.toNat
                          refine g_aload_n X dX10_readsCondition_198 0 rfl ?_
                          refine g_aload_n X dX10_readsCondition_199 0 rfl ?_
                          refine g_callVI0 X (c_X10_here l D cI cB cJ h q  (by omega) (by omega) r_v_tape) cv_X10_here uw1405 ⟨rfl, rfl, by decide, by decide⟩ 0 rfl rfl rfl rfl rfl (Nat.le_of_ble_eq_true rfl) ⟨Nat.zero_le _, Nat.zero_le _⟩ dX10_readsCondition_200 (fun t200 ws200 k200 => ?_)
                          obtain ⟨kp0_200, kp1_200, kp2_200, rfl⟩ := k200
                          refine g_bipush X (z := 38) dX10_readsCondition_203 (by decide) ?_
                          refine g_icmp_ne X (tgt := 213) dX10_readsCondition_205 (by decide) (by omega) (by omega) (fun c205 => ?_) (fun c205 => ?_)
                          · refine g_bipush X (z := 12) dX10_readsCondition_213 (by decide) ?_
                            refine g_callVV0 X (c_X10_jumps l D cI cB cJ h q (p0 := 12) (by omega) (by omega) (by omega) r_said_195 r_waitsAt_84 (by first | assumption | omega) (by first | assumption | omega) (by first | assumption | omega) (by first | assumption | omega) (by first | assumption | omega)) cv_X10_jumps uw1472 ⟨rfl, rfl, by decide, by decide⟩ 0 rfl rfl rfl rfl rfl (Nat.le_of_ble_eq_true rfl) ⟨Nat.zero_le _, Nat.zero_le _⟩ dX10_readsCondition_215 (fun ws215 k215 => ?_)
                            obtain ⟨place0_215, codeMany_215, waiting_215, said_215, waitsAt_215, kr_place0_215, kr_codeMany_215, kr_waiting_215, r_said_215, r_waitsAt_215, kp0_215, kp1_215, kp2_215, kp3_215, kp4_215, rfl⟩ := k215
                            have hR : RD v_codeMany said_215 codeMany_215 waitsAt_215 waiting_215 0 := by rw [kp3_215, kp4_215, kp0_215, kp1_215]; exact RD.jump kp0_195 (by omega) (by omega) (by omega)
                            have h11 : cw 11534336 waitsAt_215 waiting_215.toNat = cw 11534336 waitsAt_84 waiting_195.toNat := by rw [kp4_215, kp1_215]; exact cw_push_ge _ _ (by omega) (by omega)
                            have hG : Ge 10485760 waitsAt_215 waiting_215 := by rw [kp4_215, kp1_215]; exact Ge.push (w92_6.less (by omega)) (by omega) (by omega)
                            have hW : 13631488 ≤ waitsAt_215 0 := by rw [kp4_215, updZ_n _ _ (by omega)]; exact w92_7
                            have hSB : SB v_codeMany v_said said_215 := by rw [kp3_215]; exact SB.up (SB.trans w92_8 kp5_195 (Int.le_refl _)) (by omega) (by omega)
                            refine g_goto X (tgt := 40) dX10_readsCondition_218 (by decide) ?_
                            try (have hR : RD v_codeMany said_215 codeMany_215 waitsAt_215 waiting_215 0 := by rw [kp1_75, kp0_75.2.2]; exact RD.push w40_0 (by omega) (by omega))
                            try (have h11 : cw 11534336 waitsAt_215 waiting_215.toNat ≤ cw 11534336 waitsAt_40 waiting_40.toNat + 1 := by rw [kp1_75, kp0_75.2.2]; first | exact Int.le_of_eq (cw_push_lt _ _ (by omega) (by omega)) | (rw [cw_push_ge _ _ (by omega) (by omega)]; omega))
                            try (have hG : Ge 10485760 waitsAt_215 waiting_215 := by rw [kp1_75, kp0_75.2.2]; exact Ge.push w40_6 (by omega) (by omega))
                            try (have hW : 13631488 ≤ waitsAt_215 0 := by rw [kp1_75, updZ_n _ _ (by omega)]; exact w40_7)
                            exact ih40 place0_215 fault_84 number0_84 open_92 codeMany_215 waiting_215 said_215 waitsAt_215 (by omega) (by omega) (by omega) (by omega) (by omega) (by omega) r_said_215 r_waitsAt_215 (by first | assumption | omega) (by first | assumption | omega) (by first | assumption | omega) (by first | assumption | omega) (by first | assumption | omega) (by first | assumption | omega) (by first | assumption | omega) (by first | assumption | omega) (by first | assumption | exact SB.refl _ _ | omega) (by omega)
                          · refine g_bipush X (z := 11) dX10_readsCondition_208 (by decide) ?_
                            refine g_goto X (tgt := 215) dX10_readsCondition_210 (by decide) ?_
                            refine g_callVV0 X (c_X10_jumps l D cI cB cJ h q (p0 := 11) (by omega) (by omega) (by omega) r_said_195 r_waitsAt_84 (by first | assumption | omega) (by first | assumption | omega) (by first | assumption | omega) (by first | assumption | omega) (by first | assumption | omega)) cv_X10_jumps uw1472 ⟨rfl, rfl, by decide, by decide⟩ 0 rfl rfl rfl rfl rfl (Nat.le_of_ble_eq_true rfl) ⟨Nat.zero_le _, Nat.zero_le _⟩ dX10_readsCondition_215 (fun ws215 k215 => ?_)
                            obtain ⟨place0_215, codeMany_215, waiting_215, said_215, waitsAt_215, kr_place0_215, kr_codeMany_215, kr_waiting_215, r_said_215, r_waitsAt_215, kp0_215, kp1_215, kp2_215, kp3_215, kp4_215, rfl⟩ := k215
                            have hR : RD v_codeMany said_215 codeMany_215 waitsAt_215 waiting_215 0 := by rw [kp3_215, kp4_215, kp0_215, kp1_215]; exact RD.jump kp0_195 (by omega) (by omega) (by omega)
                            have h11 : cw 11534336 waitsAt_215 waiting_215.toNat = cw 11534336 waitsAt_84 waiting_195.toNat := by rw [kp4_215, kp1_215]; exact cw_push_ge _ _ (by omega) (by omega)
                            have hG : Ge 10485760 waitsAt_215 waiting_215 := by rw [kp4_215, kp1_215]; exact Ge.push (w92_6.less (by omega)) (by omega) (by omega)
                            have hW : 13631488 ≤ waitsAt_215 0 := by rw [kp4_215, updZ_n _ _ (by omega)]; exact w92_7
                            have hSB : SB v_codeMany v_said said_215 := by rw [kp3_215]; exact SB.up (SB.trans w92_8 kp5_195 (Int.le_refl _)) (by omega) (by omega)
                            refine g_goto X (tgt := 40) dX10_readsCondition_218 (by decide) ?_
                            try (have hR : RD v_codeMany said_215 codeMany_215 waitsAt_215 waiting_215 0 := by rw [kp1_75, kp0_75.2.2]; exact RD.push w40_0 (by omega) (by omega))
                            try (have h11 : cw 11534336 waitsAt_215 waiting_215.toNat ≤ cw 11534336 waitsAt_40 waiting_40.toNat + 1 := by rw [kp1_75, kp0_75.2.2]; first | exact Int.le_of_eq (cw_push_lt _ _ (by omega) (by omega)) | (rw [cw_push_ge _ _ (by omega) (by omega)]; omega))
                            try (have hG : Ge 10485760 waitsAt_215 waiting_215 := by rw [kp1_75, kp0_75.2.2]; exact Ge.push w40_6 (by omega) (by omega))
                            try (have hW : 13631488 ≤ waitsAt_215 0 := by rw [kp1_75, updZ_n _ _ (by omega)]; exact w40_7)
                            exact ih40 place0_215 fault_84 number0_84 open_92 codeMany_215 waiting_215 said_215 waitsAt_215 (by omega) (by omega) (by omega) (by omega) (by omega) (by omega) r_said_215 r_waitsAt_215 (by first | assumption | omega) (by first | assumption | omega) (by first | assumption | omega) (by first | assumption | omega) (by first | assumption | omega) (by first | assumption | omega) (by first | assumption | omega) (by first | assumption | omega) (by first | assumption | exact SB.refl _ _ | omega) (by omega)
                        · refine g_iconst X dX10_readsCondition_190 ?_
                          refine g_goto X (tgt := 195) dX10_readsCondition_191 (by decide) ?_
                          refine g_callVV0 X (c_X10_lands l D cI cB cJ h q (p0 := 1) (lo := v_codeMany) (by omega) (by omega) r_said_92 r_waitsAt_84 (by first | assumption | omega) (by first | assumption | omega)) cv_X10_lands uw1468 ⟨rfl, rfl, by decide, by decide⟩ 0 rfl rfl rfl rfl rfl (Nat.le_of_ble_eq_true rfl) ⟨Nat.zero_le _, Nat.zero_le _⟩ dX10_readsCondition_195 (fun ws195 k195 => ?_)
                          obtain ⟨waiting_195, said_195, kr_waiting_195, r_said_195, kp0_195, kp1_195, kp2_195, kp3_195, kp4_195, kp5_195, rfl⟩ := k195
                          have hw5 : 1 ≤ waiting_195 := by rcases (show waiting_195 ≤ 0 ∨ 1 ≤ waiting_195 by omega) with h | h; (exfalso; have h1 := kp3_195 0 h (by omega); omega); exact h
                          have hb195 := cw_bd 11534336 waitsAt_84 waiting_195.toNat
                          refine g_aload_n X dX10_readsCondition_198 0 rfl ?_
                          refine g_aload_n X dX10_readsCondition_199 0 rfl ?_
                          refine g_callVI0 X (c_X10_here l D cI cB cJ h q  (by omega) (by omega) r_v_tape) cv_X10_here uw1405 ⟨rfl, rfl, by decide, by decide⟩ 0 rfl rfl rfl rfl rfl (Nat.le_of_ble_eq_true rfl) ⟨Nat.zero_le _, Nat.zero_le _⟩ dX10_readsCondition_200 (fun t200 ws200 k200 => ?_)
                          obtain ⟨kp0_200, kp1_200, kp2_200, rfl⟩ := k200
                          refine g_bipush X (z := 38) dX10_readsCondition_203 (by decide) ?_
                          refine g_icmp_ne X (tgt := 213) dX10_readsCondition_205 (by decide) (by omega) (by omega) (fun c205 => ?_) (fun c205 => ?_)
                          · refine g_bipush X (z := 12) dX10_readsCondition_213 (by decide) ?_
                            refine g_callVV0 X (c_X10_jumps l D cI cB cJ h q (p0 := 12) (by omega) (by omega) (by omega) r_said_195 r_waitsAt_84 (by first | assumption | omega) (by first | assumption | omega) (by first | assumption | omega) (by first | assumption | omega) (by first | assumption | omega)) cv_X10_jumps uw1472 ⟨rfl, rfl, by decide, by decide⟩ 0 rfl rfl rfl rfl rfl (Nat.le_of_ble_eq_true rfl) ⟨Nat.zero_le _, Nat.zero_le _⟩ dX10_readsCondition_215 (fun ws215 k215 => ?_)
                            obtain ⟨place0_215, codeMany_215, waiting_215, said_215, waitsAt_215, kr_place0_215, kr_codeMany_215, kr_waiting_215, r_said_215, r_waitsAt_215, kp0_215, kp1_215, kp2_215, kp3_215, kp4_215, rfl⟩ := k215
                            have hR : RD v_codeMany said_215 codeMany_215 waitsAt_215 waiting_215 0 := by rw [kp3_215, kp4_215, kp0_215, kp1_215]; exact RD.jump kp0_195 (by omega) (by omega) (by omega)
                            have h11 : cw 11534336 waitsAt_215 waiting_215.toNat = cw 11534336 waitsAt_84 waiting_195.toNat := by rw [kp4_215, kp1_215]; exact cw_push_ge _ _ (by omega) (by omega)
                            have hG : Ge 10485760 waitsAt_215 waiting_215 := by rw [kp4_215, kp1_215]; exact Ge.push (w92_6.less (by omega)) (by omega) (by omega)
                            have hW : 13631488 ≤ waitsAt_215 0 := by rw [kp4_215, updZ_n _ _ (by omega)]; exact w92_7
                            have hSB : SB v_codeMany v_said said_215 := by rw [kp3_215]; exact SB.up (SB.trans w92_8 kp5_195 (Int.le_refl _)) (by omega) (by omega)
                            refine g_goto X (tgt := 40) dX10_readsCondition_218 (by decide) ?_
                            try (have hR : RD v_codeMany said_215 codeMany_215 waitsAt_215 waiting_215 0 := by rw [kp1_75, kp0_75.2.2]; exact RD.push w40_0 (by omega) (by omega))
                            try (have h11 : cw 11534336 waitsAt_215 waiting_215.toNat ≤ cw 11534336 waitsAt_40 waiting_40.toNat + 1 := by rw [kp1_75, kp0_75.2.2]; first | exact Int.le_of_eq (cw_push_lt _ _ (by omega) (by omega)) | (rw [cw_push_ge _ _ (by omega) (by omega)]; omega))
                            try (have hG : Ge 10485760 waitsAt_215 waiting_215 := by rw [kp1_75, kp0_75.2.2]; exact Ge.push w40_6 (by omega) (by omega))
                            try (have hW : 13631488 ≤ waitsAt_215 0 := by rw [kp1_75, updZ_n _ _ (by omega)]; exact w40_7)
                            exact ih40 place0_215 fault_84 number0_84 open_92 codeMany_215 waiting_215 said_215 waitsAt_215 (by omega) (by omega) (by omega) (by omega) (by omega) (by omega) r_said_215 r_waitsAt_215 (by first | assumption | omega) (by first | assumption | omega) (by first | assumption | omega) (by first | assumption | omega) (by first | assumption | omega) (by first | assumption | omega) (by first | assumption | omega) (by first | assumption | omega) (by first | assumption | exact SB.refl _ _ | omega) (by omega)
                          · refine g_bipush X (z := 11) dX10_readsCondition_208 (by decide) ?_
                            refine g_goto X (tgt := 215) dX10_readsCondition_210 (by decide) ?_
                            refine g_callVV0 X (c_X10_jumps l D cI cB cJ h q (p0 := 11) (by omega) (by omega) (by omega) r_said_195 r_waitsAt_84 (by first | assumption | omega) (by first | assumption | omega) (by first | assumption | omega) (by first | assumption | omega) (by first | assumption | omega)) cv_X10_jumps uw1472 ⟨rfl, rfl, by decide, by decide⟩ 0 rfl rfl rfl rfl rfl (Nat.le_of_ble_eq_true rfl) ⟨Nat.zero_le _, Nat.zero_le _⟩ dX10_readsCondition_215 (fun ws215 k215 => ?_)
                            obtain ⟨place0_215, codeMany_215, waiting_215, said_215, waitsAt_215, kr_place0_215, kr_codeMany_215, kr_waiting_215, r_said_215, r_waitsAt_215, kp0_215, kp1_215, kp2_215, kp3_215, kp4_215, rfl⟩ := k215
                            have hR : RD v_codeMany said_215 codeMany_215 waitsAt_215 waiting_215 0 := by rw [kp3_215, kp4_215, kp0_215, kp1_215]; exact RD.jump kp0_195 (by omega) (by omega) (by omega)
                            have h11 : cw 11534336 waitsAt_215 waiting_215.toNat = cw 11534336 waitsAt_84 waiting_195.toNat := by rw [kp4_215, kp1_215]; exact cw_push_ge _ _ (by omega) (by omega)
                            have hG : Ge 10485760 waitsAt_215 waiting_215 := by rw [kp4_215, kp1_215]; exact Ge.push (w92_6.less (by omega)) (by omega) (by omega)
                            have hW : 13631488 ≤ waitsAt_215 0 := by rw [kp4_215, updZ_n _ _ (by omega)]; exact w92_7
                            have hSB : SB v_codeMany v_said said_215 := by rw [kp3_215]; exact SB.up (SB.trans w92_8 kp5_195 (Int.le_refl _)) (by omega) (by omega)
                            refine g_goto X (tgt := 40) dX10_readsCondition_218 (by decide) ?_
                            try (have hR : RD v_codeMany said_215 codeMany_215 waitsAt_215 waiting_215 0 := by rw [kp1_75, kp0_75.2.2]; exact RD.push w40_0 (by omega) (by omega))
                            try (have h11 : cw 11534336 waitsAt_215 waiting_215.toNat ≤ cw 11534336 waitsAt_40 waiting_40.toNat + 1 := by rw [kp1_75, kp0_75.2.2]; first | exact Int.le_of_eq (cw_push_lt _ _ (by omega) (by omega)) | (rw [cw_push_ge _ _ (by omega) (by omega)]; omega))
                            try (have hG : Ge 10485760 waitsAt_215 waiting_215 := by rw [kp1_75, kp0_75.2.2]; exact Ge.push w40_6 (by omega) (by omega))
                            try (have hW : 13631488 ≤ waitsAt_215 0 := by rw [kp1_75, updZ_n _ _ (by omega)]; exact w40_7)
                            exact ih40 place0_215 fault_84 number0_84 open_92 codeMany_215 waiting_215 said_215 waitsAt_215 (by omega) (by omega) (by omega) (by omega) (by omega) (by omega) r_said_215 r_waitsAt_215 (by first | assumption | omega) (by first | assumption | omega) (by first | assumption | omega) (by first | assumption | omega) (by first | assumption | omega) (by first | assumption | omega) (by first | assumption | omega) (by first | assumption | omega) (by first | assumption | exact SB.refl _ _ | omega) (by omega)
                      · refine g_aload_n X dX10_readsCondition_161 0 rfl ?_
                        refine g_callVI0 X (c_X10_here l D cI cB cJ h q  (by omega) (by omega) r_v_tape) cv_X10_here uw1405 ⟨rfl, rfl, by decide, by decide⟩ 0 rfl rfl rfl rfl rfl (Nat.le_of_ble_eq_true rfl) ⟨Nat.zero_le _, Nat.zero_le _⟩ dX10_readsCondition_162 (fun t162 ws162 k162 => ?_)
                        obtain ⟨kp0_162, kp1_162, kp2_162, rfl⟩ := k162
                        refine g_bipush X (z := 124) dX10_readsCondition_165 (by decide) ?_
                        refine g_icmp_eq X (tgt := 180) dX10_readsCondition_167 (by decide) (by omega) (by omega) (fun c167 => ?_) (fun c167 => ?_)
                        · refine g_aload_n X dX10_readsCondition_180 0 rfl ?_
                          refine g_aload_n X dX10_readsCondition_181 0 rfl ?_
                          refine g_callVI0 X (c_X10_here l D cI cB cJ h q  (by omega) (by omega) r_v_tape) cv_X10_here uw1405 ⟨rfl, rfl, by decide, by decide⟩ 0 rfl rfl rfl rfl rfl (Nat.le_of_ble_eq_true rfl) ⟨Nat.zero_le _, Nat.zero_le _⟩ dX10_readsCondition_182 (fun t182 ws182 k182 => ?_)
                          obtain ⟨kp0_182, kp1_182, kp2_182, rfl⟩ := k182
                          refine g_bipush X (z := 124) dX10_readsCondition_185 (by decide) ?_
                          refine g_icmp_ne X (tgt := 194) dX10_readsCondition_187 (by decide) (by omega) (by omega) (fun c187 => ?_) (fun c187 => ?_)
                          · refine g_iconst X dX10_readsCondition_194 ?_
                            refine g_callVV0 X (c_X10_lands l D cI cB cJ h q (p0 := 0) (lo := v_codeMany) (by omega) (by omega) r_said_92 r_waitsAt_84 (by first | assumption | omega) (by first | assumption | omega)) cv_X10_lands uw1468 ⟨rfl, rfl, by decide, by decide⟩ 0 rfl rfl rfl rfl rfl (Nat.le_of_ble_eq_true rfl) ⟨Nat.zero_le _, Nat.zero_le _⟩ dX10_readsCondition_195 (fun ws195 k195 => ?_)
                            obtain ⟨waiting_195, said_195, kr_waiting_195, r_said_195, kp0_195, kp1_195, kp2_195, kp3_195, kp4_195, kp5_195, rfl⟩ := k195
                            have hw5 : 1 ≤ waiting_195 := by rcases (show waiting_195 ≤ 0 ∨ 1 ≤ waiting_195 by omega) with h | h; (exfalso; have h1 := kp3_195 0 h (by omega); omega); exact h
                            have hb195 := cw_bd 11534336 waitsAt_84 waiting_195.toNat
                            refine g_aload_n X dX10_readsCondition_198 0 rfl ?_
                            refine g_aload_n X dX10_readsCondition_199 0 rfl ?_
                            refine g_callVI0 X (c_X10_here l D cI cB cJ h q  (by omega) (by omega) r_v_tape) cv_X10_here uw1405 ⟨rfl, rfl, by decide, by decide⟩ 0 rfl rfl rfl rfl rfl (Nat.le_of_ble_eq_true rfl) ⟨Nat.zero_le _, Nat.zero_le _⟩ dX10_readsCondition_200 (fun t200 ws200 k200 => ?_)
                            obtain ⟨kp0_200, kp1_200, kp2_200, rfl⟩ := k200
                            refine g_bipush X (z := 38) dX10_readsCondition_203 (by decide) ?_
                            refine g_icmp_ne X (tgt := 213) dX10_readsCondition_205 (by decide) (by omega) (by omega) (fun c205 => ?_) (fun c205 => ?_)
                            · refine g_bipush X (z := 12) dX10_readsCondition_213 (by decide) ?_
                              refine g_callVV0 X (c_X10_jumps l D cI cB cJ h q (p0 := 12) (by omega) (by omega) (by omega) r_said_195 r_waitsAt_84 (by first | assumption | omega) (by first | assumption | omega) (by first | assumption | omega) (by first | assumption | omega) (by first | assumption | omega)) cv_X10_jumps uw1472 ⟨rfl, rfl, by decide, by decide⟩ 0 rfl rfl rfl rfl rfl (Nat.le_of_ble_eq_true rfl) ⟨Nat.zero_le _, Nat.zero_le _⟩ dX10_readsCondition_215 (fun ws215 k215 => ?_)
                              obtain ⟨place0_215, codeMany_215, waiting_215, said_215, waitsAt_215, kr_place0_215, kr_codeMany_215, kr_waiting_215, r_said_215, r_waitsAt_215, kp0_215, kp1_215, kp2_215, kp3_215, kp4_215, rfl⟩ := k215
                              have hR : RD v_codeMany said_215 codeMany_215 waitsAt_215 waiting_215 0 := by rw [kp3_215, kp4_215, kp0_215, kp1_215]; exact RD.jump kp0_195 (by omega) (by omega) (by omega)
                              have h11 : cw 11534336 waitsAt_215 waiting_215.toNat = cw 11534336 waitsAt_84 waiting_195.toNat := by rw [kp4_215, kp1_215]; exact cw_push_ge _ _ (by omega) (by omega)
                              have hG : Ge 10485760 waitsAt_215 waiting_215 := by rw [kp4_215, kp1_215]; exact Ge.push (w92_6.less (by omega)) (by omega) (by omega)
                              have hW : 13631488 ≤ waitsAt_215 0 := by rw [kp4_215, updZ_n _ _ (by omega)]; exact w92_7
                              have hSB : SB v_codeMany v_said said_215 := by rw [kp3_215]; exact SB.up (SB.trans w92_8 kp5_195 (Int.le_refl _)) (by omega) (by omega)
                              refine g_goto X (tgt := 40) dX10_readsCondition_218 (by decide) ?_
                              try (have hR : RD v_codeMany said_215 codeMany_215 waitsAt_215 waiting_215 0 := by rw [kp1_75, kp0_75.2.2]; exact RD.push w40_0 (by omega) (by omega))
                              try (have h11 : cw 11534336 waitsAt_215 waiting_215.toNat ≤ cw 11534336 waitsAt_40 waiting_40.toNat + 1 := by rw [kp1_75, kp0_75.2.2]; first | exact Int.le_of_eq (cw_push_lt _ _ (by omega) (by omega)) | (rw [cw_push_ge _ _ (by omega) (by omega)]; omega))
                              try (have hG : Ge 10485760 waitsAt_215 waiting_215 := by rw [kp1_75, kp0_75.2.2]; exact Ge.push w40_6 (by omega) (by omega))
                              try (have hW : 13631488 ≤ waitsAt_215 0 := by rw [kp1_75, updZ_n _ _ (by omega)]; exact w40_7)
                              exact ih40 place0_215 fault_84 number0_84 open_92 codeMany_215 waiting_215 said_215 waitsAt_215 (by omega) (by omega) (by omega) (by omega) (by omega) (by omega) r_said_215 r_waitsAt_215 (by first | assumption | omega) (by first | assumption | omega) (by first | assumption | omega) (by first | assumption | omega) (by first | assumption | omega) (by first | assumption | omega) (by first | assumption | omega) (by first | assumption | omega) (by first | assumption | exact SB.refl _ _ | omega) (by omega)
                            · refine g_bipush X (z := 11) dX10_readsCondition_208 (by decide) ?_
                              refine g_goto X (tgt := 215) dX10_readsCondition_210 (by decide) ?_
                              refine g_callVV0 X (c_X10_jumps l D cI cB cJ h q (p0 := 11) (by omega) (by omega) (by omega) r_said_195 r_waitsAt_84 (by first | assumption | omega) (by first | assumption | omega) (by first | assumption | omega) (by first | assumption | omega) (by first | assumption | omega)) cv_X10_jumps uw1472 ⟨rfl, rfl, by decide, by decide⟩ 0 rfl rfl rfl rfl rfl (Nat.le_of_ble_eq_true rfl) ⟨Nat.zero_le _, Nat.zero_le _⟩ dX10_readsCondition_215 (fun ws215 k215 => ?_)
                              obtain ⟨place0_215, codeMany_215, waiting_215, said_215, waitsAt_215, kr_place0_215, kr_codeMany_215, kr_waiting_215, r_said_215, r_waitsAt_215, kp0_215, kp1_215, kp2_215, kp3_215, kp4_215, rfl⟩ := k215
                              have hR : RD v_codeMany said_215 codeMany_215 waitsAt_215 waiting_215 0 := by rw [kp3_215, kp4_215, kp0_215, kp1_215]; exact RD.jump kp0_195 (by omega) (by omega) (by omega)
                              have h11 : cw 11534336 waitsAt_215 waiting_215.toNat = cw 11534336 waitsAt_84 waiting_195.toNat := by rw [kp4_215, kp1_215]; exact cw_push_ge _ _ (by omega) (by omega)
                              have hG : Ge 10485760 waitsAt_215 waiting_215 := by rw [kp4_215, kp1_215]; exact Ge.push (w92_6.less (by omega)) (by omega) (by omega)
                              have hW : 13631488 ≤ waitsAt_215 0 := by rw [kp4_215, updZ_n _ _ (by omega)]; exact w92_7
                              have hSB : SB v_codeMany v_said said_215 := by rw [kp3_215]; exact SB.up (SB.trans w92_8 kp5_195 (Int.le_refl _)) (by omega) (by omega)
                              refine g_goto X (tgt := 40) dX10_readsCondition_218 (by decide) ?_
                              try (have hR : RD v_codeMany said_215 codeMany_215 waitsAt_215 waiting_215 0 := by rw [kp1_75, kp0_75.2.2]; exact RD.push w40_0 (by omega) (by omega))
                              try (have h11 : cw 11534336 waitsAt_215 waiting_215.toNat ≤ cw 11534336 waitsAt_40 waiting_40.toNat + 1 := by rw [kp1_75, kp0_75.2.2]; first | exact Int.le_of_eq (cw_push_lt _ _ (by omega) (by omega)) | (rw [cw_push_ge _ _ (by omega) (by omega)]; omega))
                              try (have hG : Ge 10485760 waitsAt_215 waiting_215 := by rw [kp1_75, kp0_75.2.2]; exact Ge.push w40_6 (by omega) (by omega))
                              try (have hW : 13631488 ≤ waitsAt_215 0 := by rw [kp1_75, updZ_n _ _ (by omega)]; exact w40_7)
                              exact ih40 place0_215 fault_84 number0_84 open_92 codeMany_215 waiting_215 said_215 waitsAt_215 (by omega) (by omega) (by omega) (by omega) (by omega) (by omega) r_said_215 r_waitsAt_215 (by first | assumption | omega) (by first | assumption | omega) (by first | assumption | omega) (by first | assumption | omega) (by first | assumption | omega) (by first | assumption | omega) (by first | assumption | omega) (by first | assumption | omega) (by first | assumption | exact SB.refl _ _ | omega) (by omega)
                          · refine g_iconst X dX10_readsCondition_190 ?_
                            refine g_goto X (tgt := 195) dX10_readsCondition_191 (by decide) ?_
                            refine g_callVV0 X (c_X10_lands l D cI cB cJ h q (p0 := 1) (lo := v_codeMany) (by omega) (by omega) r_said_92 r_waitsAt_84 (by first | assumption | omega) (by first | assumption | omega)) cv_X10_lands uw1468 ⟨rfl, rfl, by decide, by decide⟩ 0 rfl rfl rfl rfl rfl (Nat.le_of_ble_eq_true rfl) ⟨Nat.zero_le _, Nat.zero_le _⟩ dX10_readsCondition_195 (fun ws195 k195 => ?_)
                            obtain ⟨waiting_195, said_195, kr_waiting_195, r_said_195, kp0_195, kp1_195, kp2_195, kp3_195, kp4_195, kp5_195, rfl⟩ := k195
                            have hw5 : 1 ≤ waiting_195 := by rcases (show waiting_195 ≤ 0 ∨ 1 ≤ waiting_195 by omega) with h | h; (exfalso; have h1 := kp3_195 0 h (by omega); omega); exact h
                            have hb195 := cw_bd 11534336 waitsAt_84 waiting_195.toNat
                            refine g_aload_n X dX10_readsCondition_198 0 rfl ?_
                            refine g_aload_n X dX10_readsCondition_199 0 rfl ?_
                            refine g_callVI0 X (c_X10_here l D cI cB cJ h q  (by omega) (by omega) r_v_tape) cv_X10_here uw1405 ⟨rfl, rfl, by decide, by decide⟩ 0 rfl rfl rfl rfl rfl (Nat.le_of_ble_eq_true rfl) ⟨Nat.zero_le _, Nat.zero_le _⟩ dX10_readsCondition_200 (fun t200 ws200 k200 => ?_)
                            obtain ⟨kp0_200, kp1_200, kp2_200, rfl⟩ := k200
                            refine g_bipush X (z := 38) dX10_readsCondition_203 (by decide) ?_
                            refine g_icmp_ne X (tgt := 213) dX10_readsCondition_205 (by decide) (by omega) (by omega) (fun c205 => ?_) (fun c205 => ?_)
                            · refine g_bipush X (z := 12) dX10_readsCondition_213 (by decide) ?_
                              refine g_callVV0 X (c_X10_jumps l D cI cB cJ h q (p0 := 12) (by omega) (by omega) (by omega) r_said_195 r_waitsAt_84 (by first | assumption | omega) (by first | assumption | omega) (by first | assumption | omega) (by first | assumption | omega) (by first | assumption | omega)) cv_X10_jumps uw1472 ⟨rfl, rfl, by decide, by decide⟩ 0 rfl rfl rfl rfl rfl (Nat.le_of_ble_eq_true rfl) ⟨Nat.zero_le _, Nat.zero_le _⟩ dX10_readsCondition_215 (fun ws215 k215 => ?_)
                              obtain ⟨place0_215, codeMany_215, waiting_215, said_215, waitsAt_215, kr_place0_215, kr_codeMany_215, kr_waiting_215, r_said_215, r_waitsAt_215, kp0_215, kp1_215, kp2_215, kp3_215, kp4_215, rfl⟩ := k215
                              have hR : RD v_codeMany said_215 codeMany_215 waitsAt_215 waiting_215 0 := by rw [kp3_215, kp4_215, kp0_215, kp1_215]; exact RD.jump kp0_195 (by omega) (by omega) (by omega)
                              have h11 : cw 11534336 waitsAt_215 waiting_215.toNat = cw 11534336 waitsAt_84 waiting_195.toNat := by rw [kp4_215, kp1_215]; exact cw_push_ge _ _ (by omega) (by omega)
                              have hG : Ge 10485760 waitsAt_215 waiting_215 := by rw [kp4_215, kp1_215]; exact Ge.push (w92_6.less (by omega)) (by omega) (by omega)
                              have hW : 13631488 ≤ waitsAt_215 0 := by rw [kp4_215, updZ_n _ _ (by omega)]; exact w92_7
                              have hSB : SB v_codeMany v_said said_215 := by rw [kp3_215]; exact SB.up (SB.trans w92_8 kp5_195 (Int.le_refl _)) (by omega) (by omega)
                              refine g_goto X (tgt := 40) dX10_readsCondition_218 (by decide) ?_
                              try (have hR : RD v_codeMany said_215 codeMany_215 waitsAt_215 waiting_215 0 := by rw [kp1_75, kp0_75.2.2]; exact RD.push w40_0 (by omega) (by omega))
                              try (have h11 : cw 11534336 waitsAt_215 waiting_215.toNat ≤ cw 11534336 waitsAt_40 waiting_40.toNat + 1 := by rw [kp1_75, kp0_75.2.2]; first | exact Int.le_of_eq (cw_push_lt _ _ (by omega) (by omega)) | (rw [cw_push_ge _ _ (by omega) (by omega)]; omega))
                              try (have hG : Ge 10485760 waitsAt_215 waiting_215 := by rw [kp1_75, kp0_75.2.2]; exact Ge.push w40_6 (by omega) (by omega))
                              try (have hW : 13631488 ≤ waitsAt_215 0 := by rw [kp1_75, updZ_n _ _ (by omega)]; exact w40_7)
                              exact ih40 place0_215 fault_84 number0_84 open_92 codeMany_215 waiting_215 said_215 waitsAt_215 (by omega) (by omega) (by omega) (by omega) (by omega) (by omega) r_said_215 r_waitsAt_215 (by first | assumption | omega) (by first | assumption | omega) (by first | assumption | omega) (by first | assumption | omega) (by first | assumption | omega) (by first | assumption | omega) (by first | assumption | omega) (by first | assumption | omega) (by first | assumption | exact SB.refl _ _ | omega) (by omega)
                            · refine g_bipush X (z := 11) dX10_readsCondition_208 (by decide) ?_
                              refine g_goto X (tgt := 215) dX10_readsCondition_210 (by decide) ?_
                              refine g_callVV0 X (c_X10_jumps l D cI cB cJ h q (p0 := 11) (by omega) (by omega) (by omega) r_said_195 r_waitsAt_84 (by first | assumption | omega) (by first | assumption | omega) (by first | assumption | omega) (by first | assumption | omega) (by first | assumption | omega)) cv_X10_jumps uw1472 ⟨rfl, rfl, by decide, by decide⟩ 0 rfl rfl rfl rfl rfl (Nat.le_of_ble_eq_true rfl) ⟨Nat.zero_le _, Nat.zero_le _⟩ dX10_readsCondition_215 (fun ws215 k215 => ?_)
                              obtain ⟨place0_215, codeMany_215, waiting_215, said_215, waitsAt_215, kr_place0_215, kr_codeMany_215, kr_waiting_215, r_said_215, r_waitsAt_215, kp0_215, kp1_215, kp2_215, kp3_215, kp4_215, rfl⟩ := k215
                              have hR : RD v_codeMany said_215 codeMany_215 waitsAt_215 waiting_215 0 := by rw [kp3_215, kp4_215, kp0_215, kp1_215]; exact RD.jump kp0_195 (by omega) (by omega) (by omega)
                              have h11 : cw 11534336 waitsAt_215 waiting_215.toNat = cw 11534336 waitsAt_84 waiting_195.toNat := by rw [kp4_215, kp1_215]; exact cw_push_ge _ _ (by omega) (by omega)
                              have hG : Ge 10485760 waitsAt_215 waiting_215 := by rw [kp4_215, kp1_215]; exact Ge.push (w92_6.less (by omega)) (by omega) (by omega)
                              have hW : 13631488 ≤ waitsAt_215 0 := by rw [kp4_215, updZ_n _ _ (by omega)]; exact w92_7
                              have hSB : SB v_codeMany v_said said_215 := by rw [kp3_215]; exact SB.up (SB.trans w92_8 kp5_195 (Int.le_refl _)) (by omega) (by omega)
                              refine g_goto X (tgt := 40) dX10_readsCondition_218 (by decide) ?_
                              try (have hR : RD v_codeMany said_215 codeMany_215 waitsAt_215 waiting_215 0 := by rw [kp1_75, kp0_75.2.2]; exact RD.push w40_0 (by omega) (by omega))
                              try (have h11 : cw 11534336 waitsAt_215 waiting_215.toNat ≤ cw 11534336 waitsAt_40 waiting_40.toNat + 1 := by rw [kp1_75, kp0_75.2.2]; first | exact Int.le_of_eq (cw_push_lt _ _ (by omega) (by omega)) | (rw [cw_push_ge _ _ (by omega) (by omega)]; omega))
                              try (have hG : Ge 10485760 waitsAt_215 waiting_215 := by rw [kp1_75, kp0_75.2.2]; exact Ge.push w40_6 (by omega) (by omega))
                              try (have hW : 13631488 ≤ waitsAt_215 0 := by rw [kp1_75, updZ_n _ _ (by omega)]; exact w40_7)
                              exact ih40 place0_215 fault_84 number0_84 open_92 codeMany_215 waiting_215 said_215 waitsAt_215 (by omega) (by omega) (by omega) (by omega) (by omega) (by omega) r_said_215 r_waitsAt_215 (by first | assumption | omega) (by first | assumption | omega) (by first | assumption | omega) (by first | assumption | omega) (by first | assumption | omega) (by first | assumption | omega) (by first | assumption | omega) (by first | assumption | omega) (by first | assumption | exact SB.refl _ _ | omega) (by omega)
                        · refine g_aload_n X dX10_readsCondition_170 0 rfl ?_
                          refine g_iconst X dX10_readsCondition_171 ?_
                          refine g_aload_n X dX10_readsCondition_172 0 rfl ?_
                          refine gM_get X 0 rfl 11 (by decide) uw1190 rfl dX10_readsCondition_173 ?_
                          refine g_callVI0 X (c_X10_wrongAt l D cI cB cJ h q (p0 := 1) (p1 := place0_92) (by omega) (by first | assumption | omega) (by first | assumption | omega) (by first | assumption | omega) (by first | assumption | omega)) cv_X10_wrongAt uw1409 ⟨rfl, rfl, by decide, by decide⟩ 0 rfl rfl rfl rfl rfl (Nat.le_of_ble_eq_true rfl) ⟨Nat.zero_le _, Nat.zero_le _⟩ dX10_readsCondition_176 (fun t176 ws176 k176 => ?_)
                          obtain ⟨kb_176, ⟨fault_176, kr_fault_176, kp0_176, kp1_176, rfl⟩⟩ := k176
                          exact hQ _ _ _ _ dX10_readsCondition_179 ⟨by omega, ⟨place0_92, fault_176, number0_84, open_92, codeMany_92, waiting_92, said_92, waitsAt_84, (by omega), (by omega), (by omega), (by omega), (by omega), (by omega), r_said_92, r_waitsAt_84, (by intro hr; first | (exfalso; omega) | exact RD.close hR1 (by omega) (by omega)), (by intro hr; first | assumption | (exfalso; omega) | omega), (by first | assumption | omega), (by intro hr; first | assumption | (exfalso; omega) | omega), (by first | assumption | exact SB.refl _ _ | exact SB.trans w40_8 kp6_84 (Int.le_refl _) | exact SB.trans w92_8 kp5_103 (Int.le_refl _)), (by first | assumption | omega), rfl⟩⟩
                    · refine g_aload_n X dX10_readsCondition_101 0 rfl ?_
                      refine g_iconst X dX10_readsCondition_102 ?_
                      refine g_callVV0 X (c_X10_lands l D cI cB cJ h q (p0 := 1) (lo := v_codeMany) (by omega) (by omega) r_said_92 r_waitsAt_84 (by first | assumption | omega) (by first | assumption | omega)) cv_X10_lands uw1468 ⟨rfl, rfl, by decide, by decide⟩ 0 rfl rfl rfl rfl rfl (Nat.le_of_ble_eq_true rfl) ⟨Nat.zero_le _, Nat.zero_le _⟩ dX10_readsCondition_103 (fun ws103 k103 => ?_)
                      obtain ⟨waiting_103, said_103, kr_waiting_103, r_said_103, kp0_103, kp1_103, kp2_103, kp3_103, kp4_103, kp5_103, rfl⟩ := k103
                      have hw3 : 1 ≤ waiting_103 := by rcases (show waiting_103 ≤ 0 ∨ 1 ≤ waiting_103 by omega) with h | h; (exfalso; have h1 := kp3_103 0 h (by omega); omega); exact h
                      have hR1 : RD v_codeMany said_103 codeMany_92 waitsAt_84 (waiting_103 - 1) 1 := RD.pop kp0_103 hw3 (by omega)
                      have h11a := cw_pop_le 11534336 waitsAt_84 (w := waiting_103) hw3
                      have hb103 := cw_bd 11534336 waitsAt_84 (waiting_103 - 1).toNat
                      refine g_aload_n X dX10_readsCondition_106 0 rfl ?_
                      refine g_aload_n X dX10_readsCondition_107 0 rfl ?_
                      refine gM_get X 0 rfl 17 (by decide) uw1196 rfl dX10_readsCondition_108 ?_
                      refine g_iconst X dX10_readsCondition_111 ?_
                      refine g_isub X dX10_readsCondition_112 ?_
                      refine gM_put X 0 rfl 17 (by decide) uw1196 rfl rfl rfl (Nat.le_of_ble_eq_true rfl) dX10_readsCondition_113 (ws2 := (wX10 cI cB cJ h q v_stalls v_claimMany v_taped place0_92 v_length0 fault_84 number0_84 open_92 codeMany_92 (waiting_103 - 1) v_saidMany v_clauses v_newMany v_newStalls v_lines v_salesNow v_outNow v_isKept v_keptStalls v_now v_aside v_kept v_oneOf v_otherOf v_signOf v_byOf v_tape said_103 waitsAt_84 v_saidLetter v_saidFrom v_saidHalf v_saidTo v_codes v_clauseOf v_codeFrom v_codeHalf v_codeTo v_stack v_facts v_newOne v_newOther v_newSign v_newBy v_moreOf v_firstOf v_toldOf v_mostOf v_mostThen v_sumTo v_rowFrom v_ordersOf v_lessOf v_weightOf v_rowNow v_slowRow v_fastRow v_lineNow v_firstLine v_freeBy v_heldBy v_heightOf v_upTo v_downTo v_oftenOf v_newUpper v_newLower)) rfl ?_
                      refine g_aload_n X dX10_readsCondition_116 0 rfl ?_
                      refine g_aload_n X dX10_readsCondition_117 0 rfl ?_
                      refine gM_get X 0 rfl 15 (by decide) uw1194 rfl dX10_readsCondition_118 ?_
                      refine g_iconst X dX10_readsCondition_121 ?_
                      refine g_isub X dX10_readsCondition_122 ?_
                      refine g_nr (fun t122 e122 r122 => ?_)
                      refine gM_put X 0 rfl 15 (by decide) uw1194 rfl rfl rfl (Nat.le_of_ble_eq_true rfl) dX10_readsCondition_123 (ws2 := (wX10 cI cB cJ h q v_stalls v_claimMany v_taped place0_92 v_length0 fault_84 number0_84 t122 codeMany_92 (waiting_103 - 1) v_saidMany v_clauses v_newMany v_newStalls v_lines v_salesNow v_outNow v_isKept v_keptStalls v_now v_aside v_kept v_oneOf v_otherOf v_signOf v_byOf v_tape said_103 waitsAt_84 v_saidLetter v_saidFrom v_saidHalf v_saidTo v_codes v_clauseOf v_codeFrom v_codeHalf v_codeTo v_stack v_facts v_newOne v_newOther v_newSign v_newBy v_moreOf v_firstOf v_toldOf v_mostOf v_mostThen v_sumTo v_rowFrom v_ordersOf v_lessOf v_weightOf v_rowNow v_slowRow v_fastRow v_lineNow v_firstLine v_freeBy v_heldBy v_heightOf v_upTo v_downTo v_oftenOf v_newUpper v_newLower)) rfl ?_
                      refine g_aload_n X dX10_readsCondition_126 0 rfl ?_
                      refine g_aload_n X dX10_readsCondition_127 0 rfl ?_
                      refine gM_get X 0 rfl 11 (by decide) uw1190 rfl dX10_readsCondition_128 ?_
                      refine g_iconst X dX10_readsCondition_131 ?_
                      refine g_iadd X dX10_readsCondition_132 ?_
                      refine gM_put X 0 rfl 11 (by decide) uw1190 rfl rfl rfl (Nat.le_of_ble_eq_true rfl) dX10_readsCondition_133 (ws2 := (wX10 cI cB cJ h q v_stalls v_claimMany v_taped (place0_92 + 1) v_length0 fault_84 number0_84 t122 codeMany_92 (waiting_103 - 1) v_saidMany v_clauses v_newMany v_newStalls v_lines v_salesNow v_outNow v_isKept v_keptStalls v_now v_aside v_kept v_oneOf v_otherOf v_signOf v_byOf v_tape said_103 waitsAt_84 v_saidLetter v_saidFrom v_saidHalf v_saidTo v_codes v_clauseOf v_codeFrom v_codeHalf v_codeTo v_stack v_facts v_newOne v_newOther v_newSign v_newBy v_moreOf v_firstOf v_toldOf v_mostOf v_mostThen v_sumTo v_rowFrom v_ordersOf v_lessOf v_weightOf v_rowNow v_slowRow v_fastRow v_lineNow v_firstLine v_freeBy v_heldBy v_heightOf v_upTo v_downTo v_oftenOf v_newUpper v_newLower)) rfl ?_
                      refine g_aload_n X dX10_readsCondition_136 0 rfl ?_
                      refine gM_get X 0 rfl 17 (by decide) uw1196 rfl dX10_readsCondition_137 ?_
                      refine g_if_ne X (tgt := 145) dX10_readsCondition_140 (by decide) (by omega) (fun c140 => ?_) (fun c140 => ?_)
                      · refine g_aload_n X dX10_readsCondition_145 0 rfl ?_
                        refine g_callVV0 X (c_X10_endsPiece l D cI cB cJ h q  (lo := v_codeMany) (by omega) (by omega) (by omega) r_said_103 r_waitsAt_84 (by first | assumption | omega) (by first | assumption | omega) (by first | assumption | omega)) cv_X10_endsPiece uw1464 ⟨rfl, rfl, by decide, by decide⟩ 0 rfl rfl rfl rfl rfl (Nat.le_of_ble_eq_true rfl) ⟨Nat.zero_le _, Nat.zero_le _⟩ dX10_readsCondition_146 (fun ws146 k146 => ?_)
                        obtain ⟨open_146, codeMany_146, waiting_146, said_146, kr_open_146, kr_codeMany_146, kr_waiting_146, r_said_146, kp0_146, kp1_146, kp2_146, kp3_146, kp4_146, rfl⟩ := k146
                        refine g_goto X (tgt := 92) dX10_readsCondition_149 (by decide) ?_
                        have hR : RD v_codeMany said_146 codeMany_146 waitsAt_84 waiting_146 1 := kp0_146
                        have hG : Ge 10485760 waitsAt_84 waiting_146 := w92_6.less (by omega)
                        have hW1 : 1 ≤ waiting_146 := by rcases (show waiting_146 ≤ 0 ∨ 1 ≤ waiting_146 by omega) with h | h; (exfalso; have h1 := kp3_146 0 h (by omega); omega); exact h
                        have hSB : SB v_codeMany v_said said_146 := SB.trans (SB.trans w92_8 kp5_103 (Int.le_refl _)) kp4_146 (Int.le_refl _)
                        exact ih92 (place0_92 + 1) open_146 codeMany_146 waiting_146 said_146 (by omega) (by omega) (by omega) (by omega) r_said_146 (by first | assumption | omega) (by first | assumption | omega) (by first | assumption | omega) (by first | assumption | omega) (by first | assumption | omega) (by first | assumption | omega) (by first | assumption | omega) (by first | assumption | omega) (by first | assumption | omega) (by first | assumption | omega) (by omega)
                      · refine g_iconst X dX10_readsCondition_143 ?_
                        exact hQ _ _ _ _ dX10_readsCondition_144 ⟨by omega, ⟨place0_92 + 1, fault_84, number0_84, t122, codeMany_92, waiting_103 - 1, said_103, waitsAt_84, (by omega), (by omega), (by omega), (by omega), (by omega), (by omega), r_said_103, r_waitsAt_84, (by intro hr; first | (exfalso; omega) | exact RD.close hR1 (by omega) (by omega)), (by intro hr; first | assumption | (exfalso; omega) | omega), (by first | assumption | omega), (by intro hr; first | assumption | (exfalso; omega) | omega), (by first | assumption | exact SB.refl _ _ | exact SB.trans w40_8 kp6_84 (Int.le_refl _) | exact SB.trans w92_8 kp5_103 (Int.le_refl _)), (by first | assumption | omega), rfl⟩⟩
                exact L92 _ place0_84 open_84 codeMany_84 waiting_84 said_84 (by omega) (by omega) (by omega) (by omega) r_said_84 (by first | assumption | omega) (by first | assumption | omega) (by first | assumption | omega) (by first | assumption | omega) (by first | assumption | omega) (by first | assumption | omega) (by first | assumption | omega) (by first | assumption | omega) (by first | assumption | omega) (by first | assumption | omega) (Nat.lt_succ_self _)
              · clear kb_84
                clear kp0_84
                clear kp1_84
                clear kp3_84
                clear kp4_84
                clear kp5_84
                clear kp7_84
                refine g_iconst X dX10_readsCondition_90 ?_
                exact hQ _ _ _ _ dX10_readsCondition_91 ⟨by omega, ⟨place0_84, fault_84, number0_84, open_84, codeMany_84, waiting_84, said_84, waitsAt_84, (by omega), (by omega), (by omega), (by omega), (by omega), (by omega), r_said_84, r_waitsAt_84, (by intro hr; first | (exfalso; omega) | exact RD.close hR1 (by omega) (by omega)), (by intro hr; first | assumption | (exfalso; omega) | omega), (by first | assumption | omega), (by intro hr; first | assumption | (exfalso; omega) | omega), (by first | assumption | exact SB.refl _ _ | exact SB.trans w40_8 kp6_84 (Int.le_refl _) | exact SB.trans w92_8 kp5_103 (Int.le_refl _)), (by first | assumption | omega), rfl⟩⟩
            · refine g_aload_n X dX10_readsCondition_58 0 rfl ?_
              refine g_aload_n X dX10_readsCondition_59 0 rfl ?_
              refine g_callVI0 X (c_X10_here l D cI cB cJ h q  (by omega) (by omega) r_v_tape) cv_X10_here uw1405 ⟨rfl, rfl, by decide, by decide⟩ 0 rfl rfl rfl rfl rfl (Nat.le_of_ble_eq_true rfl) ⟨Nat.zero_le _, Nat.zero_le _⟩ dX10_readsCondition_60 (fun t60 ws60 k60 => ?_)
              obtain ⟨kp0_60, kp1_60, kp2_60, rfl⟩ := k60
              refine g_bipush X (z := 33) dX10_readsCondition_63 (by decide) ?_
              refine g_icmp_ne X (tgt := 73) dX10_readsCondition_65 (by decide) (by omega) (by omega) (fun c65 => ?_) (fun c65 => ?_)
              · refine g_bipush X (z := 13) dX10_readsCondition_73 (by decide) ?_
                refine g_callVI0 X (c_X10_opens l D cI cB cJ h q (p0 := 13) (by omega) (by omega) (by omega) (by omega) r_waitsAt_40 (by first | assumption | omega) (by first | assumption | omega) (by first | assumption | omega) (by first | assumption | omega)) cv_X10_opens uw1421 ⟨rfl, rfl, by decide, by decide⟩ 0 rfl rfl rfl rfl rfl (Nat.le_of_ble_eq_true rfl) ⟨Nat.zero_le _, Nat.zero_le _⟩ dX10_readsCondition_75 (fun t75 ws75 k75 => ?_)
                obtain ⟨kb_75, ⟨place0_75, fault_75, open_75, waiting_75, waitsAt_75, kr_place0_75, kr_fault_75, kr_open_75, kr_waiting_75, r_waitsAt_75, kp0_75, kp1_75, rfl⟩⟩ := k75
                refine g_if_ne X (tgt := 40) dX10_readsCondition_78 (by decide) (by omega) (fun c78 => ?_) (fun c78 => ?_)
                · replace kb_75 := kb_75.resolve_left (fun h => c78 h)
                  replace kp0_75 := kp0_75.resolve_right (fun h => c78 h.1)
                  replace kp1_75 := kp1_75 kb_75
                  try (have hR : RD v_codeMany said_40 codeMany_40 waitsAt_75 waiting_75 0 := by rw [kp1_75, kp0_75.2.2]; exact RD.push w40_0 (by omega) (by omega))
                  try (have h11 : cw 11534336 waitsAt_75 waiting_75.toNat ≤ cw 11534336 waitsAt_40 waiting_40.toNat + 1 := by rw [kp1_75, kp0_75.2.2]; first | exact Int.le_of_eq (cw_push_lt _ _ (by omega) (by omega)) | (rw [cw_push_ge _ _ (by omega) (by omega)]; omega))
                  try (have hG : Ge 10485760 waitsAt_75 waiting_75 := by rw [kp1_75, kp0_75.2.2]; exact Ge.push w40_6 (by omega) (by omega))
                  try (have hW : 13631488 ≤ waitsAt_75 0 := by rw [kp1_75, updZ_n _ _ (by omega)]; exact w40_7)
                  exact ih40 place0_75 fault_75 number0_40 open_75 codeMany_40 waiting_75 said_40 waitsAt_75 (by omega) (by omega) (by omega) (by omega) (by omega) (by omega) r_said_40 r_waitsAt_75 (by first | assumption | omega) (by first | assumption | omega) (by first | assumption | omega) (by first | assumption | omega) (by first | assumption | omega) (by first | assumption | omega) (by first | assumption | omega) (by first | assumption | omega) (by first | assumption | exact SB.refl _ _ | omega) (by omega)
                · clear kb_75
                  replace kp0_75 := (kp0_75.resolve_left (fun h => absurd h.1 (by omega))).2
                  clear kp1_75
                  refine g_iconst X dX10_readsCondition_81 ?_
                  exact hQ _ _ _ _ dX10_readsCondition_82 ⟨by omega, ⟨place0_75, fault_75, number0_40, open_75, codeMany_40, waiting_75, said_40, waitsAt_75, (by omega), (by omega), (by omega), (by omega), (by omega), (by omega), r_said_40, r_waitsAt_75, (by intro hr; first | (exfalso; omega) | exact RD.close hR1 (by omega) (by omega)), (by intro hr; first | assumption | (exfalso; omega) | omega), (by first | assumption | omega), (by intro hr; first | assumption | (exfalso; omega) | omega), (by first | assumption | exact SB.refl _ _ | exact SB.trans w40_8 kp6_84 (Int.le_refl _) | exact SB.trans w92_8 kp5_103 (Int.le_refl _)), (by first | assumption | omega), rfl⟩⟩
              · refine g_bipush X (z := 10) dX10_readsCondition_68 (by decide) ?_
                refine g_goto X (tgt := 75) dX10_readsCondition_70 (by decide) ?_
                refine g_callVI0 X (c_X10_opens l D cI cB cJ h q (p0 := 10) (by omega) (by omega) (by omega) (by omega) r_waitsAt_40 (by first | assumption | omega) (by first | assumption | omega) (by first | assumption | omega) (by first | assumption | omega)) cv_X10_opens uw1421 ⟨rfl, rfl, by decide, by decide⟩ 0 rfl rfl rfl rfl rfl (Nat.le_of_ble_eq_true rfl) ⟨Nat.zero_le _, Nat.zero_le _⟩ dX10_readsCondition_75 (fun t75 ws75 k75 => ?_)
                obtain ⟨kb_75, ⟨place0_75, fault_75, open_75, waiting_75, waitsAt_75, kr_place0_75, kr_fault_75, kr_open_75, kr_waiting_75, r_waitsAt_75, kp0_75, kp1_75, rfl⟩⟩ := k75
                refine g_if_ne X (tgt := 40) dX10_readsCondition_78 (by decide) (by omega) (fun c78 => ?_) (fun c78 => ?_)
                · replace kb_75 := kb_75.resolve_left (fun h => c78 h)
                  replace kp0_75 := kp0_75.resolve_right (fun h => c78 h.1)
                  replace kp1_75 := kp1_75 kb_75
                  try (have hR : RD v_codeMany said_40 codeMany_40 waitsAt_75 waiting_75 0 := by rw [kp1_75, kp0_75.2.2]; exact RD.push w40_0 (by omega) (by omega))
                  try (have h11 : cw 11534336 waitsAt_75 waiting_75.toNat ≤ cw 11534336 waitsAt_40 waiting_40.toNat + 1 := by rw [kp1_75, kp0_75.2.2]; first | exact Int.le_of_eq (cw_push_lt _ _ (by omega) (by omega)) | (rw [cw_push_ge _ _ (by omega) (by omega)]; omega))
                  try (have hG : Ge 10485760 waitsAt_75 waiting_75 := by rw [kp1_75, kp0_75.2.2]; exact Ge.push w40_6 (by omega) (by omega))
                  try (have hW : 13631488 ≤ waitsAt_75 0 := by rw [kp1_75, updZ_n _ _ (by omega)]; exact w40_7)
                  exact ih40 place0_75 fault_75 number0_40 open_75 codeMany_40 waiting_75 said_40 waitsAt_75 (by omega) (by omega) (by omega) (by omega) (by omega) (by omega) r_said_40 r_waitsAt_75 (by first | assumption | omega) (by first | assumption | omega) (by first | assumption | omega) (by first | assumption | omega) (by first | assumption | omega) (by first | assumption | omega) (by first | assumption | omega) (by first | assumption | omega) (by first | assumption | exact SB.refl _ _ | omega) (by omega)
                · clear kb_75
                  replace kp0_75 := (kp0_75.resolve_left (fun h => absurd h.1 (by omega))).2
                  clear kp1_75
                  refine g_iconst X dX10_readsCondition_81 ?_
                  exact hQ _ _ _ _ dX10_readsCondition_82 ⟨by omega, ⟨place0_75, fault_75, number0_40, open_75, codeMany_40, waiting_75, said_40, waitsAt_75, (by omega), (by omega), (by omega), (by omega), (by omega), (by omega), r_said_40, r_waitsAt_75, (by intro hr; first | (exfalso; omega) | exact RD.close hR1 (by omega) (by omega)), (by intro hr; first | assumption | (exfalso; omega) | omega), (by first | assumption | omega), (by intro hr; first | assumption | (exfalso; omega) | omega), (by first | assumption | exact SB.refl _ _ | exact SB.trans w40_8 kp6_84 (Int.le_refl _) | exact SB.trans w92_8 kp5_103 (Int.le_refl _)), (by first | assumption | omega), rfl⟩⟩
      exact L40 _ place0_32 fault_32 v_number0 open_32 v_codeMany waiting_32 v_said waitsAt_32 (by omega) (by omega) (by omega) (by omega) (by omega) (by omega) r_v_said r_waitsAt_32 (by first | assumption | omega) (by first | assumption | omega) (by first | assumption | omega) (by first | assumption | omega) (by first | assumption | omega) (by first | assumption | omega) (by first | assumption | omega) (by first | assumption | omega) (by first | assumption | exact SB.refl _ _ | omega) (Nat.lt_succ_self _)
    · clear kb_32
      replace kp0_32 := (kp0_32.resolve_left (fun h => absurd h.1 (by omega))).2
      clear kp1_32
      refine g_iconst X dX10_readsCondition_38 ?_
      exact hQ _ _ _ _ dX10_readsCondition_39 ⟨by omega, ⟨place0_32, fault_32, v_number0, open_32, v_codeMany, waiting_32, v_said, waitsAt_32, (by omega), (by omega), (by omega), (by omega), (by omega), (by omega), r_v_said, r_waitsAt_32, (by intro hr; first | (exfalso; omega) | exact RD.close hR1 (by omega) (by omega)), (by intro hr; first | assumption | (exfalso; omega) | omega), (by first | assumption | omega), (by intro hr; first | assumption | (exfalso; omega) | omega), (by first | assumption | exact SB.refl _ _ | exact SB.trans w40_8 kp6_84 (Int.le_refl _) | exact SB.trans w92_8 kp5_103 (Int.le_refl _)), (by first | assumption | omega), rfl⟩⟩
  · refine g_aload_n X dX10_readsCondition_9 0 rfl ?_
    refine g_iconst X dX10_readsCondition_10 ?_
    refine g_aload_n X dX10_readsCondition_11 0 rfl ?_
    refine gM_get X 0 rfl 11 (by decide) uw1190 rfl dX10_readsCondition_12 ?_
    refine g_callVI0 X (c_X10_wrongAt l D cI cB cJ h q (p0 := 1) (p1 := v_place0) (by omega) (by first | assumption | omega) (by first | assumption | omega) (by first | assumption | omega) (by first | assumption | omega)) cv_X10_wrongAt uw1409 ⟨rfl, rfl, by decide, by decide⟩ 0 rfl rfl rfl rfl rfl (Nat.le_of_ble_eq_true rfl) ⟨Nat.zero_le _, Nat.zero_le _⟩ dX10_readsCondition_15 (fun t15 ws15 k15 => ?_)
    obtain ⟨kb_15, ⟨fault_15, kr_fault_15, kp0_15, kp1_15, rfl⟩⟩ := k15
    exact hQ _ _ _ _ dX10_readsCondition_18 ⟨by omega, ⟨v_place0, fault_15, v_number0, v_open, v_codeMany, v_waiting, v_said, v_waitsAt, (by omega), (by omega), (by omega), (by omega), (by omega), (by omega), r_v_said, r_v_waitsAt, (by intro hr; first | (exfalso; omega) | exact RD.close hR1 (by omega) (by omega)), (by intro hr; first | assumption | (exfalso; omega) | omega), (by first | assumption | omega), (by intro hr; first | assumption | (exfalso; omega) | omega), (by first | assumption | exact SB.refl _ _ | exact SB.trans w40_8 kp6_84 (Int.le_refl _) | exact SB.trans w92_8 kp5_103 (Int.le_refl _)), (by first | assumption | omega), rfl⟩⟩
