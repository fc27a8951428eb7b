set_option maxHeartbeats 8000000 in
set_option maxRecDepth 100000 in
theorem c_X10_readsCompared (l : Launch) (D : va_G) (cI cB cJ : ClassId) (h : Nat) (q : Nat → Nat) {v_stalls v_claimMany v_taped v_place0 v_length0 v_fault v_number0 v_open v_codeMany v_waiting v_saidMany v_clauses v_newMany v_newStalls v_lines v_salesNow v_outNow v_isKept v_keptStalls : Int} {v_now v_aside v_kept v_oneOf v_otherOf v_signOf v_byOf v_tape v_said v_waitsAt v_saidLetter v_saidFrom v_saidHalf v_saidTo v_codes v_clauseOf v_codeFrom v_codeHalf v_codeTo v_stack v_facts v_newOne v_newOther v_newSign v_newBy v_moreOf v_firstOf v_toldOf v_mostOf v_mostThen v_sumTo v_rowFrom v_ordersOf v_lessOf v_weightOf v_rowNow v_slowRow v_fastRow v_lineNow v_firstLine v_freeBy v_heldBy v_heightOf v_upTo v_downTo v_oftenOf v_newUpper v_newLower : Nat → Int} {lo : Int} (kr_v_place0 : 0 ≤ v_place0 ∧ v_place0 ≤ 260) (kr_v_length0 : 0 ≤ v_length0 ∧ v_length0 ≤ 260) (kr_v_fault : (-1000000) ≤ v_fault ∧ v_fault ≤ 1000000) (kr_v_number0 : 0 ≤ v_number0 ∧ v_number0 ≤ 99999) (kr_v_open : (-2147483648) ≤ v_open ∧ v_open ≤ 2147483647) (kr_v_codeMany : 0 ≤ v_codeMany ∧ v_codeMany ≤ 260) (kr_v_waiting : 0 ≤ v_waiting ∧ v_waiting ≤ 260) (r_v_tape : RA (-128) 127 v_tape) (r_v_said : RA 0 16777215 v_said) (r_v_waitsAt : RA 0 16777215 v_waitsAt) (hp0 : RD lo v_said v_codeMany v_waitsAt v_waiting 0) (hp1 : v_codeMany + cw 11534336 v_waitsAt v_waiting.toNat ≤ v_place0) (hp2 : v_waiting ≤ v_place0) (hp3 : v_place0 ≤ v_length0) (hp4 : v_length0 ≤ 240) (hp5 : Ge 10485760 v_waitsAt v_waiting) (hp6 : v_open = (lwD (lwL v_waitsAt v_waiting.toNat) : Int)) (hp7 : 0 ≤ v_open ∧ v_open ≤ 6) (hp8 : hereZ v_place0 v_length0 v_tape ≠ 33 ∧ hereZ v_place0 v_length0 v_tape ≠ 40) : CtI l yX10_readsCompared cX10_readsCompared 2 (some .boolean) ⟨5, 0, 0, 104⟩ D (TY cI cB cJ) (wX10 cI cB cJ h q v_stalls v_claimMany v_taped v_place0 v_length0 v_fault v_number0 v_open v_codeMany v_waiting v_saidMany v_clauses v_newMany v_newStalls v_lines v_salesNow v_outNow v_isKept v_keptStalls v_now v_aside v_kept v_oneOf v_otherOf v_signOf v_byOf v_tape v_said v_waitsAt v_saidLetter v_saidFrom v_saidHalf v_saidTo v_codes v_clauseOf v_codeFrom v_codeHalf v_codeTo v_stack v_facts v_newOne v_newOther v_newSign v_newBy v_moreOf v_firstOf v_toldOf v_mostOf v_mostThen v_sumTo v_rowFrom v_ordersOf v_lessOf v_weightOf v_rowNow v_slowRow v_fastRow v_lineNow v_firstLine v_freeBy v_heldBy v_heightOf v_upTo v_downTo v_oftenOf v_newUpper v_newLower) [.ref h] (fun z ws' => (z = 0 ∨ z = 1) ∧ ∃ n_place0 : Int, ∃ n_fault : Int, ∃ n_number0 : Int, ∃ n_open : Int, ∃ n_codeMany : Int, ∃ n_waiting : Int, ∃ n_said : Nat → Int, ∃ n_waitsAt : Nat → Int, (0 ≤ n_place0 ∧ n_place0 ≤ 260) ∧ ((-1000000) ≤ n_fault ∧ n_fault ≤ 1000000) ∧ (0 ≤ n_number0 ∧ n_number0 ≤ 99999) ∧ ((-2147483648) ≤ n_open ∧ n_open ≤ 2147483647) ∧ (0 ≤ n_codeMany ∧ n_codeMany ≤ 260) ∧ (0 ≤ n_waiting ∧ n_waiting ≤ 260) ∧ (RA 0 16777215 n_said) ∧ (RA 0 16777215 n_waitsAt) ∧ (z = 1 → RD lo n_said n_codeMany n_waitsAt n_waiting 1) ∧ (z = 1 → n_codeMany + cw 11534336 n_waitsAt n_waiting.toNat - n_place0 ≤ v_codeMany + cw 11534336 v_waitsAt v_waiting.toNat - v_place0) ∧ (n_place0 ≤ v_length0) ∧ (z = 1 → v_place0 < n_place0) ∧ (z = 1 → n_waiting ≤ v_waiting) ∧ (z = 1 → SB v_waiting v_waitsAt n_waitsAt) ∧ (SB lo v_said n_said) ∧ (z = 1 → ∀ j : Nat, n_waiting ≤ (j : Int) → (j : Int) < v_waiting → v_waitsAt j < 11534336) ∧ (v_place0 ≤ n_place0) ∧ (z = 1 → lwJ (sgP v_length0 (oct v_tape)) v_length0 (fun _ _ => True) 3 (fun _ => lwL v_waitsAt v_waiting.toNat) v_place0 4 (fun _ => lwL n_waitsAt n_waiting.toNat) n_place0) ∧ (z = 1 → n_open = (lwD (lwL n_waitsAt n_waiting.toNat) : Int) ∧ n_open ≤ 6) ∧ (z = 0 → lwV (sgP v_length0 (oct v_tape)) v_length0 (fun _ _ => True) 3 (fun _ => lwL v_waitsAt v_waiting.toNat) v_place0 n_fault) ∧ (z = 1 → n_waiting = 0 ∨ n_waitsAt (n_waiting - 1).toNat / 1048576 ≠ 10) ∧ (ws' = (wX10 cI cB cJ h q v_stalls v_claimMany v_taped n_place0 v_length0 n_fault n_number0 n_open n_codeMany n_waiting v_saidMany v_clauses v_newMany v_newStalls v_lines v_salesNow v_outNow v_isKept v_keptStalls v_now v_aside v_kept v_oneOf v_otherOf v_signOf v_byOf v_tape n_said n_waitsAt v_saidLetter v_saidFrom v_saidHalf v_saidTo v_codes v_clauseOf v_codeFrom v_codeHalf v_codeTo v_stack v_facts v_newOne v_newOther v_newSign v_newBy v_moreOf v_firstOf v_toldOf v_mostOf v_mostThen v_sumTo v_rowFrom v_ordersOf v_lessOf v_weightOf v_rowNow v_slowRow v_fastRow v_lineNow v_firstLine v_freeBy v_heldBy v_heightOf v_upTo v_downTo v_oftenOf v_newUpper v_newLower))) := by
  refine hdrZ (own := RX10) rfl (by decide +kernel) (Nat.le_of_ble_eq_true rfl) ?_
  intro p e s m args below meth c Q A X hQ
  refine g_lvE (lv2 := [(0, .ref h)]) rfl ?_
  have hH0 : (sgP v_length0 (oct v_tape)) v_place0 = hereZ v_place0 v_length0 v_tape := rfl
  have hA0 : lwJ (sgP v_length0 (oct v_tape)) v_length0 (fun _ _ => True) 3 (fun _ => lwL v_waitsAt v_waiting.toNat) v_place0 1 (fun _ => 3 :: lwL v_waitsAt v_waiting.toNat) v_place0 := lwJ.go (fun m S _ => by rw [lwT_3]; exact lwO_sum (by omega) (by omega))
  refine g_aload_n X dX10_readsCompared_0 0 rfl ?_
  refine g_callVI0 X (c_X10_readsSum l D cI cB cJ h q  (lo := lo) (gb := 0) (by omega) (by omega) (by omega) (by omega) (by omega) (by omega) (by omega) r_v_tape r_v_said r_v_waitsAt (by first | assumption | omega) (by first | assumption | omega) (by first | assumption | omega) (by first | assumption | omega) (by first | assumption | omega) (by first | assumption | omega) (by first | assumption | omega) (by first | assumption | omega)) cv_X10_readsSum uw1413 ⟨rfl, rfl, by decide, by decide⟩ 0 rfl rfl rfl rfl rfl (Nat.le_of_ble_eq_true rfl) ⟨Nat.zero_le _, Nat.zero_le _⟩ dX10_readsCompared_1 (fun t1 ws1 k1 => ?_)
  obtain ⟨kb_1, ⟨place0_1, fault_1, number0_1, open_1, codeMany_1, waiting_1, said_1, waitsAt_1, kr_place0_1, kr_fault_1, kr_number0_1, kr_open_1, kr_codeMany_1, kr_waiting_1, r_said_1, r_waitsAt_1, kp0_1, kp1_1, kp2_1, kp3_1, kp4_1, kp5_1, kp6_1, kp7_1, kp8_1, kp9_1, kp10_1, kp11_1, rfl⟩⟩ := k1
  refine g_if_ne X (tgt := 9) dX10_readsCompared_4 (by decide) (by omega) (fun c4 => ?_) (fun c4 => ?_)
  · replace kb_1 := kb_1.resolve_left (fun h => c4 h)
    replace kp0_1 := kp0_1 kb_1
    replace kp1_1 := kp1_1 kb_1
    replace kp3_1 := kp3_1 kb_1
    replace kp4_1 := kp4_1 kb_1
    replace kp5_1 := kp5_1 kb_1
    replace kp8_1 := kp8_1 kb_1
    replace kp9_1 := kp9_1 kb_1
    replace kp10_1 := kp10_1 kb_1
    have hHs : (sgP v_length0 (oct v_tape)) place0_1 = hereZ place0_1 v_length0 v_tape := rfl
    have hA1 : lwJ (sgP v_length0 (oct v_tape)) v_length0 (fun _ _ => True) 3 (fun _ => lwL v_waitsAt v_waiting.toNat) v_place0 2 (fun _ => 3 :: lwL v_waitsAt v_waiting.toNat) place0_1 := hA0.trans (lwJ.on (fun _ => 3 :: lwL v_waitsAt v_waiting.toNat) kp8_1 (fun m S _ => by show ((lwD (3 :: _) : Nat) : Int) = _; rw [lwD_3]; omega))
    refine g_aload_n X dX10_readsCompared_9 0 rfl ?_
    refine g_callVI0 X (c_X10_here l D cI cB cJ h q  (by omega) (by omega) r_v_tape) cv_X10_here uw1405 ⟨rfl, rfl, by decide, by decide⟩ 0 rfl rfl rfl rfl rfl (Nat.le_of_ble_eq_true rfl) ⟨Nat.zero_le _, Nat.zero_le _⟩ dX10_readsCompared_10 (fun t10 ws10 k10 => ?_)
    obtain ⟨kp0_10, kp1_10, kp2_10, rfl⟩ := k10
    refine g_bipush X (z := 60) dX10_readsCompared_13 (by decide) ?_
    refine g_icmp_ne X (tgt := 23) dX10_readsCompared_15 (by decide) (by omega) (by omega) (fun c15 => ?_) (fun c15 => ?_)
    · refine g_aload_n X dX10_readsCompared_23 0 rfl ?_
      refine g_callVI0 X (c_X10_here l D cI cB cJ h q  (by omega) (by omega) r_v_tape) cv_X10_here uw1405 ⟨rfl, rfl, by decide, by decide⟩ 0 rfl rfl rfl rfl rfl (Nat.le_of_ble_eq_true rfl) ⟨Nat.zero_le _, Nat.zero_le _⟩ dX10_readsCompared_24 (fun t24 ws24 k24 => ?_)
      obtain ⟨kp0_24, kp1_24, kp2_24, rfl⟩ := k24
      refine g_bipush X (z := 62) dX10_readsCompared_27 (by decide) ?_
      refine g_icmp_ne X (tgt := 37) dX10_readsCompared_29 (by decide) (by omega) (by omega) (fun c29 => ?_) (fun c29 => ?_)
      · refine g_aload_n X dX10_readsCompared_37 0 rfl ?_
        refine g_callVI0 X (c_X10_here l D cI cB cJ h q  (by omega) (by omega) r_v_tape) cv_X10_here uw1405 ⟨rfl, rfl, by decide, by decide⟩ 0 rfl rfl rfl rfl rfl (Nat.le_of_ble_eq_true rfl) ⟨Nat.zero_le _, Nat.zero_le _⟩ dX10_readsCompared_38 (fun t38 ws38 k38 => ?_)
        obtain ⟨kp0_38, kp1_38, kp2_38, rfl⟩ := k38
        refine g_bipush X (z := 61) dX10_readsCompared_41 (by decide) ?_
        refine g_icmp_ne X (tgt := 51) dX10_readsCompared_43 (by decide) (by omega) (by omega) (fun c43 => ?_) (fun c43 => ?_)
        · refine g_iconst X dX10_readsCompared_51 ?_
          refine g_istore_n X (lv' := [(1, vI (-1)), (0, .ref h)]) dX10_readsCompared_52 (by decide) rfl ?_
          refine g_iload_n X dX10_readsCompared_53 0 rfl ?_
          refine g_iconst X dX10_readsCompared_54 ?_
          refine g_icmp_ne X (tgt := 68) dX10_readsCompared_55 (by decide) (by omega) (by omega) (fun c55 => ?_) (fun c55 => ?_)
          · have hG : Ge 10485760 waitsAt_1 waiting_1 := by rw [kp4_1]; exact Ge.same hp5 kp5_1
            have hb1 := cw_bd 11534336 waitsAt_1 waiting_1.toNat
            have hs9 : (sgP v_length0 (oct v_tape)) place0_1 = 60 ∨ (sgP v_length0 (oct v_tape)) place0_1 = 62 ∨ (sgP v_length0 (oct v_tape)) place0_1 = 61 := by omega
            have hA2 : lwJ (sgP v_length0 (oct v_tape)) v_length0 (fun _ _ => True) 3 (fun _ => lwL v_waitsAt v_waiting.toNat) v_place0 1 (fun _ => 4 :: lwL v_waitsAt v_waiting.toNat) (place0_1 + 1) := hA1.trans (lwJ.go (fun m S _ => by rw [lwT_2, if_neg kp10_1, lwE_3, if_pos hs9]))
            refine g_aload_n X dX10_readsCompared_68 1 rfl ?_
            refine g_aload_n X dX10_readsCompared_69 1 rfl ?_
            refine gM_get X 0 rfl 11 (by decide) uw1190 rfl dX10_readsCompared_70 ?_
            refine g_iconst X dX10_readsCompared_73 ?_
            refine g_iadd X dX10_readsCompared_74 ?_
            refine gM_put X 0 rfl 11 (by decide) uw1190 rfl rfl rfl (Nat.le_of_ble_eq_true rfl) dX10_readsCompared_75 (ws2 := (wX10 cI cB cJ h q v_stalls v_claimMany v_taped (place0_1 + 1) v_length0 fault_1 number0_1 open_1 codeMany_1 waiting_1 v_saidMany v_clauses v_newMany v_newStalls v_lines v_salesNow v_outNow v_isKept v_keptStalls v_now v_aside v_kept v_oneOf v_otherOf v_signOf v_byOf v_tape said_1 waitsAt_1 v_saidLetter v_saidFrom v_saidHalf v_saidTo v_codes v_clauseOf v_codeFrom v_codeHalf v_codeTo v_stack v_facts v_newOne v_newOther v_newSign v_newBy v_moreOf v_firstOf v_toldOf v_mostOf v_mostThen v_sumTo v_rowFrom v_ordersOf v_lessOf v_weightOf v_rowNow v_slowRow v_fastRow v_lineNow v_firstLine v_freeBy v_heldBy v_heightOf v_upTo v_downTo v_oftenOf v_newUpper v_newLower)) rfl ?_
            refine g_aload_n X dX10_readsCompared_78 1 rfl ?_
            refine g_callVI0 X (c_X10_readsSum l D cI cB cJ h q  (lo := lo) (gb := 1) (by omega) (by omega) (by omega) (by omega) (by omega) (by omega) (by omega) r_v_tape r_said_1 r_waitsAt_1 (by first | assumption | omega) (by first | assumption | omega) (by first | assumption | omega) (by first | assumption | omega) (by first | assumption | omega) (by first | assumption | omega) (by first | assumption | omega) (by first | assumption | omega)) cv_X10_readsSum uw1413 ⟨rfl, rfl, by decide, by decide⟩ 0 rfl rfl rfl rfl rfl (Nat.le_of_ble_eq_true rfl) ⟨Nat.zero_le _, Nat.zero_le _⟩ dX10_readsCompared_79 (fun t79 ws79 k79 => ?_)
            obtain ⟨kb_79, ⟨place0_79, fault_79, number0_79, open_79, codeMany_79, waiting_79, said_79, waitsAt_79, kr_place0_79, kr_fault_79, kr_number0_79, kr_open_79, kr_codeMany_79, kr_waiting_79, r_said_79, r_waitsAt_79, kp0_79, kp1_79, kp2_79, kp3_79, kp4_79, kp5_79, kp6_79, kp7_79, kp8_79, kp9_79, kp10_79, kp11_79, rfl⟩⟩ := k79
            refine g_if_ne X (tgt := 87) dX10_readsCompared_82 (by decide) (by omega) (fun c82 => ?_) (fun c82 => ?_)
            · replace kb_79 := kb_79.resolve_left (fun h => c82 h)
              replace kp0_79 := kp0_79 kb_79
              replace kp1_79 := kp1_79 kb_79
              replace kp3_79 := kp3_79 kb_79
              replace kp4_79 := kp4_79 kb_79
              replace kp5_79 := kp5_79 kb_79
              replace kp8_79 := kp8_79 kb_79
              replace kp9_79 := kp9_79 kb_79
              replace kp10_79 := kp10_79 kb_79
              have hS1 := SB.trans kp5_1 kp5_79 (by omega)
              have hb79 := cw_bd 11534336 waitsAt_79 waiting_79.toNat
              have hbd := kp0_79.bd
              have hLs : lwL waitsAt_79 waiting_79.toNat = lwL v_waitsAt v_waiting.toNat := by rw [show waiting_79 = v_waiting by omega]; exact lwL_same _ (fun j hj => hS1 j (by omega))
              have hA2b : lwJ (sgP v_length0 (oct v_tape)) v_length0 (fun _ _ => True) 3 (fun _ => lwL v_waitsAt v_waiting.toNat) v_place0 2 (fun _ => 4 :: lwL v_waitsAt v_waiting.toNat) place0_79 := hA2.trans (lwJ.on (fun _ => 4 :: lwL v_waitsAt v_waiting.toNat) kp8_79 (fun m S _ => by show ((lwD (4 :: _) : Nat) : Int) = _; rw [lwD_4]; omega))
              have hA3 : lwJ (sgP v_length0 (oct v_tape)) v_length0 (fun _ _ => True) 3 (fun _ => lwL v_waitsAt v_waiting.toNat) v_place0 4 (fun _ => lwL waitsAt_79 waiting_79.toNat) place0_79 := hA2b.trans (lwJ.go (fun m S _ => by rw [lwT_2, if_neg kp10_79, lwE_4, hLs]))
              have hO3 : open_79 = (lwD (lwL waitsAt_79 waiting_79.toNat) : Int) := by rw [hLs]; omega
              refine g_aload_n X dX10_readsCompared_87 1 rfl ?_
              refine g_iload_n X dX10_readsCompared_88 0 rfl ?_
              refine g_iconst X dX10_readsCompared_89 ?_
              refine g_callVV0 X (c_X10_notes l D cI cB cJ h q (p0 := (-1)) (p1 := 0) (by omega) r_said_79 (by first | assumption | omega) (by first | assumption | omega) (by first | assumption | omega) (by first | assumption | omega) (by first | assumption | omega)) cv_X10_notes uw1434 ⟨rfl, rfl, by decide, by decide⟩ 0 rfl rfl rfl rfl rfl (Nat.le_of_ble_eq_true rfl) ⟨Nat.zero_le _, Nat.zero_le _⟩ dX10_readsCompared_90 (fun ws90 k90 => ?_)
              obtain ⟨codeMany_90, said_90, kr_codeMany_90, r_said_90, kp0_90, kp1_90, rfl⟩ := k90
              have hR : RD lo said_90 codeMany_90 waitsAt_79 waiting_79 1 := by rw [kp1_90, kp0_90]; exact RD.note kp0_79 _ 1 (Or.inr (Or.inr (Or.inr ⟨by omega, by omega, by omega, by omega⟩)))
              have hSB : SB lo v_said said_90 := by rw [kp1_90]; exact SB.up (SB.trans kp6_1 kp6_79 (Int.le_refl _)) (by omega) (by omega)
              refine g_aload_n X dX10_readsCompared_93 1 rfl ?_
              refine g_callVV0 X (c_X10_endsPiece l D cI cB cJ h q  (lo := lo) (by omega) (by omega) (by omega) r_said_90 r_waitsAt_79 (by first | assumption | omega) (by first | assumption | omega) (by first | assumption | omega) (by first | assumption | omega) (by first | assumption | omega)) cv_X10_endsPiece uw1464 ⟨rfl, rfl, by decide, by decide⟩ 0 rfl rfl rfl rfl rfl (Nat.le_of_ble_eq_true rfl) ⟨Nat.zero_le _, Nat.zero_le _⟩ dX10_readsCompared_94 (fun ws94 k94 => ?_)
              obtain ⟨open_94, codeMany_94, waiting_94, said_94, kr_open_94, kr_codeMany_94, kr_waiting_94, r_said_94, kp0_94, kp1_94, kp2_94, kp3_94, kp4_94, kp5_94, kp6_94, kp7_94, kp8_94, rfl⟩ := k94
              have hSB2 := SB.trans hSB kp4_94 (Int.le_refl _)
              have hPP : ∀ j : Nat, waiting_94 ≤ (j : Int) → (j : Int) < v_waiting → v_waitsAt j < 11534336 := fun j h1 h2 => by have h3 := kp3_94 j h1 (by omega); rw [hS1 j h2] at h3; exact h3
              have hJ : lwJ (sgP v_length0 (oct v_tape)) v_length0 (fun _ _ => True) 3 (fun _ => lwL v_waitsAt v_waiting.toNat) v_place0 4 (fun _ => lwL waitsAt_79 waiting_94.toNat) place0_79 := hA3.trans kp5_94
              refine g_iconst X dX10_readsCompared_97 ?_
              exact hQ _ _ _ _ dX10_readsCompared_98 ⟨by omega, ⟨place0_79, fault_79, number0_79, open_94, codeMany_94, waiting_94, said_94, waitsAt_79, (by omega), (by omega), (by omega), (by omega), (by omega), (by omega), r_said_94, r_waitsAt_79, (by intro hr; first | assumption | (exfalso; omega) | omega), (by intro hr; first | assumption | (exfalso; omega) | omega), (by first | assumption | omega), (by intro hr; first | assumption | (exfalso; omega) | omega), (by intro hr; first | assumption | (exfalso; omega) | omega), (by intro hr; first | assumption | (exfalso; omega) | omega), (by first | assumption | exact SB.refl _ _ | exact kp6_1 | exact SB.trans kp6_1 kp6_79 (Int.le_refl _)), (by intro hr; first | assumption | (exfalso; omega) | omega), (by first | assumption | omega), (by intro hr; first | exact hJ | (exfalso; omega)), (by intro hr; first | exact ⟨kp6_94, kp7_94⟩ | (exfalso; omega)), (by intro hr; first | exact hV | (exfalso; omega)), (by intro hr; first | exact kp8_94 | (exfalso; omega)), rfl⟩⟩
            · clear kb_79
              clear kp0_79
              clear kp1_79
              clear kp3_79
              clear kp4_79
              clear kp5_79
              clear kp8_79
              clear kp9_79
              clear kp10_79
              have hV : lwV (sgP v_length0 (oct v_tape)) v_length0 (fun _ _ => True) 3 (fun _ => lwL v_waitsAt v_waiting.toNat) v_place0 fault_79 := hA2.v (lwV.on (fun _ => 4 :: lwL v_waitsAt v_waiting.toNat) (kp11_79 (by omega)) (fun m S _ => by show ((lwD (4 :: _) : Nat) : Int) = _; rw [lwD_4]; omega))
              refine g_iconst X dX10_readsCompared_85 ?_
              exact hQ _ _ _ _ dX10_readsCompared_86 ⟨by omega, ⟨place0_79, fault_79, number0_79, open_79, codeMany_79, waiting_79, said_79, waitsAt_79, (by omega), (by omega), (by omega), (by omega), (by omega), (by omega), r_said_79, r_waitsAt_79, (by intro hr; first | assumption | (exfalso; omega) | omega), (by intro hr; first | assumption | (exfalso; omega) | omega), (by first | assumption | omega), (by intro hr; first | assumption | (exfalso; omega) | omega), (by intro hr; first | assumption | (exfalso; omega) | omega), (by intro hr; first | assumption | (exfalso; omega) | omega), (by first | assumption | exact SB.refl _ _ | exact kp6_1 | exact SB.trans kp6_1 kp6_79 (Int.le_refl _)), (by intro hr; first | assumption | (exfalso; omega) | omega), (by first | assumption | omega), (by intro hr; first | exact hJ | (exfalso; omega)), (by intro hr; first | exact ⟨kp6_94, kp7_94⟩ | (exfalso; omega)), (by intro hr; first | exact hV | (exfalso; omega)), (by intro hr; first | exact kp8_94 | (exfalso; omega)), rfl⟩⟩
          · refine g_aload_n X dX10_readsCompared_58 1 rfl ?_
            refine g_iconst X dX10_readsCompared_59 ?_
            refine g_aload_n X dX10_readsCompared_60 1 rfl ?_
            refine gM_get X 0 rfl 11 (by decide) uw1190 rfl dX10_readsCompared_61 ?_
            refine g_callVI0 X (c_X10_wrongAt l D cI cB cJ h q (p0 := 1) (p1 := place0_1) (by omega) (by first | assumption | omega) (by first | assumption | omega) (by first | assumption | omega) (by first | assumption | omega)) cv_X10_wrongAt uw1409 ⟨rfl, rfl, by decide, by decide⟩ 0 rfl rfl rfl rfl rfl (Nat.le_of_ble_eq_true rfl) ⟨Nat.zero_le _, Nat.zero_le _⟩ dX10_readsCompared_64 (fun t64 ws64 k64 => ?_)
            obtain ⟨kb_64, ⟨fault_64, kr_fault_64, kp0_64, kp1_64, rfl⟩⟩ := k64
            have hV : lwV (sgP v_length0 (oct v_tape)) v_length0 (fun _ _ => True) 3 (fun _ => lwL v_waitsAt v_waiting.toNat) v_place0 fault_64 := hA1.v (lwV.fin (fun m S _ => by rw [lwT_2, if_neg kp10_1, lwE_3, if_neg (by omega)]; exact congrArg Sum.inr (by omega)))
            exact hQ _ _ _ _ dX10_readsCompared_67 ⟨by omega, ⟨place0_1, fault_64, number0_1, open_1, codeMany_1, waiting_1, said_1, waitsAt_1, (by omega), (by omega), (by omega), (by omega), (by omega), (by omega), r_said_1, r_waitsAt_1, (by intro hr; first | assumption | (exfalso; omega) | omega), (by intro hr; first | assumption | (exfalso; omega) | omega), (by first | assumption | omega), (by intro hr; first | assumption | (exfalso; omega) | omega), (by intro hr; first | assumption | (exfalso; omega) | omega), (by intro hr; first | assumption | (exfalso; omega) | omega), (by first | assumption | exact SB.refl _ _ | exact kp6_1 | exact SB.trans kp6_1 kp6_79 (Int.le_refl _)), (by intro hr; first | assumption | (exfalso; omega) | omega), (by first | assumption | omega), (by intro hr; first | exact hJ | (exfalso; omega)), (by intro hr; first | exact ⟨kp6_94, kp7_94⟩ | (exfalso; omega)), (by intro hr; first | exact hV | (exfalso; omega)), (by intro hr; first | exact kp8_94 | (exfalso; omega)), rfl⟩⟩
        · refine g_bipush X (z := 9) dX10_readsCompared_46 (by decide) ?_
          refine g_goto X (tgt := 52) dX10_readsCompared_48 (by decide) ?_
          refine g_istore_n X (lv' := [(1, vI 9), (0, .ref h)]) dX10_readsCompared_52 (by decide) rfl ?_
          refine g_iload_n X dX10_readsCompared_53 0 rfl ?_
          refine g_iconst X dX10_readsCompared_54 ?_
          refine g_icmp_ne X (tgt := 68) dX10_readsCompared_55 (by decide) (by omega) (by omega) (fun c55 => ?_) (fun c55 => ?_)
          · have hG : Ge 10485760 waitsAt_1 waiting_1 := by rw [kp4_1]; exact Ge.same hp5 kp5_1
            have hb1 := cw_bd 11534336 waitsAt_1 waiting_1.toNat
            have hs9 : (sgP v_length0 (oct v_tape)) place0_1 = 60 ∨ (sgP v_length0 (oct v_tape)) place0_1 = 62 ∨ (sgP v_length0 (oct v_tape)) place0_1 = 61 := by omega
            have hA2 : lwJ (sgP v_length0 (oct v_tape)) v_length0 (fun _ _ => True) 3 (fun _ => lwL v_waitsAt v_waiting.toNat) v_place0 1 (fun _ => 4 :: lwL v_waitsAt v_waiting.toNat) (place0_1 + 1) := hA1.trans (lwJ.go (fun m S _ => by rw [lwT_2, if_neg kp10_1, lwE_3, if_pos hs9]))
            refine g_aload_n X dX10_readsCompared_68 1 rfl ?_
            refine g_aload_n X dX10_readsCompared_69 1 rfl ?_
            refine gM_get X 0 rfl 11 (by decide) uw1190 rfl dX10_readsCompared_70 ?_
            refine g_iconst X dX10_readsCompared_73 ?_
            refine g_iadd X dX10_readsCompared_74 ?_
            refine gM_put X 0 rfl 11 (by decide) uw1190 rfl rfl rfl (Nat.le_of_ble_eq_true rfl) dX10_readsCompared_75 (ws2 := (wX10 cI cB cJ h q v_stalls v_claimMany v_taped (place0_1 + 1) v_length0 fault_1 number0_1 open_1 codeMany_1 waiting_1 v_saidMany v_clauses v_newMany v_newStalls v_lines v_salesNow v_outNow v_isKept v_keptStalls v_now v_aside v_kept v_oneOf v_otherOf v_signOf v_byOf v_tape said_1 waitsAt_1 v_saidLetter v_saidFrom v_saidHalf v_saidTo v_codes v_clauseOf v_codeFrom v_codeHalf v_codeTo v_stack v_facts v_newOne v_newOther v_newSign v_newBy v_moreOf v_firstOf v_toldOf v_mostOf v_mostThen v_sumTo v_rowFrom v_ordersOf v_lessOf v_weightOf v_rowNow v_slowRow v_fastRow v_lineNow v_firstLine v_freeBy v_heldBy v_heightOf v_upTo v_downTo v_oftenOf v_newUpper v_newLower)) rfl ?_
            refine g_aload_n X dX10_readsCompared_78 1 rfl ?_
            refine g_callVI0 X (c_X10_readsSum l D cI cB cJ h q  (lo := lo) (gb := 1) (by omega) (by omega) (by omega) (by omega) (by omega) (by omega) (by omega) r_v_tape r_said_1 r_waitsAt_1 (by first | assumption | omega) (by first | assumption | omega) (by first | assumption | omega) (by first | assumption | omega) (by first | assumption | omega) (by first | assumption | omega) (by first | assumption | omega) (by first | assumption | omega)) cv_X10_readsSum uw1413 ⟨rfl, rfl, by decide, by decide⟩ 0 rfl rfl rfl rfl rfl (Nat.le_of_ble_eq_true rfl) ⟨Nat.zero_le _, Nat.zero_le _⟩ dX10_readsCompared_79 (fun t79 ws79 k79 => ?_)
            obtain ⟨kb_79, ⟨place0_79, fault_79, number0_79, open_79, codeMany_79, waiting_79, said_79, waitsAt_79, kr_place0_79, kr_fault_79, kr_number0_79, kr_open_79, kr_codeMany_79, kr_waiting_79, r_said_79, r_waitsAt_79, kp0_79, kp1_79, kp2_79, kp3_79, kp4_79, kp5_79, kp6_79, kp7_79, kp8_79, kp9_79, kp10_79, kp11_79, rfl⟩⟩ := k79
            refine g_if_ne X (tgt := 87) dX10_readsCompared_82 (by decide) (by omega) (fun c82 => ?_) (fun c82 => ?_)
            · replace kb_79 := kb_79.resolve_left (fun h => c82 h)
              replace kp0_79 := kp0_79 kb_79
              replace kp1_79 := kp1_79 kb_79
              replace kp3_79 := kp3_79 kb_79
              replace kp4_79 := kp4_79 kb_79
              replace kp5_79 := kp5_79 kb_79
              replace kp8_79 := kp8_79 kb_79
              replace kp9_79 := kp9_79 kb_79
              replace kp10_79 := kp10_79 kb_79
              have hS1 := SB.trans kp5_1 kp5_79 (by omega)
              have hb79 := cw_bd 11534336 waitsAt_79 waiting_79.toNat
              have hbd := kp0_79.bd
              have hLs : lwL waitsAt_79 waiting_79.toNat = lwL v_waitsAt v_waiting.toNat := by rw [show waiting_79 = v_waiting by omega]; exact lwL_same _ (fun j hj => hS1 j (by omega))
              have hA2b : lwJ (sgP v_length0 (oct v_tape)) v_length0 (fun _ _ => True) 3 (fun _ => lwL v_waitsAt v_waiting.toNat) v_place0 2 (fun _ => 4 :: lwL v_waitsAt v_waiting.toNat) place0_79 := hA2.trans (lwJ.on (fun _ => 4 :: lwL v_waitsAt v_waiting.toNat) kp8_79 (fun m S _ => by show ((lwD (4 :: _) : Nat) : Int) = _; rw [lwD_4]; omega))
              have hA3 : lwJ (sgP v_length0 (oct v_tape)) v_length0 (fun _ _ => True) 3 (fun _ => lwL v_waitsAt v_waiting.toNat) v_place0 4 (fun _ => lwL waitsAt_79 waiting_79.toNat) place0_79 := hA2b.trans (lwJ.go (fun m S _ => by rw [lwT_2, if_neg kp10_79, lwE_4, hLs]))
              have hO3 : open_79 = (lwD (lwL waitsAt_79 waiting_79.toNat) : Int) := by rw [hLs]; omega
              refine g_aload_n X dX10_readsCompared_87 1 rfl ?_
              refine g_iload_n X dX10_readsCompared_88 0 rfl ?_
              refine g_iconst X dX10_readsCompared_89 ?_
              refine g_callVV0 X (c_X10_notes l D cI cB cJ h q (p0 := 9) (p1 := 0) (by omega) r_said_79 (by first | assumption | omega) (by first | assumption | omega) (by first | assumption | omega) (by first | assumption | omega) (by first | assumption | omega)) cv_X10_notes uw1434 ⟨rfl, rfl, by decide, by decide⟩ 0 rfl rfl rfl rfl rfl (Nat.le_of_ble_eq_true rfl) ⟨Nat.zero_le _, Nat.zero_le _⟩ dX10_readsCompared_90 (fun ws90 k90 => ?_)
              obtain ⟨codeMany_90, said_90, kr_codeMany_90, r_said_90, kp0_90, kp1_90, rfl⟩ := k90
              have hR : RD lo said_90 codeMany_90 waitsAt_79 waiting_79 1 := by rw [kp1_90, kp0_90]; exact RD.note kp0_79 _ 1 (Or.inr (Or.inr (Or.inr ⟨by omega, by omega, by omega, by omega⟩)))
              have hSB : SB lo v_said said_90 := by rw [kp1_90]; exact SB.up (SB.trans kp6_1 kp6_79 (Int.le_refl _)) (by omega) (by omega)
              refine g_aload_n X dX10_readsCompared_93 1 rfl ?_
              refine g_callVV0 X (c_X10_endsPiece l D cI cB cJ h q  (lo := lo) (by omega) (by omega) (by omega) r_said_90 r_waitsAt_79 (by first | assumption | omega) (by first | assumption | omega) (by first | assumption | omega) (by first | assumption | omega) (by first | assumption | omega)) cv_X10_endsPiece uw1464 ⟨rfl, rfl, by decide, by decide⟩ 0 rfl rfl rfl rfl rfl (Nat.le_of_ble_eq_true rfl) ⟨Nat.zero_le _, Nat.zero_le _⟩ dX10_readsCompared_94 (fun ws94 k94 => ?_)
              obtain ⟨open_94, codeMany_94, waiting_94, said_94, kr_open_94, kr_codeMany_94, kr_waiting_94, r_said_94, kp0_94, kp1_94, kp2_94, kp3_94, kp4_94, kp5_94, kp6_94, kp7_94, kp8_94, rfl⟩ := k94
              have hSB2 := SB.trans hSB kp4_94 (Int.le_refl _)
              have hPP : ∀ j : Nat, waiting_94 ≤ (j : Int) → (j : Int) < v_waiting → v_waitsAt j < 11534336 := fun j h1 h2 => by have h3 := kp3_94 j h1 (by omega); rw [hS1 j h2] at h3; exact h3
              have hJ : lwJ (sgP v_length0 (oct v_tape)) v_length0 (fun _ _ => True) 3 (fun _ => lwL v_waitsAt v_waiting.toNat) v_place0 4 (fun _ => lwL waitsAt_79 waiting_94.toNat) place0_79 := hA3.trans kp5_94
              refine g_iconst X dX10_readsCompared_97 ?_
              exact hQ _ _ _ _ dX10_readsCompared_98 ⟨by omega, ⟨place0_79, fault_79, number0_79, open_94, codeMany_94, waiting_94, said_94, waitsAt_79, (by omega), (by omega), (by omega), (by omega), (by omega), (by omega), r_said_94, r_waitsAt_79, (by intro hr; first | assumption | (exfalso; omega) | omega), (by intro hr; first | assumption | (exfalso; omega) | omega), (by first | assumption | omega), (by intro hr; first | assumption | (exfalso; omega) | omega), (by intro hr; first | assumption | (exfalso; omega) | omega), (by intro hr; first | assumption | (exfalso; omega) | omega), (by first | assumption | exact SB.refl _ _ | exact kp6_1 | exact SB.trans kp6_1 kp6_79 (Int.le_refl _)), (by intro hr; first | assumption | (exfalso; omega) | omega), (by first | assumption | omega), (by intro hr; first | exact hJ | (exfalso; omega)), (by intro hr; first | exact ⟨kp6_94, kp7_94⟩ | (exfalso; omega)), (by intro hr; first | exact hV | (exfalso; omega)), (by intro hr; first | exact kp8_94 | (exfalso; omega)), rfl⟩⟩
            · clear kb_79
              clear kp0_79
              clear kp1_79
              clear kp3_79
              clear kp4_79
              clear kp5_79
              clear kp8_79
              clear kp9_79
              clear kp10_79
              have hV : lwV (sgP v_length0 (oct v_tape)) v_length0 (fun _ _ => True) 3 (fun _ => lwL v_waitsAt v_waiting.toNat) v_place0 fault_79 := hA2.v (lwV.on (fun _ => 4 :: lwL v_waitsAt v_waiting.toNat) (kp11_79 (by omega)) (fun m S _ => by show ((lwD (4 :: _) : Nat) : Int) = _; rw [lwD_4]; omega))
              refine g_iconst X dX10_readsCompared_85 ?_
              exact hQ _ _ _ _ dX10_readsCompared_86 ⟨by omega, ⟨place0_79, fault_79, number0_79, open_79, codeMany_79, waiting_79, said_79, waitsAt_79, (by omega), (by omega), (by omega), (by omega), (by omega), (by omega), r_said_79, r_waitsAt_79, (by intro hr; first | assumption | (exfalso; omega) | omega), (by intro hr; first | assumption | (exfalso; omega) | omega), (by first | assumption | omega), (by intro hr; first | assumption | (exfalso; omega) | omega), (by intro hr; first | assumption | (exfalso; omega) | omega), (by intro hr; first | assumption | (exfalso; omega) | omega), (by first | assumption | exact SB.refl _ _ | exact kp6_1 | exact SB.trans kp6_1 kp6_79 (Int.le_refl _)), (by intro hr; first | assumption | (exfalso; omega) | omega), (by first | assumption | omega), (by intro hr; first | exact hJ | (exfalso; omega)), (by intro hr; first | exact ⟨kp6_94, kp7_94⟩ | (exfalso; omega)), (by intro hr; first | exact hV | (exfalso; omega)), (by intro hr; first | exact kp8_94 | (exfalso; omega)), rfl⟩⟩
          · refine g_aload_n X dX10_readsCompared_58 1 rfl ?_
            refine g_iconst X dX10_readsCompared_59 ?_
            refine g_aload_n X dX10_readsCompared_60 1 rfl ?_
            refine gM_get X 0 rfl 11 (by decide) uw1190 rfl dX10_readsCompared_61 ?_
            refine g_callVI0 X (c_X10_wrongAt l D cI cB cJ h q (p0 := 1) (p1 := place0_1) (by omega) (by first | assumption | omega) (by first | assumption | omega) (by first | assumption | omega) (by first | assumption | omega)) cv_X10_wrongAt uw1409 ⟨rfl, rfl, by decide, by decide⟩ 0 rfl rfl rfl rfl rfl (Nat.le_of_ble_eq_true rfl) ⟨Nat.zero_le _, Nat.zero_le _⟩ dX10_readsCompared_64 (fun t64 ws64 k64 => ?_)
            obtain ⟨kb_64, ⟨fault_64, kr_fault_64, kp0_64, kp1_64, rfl⟩⟩ := k64
            have hV : lwV (sgP v_length0 (oct v_tape)) v_length0 (fun _ _ => True) 3 (fun _ => lwL v_waitsAt v_waiting.toNat) v_place0 fault_64 := hA1.v (lwV.fin (fun m S _ => by rw [lwT_2, if_neg kp10_1, lwE_3, if_neg (by omega)]; exact congrArg Sum.inr (by omega)))
            exact hQ _ _ _ _ dX10_readsCompared_67 ⟨by omega, ⟨place0_1, fault_64, number0_1, open_1, codeMany_1, waiting_1, said_1, waitsAt_1, (by omega), (by omega), (by omega), (by omega), (by omega), (by omega), r_said_1, r_waitsAt_1, (by intro hr; first | assumption | (exfalso; omega) | omega), (by intro hr; first | assumption | (exfalso; omega) | omega), (by first | assumption | omega), (by intro hr; first | assumption | (exfalso; omega) | omega), (by intro hr; first | assumption | (exfalso; omega) | omega), (by intro hr; first | assumption | (exfalso; omega) | omega), (by first | assumption | exact SB.refl _ _ | exact kp6_1 | exact SB.trans kp6_1 kp6_79 (Int.le_refl _)), (by intro hr; first | assumption | (exfalso; omega) | omega), (by first | assumption | omega), (by intro hr; first | exact hJ | (exfalso; omega)), (by intro hr; first | exact ⟨kp6_94, kp7_94⟩ | (exfalso; omega)), (by intro hr; first | exact hV | (exfalso; omega)), (by intro hr; first | exact kp8_94 | (exfalso; omega)), rfl⟩⟩
      · refine g_bipush X (z := 8) dX10_readsCompared_32 (by decide) ?_
        refine g_goto X (tgt := 52) dX10_readsCompared_34 (by decide) ?_
        refine g_istore_n X (lv' := [(1, vI 8), (0, .ref h)]) dX10_readsCompared_52 (by decide) rfl ?_
        refine g_iload_n X dX10_readsCompared_53 0 rfl ?_
        refine g_iconst X dX10_readsCompared_54 ?_
        refine g_icmp_ne X (tgt := 68) dX10_readsCompared_55 (by decide) (by omega) (by omega) (fun c55 => ?_) (fun c55 => ?_)
        · have hG : Ge 10485760 waitsAt_1 waiting_1 := by rw [kp4_1]; exact Ge.same hp5 kp5_1
          have hb1 := cw_bd 11534336 waitsAt_1 waiting_1.toNat
          have hs9 : (sgP v_length0 (oct v_tape)) place0_1 = 60 ∨ (sgP v_length0 (oct v_tape)) place0_1 = 62 ∨ (sgP v_length0 (oct v_tape)) place0_1 = 61 := by omega
          have hA2 : lwJ (sgP v_length0 (oct v_tape)) v_length0 (fun _ _ => True) 3 (fun _ => lwL v_waitsAt v_waiting.toNat) v_place0 1 (fun _ => 4 :: lwL v_waitsAt v_waiting.toNat) (place0_1 + 1) := hA1.trans (lwJ.go (fun m S _ => by rw [lwT_2, if_neg kp10_1, lwE_3, if_pos hs9]))
          refine g_aload_n X dX10_readsCompared_68 1 rfl ?_
          refine g_aload_n X dX10_readsCompared_69 1 rfl ?_
          refine gM_get X 0 rfl 11 (by decide) uw1190 rfl dX10_readsCompared_70 ?_
          refine g_iconst X dX10_readsCompared_73 ?_
          refine g_iadd X dX10_readsCompared_74 ?_
          refine gM_put X 0 rfl 11 (by decide) uw1190 rfl rfl rfl (Nat.le_of_ble_eq_true rfl) dX10_readsCompared_75 (ws2 := (wX10 cI cB cJ h q v_stalls v_claimMany v_taped (place0_1 + 1) v_length0 fault_1 number0_1 open_1 codeMany_1 waiting_1 v_saidMany v_clauses v_newMany v_newStalls v_lines v_salesNow v_outNow v_isKept v_keptStalls v_now v_aside v_kept v_oneOf v_otherOf v_signOf v_byOf v_tape said_1 waitsAt_1 v_saidLetter v_saidFrom v_saidHalf v_saidTo v_codes v_clauseOf v_codeFrom v_codeHalf v_codeTo v_stack v_facts v_newOne v_newOther v_newSign v_newBy v_moreOf v_firstOf v_toldOf v_mostOf v_mostThen v_sumTo v_rowFrom v_ordersOf v_lessOf v_weightOf v_rowNow v_slowRow v_fastRow v_lineNow v_firstLine v_freeBy v_heldBy v_heightOf v_upTo v_downTo v_oftenOf v_newUpper v_newLower)) rfl ?_
          refine g_aload_n X dX10_readsCompared_78 1 rfl ?_
          refine g_callVI0 X (c_X10_readsSum l D cI cB cJ h q  (lo := lo) (gb := 1) (by omega) (by omega) (by omega) (by omega) (by omega) (by omega) (by omega) r_v_tape r_said_1 r_waitsAt_1 (by first | assumption | omega) (by first | assumption | omega) (by first | assumption | omega) (by first | assumption | omega) (by first | assumption | omega) (by first | assumption | omega) (by first | assumption | omega) (by first | assumption | omega)) cv_X10_readsSum uw1413 ⟨rfl, rfl, by decide, by decide⟩ 0 rfl rfl rfl rfl rfl (Nat.le_of_ble_eq_true rfl) ⟨Nat.zero_le _, Nat.zero_le _⟩ dX10_readsCompared_79 (fun t79 ws79 k79 => ?_)
          obtain ⟨kb_79, ⟨place0_79, fault_79, number0_79, open_79, codeMany_79, waiting_79, said_79, waitsAt_79, kr_place0_79, kr_fault_79, kr_number0_79, kr_open_79, kr_codeMany_79, kr_waiting_79, r_said_79, r_waitsAt_79, kp0_79, kp1_79, kp2_79, kp3_79, kp4_79, kp5_79, kp6_79, kp7_79, kp8_79, kp9_79, kp10_79, kp11_79, rfl⟩⟩ := k79
          refine g_if_ne X (tgt := 87) dX10_readsCompared_82 (by decide) (by omega) (fun c82 => ?_) (fun c82 => ?_)
          · replace kb_79 := kb_79.resolve_left (fun h => c82 h)
            replace kp0_79 := kp0_79 kb_79
            replace kp1_79 := kp1_79 kb_79
            replace kp3_79 := kp3_79 kb_79
            replace kp4_79 := kp4_79 kb_79
            replace kp5_79 := kp5_79 kb_79
            replace kp8_79 := kp8_79 kb_79
            replace kp9_79 := kp9_79 kb_79
            replace kp10_79 := kp10_79 kb_79
            have hS1 := SB.trans kp5_1 kp5_79 (by omega)
            have hb79 := cw_bd 11534336 waitsAt_79 waiting_79.toNat
            have hbd := kp0_79.bd
            have hLs : lwL waitsAt_79 waiting_79.toNat = lwL v_waitsAt v_waiting.toNat := by rw [show waiting_79 = v_waiting by omega]; exact lwL_same _ (fun j hj => hS1 j (by omega))
            have hA2b : lwJ (sgP v_length0 (oct v_tape)) v_length0 (fun _ _ => True) 3 (fun _ => lwL v_waitsAt v_waiting.toNat) v_place0 2 (fun _ => 4 :: lwL v_waitsAt v_waiting.toNat) place0_79 := hA2.trans (lwJ.on (fun _ => 4 :: lwL v_waitsAt v_waiting.toNat) kp8_79 (fun m S _ => by show ((lwD (4 :: _) : Nat) : Int) = _; rw [lwD_4]; omega))
            have hA3 : lwJ (sgP v_length0 (oct v_tape)) v_length0 (fun _ _ => True) 3 (fun _ => lwL v_waitsAt v_waiting.toNat) v_place0 4 (fun _ => lwL waitsAt_79 waiting_79.toNat) place0_79 := hA2b.trans (lwJ.go (fun m S _ => by rw [lwT_2, if_neg kp10_79, lwE_4, hLs]))
            have hO3 : open_79 = (lwD (lwL waitsAt_79 waiting_79.toNat) : Int) := by rw [hLs]; omega
            refine g_aload_n X dX10_readsCompared_87 1 rfl ?_
            refine g_iload_n X dX10_readsCompared_88 0 rfl ?_
            refine g_iconst X dX10_readsCompared_89 ?_
            refine g_callVV0 X (c_X10_notes l D cI cB cJ h q (p0 := 8) (p1 := 0) (by omega) r_said_79 (by first | assumption | omega) (by first | assumption | omega) (by first | assumption | omega) (by first | assumption | omega) (by first | assumption | omega)) cv_X10_notes uw1434 ⟨rfl, rfl, by decide, by decide⟩ 0 rfl rfl rfl rfl rfl (Nat.le_of_ble_eq_true rfl) ⟨Nat.zero_le _, Nat.zero_le _⟩ dX10_readsCompared_90 (fun ws90 k90 => ?_)
            obtain ⟨codeMany_90, said_90, kr_codeMany_90, r_said_90, kp0_90, kp1_90, rfl⟩ := k90
            have hR : RD lo said_90 codeMany_90 waitsAt_79 waiting_79 1 := by rw [kp1_90, kp0_90]; exact RD.note kp0_79 _ 1 (Or.inr (Or.inr (Or.inr ⟨by omega, by omega, by omega, by omega⟩)))
            have hSB : SB lo v_said said_90 := by rw [kp1_90]; exact SB.up (SB.trans kp6_1 kp6_79 (Int.le_refl _)) (by omega) (by omega)
            refine g_aload_n X dX10_readsCompared_93 1 rfl ?_
            refine g_callVV0 X (c_X10_endsPiece l D cI cB cJ h q  (lo := lo) (by omega) (by omega) (by omega) r_said_90 r_waitsAt_79 (by first | assumption | omega) (by first | assumption | omega) (by first | assumption | omega) (by first | assumption | omega) (by first | assumption | omega)) cv_X10_endsPiece uw1464 ⟨rfl, rfl, by decide, by decide⟩ 0 rfl rfl rfl rfl rfl (Nat.le_of_ble_eq_true rfl) ⟨Nat.zero_le _, Nat.zero_le _⟩ dX10_readsCompared_94 (fun ws94 k94 => ?_)
            obtain ⟨open_94, codeMany_94, waiting_94, said_94, kr_open_94, kr_codeMany_94, kr_waiting_94, r_said_94, kp0_94, kp1_94, kp2_94, kp3_94, kp4_94, kp5_94, kp6_94, kp7_94, kp8_94, rfl⟩ := k94
            have hSB2 := SB.trans hSB kp4_94 (Int.le_refl _)
            have hPP : ∀ j : Nat, waiting_94 ≤ (j : Int) → (j : Int) < v_waiting → v_waitsAt j < 11534336 := fun j h1 h2 => by have h3 := kp3_94 j h1 (by omega); rw [hS1 j h2] at h3; exact h3
            have hJ : lwJ (sgP v_length0 (oct v_tape)) v_length0 (fun _ _ => True) 3 (fun _ => lwL v_waitsAt v_waiting.toNat) v_place0 4 (fun _ => lwL waitsAt_79 waiting_94.toNat) place0_79 := hA3.trans kp5_94
            refine g_iconst X dX10_readsCompared_97 ?_
            exact hQ _ _ _ _ dX10_readsCompared_98 ⟨by omega, ⟨place0_79, fault_79, number0_79, open_94, codeMany_94, waiting_94, said_94, waitsAt_79, (by omega), (by omega), (by omega), (by omega), (by omega), (by omega), r_said_94, r_waitsAt_79, (by intro hr; first | assumption | (exfalso; omega) | omega), (by intro hr; first | assumption | (exfalso; omega) | omega), (by first | assumption | omega), (by intro hr; first | assumption | (exfalso; omega) | omega), (by intro hr; first | assumption | (exfalso; omega) | omega), (by intro hr; first | assumption | (exfalso; omega) | omega), (by first | assumption | exact SB.refl _ _ | exact kp6_1 | exact SB.trans kp6_1 kp6_79 (Int.le_refl _)), (by intro hr; first | assumption | (exfalso; omega) | omega), (by first | assumption | omega), (by intro hr; first | exact hJ | (exfalso; omega)), (by intro hr; first | exact ⟨kp6_94, kp7_94⟩ | (exfalso; omega)), (by intro hr; first | exact hV | (exfalso; omega)), (by intro hr; first | exact kp8_94 | (exfalso; omega)), rfl⟩⟩
          · clear kb_79
            clear kp0_79
            clear kp1_79
            clear kp3_79
            clear kp4_79
            clear kp5_79
            clear kp8_79
            clear kp9_79
            clear kp10_79
            have hV : lwV (sgP v_length0 (oct v_tape)) v_length0 (fun _ _ => True) 3 (fun _ => lwL v_waitsAt v_waiting.toNat) v_place0 fault_79 := hA2.v (lwV.on (fun _ => 4 :: lwL v_waitsAt v_waiting.toNat) (kp11_79 (by omega)) (fun m S _ => by show ((lwD (4 :: _) : Nat) : Int) = _; rw [lwD_4]; omega))
            refine g_iconst X dX10_readsCompared_85 ?_
            exact hQ _ _ _ _ dX10_readsCompared_86 ⟨by omega, ⟨place0_79, fault_79, number0_79, open_79, codeMany_79, waiting_79, said_79, waitsAt_79, (by omega), (by omega), (by omega), (by omega), (by omega), (by omega), r_said_79, r_waitsAt_79, (by intro hr; first | assumption | (exfalso; omega) | omega), (by intro hr; first | assumption | (exfalso; omega) | omega), (by first | assumption | omega), (by intro hr; first | assumption | (exfalso; omega) | omega), (by intro hr; first | assumption | (exfalso; omega) | omega), (by intro hr; first | assumption | (exfalso; omega) | omega), (by first | assumption | exact SB.refl _ _ | exact kp6_1 | exact SB.trans kp6_1 kp6_79 (Int.le_refl _)), (by intro hr; first | assumption | (exfalso; omega) | omega), (by first | assumption | omega), (by intro hr; first | exact hJ | (exfalso; omega)), (by intro hr; first | exact ⟨kp6_94, kp7_94⟩ | (exfalso; omega)), (by intro hr; first | exact hV | (exfalso; omega)), (by intro hr; first | exact kp8_94 | (exfalso; omega)), rfl⟩⟩
        · refine g_aload_n X dX10_readsCompared_58 1 rfl ?_
          refine g_iconst X dX10_readsCompared_59 ?_
          refine g_aload_n X dX10_readsCompared_60 1 rfl ?_
          refine gM_get X 0 rfl 11 (by decide) uw1190 rfl dX10_readsCompared_61 ?_
          refine g_callVI0 X (c_X10_wrongAt l D cI cB cJ h q (p0 := 1) (p1 := place0_1) (by omega) (by first | assumption | omega) (by first | assumption | omega) (by first | assumption | omega) (by first | assumption | omega)) cv_X10_wrongAt uw1409 ⟨rfl, rfl, by decide, by decide⟩ 0 rfl rfl rfl rfl rfl (Nat.le_of_ble_eq_true rfl) ⟨Nat.zero_le _, Nat.zero_le _⟩ dX10_readsCompared_64 (fun t64 ws64 k64 => ?_)
          obtain ⟨kb_64, ⟨fault_64, kr_fault_64, kp0_64, kp1_64, rfl⟩⟩ := k64
          have hV : lwV (sgP v_length0 (oct v_tape)) v_length0 (fun _ _ => True) 3 (fun _ => lwL v_waitsAt v_waiting.toNat) v_place0 fault_64 := hA1.v (lwV.fin (fun m S _ => by rw [lwT_2, if_neg kp10_1, lwE_3, if_neg (by omega)]; exact congrArg Sum.inr (by omega)))
          exact hQ _ _ _ _ dX10_readsCompared_67 ⟨by omega, ⟨place0_1, fault_64, number0_1, open_1, codeMany_1, waiting_1, said_1, waitsAt_1, (by omega), (by omega), (by omega), (by omega), (by omega), (by omega), r_said_1, r_waitsAt_1, (by intro hr; first | assumption | (exfalso; omega) | omega), (by intro hr; first | assumption | (exfalso; omega) | omega), (by first | assumption | omega), (by intro hr; first | assumption | (exfalso; omega) | omega), (by intro hr; first | assumption | (exfalso; omega) | omega), (by intro hr; first | assumption | (exfalso; omega) | omega), (by first | assumption | exact SB.refl _ _ | exact kp6_1 | exact SB.trans kp6_1 kp6_79 (Int.le_refl _)), (by intro hr; first | assumption | (exfalso; omega) | omega), (by first | assumption | omega), (by intro hr; first | exact hJ | (exfalso; omega)), (by intro hr; first | exact ⟨kp6_94, kp7_94⟩ | (exfalso; omega)), (by intro hr; first | exact hV | (exfalso; omega)), (by intro hr; first | exact kp8_94 | (exfalso; omega)), rfl⟩⟩
    · refine g_bipush X (z := 7) dX10_readsCompared_18 (by decide) ?_
      refine g_goto X (tgt := 52) dX10_readsCompared_20 (by decide) ?_
      refine g_istore_n X (lv' := [(1, vI 7), (0, .ref h)]) dX10_readsCompared_52 (by decide) rfl ?_
      refine g_iload_n X dX10_readsCompared_53 0 rfl ?_
      refine g_iconst X dX10_readsCompared_54 ?_
      refine g_icmp_ne X (tgt := 68) dX10_readsCompared_55 (by decide) (by omega) (by omega) (fun c55 => ?_) (fun c55 => ?_)
      · have hG : Ge 10485760 waitsAt_1 waiting_1 := by rw [kp4_1]; exact Ge.same hp5 kp5_1
        have hb1 := cw_bd 11534336 waitsAt_1 waiting_1.toNat
        have hs9 : (sgP v_length0 (oct v_tape)) place0_1 = 60 ∨ (sgP v_length0 (oct v_tape)) place0_1 = 62 ∨ (sgP v_length0 (oct v_tape)) place0_1 = 61 := by omega
        have hA2 : lwJ (sgP v_length0 (oct v_tape)) v_length0 (fun _ _ => True) 3 (fun _ => lwL v_waitsAt v_waiting.toNat) v_place0 1 (fun _ => 4 :: lwL v_waitsAt v_waiting.toNat) (place0_1 + 1) := hA1.trans (lwJ.go (fun m S _ => by rw [lwT_2, if_neg kp10_1, lwE_3, if_pos hs9]))
        refine g_aload_n X dX10_readsCompared_68 1 rfl ?_
        refine g_aload_n X dX10_readsCompared_69 1 rfl ?_
        refine gM_get X 0 rfl 11 (by decide) uw1190 rfl dX10_readsCompared_70 ?_
        refine g_iconst X dX10_readsCompared_73 ?_
        refine g_iadd X dX10_readsCompared_74 ?_
        refine gM_put X 0 rfl 11 (by decide) uw1190 rfl rfl rfl (Nat.le_of_ble_eq_true rfl) dX10_readsCompared_75 (ws2 := (wX10 cI cB cJ h q v_stalls v_claimMany v_taped (place0_1 + 1) v_length0 fault_1 number0_1 open_1 codeMany_1 waiting_1 v_saidMany v_clauses v_newMany v_newStalls v_lines v_salesNow v_outNow v_isKept v_keptStalls v_now v_aside v_kept v_oneOf v_otherOf v_signOf v_byOf v_tape said_1 waitsAt_1 v_saidLetter v_saidFrom v_saidHalf v_saidTo v_codes v_clauseOf v_codeFrom v_codeHalf v_codeTo v_stack v_facts v_newOne v_newOther v_newSign v_newBy v_moreOf v_firstOf v_toldOf v_mostOf v_mostThen v_sumTo v_rowFrom v_ordersOf v_lessOf v_weightOf v_rowNow v_slowRow v_fastRow v_lineNow v_firstLine v_freeBy v_heldBy v_heightOf v_upTo v_downTo v_oftenOf v_newUpper v_newLower)) rfl ?_
        refine g_aload_n X dX10_readsCompared_78 1 rfl ?_
        refine g_callVI0 X (c_X10_readsSum l D cI cB cJ h q  (lo := lo) (gb := 1) (by omega) (by omega) (by omega) (by omega) (by omega) (by omega) (by omega) r_v_tape r_said_1 r_waitsAt_1 (by first | assumption | omega) (by first | assumption | omega) (by first | assumption | omega) (by first | assumption | omega) (by first | assumption | omega) (by first | assumption | omega) (by first | assumption | omega) (by first | assumption | omega)) cv_X10_readsSum uw1413 ⟨rfl, rfl, by decide, by decide⟩ 0 rfl rfl rfl rfl rfl (Nat.le_of_ble_eq_true rfl) ⟨Nat.zero_le _, Nat.zero_le _⟩ dX10_readsCompared_79 (fun t79 ws79 k79 => ?_)
        obtain ⟨kb_79, ⟨place0_79, fault_79, number0_79, open_79, codeMany_79, waiting_79, said_79, waitsAt_79, kr_place0_79, kr_fault_79, kr_number0_79, kr_open_79, kr_codeMany_79, kr_waiting_79, r_said_79, r_waitsAt_79, kp0_79, kp1_79, kp2_79, kp3_79, kp4_79, kp5_79, kp6_79, kp7_79, kp8_79, kp9_79, kp10_79, kp11_79, rfl⟩⟩ := k79
        refine g_if_ne X (tgt := 87) dX10_readsCompared_82 (by decide) (by omega) (fun c82 => ?_) (fun c82 => ?_)
        · replace kb_79 := kb_79.resolve_left (fun h => c82 h)
          replace kp0_79 := kp0_79 kb_79
          replace kp1_79 := kp1_79 kb_79
          replace kp3_79 := kp3_79 kb_79
          replace kp4_79 := kp4_79 kb_79
          replace kp5_79 := kp5_79 kb_79
          replace kp8_79 := kp8_79 kb_79
          replace kp9_79 := kp9_79 kb_79
          replace kp10_79 := kp10_79 kb_79
          have hS1 := SB.trans kp5_1 kp5_79 (by omega)
          have hb79 := cw_bd 11534336 waitsAt_79 waiting_79.toNat
          have hbd := kp0_79.bd
          have hLs : lwL waitsAt_79 waiting_79.toNat = lwL v_waitsAt v_waiting.toNat := by rw [show waiting_79 = v_waiting by omega]; exact lwL_same _ (fun j hj => hS1 j (by omega))
          have hA2b : lwJ (sgP v_length0 (oct v_tape)) v_length0 (fun _ _ => True) 3 (fun _ => lwL v_waitsAt v_waiting.toNat) v_place0 2 (fun _ => 4 :: lwL v_waitsAt v_waiting.toNat) place0_79 := hA2.trans (lwJ.on (fun _ => 4 :: lwL v_waitsAt v_waiting.toNat) kp8_79 (fun m S _ => by show ((lwD (4 :: _) : Nat) : Int) = _; rw [lwD_4]; omega))
          have hA3 : lwJ (sgP v_length0 (oct v_tape)) v_length0 (fun _ _ => True) 3 (fun _ => lwL v_waitsAt v_waiting.toNat) v_place0 4 (fun _ => lwL waitsAt_79 waiting_79.toNat) place0_79 := hA2b.trans (lwJ.go (fun m S _ => by rw [lwT_2, if_neg kp10_79, lwE_4, hLs]))
          have hO3 : open_79 = (lwD (lwL waitsAt_79 waiting_79.toNat) : Int) := by rw [hLs]; omega
          refine g_aload_n X dX10_readsCompared_87 1 rfl ?_
          refine g_iload_n X dX10_readsCompared_88 0 rfl ?_
          refine g_iconst X dX10_readsCompared_89 ?_
          refine g_callVV0 X (c_X10_notes l D cI cB cJ h q (p0 := 7) (p1 := 0) (by omega) r_said_79 (by first | assumption | omega) (by first | assumption | omega) (by first | assumption | omega) (by first | assumption | omega) (by first | assumption | omega)) cv_X10_notes uw1434 ⟨rfl, rfl, by decide, by decide⟩ 0 rfl rfl rfl rfl rfl (Nat.le_of_ble_eq_true rfl) ⟨Nat.zero_le _, Nat.zero_le _⟩ dX10_readsCompared_90 (fun ws90 k90 => ?_)
          obtain ⟨codeMany_90, said_90, kr_codeMany_90, r_said_90, kp0_90, kp1_90, rfl⟩ := k90
          have hR : RD lo said_90 codeMany_90 waitsAt_79 waiting_79 1 := by rw [kp1_90, kp0_90]; exact RD.note kp0_79 _ 1 (Or.inr (Or.inr (Or.inr ⟨by omega, by omega, by omega, by omega⟩)))
          have hSB : SB lo v_said said_90 := by rw [kp1_90]; exact SB.up (SB.trans kp6_1 kp6_79 (Int.le_refl _)) (by omega) (by omega)
          refine g_aload_n X dX10_readsCompared_93 1 rfl ?_
          refine g_callVV0 X (c_X10_endsPiece l D cI cB cJ h q  (lo := lo) (by omega) (by omega) (by omega) r_said_90 r_waitsAt_79 (by first | assumption | omega) (by first | assumption | omega) (by first | assumption | omega) (by first | assumption | omega) (by first | assumption | omega)) cv_X10_endsPiece uw1464 ⟨rfl, rfl, by decide, by decide⟩ 0 rfl rfl rfl rfl rfl (Nat.le_of_ble_eq_true rfl) ⟨Nat.zero_le _, Nat.zero_le _⟩ dX10_readsCompared_94 (fun ws94 k94 => ?_)
          obtain ⟨open_94, codeMany_94, waiting_94, said_94, kr_open_94, kr_codeMany_94, kr_waiting_94, r_said_94, kp0_94, kp1_94, kp2_94, kp3_94, kp4_94, kp5_94, kp6_94, kp7_94, kp8_94, rfl⟩ := k94
          have hSB2 := SB.trans hSB kp4_94 (Int.le_refl _)
          have hPP : ∀ j : Nat, waiting_94 ≤ (j : Int) → (j : Int) < v_waiting → v_waitsAt j < 11534336 := fun j h1 h2 => by have h3 := kp3_94 j h1 (by omega); rw [hS1 j h2] at h3; exact h3
          have hJ : lwJ (sgP v_length0 (oct v_tape)) v_length0 (fun _ _ => True) 3 (fun _ => lwL v_waitsAt v_waiting.toNat) v_place0 4 (fun _ => lwL waitsAt_79 waiting_94.toNat) place0_79 := hA3.trans kp5_94
          refine g_iconst X dX10_readsCompared_97 ?_
          exact hQ _ _ _ _ dX10_readsCompared_98 ⟨by omega, ⟨place0_79, fault_79, number0_79, open_94, codeMany_94, waiting_94, said_94, waitsAt_79, (by omega), (by omega), (by omega), (by omega), (by omega), (by omega), r_said_94, r_waitsAt_79, (by intro hr; first | assumption | (exfalso; omega) | omega), (by intro hr; first | assumption | (exfalso; omega) | omega), (by first | assumption | omega), (by intro hr; first | assumption | (exfalso; omega) | omega), (by intro hr; first | assumption | (exfalso; omega) | omega), (by intro hr; first | assumption | (exfalso; omega) | omega), (by first | assumption | exact SB.refl _ _ | exact kp6_1 | exact SB.trans kp6_1 kp6_79 (Int.le_refl _)), (by intro hr; first | assumption | (exfalso; omega) | omega), (by first | assumption | omega), (by intro hr; first | exact hJ | (exfalso; omega)), (by intro hr; first | exact ⟨kp6_94, kp7_94⟩ | (exfalso; omega)), (by intro hr; first | exact hV | (exfalso; omega)), (by intro hr; first | exact kp8_94 | (exfalso; omega)), rfl⟩⟩
        · clear kb_79
          clear kp0_79
          clear kp1_79
          clear kp3_79
          clear kp4_79
          clear kp5_79
          clear kp8_79
          clear kp9_79
          clear kp10_79
          have hV : lwV (sgP v_length0 (oct v_tape)) v_length0 (fun _ _ => True) 3 (fun _ => lwL v_waitsAt v_waiting.toNat) v_place0 fault_79 := hA2.v (lwV.on (fun _ => 4 :: lwL v_waitsAt v_waiting.toNat) (kp11_79 (by omega)) (fun m S _ => by show ((lwD (4 :: _) : Nat) : Int) = _; rw [lwD_4]; omega))
          refine g_iconst X dX10_readsCompared_85 ?_
          exact hQ _ _ _ _ dX10_readsCompared_86 ⟨by omega, ⟨place0_79, fault_79, number0_79, open_79, codeMany_79, waiting_79, said_79, waitsAt_79, (by omega), (by omega), (by omega), (by omega), (by omega), (by omega), r_said_79, r_waitsAt_79, (by intro hr; first | assumption | (exfalso; omega) | omega), (by intro hr; first | assumption | (exfalso; omega) | omega), (by first | assumption | omega), (by intro hr; first | assumption | (exfalso; omega) | omega), (by intro hr; first | assumption | (exfalso; omega) | omega), (by intro hr; first | assumption | (exfalso; omega) | omega), (by first | assumption | exact SB.refl _ _ | exact kp6_1 | exact SB.trans kp6_1 kp6_79 (Int.le_refl _)), (by intro hr; first | assumption | (exfalso; omega) | omega), (by first | assumption | omega), (by intro hr; first | exact hJ | (exfalso; omega)), (by intro hr; first | exact ⟨kp6_94, kp7_94⟩ | (exfalso; omega)), (by intro hr; first | exact hV | (exfalso; omega)), (by intro hr; first | exact kp8_94 | (exfalso; omega)), rfl⟩⟩
      · refine g_aload_n X dX10_readsCompared_58 1 rfl ?_
        refine g_iconst X dX10_readsCompared_59 ?_
        refine g_aload_n X dX10_readsCompared_60 1 rfl ?_
        refine gM_get X 0 rfl 11 (by decide) uw1190 rfl dX10_readsCompared_61 ?_
        refine g_callVI0 X (c_X10_wrongAt l D cI cB cJ h q (p0 := 1) (p1 := place0_1) (by omega) (by first | assumption | omega) (by first | assumption | omega) (by first | assumption | omega) (by first | assumption | omega)) cv_X10_wrongAt uw1409 ⟨rfl, rfl, by decide, by decide⟩ 0 rfl rfl rfl rfl rfl (Nat.le_of_ble_eq_true rfl) ⟨Nat.zero_le _, Nat.zero_le _⟩ dX10_readsCompared_64 (fun t64 ws64 k64 => ?_)
        obtain ⟨kb_64, ⟨fault_64, kr_fault_64, kp0_64, kp1_64, rfl⟩⟩ := k64
        have hV : lwV (sgP v_length0 (oct v_tape)) v_length0 (fun _ _ => True) 3 (fun _ => lwL v_waitsAt v_waiting.toNat) v_place0 fault_64 := hA1.v (lwV.fin (fun m S _ => by rw [lwT_2, if_neg kp10_1, lwE_3, if_neg (by omega)]; exact congrArg Sum.inr (by omega)))
        exact hQ _ _ _ _ dX10_readsCompared_67 ⟨by omega, ⟨place0_1, fault_64, number0_1, open_1, codeMany_1, waiting_1, said_1, waitsAt_1, (by omega), (by omega), (by omega), (by omega), (by omega), (by omega), r_said_1, r_waitsAt_1, (by intro hr; first | assumption | (exfalso; omega) | omega), (by intro hr; first | assumption | (exfalso; omega) | omega), (by first | assumption | omega), (by intro hr; first | assumption | (exfalso; omega) | omega), (by intro hr; first | assumption | (exfalso; omega) | omega), (by intro hr; first | assumption | (exfalso; omega) | omega), (by first | assumption | exact SB.refl _ _ | exact kp6_1 | exact SB.trans kp6_1 kp6_79 (Int.le_refl _)), (by intro hr; first | assumption | (exfalso; omega) | omega), (by first | assumption | omega), (by intro hr; first | exact hJ | (exfalso; omega)), (by intro hr; first | exact ⟨kp6_94, kp7_94⟩ | (exfalso; omega)), (by intro hr; first | exact hV | (exfalso; omega)), (by intro hr; first | exact kp8_94 | (exfalso; omega)), rfl⟩⟩
  · clear kb_1
    clear kp0_1
    clear kp1_1
    clear kp3_1
    clear kp4_1
    clear kp5_1
    clear kp8_1
    clear kp9_1
    clear kp10_1
    have hV : lwV (sgP v_length0 (oct v_tape)) v_length0 (fun _ _ => True) 3 (fun _ => lwL v_waitsAt v_waiting.toNat) v_place0 fault_1 := hA0.v (lwV.on (fun _ => 3 :: lwL v_waitsAt v_waiting.toNat) (kp11_1 (by omega)) (fun m S _ => by show ((lwD (3 :: _) : Nat) : Int) = _; rw [lwD_3]; omega))
    refine g_iconst X dX10_readsCompared_7 ?_
    exact hQ _ _ _ _ dX10_readsCompared_8 ⟨by omega, ⟨place0_1, fault_1, number0_1, open_1, codeMany_1, waiting_1, said_1, waitsAt_1, (by omega), (by omega), (by omega), (by omega), (by omega), (by omega), r_said_1, r_waitsAt_1, (by intro hr; first | assumption | (exfalso; omega) | omega), (by intro hr; first | assumption | (exfalso; omega) | omega), (by first | assumption | omega), (by intro hr; first | assumption | (exfalso; omega) | omega), (by intro hr; first | assumption | (exfalso; omega) | omega), (by intro hr; first | assumption | (exfalso; omega) | omega), (by first | assumption | exact SB.refl _ _ | exact kp6_1 | exact SB.trans kp6_1 kp6_79 (Int.le_refl _)), (by intro hr; first | assumption | (exfalso; omega) | omega), (by first | assumption | omega), (by intro hr; first | exact hJ | (exfalso; omega)), (by intro hr; first | exact ⟨kp6_94, kp7_94⟩ | (exfalso; omega)), (by intro hr; first | exact hV | (exfalso; omega)), (by intro hr; first | exact kp8_94 | (exfalso; omega)), rfl⟩⟩
