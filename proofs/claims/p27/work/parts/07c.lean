set_option maxHeartbeats 8000000 in
set_option maxRecDepth 100000 in
theorem c_X10_readsSum (l : Launch) (D : va_G) (cI cB cJ : ClassId) (h : Nat) (q : Nat → Nat) {v_stalls v_claimMany v_taped v_place0 v_length0 v_fault v_number0 v_open v_codeMany v_waiting v_saidMany v_clauses v_newMany v_newStalls v_lines v_salesNow v_outNow v_isKept v_keptStalls : Int} {v_now v_aside v_kept v_oneOf v_otherOf v_signOf v_byOf v_tape v_said v_waitsAt v_saidLetter v_saidFrom v_saidHalf v_saidTo v_codes v_clauseOf v_codeFrom v_codeHalf v_codeTo v_stack v_facts v_newOne v_newOther v_newSign v_newBy v_moreOf v_firstOf v_toldOf v_mostOf v_mostThen v_sumTo v_rowFrom v_ordersOf v_lessOf v_weightOf v_rowNow v_slowRow v_fastRow v_lineNow v_firstLine v_freeBy v_heldBy v_heightOf v_upTo v_downTo v_oftenOf v_newUpper v_newLower : Nat → Int} {lo gb : Int} (kr_v_place0 : 0 ≤ v_place0 ∧ v_place0 ≤ 260) (kr_v_length0 : 0 ≤ v_length0 ∧ v_length0 ≤ 260) (kr_v_fault : (-1000000) ≤ v_fault ∧ v_fault ≤ 1000000) (kr_v_number0 : 0 ≤ v_number0 ∧ v_number0 ≤ 99999) (kr_v_open : (-2147483648) ≤ v_open ∧ v_open ≤ 2147483647) (kr_v_codeMany : 0 ≤ v_codeMany ∧ v_codeMany ≤ 260) (kr_v_waiting : 0 ≤ v_waiting ∧ v_waiting ≤ 260) (r_v_tape : RA (-128) 127 v_tape) (r_v_said : RA 0 16777215 v_said) (r_v_waitsAt : RA 0 16777215 v_waitsAt) (hp0 : 0 ≤ gb) (hp1 : RD lo v_said v_codeMany v_waitsAt v_waiting gb) (hp2 : v_codeMany + cw 11534336 v_waitsAt v_waiting.toNat ≤ v_place0) (hp3 : v_waiting ≤ v_place0) (hp4 : v_place0 ≤ v_length0) (hp5 : v_length0 ≤ 240) (hp6 : Ge 10485760 v_waitsAt v_waiting) : CtI l yX10_readsSum cX10_readsSum 3 (some .boolean) ⟨4, 0, 0, 82⟩ D (TY cI cB cJ) (wX10 cI cB cJ h q v_stalls v_claimMany v_taped v_place0 v_length0 v_fault v_number0 v_open v_codeMany v_waiting v_saidMany v_clauses v_newMany v_newStalls v_lines v_salesNow v_outNow v_isKept v_keptStalls v_now v_aside v_kept v_oneOf v_otherOf v_signOf v_byOf v_tape v_said v_waitsAt v_saidLetter v_saidFrom v_saidHalf v_saidTo v_codes v_clauseOf v_codeFrom v_codeHalf v_codeTo v_stack v_facts v_newOne v_newOther v_newSign v_newBy v_moreOf v_firstOf v_toldOf v_mostOf v_mostThen v_sumTo v_rowFrom v_ordersOf v_lessOf v_weightOf v_rowNow v_slowRow v_fastRow v_lineNow v_firstLine v_freeBy v_heldBy v_heightOf v_upTo v_downTo v_oftenOf v_newUpper v_newLower) [.ref h] (fun z ws' => (z = 0 ∨ z = 1) ∧ ∃ n_place0 : Int, ∃ n_fault : Int, ∃ n_number0 : Int, ∃ n_open : Int, ∃ n_codeMany : Int, ∃ n_waiting : Int, ∃ n_said : Nat → Int, ∃ n_waitsAt : Nat → Int, (0 ≤ n_place0 ∧ n_place0 ≤ 260) ∧ ((-1000000) ≤ n_fault ∧ n_fault ≤ 1000000) ∧ (0 ≤ n_number0 ∧ n_number0 ≤ 99999) ∧ ((-2147483648) ≤ n_open ∧ n_open ≤ 2147483647) ∧ (0 ≤ n_codeMany ∧ n_codeMany ≤ 260) ∧ (0 ≤ n_waiting ∧ n_waiting ≤ 260) ∧ (RA 0 16777215 n_said) ∧ (RA 0 16777215 n_waitsAt) ∧ (z = 1 → RD lo n_said n_codeMany n_waitsAt n_waiting (gb + 1)) ∧ (z = 1 → n_codeMany + cw 11534336 n_waitsAt n_waiting.toNat - n_place0 ≤ v_codeMany + cw 11534336 v_waitsAt v_waiting.toNat - v_place0) ∧ (n_place0 ≤ v_length0) ∧ (z = 1 → v_place0 < n_place0) ∧ (z = 1 → n_waiting = v_waiting) ∧ (z = 1 → SB v_waiting v_waitsAt n_waitsAt) ∧ (SB lo v_said n_said) ∧ (v_place0 ≤ n_place0) ∧ (ws' = (wX10 cI cB cJ h q v_stalls v_claimMany v_taped n_place0 v_length0 n_fault n_number0 n_open n_codeMany n_waiting v_saidMany v_clauses v_newMany v_newStalls v_lines v_salesNow v_outNow v_isKept v_keptStalls v_now v_aside v_kept v_oneOf v_otherOf v_signOf v_byOf v_tape n_said n_waitsAt v_saidLetter v_saidFrom v_saidHalf v_saidTo v_codes v_clauseOf v_codeFrom v_codeHalf v_codeTo v_stack v_facts v_newOne v_newOther v_newSign v_newBy v_moreOf v_firstOf v_toldOf v_mostOf v_mostThen v_sumTo v_rowFrom v_ordersOf v_lessOf v_weightOf v_rowNow v_slowRow v_fastRow v_lineNow v_firstLine v_freeBy v_heldBy v_heightOf v_upTo v_downTo v_oftenOf v_newUpper v_newLower))) := by
  refine hdrZ (own := RX10) rfl (by decide +kernel) (Nat.le_of_ble_eq_true rfl) ?_
  intro p e s m args below meth c Q A X hQ
  refine g_lvE (lv2 := [(0, .ref h)]) rfl ?_
  refine g_aload_n X dX10_readsSum_0 0 rfl ?_
  refine gM_get X 0 rfl 17 (by decide) uw1196 rfl dX10_readsSum_1 ?_
  refine g_istore_n X (lv' := [(1, vI v_waiting), (0, .ref h)]) dX10_readsSum_4 (by decide) rfl ?_
  refine g_aload_n X dX10_readsSum_5 1 rfl ?_
  refine g_callVI0 X (c_X10_readsFactor l D cI cB cJ h q  (lo := lo) (gh := gb) (by omega) (by omega) (by omega) (by omega) (by omega) (by omega) (by omega) r_v_tape r_v_said r_v_waitsAt (by first | assumption | omega) (by first | assumption | omega) (by first | assumption | omega) (by first | assumption | omega) (by first | assumption | omega) (by first | assumption | omega)) cv_X10_readsFactor uw1417 ⟨rfl, rfl, by decide, by decide⟩ 0 rfl rfl rfl rfl rfl (Nat.le_of_ble_eq_true rfl) ⟨Nat.zero_le _, Nat.zero_le _⟩ dX10_readsSum_6 (fun t6 ws6 k6 => ?_)
  obtain ⟨kb_6, ⟨place0_6, fault_6, number0_6, open_6, codeMany_6, waiting_6, said_6, waitsAt_6, kr_place0_6, kr_fault_6, kr_number0_6, kr_open_6, kr_codeMany_6, kr_waiting_6, r_said_6, r_waitsAt_6, kp0_6, kp1_6, kp2_6, kp3_6, kp4_6, kp5_6, kp6_6, kp7_6, kp8_6, kp9_6, kp10_6, rfl⟩⟩ := k6
  refine g_if_ne X (tgt := 14) dX10_readsSum_9 (by decide) (by omega) (fun c9 => ?_) (fun c9 => ?_)
  · replace kb_6 := kb_6.resolve_left (fun h => c9 h)
    replace kp0_6 := kp0_6 kb_6
    replace kp1_6 := kp1_6 kb_6
    replace kp2_6 := kp2_6 kb_6
    replace kp4_6 := kp4_6 kb_6
    replace kp5_6 := kp5_6 kb_6
    replace kp6_6 := kp6_6 kb_6
    replace kp7_6 := kp7_6 kb_6
    replace kp9_6 := kp9_6 kb_6
    have hz : cw 7340032 v_waitsAt v_waiting.toNat = 0 := cw_zero _ (fun j hj => by have := hp6 j (by omega); omega)
    have hR : RD lo said_6 codeMany_6 waitsAt_6 waiting_6 (gb + 1 + cw 7340032 waitsAt_6 waiting_6.toNat) := by rw [show gb + 1 + cw 7340032 waitsAt_6 waiting_6.toNat = gb + 1 by omega]; exact kp0_6
    have hA : AB v_waiting waitsAt_6 waiting_6 := AB.ext (AB.nil (Int.le_refl _)) kp4_6 kp7_6
    have L14 : ∀ (n : Nat) (place0_14 : Int) (fault_14 : Int) (number0_14 : Int) (open_14 : Int) (codeMany_14 : Int) (waiting_14 : Int) (said_14 : Nat → Int) (waitsAt_14 : Nat → Int), (0 ≤ place0_14 ∧ place0_14 ≤ 260) → ((-1000000) ≤ fault_14 ∧ fault_14 ≤ 1000000) → (0 ≤ number0_14 ∧ number0_14 ≤ 99999) → ((-2147483648) ≤ open_14 ∧ open_14 ≤ 2147483647) → (0 ≤ codeMany_14 ∧ codeMany_14 ≤ 260) → (0 ≤ waiting_14 ∧ waiting_14 ≤ 260) → (RA 0 16777215 said_14) → (RA 0 16777215 waitsAt_14) → (RD lo said_14 codeMany_14 waitsAt_14 waiting_14 (gb + 1 + cw 7340032 waitsAt_14 waiting_14.toNat)) → (codeMany_14 + cw 11534336 waitsAt_14 waiting_14.toNat - place0_14 ≤ v_codeMany + cw 11534336 v_waitsAt v_waiting.toNat - v_place0) → (waiting_14 ≤ place0_14) → (place0_14 ≤ v_length0) → (v_place0 < place0_14) → (v_waiting ≤ waiting_14) → (SB v_waiting v_waitsAt waitsAt_14) → (SB lo v_said said_14) → (AB v_waiting waitsAt_14 waiting_14) → (v_length0 - place0_14).toNat < n → GG p l e ⟨4, 0, 0, 82⟩ s m args below meth c 0 0 Q D A s.heap 3 (wX10 cI cB cJ h q v_stalls v_claimMany v_taped place0_14 v_length0 fault_14 number0_14 open_14 codeMany_14 waiting_14 v_saidMany v_clauses v_newMany v_newStalls v_lines v_salesNow v_outNow v_isKept v_keptStalls v_now v_aside v_kept v_oneOf v_otherOf v_signOf v_byOf v_tape said_14 waitsAt_14 v_saidLetter v_saidFrom v_saidHalf v_saidTo v_codes v_clauseOf v_codeFrom v_codeHalf v_codeTo v_stack v_facts v_newOne v_newOther v_newSign v_newBy v_moreOf v_firstOf v_toldOf v_mostOf v_mostThen v_sumTo v_rowFrom v_ordersOf v_lessOf v_weightOf v_rowNow v_slowRow v_fastRow v_lineNow v_firstLine v_freeBy v_heldBy v_heightOf v_upTo v_downTo v_oftenOf v_newUpper v_newLower) 14 [(0, .ref h), (1, vI v_waiting)] [] := by
      intro n
      induction n with
      | zero => intros; exfalso; omega
      | succ n ih14 =>
        intro place0_14 fault_14 number0_14 open_14 codeMany_14 waiting_14 said_14 waitsAt_14 kr_place0_14 kr_fault_14 kr_number0_14 kr_open_14 kr_codeMany_14 kr_waiting_14 r_said_14 r_waitsAt_14 w14_0 w14_1 w14_2 w14_3 w14_4 w14_5 w14_6 w14_7 w14_8 wm14
        have hG : Ge 2097152 waitsAt_14 waiting_14 := Ge.of hp6 w14_6 w14_8
        have hbd := w14_0.bd
        have hb11 := cw_bd 11534336 waitsAt_14 waiting_14.toNat
        refine g_aload_n X dX10_readsSum_14 0 rfl ?_
        refine g_callVI0 X (c_X10_here l D cI cB cJ h q  (by omega) (by omega) r_v_tape) cv_X10_here uw1405 ⟨rfl, rfl, by decide, by decide⟩ 0 rfl rfl rfl rfl rfl (Nat.le_of_ble_eq_true rfl) ⟨Nat.zero_le _, Nat.zero_le _⟩ dX10_readsSum_15 (fun t15 ws15 k15 => ?_)
        obtain ⟨kp0_15, kp1_15, kp2_15, rfl⟩ := k15
        refine g_callSIE X (c_X10_sumSign l D cI cB cJ (p0 := t15) (by first | assumption | omega)) cv_X10_sumSign uw1441 ⟨rfl, rfl, by decide, by decide⟩ rfl rfl (Nat.le_of_ble_eq_true rfl) ⟨Nat.zero_le _, Nat.zero_le _⟩ dX10_readsSum_18 (fun t18 ws18 k18 => ?_)
        obtain ⟨kp0_18, rfl⟩ := k18
        refine g_istore_n X (lv' := [(2, vI t18), (0, .ref h), (1, vI v_waiting)]) dX10_readsSum_21 (by decide) rfl ?_
        refine g_iload_n X dX10_readsSum_22 0 rfl ?_
        refine g_iconst X dX10_readsSum_23 ?_
        refine g_icmp_eq X (tgt := 83) dX10_readsSum_24 (by decide) (by omega) (by omega) (fun c24 => ?_) (fun c24 => ?_)
        · refine g_aload_n X dX10_readsSum_83 1 rfl ?_
          refine g_callVI0 X (c_X10_here l D cI cB cJ h q  (by omega) (by omega) r_v_tape) cv_X10_here uw1405 ⟨rfl, rfl, by decide, by decide⟩ 0 rfl rfl rfl rfl rfl (Nat.le_of_ble_eq_true rfl) ⟨Nat.zero_le _, Nat.zero_le _⟩ dX10_readsSum_84 (fun t84 ws84 k84 => ?_)
          obtain ⟨kp0_84, kp1_84, kp2_84, rfl⟩ := k84
          refine g_bipush X (z := 93) dX10_readsSum_87 (by decide) ?_
          refine g_icmp_ne X (tgt := 138) dX10_readsSum_89 (by decide) (by omega) (by omega) (fun c89 => ?_) (fun c89 => ?_)
          · refine g_aload_n X dX10_readsSum_138 1 rfl ?_
            refine g_iload_n X dX10_readsSum_139 2 rfl ?_
            refine g_callVI0 X (c_X10_hasOpenSum l D cI cB cJ h q (p0 := v_waiting) (by omega) r_waitsAt_14 (by first | assumption | omega) (by first | assumption | omega)) cv_X10_hasOpenSum uw1452 ⟨rfl, rfl, by decide, by decide⟩ 0 rfl rfl rfl rfl rfl (Nat.le_of_ble_eq_true rfl) ⟨Nat.zero_le _, Nat.zero_le _⟩ dX10_readsSum_140 (fun t140 ws140 k140 => ?_)
            obtain ⟨kb_140, ⟨kp0_140, rfl⟩⟩ := k140
            refine g_if_eq X (tgt := 156) dX10_readsSum_143 (by decide) (by omega) (fun c143 => ?_) (fun c143 => ?_)
            · clear kb_140
              replace kp0_140 := (kp0_140.resolve_left (fun h => absurd h.1 (by omega))).2
              refine g_aload_n X dX10_readsSum_156 1 rfl ?_
              refine g_iconst X dX10_readsSum_157 ?_
              refine g_callVV0 X (c_X10_closesSums l D cI cB cJ h q (p0 := 1) (lo := lo) (gb := gb) (by omega) (by omega) r_said_14 r_waitsAt_14 (by first | assumption | omega) (by first | assumption | omega) (by first | assumption | omega) (by first | assumption | omega) (by first | assumption | omega) (by first | assumption | omega)) cv_X10_closesSums uw1444 ⟨rfl, rfl, by decide, by decide⟩ 0 rfl rfl rfl rfl rfl (Nat.le_of_ble_eq_true rfl) ⟨Nat.zero_le _, Nat.zero_le _⟩ dX10_readsSum_158 (fun ws158 k158 => ?_)
              obtain ⟨codeMany_158, waiting_158, said_158, kr_codeMany_158, kr_waiting_158, r_said_158, kp0_158, kp1_158, kp2_158, kp3_158, kp4_158, kp5_158, rfl⟩ := k158
              have hE : waiting_158 = v_waiting := AB.close hp6 w14_6 w14_8 (by omega) w14_5 (by omega) kp2_158 kp0_140 kp3_158 (kp4_158 rfl)
              have hz : cw 7340032 waitsAt_14 v_waiting.toNat = 0 := cw_zero _ (fun j hj => by rw [w14_6 j (by omega)]; have := hp6 j (by omega); omega)
              have hR : RD lo said_158 codeMany_158 waitsAt_14 waiting_158 (gb + 1) := by rw [show gb + 1 = gb + 1 + cw 7340032 waitsAt_14 waiting_158.toNat by rw [hE, hz]; omega]; exact kp0_158
              have hSl : SB lo v_said said_158 := SB.trans w14_7 kp5_158 (Int.le_refl _)
              refine g_iconst X dX10_readsSum_161 ?_
              exact hQ _ _ _ _ dX10_readsSum_162 ⟨by omega, ⟨place0_14, fault_14, number0_14, open_14, codeMany_158, waiting_158, said_158, waitsAt_14, (by omega), (by omega), (by omega), (by omega), (by omega), (by omega), r_said_158, r_waitsAt_14, (by intro hr; first | assumption | (exfalso; omega) | omega), (by intro hr; first | assumption | (exfalso; omega) | omega), (by first | assumption | omega), (by intro hr; first | assumption | (exfalso; omega) | omega), (by intro hr; first | assumption | (exfalso; omega) | omega), (by intro hr; first | assumption | (exfalso; omega) | omega), (by first | assumption | exact SB.refl _ _ | exact SB.trans (SB.trans w14_7 kp5_38 (Int.le_refl _)) kp8_75 (Int.le_refl _) | exact SB.trans w14_7 kp5_158 (Int.le_refl _)), (by first | assumption | omega), rfl⟩⟩
            · replace kb_140 := kb_140.resolve_left (fun h => c143 h)
              replace kp0_140 := kp0_140.resolve_right (fun h => c143 h.1)
              refine g_aload_n X dX10_readsSum_146 1 rfl ?_
              refine g_iconst X dX10_readsSum_147 ?_
              refine g_aload_n X dX10_readsSum_148 1 rfl ?_
              refine gM_get X 0 rfl 11 (by decide) uw1190 rfl dX10_readsSum_149 ?_
              refine g_callVI0 X (c_X10_wrongAt l D cI cB cJ h q (p0 := 1) (p1 := place0_14) (by omega) (by first | assumption | omega) (by first | assumption | omega) (by first | assumption | omega) (by first | assumption | omega)) cv_X10_wrongAt uw1409 ⟨rfl, rfl, by decide, by decide⟩ 0 rfl rfl rfl rfl rfl (Nat.le_of_ble_eq_true rfl) ⟨Nat.zero_le _, Nat.zero_le _⟩ dX10_readsSum_152 (fun t152 ws152 k152 => ?_)
              obtain ⟨kb_152, ⟨fault_152, kr_fault_152, kp0_152, kp1_152, rfl⟩⟩ := k152
              exact hQ _ _ _ _ dX10_readsSum_155 ⟨by omega, ⟨place0_14, fault_152, number0_14, open_14, codeMany_14, waiting_14, said_14, waitsAt_14, (by omega), (by omega), (by omega), (by omega), (by omega), (by omega), r_said_14, r_waitsAt_14, (by intro hr; first | assumption | (exfalso; omega) | omega), (by intro hr; first | assumption | (exfalso; omega) | omega), (by first | assumption | omega), (by intro hr; first | assumption | (exfalso; omega) | omega), (by intro hr; first | assumption | (exfalso; omega) | omega), (by intro hr; first | assumption | (exfalso; omega) | omega), (by first | assumption | exact SB.refl _ _ | exact SB.trans (SB.trans w14_7 kp5_38 (Int.le_refl _)) kp8_75 (Int.le_refl _) | exact SB.trans w14_7 kp5_158 (Int.le_refl _)), (by first | assumption | omega), rfl⟩⟩
          · refine g_aload_n X dX10_readsSum_92 1 rfl ?_
            refine g_iload_n X dX10_readsSum_93 2 rfl ?_
            refine g_callVI0 X (c_X10_hasOpenSum l D cI cB cJ h q (p0 := v_waiting) (by omega) r_waitsAt_14 (by first | assumption | omega) (by first | assumption | omega)) cv_X10_hasOpenSum uw1452 ⟨rfl, rfl, by decide, by decide⟩ 0 rfl rfl rfl rfl rfl (Nat.le_of_ble_eq_true rfl) ⟨Nat.zero_le _, Nat.zero_le _⟩ dX10_readsSum_94 (fun t94 ws94 k94 => ?_)
            obtain ⟨kb_94, ⟨kp0_94, rfl⟩⟩ := k94
            refine g_if_eq X (tgt := 138) dX10_readsSum_97 (by decide) (by omega) (fun c97 => ?_) (fun c97 => ?_)
            · clear kb_94
              replace kp0_94 := (kp0_94.resolve_left (fun h => absurd h.1 (by omega))).2
              refine g_aload_n X dX10_readsSum_138 1 rfl ?_
              refine g_iload_n X dX10_readsSum_139 2 rfl ?_
              refine g_callVI0 X (c_X10_hasOpenSum l D cI cB cJ h q (p0 := v_waiting) (by omega) r_waitsAt_14 (by first | assumption | omega) (by first | assumption | omega)) cv_X10_hasOpenSum uw1452 ⟨rfl, rfl, by decide, by decide⟩ 0 rfl rfl rfl rfl rfl (Nat.le_of_ble_eq_true rfl) ⟨Nat.zero_le _, Nat.zero_le _⟩ dX10_readsSum_140 (fun t140 ws140 k140 => ?_)
              obtain ⟨kb_140, ⟨kp0_140, rfl⟩⟩ := k140
              refine g_if_eq X (tgt := 156) dX10_readsSum_143 (by decide) (by omega) (fun c143 => ?_) (fun c143 => ?_)
              · clear kb_140
                replace kp0_140 := (kp0_140.resolve_left (fun h => absurd h.1 (by omega))).2
                refine g_aload_n X dX10_readsSum_156 1 rfl ?_
                refine g_iconst X dX10_readsSum_157 ?_
                refine g_callVV0 X (c_X10_closesSums l D cI cB cJ h q (p0 := 1) (lo := lo) (gb := gb) (by omega) (by omega) r_said_14 r_waitsAt_14 (by first | assumption | omega) (by first | assumption | omega) (by first | assumption | omega) (by first | assumption | omega) (by first | assumption | omega) (by first | assumption | omega)) cv_X10_closesSums uw1444 ⟨rfl, rfl, by decide, by decide⟩ 0 rfl rfl rfl rfl rfl (Nat.le_of_ble_eq_true rfl) ⟨Nat.zero_le _, Nat.zero_le _⟩ dX10_readsSum_158 (fun ws158 k158 => ?_)
                obtain ⟨codeMany_158, waiting_158, said_158, kr_codeMany_158, kr_waiting_158, r_said_158, kp0_158, kp1_158, kp2_158, kp3_158, kp4_158, kp5_158, rfl⟩ := k158
                have hE : waiting_158 = v_waiting := AB.close hp6 w14_6 w14_8 (by omega) w14_5 (by omega) kp2_158 kp0_140 kp3_158 (kp4_158 rfl)
                have hz : cw 7340032 waitsAt_14 v_waiting.toNat = 0 := cw_zero _ (fun j hj => by rw [w14_6 j (by omega)]; have := hp6 j (by omega); omega)
                have hR : RD lo said_158 codeMany_158 waitsAt_14 waiting_158 (gb + 1) := by rw [show gb + 1 = gb + 1 + cw 7340032 waitsAt_14 waiting_158.toNat by rw [hE, hz]; omega]; exact kp0_158
                have hSl : SB lo v_said said_158 := SB.trans w14_7 kp5_158 (Int.le_refl _)
                refine g_iconst X dX10_readsSum_161 ?_
                exact hQ _ _ _ _ dX10_readsSum_162 ⟨by omega, ⟨place0_14, fault_14, number0_14, open_14, codeMany_158, waiting_158, said_158, waitsAt_14, (by omega), (by omega), (by omega), (by omega), (by omega), (by omega), r_said_158, r_waitsAt_14, (by intro hr; first | assumption | (exfalso; omega) | omega), (by intro hr; first | assumption | (exfalso; omega) | omega), (by first | assumption | omega), (by intro hr; first | assumption | (exfalso; omega) | omega), (by intro hr; first | assumption | (exfalso; omega) | omega), (by intro hr; first | assumption | (exfalso; omega) | omega), (by first | assumption | exact SB.refl _ _ | exact SB.trans (SB.trans w14_7 kp5_38 (Int.le_refl _)) kp8_75 (Int.le_refl _) | exact SB.trans w14_7 kp5_158 (Int.le_refl _)), (by first | assumption | omega), rfl⟩⟩
              · replace kb_140 := kb_140.resolve_left (fun h => c143 h)
                replace kp0_140 := kp0_140.resolve_right (fun h => c143 h.1)
                refine g_aload_n X dX10_readsSum_146 1 rfl ?_
                refine g_iconst X dX10_readsSum_147 ?_
                refine g_aload_n X dX10_readsSum_148 1 rfl ?_
                refine gM_get X 0 rfl 11 (by decide) uw1190 rfl dX10_readsSum_149 ?_
                refine g_callVI0 X (c_X10_wrongAt l D cI cB cJ h q (p0 := 1) (p1 := place0_14) (by omega) (by first | assumption | omega) (by first | assumption | omega) (by first | assumption | omega) (by first | assumption | omega)) cv_X10_wrongAt uw1409 ⟨rfl, rfl, by decide, by decide⟩ 0 rfl rfl rfl rfl rfl (Nat.le_of_ble_eq_true rfl) ⟨Nat.zero_le _, Nat.zero_le _⟩ dX10_readsSum_152 (fun t152 ws152 k152 => ?_)
                obtain ⟨kb_152, ⟨fault_152, kr_fault_152, kp0_152, kp1_152, rfl⟩⟩ := k152
                exact hQ _ _ _ _ dX10_readsSum_155 ⟨by omega, ⟨place0_14, fault_152, number0_14, open_14, codeMany_14, waiting_14, said_14, waitsAt_14, (by omega), (by omega), (by omega), (by omega), (by omega), (by omega), r_said_14, r_waitsAt_14, (by intro hr; first | assumption | (exfalso; omega) | omega), (by intro hr; first | assumption | (exfalso; omega) | omega), (by first | assumption | omega), (by intro hr; first | assumption | (exfalso; omega) | omega), (by intro hr; first | assumption | (exfalso; omega) | omega), (by intro hr; first | assumption | (exfalso; omega) | omega), (by first | assumption | exact SB.refl _ _ | exact SB.trans (SB.trans w14_7 kp5_38 (Int.le_refl _)) kp8_75 (Int.le_refl _) | exact SB.trans w14_7 kp5_158 (Int.le_refl _)), (by first | assumption | omega), rfl⟩⟩
            · replace kb_94 := kb_94.resolve_left (fun h => c97 h)
              replace kp0_94 := kp0_94.resolve_right (fun h => c97 h.1)
              obtain ⟨-, j0, hj1, hj2, hj3⟩ := kp0_94
              refine g_aload_n X dX10_readsSum_100 1 rfl ?_
              refine g_iconst X dX10_readsSum_101 ?_
              refine g_callVV0 X (c_X10_closesSums l D cI cB cJ h q (p0 := 1) (lo := lo) (gb := gb) (by omega) (by omega) r_said_14 r_waitsAt_14 (by first | assumption | omega) (by first | assumption | omega) (by first | assumption | omega) (by first | assumption | omega) (by first | assumption | omega) (by first | assumption | omega)) cv_X10_closesSums uw1444 ⟨rfl, rfl, by decide, by decide⟩ 0 rfl rfl rfl rfl rfl (Nat.le_of_ble_eq_true rfl) ⟨Nat.zero_le _, Nat.zero_le _⟩ dX10_readsSum_102 (fun ws102 k102 => ?_)
              obtain ⟨codeMany_102, waiting_102, said_102, kr_codeMany_102, kr_waiting_102, r_said_102, kp0_102, kp1_102, kp2_102, kp3_102, kp4_102, kp5_102, rfl⟩ := k102
              have hj4 : (j0 : Int) < waiting_102 := by rcases (show (j0 : Int) < waiting_102 ∨ waiting_102 ≤ (j0 : Int) by omega) with h | h; exact h; (exfalso; have h1 := kp3_102 j0 h hj2; omega)
              have hT := w14_8 (waiting_102 - 1).toNat (by omega) (by omega)
              have hT4 : waitsAt_14 (waiting_102 - 1).toNat = 14680064 := by rcases hT.2 with h | h; (exfalso; omega); exact h
              have h7 := cw_pop_ge 7340032 waitsAt_14 (w := waiting_102) (by omega) (by omega)
              have h11 := cw_pop_ge 11534336 waitsAt_14 (w := waiting_102) (by omega) (by omega)
              have hR : RD lo said_102 codeMany_102 waitsAt_14 (waiting_102 - 1) (gb + 1 + cw 7340032 waitsAt_14 (waiting_102 - 1).toNat) := by rw [← h7]; exact RD.pop kp0_102 (by omega) (by omega)
              have hA : AB v_waiting waitsAt_14 (waiting_102 - 1) := w14_8.less (by omega)
              have hSl : SB lo v_said said_102 := SB.trans w14_7 kp5_102 (Int.le_refl _)
              refine g_aload_n X dX10_readsSum_105 1 rfl ?_
              refine g_aload_n X dX10_readsSum_106 1 rfl ?_
              refine gM_get X 0 rfl 17 (by decide) uw1196 rfl dX10_readsSum_107 ?_
              refine g_iconst X dX10_readsSum_110 ?_
              refine g_isub X dX10_readsSum_111 ?_
              refine gM_put X 0 rfl 17 (by decide) uw1196 rfl rfl rfl (Nat.le_of_ble_eq_true rfl) dX10_readsSum_112 (ws2 := (wX10 cI cB cJ h q v_stalls v_claimMany v_taped place0_14 v_length0 fault_14 number0_14 open_14 codeMany_102 (waiting_102 - 1) v_saidMany v_clauses v_newMany v_newStalls v_lines v_salesNow v_outNow v_isKept v_keptStalls v_now v_aside v_kept v_oneOf v_otherOf v_signOf v_byOf v_tape said_102 waitsAt_14 v_saidLetter v_saidFrom v_saidHalf v_saidTo v_codes v_clauseOf v_codeFrom v_codeHalf v_codeTo v_stack v_facts v_newOne v_newOther v_newSign v_newBy v_moreOf v_firstOf v_toldOf v_mostOf v_mostThen v_sumTo v_rowFrom v_ordersOf v_lessOf v_weightOf v_rowNow v_slowRow v_fastRow v_lineNow v_firstLine v_freeBy v_heldBy v_heightOf v_upTo v_downTo v_oftenOf v_newUpper v_newLower)) rfl ?_
              refine g_aload_n X dX10_readsSum_115 1 rfl ?_
              refine g_aload_n X dX10_readsSum_116 1 rfl ?_
              refine gM_get X 0 rfl 15 (by decide) uw1194 rfl dX10_readsSum_117 ?_
              refine g_iconst X dX10_readsSum_120 ?_
              refine g_isub X dX10_readsSum_121 ?_
              refine g_nr (fun t121 e121 r121 => ?_)
              refine gM_put X 0 rfl 15 (by decide) uw1194 rfl rfl rfl (Nat.le_of_ble_eq_true rfl) dX10_readsSum_122 (ws2 := (wX10 cI cB cJ h q v_stalls v_claimMany v_taped place0_14 v_length0 fault_14 number0_14 t121 codeMany_102 (waiting_102 - 1) v_saidMany v_clauses v_newMany v_newStalls v_lines v_salesNow v_outNow v_isKept v_keptStalls v_now v_aside v_kept v_oneOf v_otherOf v_signOf v_byOf v_tape said_102 waitsAt_14 v_saidLetter v_saidFrom v_saidHalf v_saidTo v_codes v_clauseOf v_codeFrom v_codeHalf v_codeTo v_stack v_facts v_newOne v_newOther v_newSign v_newBy v_moreOf v_firstOf v_toldOf v_mostOf v_mostThen v_sumTo v_rowFrom v_ordersOf v_lessOf v_weightOf v_rowNow v_slowRow v_fastRow v_lineNow v_firstLine v_freeBy v_heldBy v_heightOf v_upTo v_downTo v_oftenOf v_newUpper v_newLower)) rfl ?_
              refine g_aload_n X dX10_readsSum_125 1 rfl ?_
              refine g_aload_n X dX10_readsSum_126 1 rfl ?_
              refine gM_get X 0 rfl 11 (by decide) uw1190 rfl dX10_readsSum_127 ?_
              refine g_iconst X dX10_readsSum_130 ?_
              refine g_iadd X dX10_readsSum_131 ?_
              refine gM_put X 0 rfl 11 (by decide) uw1190 rfl rfl rfl (Nat.le_of_ble_eq_true rfl) dX10_readsSum_132 (ws2 := (wX10 cI cB cJ h q v_stalls v_claimMany v_taped (place0_14 + 1) v_length0 fault_14 number0_14 t121 codeMany_102 (waiting_102 - 1) v_saidMany v_clauses v_newMany v_newStalls v_lines v_salesNow v_outNow v_isKept v_keptStalls v_now v_aside v_kept v_oneOf v_otherOf v_signOf v_byOf v_tape said_102 waitsAt_14 v_saidLetter v_saidFrom v_saidHalf v_saidTo v_codes v_clauseOf v_codeFrom v_codeHalf v_codeTo v_stack v_facts v_newOne v_newOther v_newSign v_newBy v_moreOf v_firstOf v_toldOf v_mostOf v_mostThen v_sumTo v_rowFrom v_ordersOf v_lessOf v_weightOf v_rowNow v_slowRow v_fastRow v_lineNow v_firstLine v_freeBy v_heldBy v_heightOf v_upTo v_downTo v_oftenOf v_newUpper v_newLower)) rfl ?_
              refine g_goto X (tgt := 163) dX10_readsSum_135 (by decide) ?_
              refine g_goto X (tgt := 14) dX10_readsSum_163 (by decide) ?_
              refine g_lv [1, 2] rfl ?_
              exact ih14 (place0_14 + 1) fault_14 number0_14 t121 codeMany_102 (waiting_102 - 1) said_102 waitsAt_14 (by omega) (by omega) (by omega) (by omega) (by omega) (by omega) r_said_102 r_waitsAt_14 (by first | assumption | (rw [show gb + 1 + cw 7340032 waitsAt_75 waiting_75.toNat = gb + 1 + cw 7340032 waitsAt_14 waiting_38.toNat + 1 by omega]; exact kp0_75)) (by first | assumption | omega) (by first | assumption | omega) (by first | assumption | omega) (by first | assumption | omega) (by first | assumption | omega) (by first | assumption | exact SB.trans hS kp4_75 (by omega)) (by first | assumption | exact SB.trans (SB.trans w14_7 kp5_38 (Int.le_refl _)) kp8_75 (Int.le_refl _)) (by first | assumption | exact AB.ext hA kp4_75 kp7_75) (by omega)
        · refine g_aload_n X dX10_readsSum_27 1 rfl ?_
          refine g_iload_n X dX10_readsSum_28 0 rfl ?_
          refine g_iconst X dX10_readsSum_29 ?_
          refine g_icmp_ge X (tgt := 37) dX10_readsSum_30 (by decide) (by omega) (by omega) (fun c30 => ?_) (fun c30 => ?_)
          · refine g_iconst X dX10_readsSum_37 ?_
            refine g_callVV0 X (c_X10_closesSums l D cI cB cJ h q (p0 := 0) (lo := lo) (gb := gb) (by omega) (by omega) r_said_14 r_waitsAt_14 (by first | assumption | omega) (by first | assumption | omega) (by first | assumption | omega) (by first | assumption | omega) (by first | assumption | omega) (by first | assumption | omega)) cv_X10_closesSums uw1444 ⟨rfl, rfl, by decide, by decide⟩ 0 rfl rfl rfl rfl rfl (Nat.le_of_ble_eq_true rfl) ⟨Nat.zero_le _, Nat.zero_le _⟩ dX10_readsSum_38 (fun ws38 k38 => ?_)
            obtain ⟨codeMany_38, waiting_38, said_38, kr_codeMany_38, kr_waiting_38, r_said_38, kp0_38, kp1_38, kp2_38, kp3_38, kp4_38, kp5_38, rfl⟩ := k38
            have hb7 := cw_bd 7340032 waitsAt_14 waiting_38.toNat
            have hb38 := cw_bd 11534336 waitsAt_14 waiting_38.toNat
            have hw38 : v_waiting ≤ waiting_38 := by rcases (show waiting_38 < v_waiting ∨ v_waiting ≤ waiting_38 by omega) with h | h; (exfalso; have h1 := kp3_38 waiting_38.toNat (by omega) (by omega); have h2 := hp6 waiting_38.toNat (by omega); rw [w14_6 waiting_38.toNat (by omega)] at h1; omega); exact h
            refine g_aload_n X dX10_readsSum_41 1 rfl ?_
            refine gM_get X 0 rfl 21 (by decide) uw1200 rfl dX10_readsSum_42 ?_
            refine g_aload_n X dX10_readsSum_45 1 rfl ?_
            refine gM_get X 0 rfl 17 (by decide) uw1196 rfl dX10_readsSum_46 ?_
            refine g_ldc X (z := 1048576) dX10_readsSum_49 uw1425 (by decide) ?_
            refine g_iload_n X dX10_readsSum_51 0 rfl ?_
            refine g_imul X dX10_readsSum_52 ?_
            refine g_iast X 10 0 rfl rfl (by omega) (by decide) dX10_readsSum_53 (fun waitsAt_53 e53 => ?_)
            have r_waitsAt_53 : RA 0 16777215 waitsAt_53 := by rw [e53]; exact RA_up r_waitsAt_14 (by omega)
            refine g_ws (ws2 := (wX10 cI cB cJ h q v_stalls v_claimMany v_taped place0_14 v_length0 fault_14 number0_14 open_14 codeMany_38 waiting_38 v_saidMany v_clauses v_newMany v_newStalls v_lines v_salesNow v_outNow v_isKept v_keptStalls v_now v_aside v_kept v_oneOf v_otherOf v_signOf v_byOf v_tape said_38 waitsAt_53 v_saidLetter v_saidFrom v_saidHalf v_saidTo v_codes v_clauseOf v_codeFrom v_codeHalf v_codeTo v_stack v_facts v_newOne v_newOther v_newSign v_newBy v_moreOf v_firstOf v_toldOf v_mostOf v_mostThen v_sumTo v_rowFrom v_ordersOf v_lessOf v_weightOf v_rowNow v_slowRow v_fastRow v_lineNow v_firstLine v_freeBy v_heldBy v_heightOf v_upTo v_downTo v_oftenOf v_newUpper v_newLower)) rfl ?_
            refine g_aload_n X dX10_readsSum_54 1 rfl ?_
            refine g_aload_n X dX10_readsSum_55 1 rfl ?_
            refine gM_get X 0 rfl 17 (by decide) uw1196 rfl dX10_readsSum_56 ?_
            refine g_iconst X dX10_readsSum_59 ?_
            refine g_iadd X dX10_readsSum_60 ?_
            refine gM_put X 0 rfl 17 (by decide) uw1196 rfl rfl rfl (Nat.le_of_ble_eq_true rfl) dX10_readsSum_61 (ws2 := (wX10 cI cB cJ h q v_stalls v_claimMany v_taped place0_14 v_length0 fault_14 number0_14 open_14 codeMany_38 (waiting_38 + 1) v_saidMany v_clauses v_newMany v_newStalls v_lines v_salesNow v_outNow v_isKept v_keptStalls v_now v_aside v_kept v_oneOf v_otherOf v_signOf v_byOf v_tape said_38 waitsAt_53 v_saidLetter v_saidFrom v_saidHalf v_saidTo v_codes v_clauseOf v_codeFrom v_codeHalf v_codeTo v_stack v_facts v_newOne v_newOther v_newSign v_newBy v_moreOf v_firstOf v_toldOf v_mostOf v_mostThen v_sumTo v_rowFrom v_ordersOf v_lessOf v_weightOf v_rowNow v_slowRow v_fastRow v_lineNow v_firstLine v_freeBy v_heldBy v_heightOf v_upTo v_downTo v_oftenOf v_newUpper v_newLower)) rfl ?_
            refine g_aload_n X dX10_readsSum_64 1 rfl ?_
            refine g_aload_n X dX10_readsSum_65 1 rfl ?_
            refine gM_get X 0 rfl 11 (by decide) uw1190 rfl dX10_readsSum_66 ?_
            refine g_iconst X dX10_readsSum_69 ?_
            refine g_iadd X dX10_readsSum_70 ?_
            have hR : RD lo said_38 codeMany_38 waitsAt_53 (waiting_38 + 1) (gb + 1 + cw 7340032 waitsAt_14 waiting_38.toNat) := by rw [e53]; exact RD.push kp0_38 (by omega) (Or.inl (by omega))
            have h11 : cw 11534336 waitsAt_53 (waiting_38 + 1).toNat = cw 11534336 waitsAt_14 waiting_38.toNat + 1 := by rw [e53]; exact cw_push_lt _ _ (by omega) (by omega)
            have h7 : cw 7340032 waitsAt_53 (waiting_38 + 1).toNat = cw 7340032 waitsAt_14 waiting_38.toNat + 1 := by rw [e53]; exact cw_push_lt _ _ (by omega) (by omega)
            have hA : AB v_waiting waitsAt_53 (waiting_38 + 1) := by rw [e53]; exact AB.push (w14_8.less kp2_38) (by omega) ⟨by omega, Or.inl (by omega)⟩
            have hS : SB v_waiting v_waitsAt waitsAt_53 := by rw [e53]; exact SB.up w14_6 (by omega) (by omega)
            refine gM_put X 0 rfl 11 (by decide) uw1190 rfl rfl rfl (Nat.le_of_ble_eq_true rfl) dX10_readsSum_71 (ws2 := (wX10 cI cB cJ h q v_stalls v_claimMany v_taped (place0_14 + 1) v_length0 fault_14 number0_14 open_14 codeMany_38 (waiting_38 + 1) v_saidMany v_clauses v_newMany v_newStalls v_lines v_salesNow v_outNow v_isKept v_keptStalls v_now v_aside v_kept v_oneOf v_otherOf v_signOf v_byOf v_tape said_38 waitsAt_53 v_saidLetter v_saidFrom v_saidHalf v_saidTo v_codes v_clauseOf v_codeFrom v_codeHalf v_codeTo v_stack v_facts v_newOne v_newOther v_newSign v_newBy v_moreOf v_firstOf v_toldOf v_mostOf v_mostThen v_sumTo v_rowFrom v_ordersOf v_lessOf v_weightOf v_rowNow v_slowRow v_fastRow v_lineNow v_firstLine v_freeBy v_heldBy v_heightOf v_upTo v_downTo v_oftenOf v_newUpper v_newLower)) rfl ?_
            refine g_aload_n X dX10_readsSum_74 1 rfl ?_
            refine g_callVI0 X (c_X10_readsFactor l D cI cB cJ h q  (lo := lo) (gh := gb + 1 + cw 7340032 waitsAt_14 waiting_38.toNat) (by omega) (by omega) (by omega) (by omega) (by omega) (by omega) (by omega) r_v_tape r_said_38 r_waitsAt_53 (by first | assumption | omega) (by first | assumption | omega) (by first | assumption | omega) (by first | assumption | omega) (by first | assumption | omega) (by first | assumption | omega)) cv_X10_readsFactor uw1417 ⟨rfl, rfl, by decide, by decide⟩ 0 rfl rfl rfl rfl rfl (Nat.le_of_ble_eq_true rfl) ⟨Nat.zero_le _, Nat.zero_le _⟩ dX10_readsSum_75 (fun t75 ws75 k75 => ?_)
            obtain ⟨kb_75, ⟨place0_75, fault_75, number0_75, open_75, codeMany_75, waiting_75, said_75, waitsAt_75, kr_place0_75, kr_fault_75, kr_number0_75, kr_open_75, kr_codeMany_75, kr_waiting_75, r_said_75, r_waitsAt_75, kp0_75, kp1_75, kp2_75, kp3_75, kp4_75, kp5_75, kp6_75, kp7_75, kp8_75, kp9_75, kp10_75, rfl⟩⟩ := k75
            refine g_if_ne X (tgt := 163) dX10_readsSum_78 (by decide) (by omega) (fun c78 => ?_) (fun c78 => ?_)
            · replace kb_75 := kb_75.resolve_left (fun h => c78 h)
              replace kp0_75 := kp0_75 kb_75
              replace kp1_75 := kp1_75 kb_75
              replace kp2_75 := kp2_75 kb_75
              replace kp4_75 := kp4_75 kb_75
              replace kp5_75 := kp5_75 kb_75
              replace kp6_75 := kp6_75 kb_75
              replace kp7_75 := kp7_75 kb_75
              replace kp9_75 := kp9_75 kb_75
              refine g_goto X (tgt := 14) dX10_readsSum_163 (by decide) ?_
              refine g_lv [1, 2] rfl ?_
              exact ih14 place0_75 fault_75 number0_75 open_75 codeMany_75 waiting_75 said_75 waitsAt_75 (by omega) (by omega) (by omega) (by omega) (by omega) (by omega) r_said_75 r_waitsAt_75 (by first | assumption | (rw [show gb + 1 + cw 7340032 waitsAt_75 waiting_75.toNat = gb + 1 + cw 7340032 waitsAt_14 waiting_38.toNat + 1 by omega]; exact kp0_75)) (by first | assumption | omega) (by first | assumption | omega) (by first | assumption | omega) (by first | assumption | omega) (by first | assumption | omega) (by first | assumption | exact SB.trans hS kp4_75 (by omega)) (by first | assumption | exact SB.trans (SB.trans w14_7 kp5_38 (Int.le_refl _)) kp8_75 (Int.le_refl _)) (by first | assumption | exact AB.ext hA kp4_75 kp7_75) (by omega)
            · clear kb_75
              clear kp0_75
              clear kp1_75
              clear kp2_75
              clear kp4_75
              clear kp5_75
              clear kp6_75
              clear kp7_75
              clear kp9_75
              refine g_iconst X dX10_readsSum_81 ?_
              exact hQ _ _ _ _ dX10_readsSum_82 ⟨by omega, ⟨place0_75, fault_75, number0_75, open_75, codeMany_75, waiting_75, said_75, waitsAt_75, (by omega), (by omega), (by omega), (by omega), (by omega), (by omega), r_said_75, r_waitsAt_75, (by intro hr; first | assumption | (exfalso; omega) | omega), (by intro hr; first | assumption | (exfalso; omega) | omega), (by first | assumption | omega), (by intro hr; first | assumption | (exfalso; omega) | omega), (by intro hr; first | assumption | (exfalso; omega) | omega), (by intro hr; first | assumption | (exfalso; omega) | omega), (by first | assumption | exact SB.refl _ _ | exact SB.trans (SB.trans w14_7 kp5_38 (Int.le_refl _)) kp8_75 (Int.le_refl _) | exact SB.trans w14_7 kp5_158 (Int.le_refl _)), (by first | assumption | omega), rfl⟩⟩
          · refine g_iconst X dX10_readsSum_33 ?_
            refine g_goto X (tgt := 38) dX10_readsSum_34 (by decide) ?_
            refine g_callVV0 X (c_X10_closesSums l D cI cB cJ h q (p0 := 1) (lo := lo) (gb := gb) (by omega) (by omega) r_said_14 r_waitsAt_14 (by first | assumption | omega) (by first | assumption | omega) (by first | assumption | omega) (by first | assumption | omega) (by first | assumption | omega) (by first | assumption | omega)) cv_X10_closesSums uw1444 ⟨rfl, rfl, by decide, by decide⟩ 0 rfl rfl rfl rfl rfl (Nat.le_of_ble_eq_true rfl) ⟨Nat.zero_le _, Nat.zero_le _⟩ dX10_readsSum_38 (fun ws38 k38 => ?_)
            obtain ⟨codeMany_38, waiting_38, said_38, kr_codeMany_38, kr_waiting_38, r_said_38, kp0_38, kp1_38, kp2_38, kp3_38, kp4_38, kp5_38, rfl⟩ := k38
            have hb7 := cw_bd 7340032 waitsAt_14 waiting_38.toNat
            have hb38 := cw_bd 11534336 waitsAt_14 waiting_38.toNat
            have hw38 : v_waiting ≤ waiting_38 := by rcases (show waiting_38 < v_waiting ∨ v_waiting ≤ waiting_38 by omega) with h | h; (exfalso; have h1 := kp3_38 waiting_38.toNat (by omega) (by omega); have h2 := hp6 waiting_38.toNat (by omega); rw [w14_6 waiting_38.toNat (by omega)] at h1; omega); exact h
            refine g_aload_n X dX10_readsSum_41 1 rfl ?_
            refine gM_get X 0 rfl 21 (by decide) uw1200 rfl dX10_readsSum_42 ?_
            refine g_aload_n X dX10_readsSum_45 1 rfl ?_
            refine gM_get X 0 rfl 17 (by decide) uw1196 rfl dX10_readsSum_46 ?_
            refine g_ldc X (z := 1048576) dX10_readsSum_49 uw1425 (by decide) ?_
            refine g_iload_n X dX10_readsSum_51 0 rfl ?_
            refine g_imul X dX10_readsSum_52 ?_
            refine g_iast X 10 0 rfl rfl (by omega) (by decide) dX10_readsSum_53 (fun waitsAt_53 e53 => ?_)
            have r_waitsAt_53 : RA 0 16777215 waitsAt_53 := by rw [e53]; exact RA_up r_waitsAt_14 (by omega)
            refine g_ws (ws2 := (wX10 cI cB cJ h q v_stalls v_claimMany v_taped place0_14 v_length0 fault_14 number0_14 open_14 codeMany_38 waiting_38 v_saidMany v_clauses v_newMany v_newStalls v_lines v_salesNow v_outNow v_isKept v_keptStalls v_now v_aside v_kept v_oneOf v_otherOf v_signOf v_byOf v_tape said_38 waitsAt_53 v_saidLetter v_saidFrom v_saidHalf v_saidTo v_codes v_clauseOf v_codeFrom v_codeHalf v_codeTo v_stack v_facts v_newOne v_newOther v_newSign v_newBy v_moreOf v_firstOf v_toldOf v_mostOf v_mostThen v_sumTo v_rowFrom v_ordersOf v_lessOf v_weightOf v_rowNow v_slowRow v_fastRow v_lineNow v_firstLine v_freeBy v_heldBy v_heightOf v_upTo v_downTo v_oftenOf v_newUpper v_newLower)) rfl ?_
            refine g_aload_n X dX10_readsSum_54 1 rfl ?_
            refine g_aload_n X dX10_readsSum_55 1 rfl ?_
            refine gM_get X 0 rfl 17 (by decide) uw1196 rfl dX10_readsSum_56 ?_
            refine g_iconst X dX10_readsSum_59 ?_
            refine g_iadd X dX10_readsSum_60 ?_
            refine gM_put X 0 rfl 17 (by decide) uw1196 rfl rfl rfl (Nat.le_of_ble_eq_true rfl) dX10_readsSum_61 (ws2 := (wX10 cI cB cJ h q v_stalls v_claimMany v_taped place0_14 v_length0 fault_14 number0_14 open_14 codeMany_38 (waiting_38 + 1) v_saidMany v_clauses v_newMany v_newStalls v_lines v_salesNow v_outNow v_isKept v_keptStalls v_now v_aside v_kept v_oneOf v_otherOf v_signOf v_byOf v_tape said_38 waitsAt_53 v_saidLetter v_saidFrom v_saidHalf v_saidTo v_codes v_clauseOf v_codeFrom v_codeHalf v_codeTo v_stack v_facts v_newOne v_newOther v_newSign v_newBy v_moreOf v_firstOf v_toldOf v_mostOf v_mostThen v_sumTo v_rowFrom v_ordersOf v_lessOf v_weightOf v_rowNow v_slowRow v_fastRow v_lineNow v_firstLine v_freeBy v_heldBy v_heightOf v_upTo v_downTo v_oftenOf v_newUpper v_newLower)) rfl ?_
            refine g_aload_n X dX10_readsSum_64 1 rfl ?_
            refine g_aload_n X dX10_readsSum_65 1 rfl ?_
            refine gM_get X 0 rfl 11 (by decide) uw1190 rfl dX10_readsSum_66 ?_
            refine g_iconst X dX10_readsSum_69 ?_
            refine g_iadd X dX10_readsSum_70 ?_
            have hR : RD lo said_38 codeMany_38 waitsAt_53 (waiting_38 + 1) (gb + 1 + cw 7340032 waitsAt_14 waiting_38.toNat) := by rw [e53]; exact RD.push kp0_38 (by omega) (Or.inl (by omega))
            have h11 : cw 11534336 waitsAt_53 (waiting_38 + 1).toNat = cw 11534336 waitsAt_14 waiting_38.toNat + 1 := by rw [e53]; exact cw_push_lt _ _ (by omega) (by omega)
            have h7 : cw 7340032 waitsAt_53 (waiting_38 + 1).toNat = cw 7340032 waitsAt_14 waiting_38.toNat + 1 := by rw [e53]; exact cw_push_lt _ _ (by omega) (by omega)
            have hA : AB v_waiting waitsAt_53 (waiting_38 + 1) := by rw [e53]; exact AB.push (w14_8.less kp2_38) (by omega) ⟨by omega, Or.inl (by omega)⟩
            have hS : SB v_waiting v_waitsAt waitsAt_53 := by rw [e53]; exact SB.up w14_6 (by omega) (by omega)
            refine gM_put X 0 rfl 11 (by decide) uw1190 rfl rfl rfl (Nat.le_of_ble_eq_true rfl) dX10_readsSum_71 (ws2 := (wX10 cI cB cJ h q v_stalls v_claimMany v_taped (place0_14 + 1) v_length0 fault_14 number0_14 open_14 codeMany_38 (waiting_38 + 1) v_saidMany v_clauses v_newMany v_newStalls v_lines v_salesNow v_outNow v_isKept v_keptStalls v_now v_aside v_kept v_oneOf v_otherOf v_signOf v_byOf v_tape said_38 waitsAt_53 v_saidLetter v_saidFrom v_saidHalf v_saidTo v_codes v_clauseOf v_codeFrom v_codeHalf v_codeTo v_stack v_facts v_newOne v_newOther v_newSign v_newBy v_moreOf v_firstOf v_toldOf v_mostOf v_mostThen v_sumTo v_rowFrom v_ordersOf v_lessOf v_weightOf v_rowNow v_slowRow v_fastRow v_lineNow v_firstLine v_freeBy v_heldBy v_heightOf v_upTo v_downTo v_oftenOf v_newUpper v_newLower)) rfl ?_
            refine g_aload_n X dX10_readsSum_74 1 rfl ?_
            refine g_callVI0 X (c_X10_readsFactor l D cI cB cJ h q  (lo := lo) (gh := gb + 1 + cw 7340032 waitsAt_14 waiting_38.toNat) (by omega) (by omega) (by omega) (by omega) (by omega) (by omega) (by omega) r_v_tape r_said_38 r_waitsAt_53 (by first | assumption | omega) (by first | assumption | omega) (by first | assumption | omega) (by first | assumption | omega) (by first | assumption | omega) (by first | assumption | omega)) cv_X10_readsFactor uw1417 ⟨rfl, rfl, by decide, by decide⟩ 0 rfl rfl rfl rfl rfl (Nat.le_of_ble_eq_true rfl) ⟨Nat.zero_le _, Nat.zero_le _⟩ dX10_readsSum_75 (fun t75 ws75 k75 => ?_)
            obtain ⟨kb_75, ⟨place0_75, fault_75, number0_75, open_75, codeMany_75, waiting_75, said_75, waitsAt_75, kr_place0_75, kr_fault_75, kr_number0_75, kr_open_75, kr_codeMany_75, kr_waiting_75, r_said_75, r_waitsAt_75, kp0_75, kp1_75, kp2_75, kp3_75, kp4_75, kp5_75, kp6_75, kp7_75, kp8_75, kp9_75, kp10_75, rfl⟩⟩ := k75
            refine g_if_ne X (tgt := 163) dX10_readsSum_78 (by decide) (by omega) (fun c78 => ?_) (fun c78 => ?_)
            · replace kb_75 := kb_75.resolve_left (fun h => c78 h)
              replace kp0_75 := kp0_75 kb_75
              replace kp1_75 := kp1_75 kb_75
              replace kp2_75 := kp2_75 kb_75
              replace kp4_75 := kp4_75 kb_75
              replace kp5_75 := kp5_75 kb_75
              replace kp6_75 := kp6_75 kb_75
              replace kp7_75 := kp7_75 kb_75
              replace kp9_75 := kp9_75 kb_75
              refine g_goto X (tgt := 14) dX10_readsSum_163 (by decide) ?_
              refine g_lv [1, 2] rfl ?_
              exact ih14 place0_75 fault_75 number0_75 open_75 codeMany_75 waiting_75 said_75 waitsAt_75 (by omega) (by omega) (by omega) (by omega) (by omega) (by omega) r_said_75 r_waitsAt_75 (by first | assumption | (rw [show gb + 1 + cw 7340032 waitsAt_75 waiting_75.toNat = gb + 1 + cw 7340032 waitsAt_14 waiting_38.toNat + 1 by omega]; exact kp0_75)) (by first | assumption | omega) (by first | assumption | omega) (by first | assumption | omega) (by first | assumption | omega) (by first | assumption | omega) (by first | assumption | exact SB.trans hS kp4_75 (by omega)) (by first | assumption | exact SB.trans (SB.trans w14_7 kp5_38 (Int.le_refl _)) kp8_75 (Int.le_refl _)) (by first | assumption | exact AB.ext hA kp4_75 kp7_75) (by omega)
            · clear kb_75
              clear kp0_75
              clear kp1_75
              clear kp2_75
              clear kp4_75
              clear kp5_75
              clear kp6_75
              clear kp7_75
              clear kp9_75
              refine g_iconst X dX10_readsSum_81 ?_
              exact hQ _ _ _ _ dX10_readsSum_82 ⟨by omega, ⟨place0_75, fault_75, number0_75, open_75, codeMany_75, waiting_75, said_75, waitsAt_75, (by omega), (by omega), (by omega), (by omega), (by omega), (by omega), r_said_75, r_waitsAt_75, (by intro hr; first | assumption | (exfalso; omega) | omega), (by intro hr; first | assumption | (exfalso; omega) | omega), (by first | assumption | omega), (by intro hr; first | assumption | (exfalso; omega) | omega), (by intro hr; first | assumption | (exfalso; omega) | omega), (by intro hr; first | assumption | (exfalso; omega) | omega), (by first | assumption | exact SB.refl _ _ | exact SB.trans (SB.trans w14_7 kp5_38 (Int.le_refl _)) kp8_75 (Int.le_refl _) | exact SB.trans w14_7 kp5_158 (Int.le_refl _)), (by first | assumption | omega), rfl⟩⟩
    refine g_lv [1, 0] rfl ?_
    exact L14 _ place0_6 fault_6 number0_6 open_6 codeMany_6 waiting_6 said_6 waitsAt_6 (by omega) (by omega) (by omega) (by omega) (by omega) (by omega) r_said_6 r_waitsAt_6 (by first | assumption | (rw [show gb + 1 + cw 7340032 waitsAt_75 waiting_75.toNat = gb + 1 + cw 7340032 waitsAt_14 waiting_38.toNat + 1 by omega]; exact kp0_75)) (by first | assumption | omega) (by first | assumption | omega) (by first | assumption | omega) (by first | assumption | omega) (by first | assumption | omega) (by first | assumption | exact SB.trans hS kp4_75 (by omega)) (by first | assumption | exact SB.trans (SB.trans w14_7 kp5_38 (Int.le_refl _)) kp8_75 (Int.le_refl _)) (by first | assumption | exact AB.ext hA kp4_75 kp7_75) (Nat.lt_succ_self _)
  · clear kb_6
    clear kp0_6
    clear kp1_6
    clear kp2_6
    clear kp4_6
    clear kp5_6
    clear kp6_6
    clear kp7_6
    clear kp9_6
    refine g_iconst X dX10_readsSum_12 ?_
    exact hQ _ _ _ _ dX10_readsSum_13 ⟨by omega, ⟨place0_6, fault_6, number0_6, open_6, codeMany_6, waiting_6, said_6, waitsAt_6, (by omega), (by omega), (by omega), (by omega), (by omega), (by omega), r_said_6, r_waitsAt_6, (by intro hr; first | assumption | (exfalso; omega) | omega), (by intro hr; first | assumption | (exfalso; omega) | omega), (by first | assumption | omega), (by intro hr; first | assumption | (exfalso; omega) | omega), (by intro hr; first | assumption | (exfalso; omega) | omega), (by intro hr; first | assumption | (exfalso; omega) | omega), (by first | assumption | exact SB.refl _ _ | exact SB.trans (SB.trans w14_7 kp5_38 (Int.le_refl _)) kp8_75 (Int.le_refl _) | exact SB.trans w14_7 kp5_158 (Int.le_refl _)), (by first | assumption | omega), rfl⟩⟩
