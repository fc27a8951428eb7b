set_option maxHeartbeats 4000000 in
set_option maxRecDepth 100000 in
theorem c_X10_weighings (l : Launch) (D : va_G) (cI cB cJ : ClassId) (h : Nat) (q : Nat → Nat) {v_stalls v_claimMany v_taped v_place0 v_length0 v_fault v_number0 v_open v_codeMany v_waiting v_saidMany v_clauses v_newMany v_newStalls v_lines v_salesNow v_outNow v_isKept v_keptStalls : Int} {v_now v_aside v_kept v_oneOf v_otherOf v_signOf v_byOf v_tape v_said v_waitsAt v_saidLetter v_saidFrom v_saidHalf v_saidTo v_codes v_clauseOf v_codeFrom v_codeHalf v_codeTo v_stack v_facts v_newOne v_newOther v_newSign v_newBy v_moreOf v_firstOf v_toldOf v_mostOf v_mostThen v_sumTo v_rowFrom v_ordersOf v_lessOf v_weightOf v_rowNow v_slowRow v_fastRow v_lineNow v_firstLine v_freeBy v_heldBy v_heightOf v_upTo v_downTo v_oftenOf v_newUpper v_newLower : Nat → Int} {p0 p1 : Int} (kr_v_claimMany : 0 ≤ v_claimMany ∧ v_claimMany ≤ 40) (r_v_oneOf : RA 0 11 v_oneOf) (r_v_otherOf : RA 0 11 v_otherOf) (r_v_signOf : RA (-2147483648) 2147483647 v_signOf) (r_v_byOf : RA (-9999) 9999 v_byOf) (r_v_weightOf : RA 0 9 v_weightOf) (hp0 : IR p0) (hp1 : IR p1) : CtI l yX10_weighings cX10_weighings 9 (some .int) ⟨1, 0, 0, 22⟩ D (TY cI cB cJ) (wX10 cI cB cJ h q v_stalls v_claimMany v_taped v_place0 v_length0 v_fault v_number0 v_open v_codeMany v_waiting v_saidMany v_clauses v_newMany v_newStalls v_lines v_salesNow v_outNow v_isKept v_keptStalls v_now v_aside v_kept v_oneOf v_otherOf v_signOf v_byOf v_tape v_said v_waitsAt v_saidLetter v_saidFrom v_saidHalf v_saidTo v_codes v_clauseOf v_codeFrom v_codeHalf v_codeTo v_stack v_facts v_newOne v_newOther v_newSign v_newBy v_moreOf v_firstOf v_toldOf v_mostOf v_mostThen v_sumTo v_rowFrom v_ordersOf v_lessOf v_weightOf v_rowNow v_slowRow v_fastRow v_lineNow v_firstLine v_freeBy v_heldBy v_heightOf v_upTo v_downTo v_oftenOf v_newUpper v_newLower) [.ref h, vI p0, vI p1] (fun z ws' => ∃ n_weightOf : Nat → Int, (RA 0 9 n_weightOf) ∧ (IR z) ∧ (((1 ≤ p0 ∧ p0 ≤ 4095 ∧ cnZ p0 ≤ 4 ∧ 0 ≤ p1 ∧ p1 ≤ 9) ∧ z = wyC v_oneOf v_otherOf v_signOf v_byOf v_claimMany.toNat p0 p1) ∨ (¬ (1 ≤ p0 ∧ p0 ≤ 4095 ∧ cnZ p0 ≤ 4 ∧ 0 ≤ p1 ∧ p1 ≤ 9) ∧ z = -1)) ∧ (ws' = (wX10 cI cB cJ h q v_stalls v_claimMany v_taped v_place0 v_length0 v_fault v_number0 v_open v_codeMany v_waiting v_saidMany v_clauses v_newMany v_newStalls v_lines v_salesNow v_outNow v_isKept v_keptStalls v_now v_aside v_kept v_oneOf v_otherOf v_signOf v_byOf v_tape v_said v_waitsAt v_saidLetter v_saidFrom v_saidHalf v_saidTo v_codes v_clauseOf v_codeFrom v_codeHalf v_codeTo v_stack v_facts v_newOne v_newOther v_newSign v_newBy v_moreOf v_firstOf v_toldOf v_mostOf v_mostThen v_sumTo v_rowFrom v_ordersOf v_lessOf n_weightOf v_rowNow v_slowRow v_fastRow v_lineNow v_firstLine v_freeBy v_heldBy v_heightOf v_upTo v_downTo v_oftenOf v_newUpper v_newLower))) := by
  refine hdrI (own := RX10) rfl (by decide +kernel) (Nat.le_of_ble_eq_true rfl) ?_
  intro p e s m args below meth c Q A X hQ
  refine g_lvE (lv2 := [(0, .ref h), (1, vI p0), (2, vI p1)]) rfl ?_
  refine g_iload_n X dX10_weighings_0 1 rfl ?_
  refine g_iconst X dX10_weighings_1 ?_
  refine g_sipush X (z := 4095) dX10_weighings_2 (by decide) ?_
  refine g_callSIE X (c_X10_in l D cI cB cJ (p0 := p0) (p1 := 1) (p2 := 4095) (by first | assumption | omega) (by first | assumption | omega) (by first | assumption | omega)) cv_X10_in uw1394 ⟨rfl, rfl, by decide, by decide⟩ rfl rfl (Nat.le_of_ble_eq_true rfl) ⟨Nat.zero_le _, Nat.zero_le _⟩ dX10_weighings_5 (fun t5 ws5 k5 => ?_)
  obtain ⟨kb_5, ⟨kp0_5, rfl⟩⟩ := k5
  refine g_if_eq X (tgt := 29) dX10_weighings_8 (by decide) (by omega) (fun c8 => ?_) (fun c8 => ?_)
  · refine g_iconst X dX10_weighings_29 ?_
    try (have hbc := bc_cn (s := p0) (by omega))
    exact hQ _ _ _ _ dX10_weighings_30 ⟨v_weightOf, r_v_weightOf, (by first | assumption | omega), (by first | assumption | omega), rfl⟩
  · refine g_iload_n X dX10_weighings_11 1 rfl ?_
    refine g_callSIE X (c_X10_bits l D cI cB cJ (p0 := p0) (by first | assumption | omega)) cv_X10_bits uw1585 ⟨rfl, rfl, by decide, by decide⟩ rfl rfl (Nat.le_of_ble_eq_true rfl) ⟨Nat.zero_le _, Nat.zero_le _⟩ dX10_weighings_12 (fun t12 ws12 k12 => ?_)
    obtain ⟨kp0_12, kp1_12, rfl⟩ := k12
    refine g_iconst X dX10_weighings_15 ?_
    refine g_icmp_gt X (tgt := 29) dX10_weighings_16 (by decide) (by omega) (by omega) (fun c16 => ?_) (fun c16 => ?_)
    · refine g_iconst X dX10_weighings_29 ?_
      try (have hbc := bc_cn (s := p0) (by omega))
      exact hQ _ _ _ _ dX10_weighings_30 ⟨v_weightOf, r_v_weightOf, (by first | assumption | omega), (by first | assumption | omega), rfl⟩
    · refine g_iload_n X dX10_weighings_19 2 rfl ?_
      refine g_iconst X dX10_weighings_20 ?_
      refine g_bipush X (z := 9) dX10_weighings_21 (by decide) ?_
      refine g_callSIE X (c_X10_in l D cI cB cJ (p0 := p1) (p1 := 0) (p2 := 9) (by first | assumption | omega) (by first | assumption | omega) (by first | assumption | omega)) cv_X10_in uw1394 ⟨rfl, rfl, by decide, by decide⟩ rfl rfl (Nat.le_of_ble_eq_true rfl) ⟨Nat.zero_le _, Nat.zero_le _⟩ dX10_weighings_23 (fun t23 ws23 k23 => ?_)
      obtain ⟨kb_23, ⟨kp0_23, rfl⟩⟩ := k23
      refine g_if_ne X (tgt := 31) dX10_weighings_26 (by decide) (by omega) (fun c26 => ?_) (fun c26 => ?_)
      · have hbc := bc_cn (s := p0) (by omega)
        have hwb := wb_cn (s := p0) (by omega)
        have hB1 : (((p1 + 1).toNat : Nat) : Int) = p1 + 1 := by omega
        refine g_iconst X dX10_weighings_31 ?_
        refine g_istore_n X (lv' := [(3, vI 1), (0, .ref h), (1, vI p0), (2, vI p1)]) dX10_weighings_32 (by decide) rfl ?_
        refine g_iconst X dX10_weighings_33 ?_
        refine g_istore X (lv' := [(4, vI 0), (3, vI 1), (0, .ref h), (1, vI p0), (2, vI p1)]) dX10_weighings_34 (by decide) rfl ?_
        have L36 : ∀ (n : Nat) (x3_36 : Int) (x4_36 : Int), (0 ≤ x4_36 ∧ x4_36 ≤ cnZ p0) → (1 ≤ x3_36 ∧ x3_36 ≤ 10000) → (x3_36 = (((p1 + 1).toNat ^ (x4_36).toNat : Nat) : Int)) → (16 - x4_36).toNat < n → GG p l e ⟨1, 0, 0, 22⟩ s m args below meth c 0 0 Q D A s.heap 9 (wX10 cI cB cJ h q v_stalls v_claimMany v_taped v_place0 v_length0 v_fault v_number0 v_open v_codeMany v_waiting v_saidMany v_clauses v_newMany v_newStalls v_lines v_salesNow v_outNow v_isKept v_keptStalls v_now v_aside v_kept v_oneOf v_otherOf v_signOf v_byOf v_tape v_said v_waitsAt v_saidLetter v_saidFrom v_saidHalf v_saidTo v_codes v_clauseOf v_codeFrom v_codeHalf v_codeTo v_stack v_facts v_newOne v_newOther v_newSign v_newBy v_moreOf v_firstOf v_toldOf v_mostOf v_mostThen v_sumTo v_rowFrom v_ordersOf v_lessOf v_weightOf v_rowNow v_slowRow v_fastRow v_lineNow v_firstLine v_freeBy v_heldBy v_heightOf v_upTo v_downTo v_oftenOf v_newUpper v_newLower) 36 [(0, .ref h), (1, vI p0), (2, vI p1), (3, vI x3_36), (4, vI x4_36)] [] := by
          intro n
          induction n with
          | zero => intros; exfalso; omega
          | succ n ih36 =>
            intro x3_36 x4_36 w36_0 w36_1 w36_2 wm36
            refine g_iload X dX10_weighings_36 4 rfl ?_
            refine g_iload_n X dX10_weighings_38 1 rfl ?_
            refine g_callSIE X (c_X10_bits l D cI cB cJ (p0 := p0) (by first | assumption | omega)) cv_X10_bits uw1585 ⟨rfl, rfl, by decide, by decide⟩ rfl rfl (Nat.le_of_ble_eq_true rfl) ⟨Nat.zero_le _, Nat.zero_le _⟩ dX10_weighings_39 (fun t39 ws39 k39 => ?_)
            obtain ⟨kp0_39, kp1_39, rfl⟩ := k39
            refine g_icmp_ge X (tgt := 57) dX10_weighings_42 (by decide) (by omega) (by omega) (fun c42 => ?_) (fun c42 => ?_)
            · have hall : x3_36 = (((p1 + 1).toNat ^ wb p0.toNat 12 : Nat) : Int) := by rw [w36_2, show (x4_36).toNat = wb p0.toNat 12 by omega]
              refine g_iconst X dX10_weighings_57 ?_
              refine g_istore X (lv' := [(4, vI 0), (0, .ref h), (1, vI p0), (2, vI p1), (3, vI x3_36)]) dX10_weighings_58 (by decide) rfl ?_
              refine g_iconst X dX10_weighings_60 ?_
              refine g_istore X (lv' := [(5, vI 0), (4, vI 0), (0, .ref h), (1, vI p0), (2, vI p1), (3, vI x3_36)]) dX10_weighings_61 (by decide) rfl ?_
              have L63 : ∀ (n : Nat) (x4_63 : Int) (x5_63 : Int) (weightOf_63 : Nat → Int), (RA 0 9 weightOf_63) → (0 ≤ x5_63 ∧ x5_63 ≤ x3_36) → (0 ≤ x4_63 ∧ x4_63 ≤ x5_63) → (x4_63 = wyS (fun c => wyI v_oneOf v_otherOf v_signOf v_byOf v_claimMany.toNat p0.toNat (wd p0.toNat (p1 + 1).toNat 12 c (fun _ => 0))) (x5_63).toNat) → (x3_36 - x5_63).toNat < n → GG p l e ⟨1, 0, 0, 22⟩ s m args below meth c 0 0 Q D A s.heap 9 (wX10 cI cB cJ h q v_stalls v_claimMany v_taped v_place0 v_length0 v_fault v_number0 v_open v_codeMany v_waiting v_saidMany v_clauses v_newMany v_newStalls v_lines v_salesNow v_outNow v_isKept v_keptStalls v_now v_aside v_kept v_oneOf v_otherOf v_signOf v_byOf v_tape v_said v_waitsAt v_saidLetter v_saidFrom v_saidHalf v_saidTo v_codes v_clauseOf v_codeFrom v_codeHalf v_codeTo v_stack v_facts v_newOne v_newOther v_newSign v_newBy v_moreOf v_firstOf v_toldOf v_mostOf v_mostThen v_sumTo v_rowFrom v_ordersOf v_lessOf weightOf_63 v_rowNow v_slowRow v_fastRow v_lineNow v_firstLine v_freeBy v_heldBy v_heightOf v_upTo v_downTo v_oftenOf v_newUpper v_newLower) 63 [(0, .ref h), (1, vI p0), (2, vI p1), (3, vI x3_36), (4, vI x4_63), (5, vI x5_63)] [] := by
                intro n
                induction n with
                | zero => intros; exfalso; omega
                | succ n ih63 =>
                  intro x4_63 x5_63 weightOf_63 r_weightOf_63 w63_0 w63_1 w63_2 wm63
                  refine g_iload X dX10_weighings_63 5 rfl ?_
                  refine g_iload_n X dX10_weighings_65 3 rfl ?_
                  refine g_icmp_ge X (tgt := 209) dX10_weighings_66 (by decide) (by omega) (by omega) (fun c66 => ?_) (fun c66 => ?_)
                  · refine g_iload X dX10_weighings_209 4 rfl ?_
                    have hr : x4_63 = wyC v_oneOf v_otherOf v_signOf v_byOf v_claimMany.toNat p0 p1 := by rw [w63_2, show (x5_63).toNat = (p1 + 1).toNat ^ wb p0.toNat 12 by (rw [show x5_63 = x3_36 by omega, hall]; exact Int.toNat_natCast _)]; exact wy_sum p0.toNat (p1 + 1).toNat (by omega) (wyI v_oneOf v_otherOf v_signOf v_byOf v_claimMany.toNat p0.toNat) 12 (fun _ => 0)
                    exact hQ _ _ _ _ dX10_weighings_211 ⟨weightOf_63, r_weightOf_63, (by first | assumption | omega), (by first | assumption | omega), rfl⟩
                  · refine g_iload X dX10_weighings_69 5 rfl ?_
                    refine g_istore X (lv' := [(6, vI x5_63), (0, .ref h), (1, vI p0), (2, vI p1), (3, vI x3_36), (4, vI x4_63), (5, vI x5_63)]) dX10_weighings_71 (by decide) rfl ?_
                    refine g_iconst X dX10_weighings_73 ?_
                    refine g_istore X (lv' := [(7, vI 0), (6, vI x5_63), (0, .ref h), (1, vI p0), (2, vI p1), (3, vI x3_36), (4, vI x4_63), (5, vI x5_63)]) dX10_weighings_74 (by decide) rfl ?_
                    have L76 : ∀ (n : Nat) (x6_76 : Int) (x7_76 : Int) (weightOf_76 : Nat → Int), (RA 0 9 weightOf_76) → (0 ≤ x7_76 ∧ x7_76 ≤ 12) → (0 ≤ x6_76 ∧ x6_76 ≤ 2147483647) → (wd p0.toNat (p1 + 1).toNat (12 - x7_76).toNat (x6_76).toNat weightOf_76 = wd p0.toNat (p1 + 1).toNat 12 (x5_63).toNat weightOf_63) → (12 - x7_76).toNat < n → GG p l e ⟨1, 0, 0, 22⟩ s m args below meth c 0 0 Q D A s.heap 9 (wX10 cI cB cJ h q v_stalls v_claimMany v_taped v_place0 v_length0 v_fault v_number0 v_open v_codeMany v_waiting v_saidMany v_clauses v_newMany v_newStalls v_lines v_salesNow v_outNow v_isKept v_keptStalls v_now v_aside v_kept v_oneOf v_otherOf v_signOf v_byOf v_tape v_said v_waitsAt v_saidLetter v_saidFrom v_saidHalf v_saidTo v_codes v_clauseOf v_codeFrom v_codeHalf v_codeTo v_stack v_facts v_newOne v_newOther v_newSign v_newBy v_moreOf v_firstOf v_toldOf v_mostOf v_mostThen v_sumTo v_rowFrom v_ordersOf v_lessOf weightOf_76 v_rowNow v_slowRow v_fastRow v_lineNow v_firstLine v_freeBy v_heldBy v_heightOf v_upTo v_downTo v_oftenOf v_newUpper v_newLower) 76 [(0, .ref h), (1, vI p0), (2, vI p1), (3, vI x3_36), (4, vI x4_63), (5, vI x5_63), (6, vI x6_76), (7, vI x7_76)] [] := by
                      intro n
                      induction n with
                      | zero => intros; exfalso; omega
                      | succ n ih76 =>
                        intro x6_76 x7_76 weightOf_76 r_weightOf_76 w76_0 w76_1 w76_2 wm76
                        refine g_iload X dX10_weighings_76 7 rfl ?_
                        refine g_bipush X (z := 12) dX10_weighings_78 (by decide) ?_
                        refine g_icmp_ge X (tgt := 122) dX10_weighings_80 (by decide) (by omega) (by omega) (fun c80 => ?_) (fun c80 => ?_)
                        · have hWd : weightOf_76 = wd p0.toNat (p1 + 1).toNat 12 (x5_63).toNat weightOf_63 := by have h9 := w76_2; rw [show (12 - x7_76).toNat = 0 by omega] at h9; exact h9
                          refine g_iconst X dX10_weighings_122 ?_
                          refine g_istore X (lv' := [(7, vI 1), (0, .ref h), (1, vI p0), (2, vI p1), (3, vI x3_36), (4, vI x4_63), (5, vI x5_63), (6, vI x6_76)]) dX10_weighings_123 (by decide) rfl ?_
                          refine g_iconst X dX10_weighings_125 ?_
                          refine g_istore X (lv' := [(8, vI 0), (7, vI 1), (0, .ref h), (1, vI p0), (2, vI p1), (3, vI x3_36), (4, vI x4_63), (5, vI x5_63), (6, vI x6_76)]) dX10_weighings_126 (by decide) rfl ?_
                          have L128 : ∀ (n : Nat) (x7_128 : Int) (x8_128 : Int), (0 ≤ x8_128 ∧ x8_128 ≤ v_claimMany) → (0 ≤ x7_128 ∧ x7_128 ≤ 1) → ((x7_128 = 1 ∧ cR v_oneOf v_otherOf v_signOf v_byOf (x8_128).toNat p0.toNat weightOf_76) ∨ (x7_128 = 0 ∧ ¬ cR v_oneOf v_otherOf v_signOf v_byOf v_claimMany.toNat p0.toNat weightOf_76)) → (v_claimMany - x8_128).toNat < n → GG p l e ⟨1, 0, 0, 22⟩ s m args below meth c 0 0 Q D A s.heap 9 (wX10 cI cB cJ h q v_stalls v_claimMany v_taped v_place0 v_length0 v_fault v_number0 v_open v_codeMany v_waiting v_saidMany v_clauses v_newMany v_newStalls v_lines v_salesNow v_outNow v_isKept v_keptStalls v_now v_aside v_kept v_oneOf v_otherOf v_signOf v_byOf v_tape v_said v_waitsAt v_saidLetter v_saidFrom v_saidHalf v_saidTo v_codes v_clauseOf v_codeFrom v_codeHalf v_codeTo v_stack v_facts v_newOne v_newOther v_newSign v_newBy v_moreOf v_firstOf v_toldOf v_mostOf v_mostThen v_sumTo v_rowFrom v_ordersOf v_lessOf weightOf_76 v_rowNow v_slowRow v_fastRow v_lineNow v_firstLine v_freeBy v_heldBy v_heightOf v_upTo v_downTo v_oftenOf v_newUpper v_newLower) 128 [(0, .ref h), (1, vI p0), (2, vI p1), (3, vI x3_36), (4, vI x4_63), (5, vI x5_63), (7, vI x7_128), (8, vI x8_128)] [] := by
                            intro n
                            induction n with
                            | zero => intros; exfalso; omega
                            | succ n ih128 =>
                              intro x7_128 x8_128 w128_0 w128_1 w128_2 wm128
                              refine g_iload X dX10_weighings_128 7 rfl ?_
                              refine g_aload_n X dX10_weighings_130 0 rfl ?_
                              refine gM_get X 0 rfl 8 (by decide) uw1187 rfl dX10_weighings_131 ?_
                              refine g_icmp_ge X (tgt := 192) dX10_weighings_134 (by decide) (by omega) (by omega) (fun c134 => ?_) (fun c134 => ?_)
                              · have hfin : (x7_128 = 1 ∧ cR v_oneOf v_otherOf v_signOf v_byOf v_claimMany.toNat p0.toNat weightOf_76) ∨ (x7_128 = 0 ∧ ¬ cR v_oneOf v_otherOf v_signOf v_byOf v_claimMany.toNat p0.toNat weightOf_76) := by rcases w128_2 with h | h; (refine Or.inl ⟨h.1, ?_⟩; rw [show v_claimMany.toNat = (x8_128).toNat by omega]; exact h.2); exact Or.inr h
                                have hcI : wyI v_oneOf v_otherOf v_signOf v_byOf v_claimMany.toNat p0.toNat (wd p0.toNat (p1 + 1).toNat 12 (x5_63).toNat (fun _ => 0)) = x7_128 := by have h8 : wyI v_oneOf v_otherOf v_signOf v_byOf v_claimMany.toNat p0.toNat (wd p0.toNat (p1 + 1).toNat 12 (x5_63).toNat (fun _ => 0)) = wyI v_oneOf v_otherOf v_signOf v_byOf v_claimMany.toNat p0.toNat weightOf_76 := ind_c (cR_c (fun j hj => by rw [hWd]; exact wd_c 12 (Nat.le_refl 12) _ _ _ (fun j _ h => absurd h (by omega)) j hj (bit12 (by omega) j hj))); rw [h8]; rcases hfin with h | h; (rw [h.1]; exact ind_y h.2); (rw [h.1]; exact ind_n h.2)
                                refine g_iload X dX10_weighings_192 6 rfl ?_
                                refine g_if_eq X (tgt := 203) dX10_weighings_194 (by decide) (by omega) (fun c194 => ?_) (fun c194 => ?_)
                                · have hN63 : x4_63 = wyS (fun c => wyI v_oneOf v_otherOf v_signOf v_byOf v_claimMany.toNat p0.toNat (wd p0.toNat (p1 + 1).toNat 12 c (fun _ => 0))) (x5_63 + 1).toNat := by rw [tn_s (show 0 ≤ x5_63 by omega), wyS_1]; (try dsimp only); rw [hcI, ← w63_2]; omega
                                  refine g_iinc X (lv' := [(5, vI (x5_63 + 1)), (0, .ref h), (1, vI p0), (2, vI p1), (3, vI x3_36), (4, vI x4_63), (7, vI x7_128), (8, vI x8_128)]) dX10_weighings_203 5 rfl (by decide) rfl ?_
                                  refine g_goto X (tgt := 63) dX10_weighings_206 (by decide) ?_
                                  refine g_lv [1, 2, 3, 4, 5, 0] rfl ?_
                                  exact ih63 x4_63 (x5_63 + 1) weightOf_76 r_weightOf_76 (by first | assumption | omega) (by first | assumption | omega) (by first | rfl | exact hN63) (by omega)
                                · refine g_iload X dX10_weighings_197 4 rfl ?_
                                  refine g_iconst X dX10_weighings_199 ?_
                                  refine g_iadd X dX10_weighings_200 ?_
                                  refine g_istore X (lv' := [(4, vI (x4_63 + 1)), (0, .ref h), (1, vI p0), (2, vI p1), (3, vI x3_36), (5, vI x5_63), (7, vI x7_128), (8, vI x8_128)]) dX10_weighings_201 (by decide) rfl ?_
                                  have hN63 : (x4_63 + 1) = wyS (fun c => wyI v_oneOf v_otherOf v_signOf v_byOf v_claimMany.toNat p0.toNat (wd p0.toNat (p1 + 1).toNat 12 c (fun _ => 0))) (x5_63 + 1).toNat := by rw [tn_s (show 0 ≤ x5_63 by omega), wyS_1]; (try dsimp only); rw [hcI, ← w63_2]; omega
                                  refine g_iinc X (lv' := [(5, vI (x5_63 + 1)), (4, vI (x4_63 + 1)), (0, .ref h), (1, vI p0), (2, vI p1), (3, vI x3_36), (7, vI x7_128), (8, vI x8_128)]) dX10_weighings_203 5 rfl (by decide) rfl ?_
                                  refine g_goto X (tgt := 63) dX10_weighings_206 (by decide) ?_
                                  refine g_lv [2, 3, 4, 5, 1, 0] rfl ?_
                                  exact ih63 (x4_63 + 1) (x5_63 + 1) weightOf_76 r_weightOf_76 (by first | assumption | omega) (by first | assumption | omega) (by first | rfl | exact hN63) (by omega)
                              · refine g_iload X dX10_weighings_137 6 rfl ?_
                                refine g_if_eq X (tgt := 192) dX10_weighings_139 (by decide) (by omega) (fun c139 => ?_) (fun c139 => ?_)
                                · have hfin : (x7_128 = 1 ∧ cR v_oneOf v_otherOf v_signOf v_byOf v_claimMany.toNat p0.toNat weightOf_76) ∨ (x7_128 = 0 ∧ ¬ cR v_oneOf v_otherOf v_signOf v_byOf v_claimMany.toNat p0.toNat weightOf_76) := by rcases w128_2 with h | h; (refine Or.inl ⟨h.1, ?_⟩; rw [show v_claimMany.toNat = (x8_128).toNat by omega]; exact h.2); exact Or.inr h
                                  have hcI : wyI v_oneOf v_otherOf v_signOf v_byOf v_claimMany.toNat p0.toNat (wd p0.toNat (p1 + 1).toNat 12 (x5_63).toNat (fun _ => 0)) = x7_128 := by have h8 : wyI v_oneOf v_otherOf v_signOf v_byOf v_claimMany.toNat p0.toNat (wd p0.toNat (p1 + 1).toNat 12 (x5_63).toNat (fun _ => 0)) = wyI v_oneOf v_otherOf v_signOf v_byOf v_claimMany.toNat p0.toNat weightOf_76 := ind_c (cR_c (fun j hj => by rw [hWd]; exact wd_c 12 (Nat.le_refl 12) _ _ _ (fun j _ h => absurd h (by omega)) j hj (bit12 (by omega) j hj))); rw [h8]; rcases hfin with h | h; (rw [h.1]; exact ind_y h.2); (rw [h.1]; exact ind_n h.2)
                                  refine g_iload X dX10_weighings_192 6 rfl ?_
                                  refine g_if_eq X (tgt := 203) dX10_weighings_194 (by decide) (by omega) (fun c194 => ?_) (fun c194 => ?_)
                                  · have hN63 : x4_63 = wyS (fun c => wyI v_oneOf v_otherOf v_signOf v_byOf v_claimMany.toNat p0.toNat (wd p0.toNat (p1 + 1).toNat 12 c (fun _ => 0))) (x5_63 + 1).toNat := by rw [tn_s (show 0 ≤ x5_63 by omega), wyS_1]; (try dsimp only); rw [hcI, ← w63_2]; omega
                                    refine g_iinc X (lv' := [(5, vI (x5_63 + 1)), (0, .ref h), (1, vI p0), (2, vI p1), (3, vI x3_36), (4, vI x4_63), (7, vI x7_128), (8, vI x8_128)]) dX10_weighings_203 5 rfl (by decide) rfl ?_
                                    refine g_goto X (tgt := 63) dX10_weighings_206 (by decide) ?_
                                    refine g_lv [1, 2, 3, 4, 5, 0] rfl ?_
                                    exact ih63 x4_63 (x5_63 + 1) weightOf_76 r_weightOf_76 (by first | assumption | omega) (by first | assumption | omega) (by first | rfl | exact hN63) (by omega)
                                  · refine g_iload X dX10_weighings_197 4 rfl ?_
                                    refine g_iconst X dX10_weighings_199 ?_
                                    refine g_iadd X dX10_weighings_200 ?_
                                    refine g_istore X (lv' := [(4, vI (x4_63 + 1)), (0, .ref h), (1, vI p0), (2, vI p1), (3, vI x3_36), (5, vI x5_63), (7, vI x7_128), (8, vI x8_128)]) dX10_weighings_201 (by decide) rfl ?_
                                    have hN63 : (x4_63 + 1) = wyS (fun c => wyI v_oneOf v_otherOf v_signOf v_byOf v_claimMany.toNat p0.toNat (wd p0.toNat (p1 + 1).toNat 12 c (fun _ => 0))) (x5_63 + 1).toNat := by rw [tn_s (show 0 ≤ x5_63 by omega), wyS_1]; (try dsimp only); rw [hcI, ← w63_2]; omega
                                    refine g_iinc X (lv' := [(5, vI (x5_63 + 1)), (4, vI (x4_63 + 1)), (0, .ref h), (1, vI p0), (2, vI p1), (3, vI x3_36), (7, vI x7_128), (8, vI x8_128)]) dX10_weighings_203 5 rfl (by decide) rfl ?_
                                    refine g_goto X (tgt := 63) dX10_weighings_206 (by decide) ?_
                                    refine g_lv [2, 3, 4, 5, 1, 0] rfl ?_
                                    exact ih63 (x4_63 + 1) (x5_63 + 1) weightOf_76 r_weightOf_76 (by first | assumption | omega) (by first | assumption | omega) (by first | rfl | exact hN63) (by omega)
                                · have hc1 := (w128_2.resolve_right (fun h => by omega)).2
                                  refine g_iload_n X dX10_weighings_142 1 rfl ?_
                                  refine g_aload_n X dX10_weighings_143 0 rfl ?_
                                  refine gM_get X 0 rfl 3 (by decide) uw1182 rfl dX10_weighings_144 ?_
                                  refine g_iload X dX10_weighings_147 7 rfl ?_
                                  refine g_iald X 4 0 rfl rfl (by omega) (by decide) dX10_weighings_149 (fun t149 e149 => ?_)
                                  have r149 := r_v_oneOf (x8_128 : Int).toNat; rw [← e149] at r149
                                  have hZa : hasZ p0 t149 = 1 ↔ p0.toNat.testBit (v_oneOf (x8_128).toNat).toNat = true := by have h9 := tb_Z (s := p0) (k := t149) (by omega) (by omega); rw [e149] at h9 ⊢; exact h9
                                  refine g_callSIE X (c_X10_has l D cI cB cJ (p0 := p0) (p1 := t149) (by first | assumption | omega) (by first | assumption | omega)) cv_X10_has uw1531 ⟨rfl, rfl, by decide, by decide⟩ rfl rfl (Nat.le_of_ble_eq_true rfl) ⟨Nat.zero_le _, Nat.zero_le _⟩ dX10_weighings_150 (fun t150 ws150 k150 => ?_)
                                  obtain ⟨kb_150, ⟨kp0_150, rfl⟩⟩ := k150
                                  refine g_if_eq X (tgt := 179) dX10_weighings_153 (by decide) (by omega) (fun c153 => ?_) (fun c153 => ?_)
                                  · refine g_iconst X dX10_weighings_179 ?_
                                    refine g_goto X (tgt := 184) dX10_weighings_180 (by decide) ?_
                                    refine g_istore X (lv' := [(7, vI 1), (0, .ref h), (1, vI p0), (2, vI p1), (3, vI x3_36), (4, vI x4_63), (5, vI x5_63), (8, vI x8_128)]) dX10_weighings_184 (by decide) rfl ?_
                                    have hN8 : ((1 : Int) = 1 ∧ cR v_oneOf v_otherOf v_signOf v_byOf (x8_128 + 1).toNat p0.toNat weightOf_76) ∨ ((1 : Int) = 0 ∧ ¬ cR v_oneOf v_otherOf v_signOf v_byOf v_claimMany.toNat p0.toNat weightOf_76) := by rw [tn_s (show 0 ≤ x8_128 by omega)]; first | exact Or.inl ⟨rfl, cR_1.mpr ⟨hc1, fun _ _ => kp0_173.elim (fun h => h.2) (fun h => absurd h.1 (by omega))⟩⟩ | exact Or.inr ⟨rfl, fun h9 => absurd (h9 (x8_128).toNat (by omega) (hZa.mp (by omega)) (hZb.mp (by omega))) (kp0_173.elim (fun h => absurd h.1 (by omega)) (fun h => h.2))⟩ | exact Or.inl ⟨rfl, cR_1.mpr ⟨hc1, fun ha hb => absurd (hZb.mpr hb) (by omega)⟩⟩ | exact Or.inl ⟨rfl, cR_1.mpr ⟨hc1, fun ha _ => absurd (hZa.mpr ha) (by omega)⟩⟩
                                    refine g_iinc X (lv' := [(8, vI (x8_128 + 1)), (7, vI 1), (0, .ref h), (1, vI p0), (2, vI p1), (3, vI x3_36), (4, vI x4_63), (5, vI x5_63)]) dX10_weighings_186 7 rfl (by decide) rfl ?_
                                    refine g_goto X (tgt := 128) dX10_weighings_189 (by decide) ?_
                                    refine g_lv [2, 3, 4, 5, 6, 7, 1, 0] rfl ?_
                                    exact ih128 1 (x8_128 + 1) (by first | assumption | omega) (by first | assumption | omega) (by first | exact hN8 | exact Or.inl ⟨rfl, cR_0⟩) (by omega)
                                  · refine g_iload_n X dX10_weighings_156 1 rfl ?_
                                    refine g_aload_n X dX10_weighings_157 0 rfl ?_
                                    refine gM_get X 0 rfl 4 (by decide) uw1183 rfl dX10_weighings_158 ?_
                                    refine g_iload X dX10_weighings_161 7 rfl ?_
                                    refine g_iald X 5 0 rfl rfl (by omega) (by decide) dX10_weighings_163 (fun t163 e163 => ?_)
                                    have r163 := r_v_otherOf (x8_128 : Int).toNat; rw [← e163] at r163
                                    have hZb : hasZ p0 t163 = 1 ↔ p0.toNat.testBit (v_otherOf (x8_128).toNat).toNat = true := by have h9 := tb_Z (s := p0) (k := t163) (by omega) (by omega); rw [e163] at h9 ⊢; exact h9
                                    refine g_callSIE X (c_X10_has l D cI cB cJ (p0 := p0) (p1 := t163) (by first | assumption | omega) (by first | assumption | omega)) cv_X10_has uw1531 ⟨rfl, rfl, by decide, by decide⟩ rfl rfl (Nat.le_of_ble_eq_true rfl) ⟨Nat.zero_le _, Nat.zero_le _⟩ dX10_weighings_164 (fun t164 ws164 k164 => ?_)
                                    obtain ⟨kb_164, ⟨kp0_164, rfl⟩⟩ := k164
                                    refine g_if_eq X (tgt := 179) dX10_weighings_167 (by decide) (by omega) (fun c167 => ?_) (fun c167 => ?_)
                                    · refine g_iconst X dX10_weighings_179 ?_
                                      refine g_goto X (tgt := 184) dX10_weighings_180 (by decide) ?_
                                      refine g_istore X (lv' := [(7, vI 1), (0, .ref h), (1, vI p0), (2, vI p1), (3, vI x3_36), (4, vI x4_63), (5, vI x5_63), (8, vI x8_128)]) dX10_weighings_184 (by decide) rfl ?_
                                      have hN8 : ((1 : Int) = 1 ∧ cR v_oneOf v_otherOf v_signOf v_byOf (x8_128 + 1).toNat p0.toNat weightOf_76) ∨ ((1 : Int) = 0 ∧ ¬ cR v_oneOf v_otherOf v_signOf v_byOf v_claimMany.toNat p0.toNat weightOf_76) := by rw [tn_s (show 0 ≤ x8_128 by omega)]; first | exact Or.inl ⟨rfl, cR_1.mpr ⟨hc1, fun _ _ => kp0_173.elim (fun h => h.2) (fun h => absurd h.1 (by omega))⟩⟩ | exact Or.inr ⟨rfl, fun h9 => absurd (h9 (x8_128).toNat (by omega) (hZa.mp (by omega)) (hZb.mp (by omega))) (kp0_173.elim (fun h => absurd h.1 (by omega)) (fun h => h.2))⟩ | exact Or.inl ⟨rfl, cR_1.mpr ⟨hc1, fun ha hb => absurd (hZb.mpr hb) (by omega)⟩⟩ | exact Or.inl ⟨rfl, cR_1.mpr ⟨hc1, fun ha _ => absurd (hZa.mpr ha) (by omega)⟩⟩
                                      refine g_iinc X (lv' := [(8, vI (x8_128 + 1)), (7, vI 1), (0, .ref h), (1, vI p0), (2, vI p1), (3, vI x3_36), (4, vI x4_63), (5, vI x5_63)]) dX10_weighings_186 7 rfl (by decide) rfl ?_
                                      refine g_goto X (tgt := 128) dX10_weighings_189 (by decide) ?_
                                      refine g_lv [2, 3, 4, 5, 6, 7, 1, 0] rfl ?_
                                      exact ih128 1 (x8_128 + 1) (by first | assumption | omega) (by first | assumption | omega) (by first | exact hN8 | exact Or.inl ⟨rfl, cR_0⟩) (by omega)
                                    · refine g_aload_n X dX10_weighings_170 0 rfl ?_
                                      refine g_iload X dX10_weighings_171 7 rfl ?_
                                      refine g_callVI0 X (c_X10_claimHolds l D cI cB cJ h q (p0 := x8_128) r_v_oneOf r_v_otherOf r_v_signOf r_v_byOf r_weightOf_76 (by first | assumption | omega) (by first | assumption | omega)) cv_X10_claimHolds uw1632 ⟨rfl, rfl, by decide, by decide⟩ 0 rfl rfl rfl rfl rfl (Nat.le_of_ble_eq_true rfl) ⟨Nat.zero_le _, Nat.zero_le _⟩ dX10_weighings_173 (fun t173 ws173 k173 => ?_)
                                      obtain ⟨kb_173, ⟨kp0_173, rfl⟩⟩ := k173
                                      refine g_if_eq X (tgt := 183) dX10_weighings_176 (by decide) (by omega) (fun c176 => ?_) (fun c176 => ?_)
                                      · refine g_iconst X dX10_weighings_183 ?_
                                        refine g_istore X (lv' := [(7, vI 0), (0, .ref h), (1, vI p0), (2, vI p1), (3, vI x3_36), (4, vI x4_63), (5, vI x5_63), (8, vI x8_128)]) dX10_weighings_184 (by decide) rfl ?_
                                        have hN8 : ((0 : Int) = 1 ∧ cR v_oneOf v_otherOf v_signOf v_byOf (x8_128 + 1).toNat p0.toNat weightOf_76) ∨ ((0 : Int) = 0 ∧ ¬ cR v_oneOf v_otherOf v_signOf v_byOf v_claimMany.toNat p0.toNat weightOf_76) := by rw [tn_s (show 0 ≤ x8_128 by omega)]; first | exact Or.inl ⟨rfl, cR_1.mpr ⟨hc1, fun _ _ => kp0_173.elim (fun h => h.2) (fun h => absurd h.1 (by omega))⟩⟩ | exact Or.inr ⟨rfl, fun h9 => absurd (h9 (x8_128).toNat (by omega) (hZa.mp (by omega)) (hZb.mp (by omega))) (kp0_173.elim (fun h => absurd h.1 (by omega)) (fun h => h.2))⟩ | exact Or.inl ⟨rfl, cR_1.mpr ⟨hc1, fun ha hb => absurd (hZb.mpr hb) (by omega)⟩⟩ | exact Or.inl ⟨rfl, cR_1.mpr ⟨hc1, fun ha _ => absurd (hZa.mpr ha) (by omega)⟩⟩
                                        refine g_iinc X (lv' := [(8, vI (x8_128 + 1)), (7, vI 0), (0, .ref h), (1, vI p0), (2, vI p1), (3, vI x3_36), (4, vI x4_63), (5, vI x5_63)]) dX10_weighings_186 7 rfl (by decide) rfl ?_
                                        refine g_goto X (tgt := 128) dX10_weighings_189 (by decide) ?_
                                        refine g_lv [2, 3, 4, 5, 6, 7, 1, 0] rfl ?_
                                        exact ih128 0 (x8_128 + 1) (by first | assumption | omega) (by first | assumption | omega) (by first | exact hN8 | exact Or.inl ⟨rfl, cR_0⟩) (by omega)
                                      · refine g_iconst X dX10_weighings_179 ?_
                                        refine g_goto X (tgt := 184) dX10_weighings_180 (by decide) ?_
                                        refine g_istore X (lv' := [(7, vI 1), (0, .ref h), (1, vI p0), (2, vI p1), (3, vI x3_36), (4, vI x4_63), (5, vI x5_63), (8, vI x8_128)]) dX10_weighings_184 (by decide) rfl ?_
                                        have hN8 : ((1 : Int) = 1 ∧ cR v_oneOf v_otherOf v_signOf v_byOf (x8_128 + 1).toNat p0.toNat weightOf_76) ∨ ((1 : Int) = 0 ∧ ¬ cR v_oneOf v_otherOf v_signOf v_byOf v_claimMany.toNat p0.toNat weightOf_76) := by rw [tn_s (show 0 ≤ x8_128 by omega)]; first | exact Or.inl ⟨rfl, cR_1.mpr ⟨hc1, fun _ _ => kp0_173.elim (fun h => h.2) (fun h => absurd h.1 (by omega))⟩⟩ | exact Or.inr ⟨rfl, fun h9 => absurd (h9 (x8_128).toNat (by omega) (hZa.mp (by omega)) (hZb.mp (by omega))) (kp0_173.elim (fun h => absurd h.1 (by omega)) (fun h => h.2))⟩ | exact Or.inl ⟨rfl, cR_1.mpr ⟨hc1, fun ha hb => absurd (hZb.mpr hb) (by omega)⟩⟩ | exact Or.inl ⟨rfl, cR_1.mpr ⟨hc1, fun ha _ => absurd (hZa.mpr ha) (by omega)⟩⟩
                                        refine g_iinc X (lv' := [(8, vI (x8_128 + 1)), (7, vI 1), (0, .ref h), (1, vI p0), (2, vI p1), (3, vI x3_36), (4, vI x4_63), (5, vI x5_63)]) dX10_weighings_186 7 rfl (by decide) rfl ?_
                                        refine g_goto X (tgt := 128) dX10_weighings_189 (by decide) ?_
                                        refine g_lv [2, 3, 4, 5, 6, 7, 1, 0] rfl ?_
                                        exact ih128 1 (x8_128 + 1) (by first | assumption | omega) (by first | assumption | omega) (by first | exact hN8 | exact Or.inl ⟨rfl, cR_0⟩) (by omega)
                          refine g_lv [2, 3, 4, 5, 6, 7, 1, 0] rfl ?_
                          exact L128 _ 1 0 (by first | assumption | omega) (by first | assumption | omega) (by first | exact hN8 | exact Or.inl ⟨rfl, cR_0⟩) (Nat.lt_succ_self _)
                        · refine g_iload_n X dX10_weighings_83 1 rfl ?_
                          refine g_iload X dX10_weighings_84 7 rfl ?_
                          refine g_callSIE X (c_X10_has l D cI cB cJ (p0 := p0) (p1 := x7_76) (by first | assumption | omega) (by first | assumption | omega)) cv_X10_has uw1531 ⟨rfl, rfl, by decide, by decide⟩ rfl rfl (Nat.le_of_ble_eq_true rfl) ⟨Nat.zero_le _, Nat.zero_le _⟩ dX10_weighings_86 (fun t86 ws86 k86 => ?_)
                          obtain ⟨kb_86, ⟨kp0_86, rfl⟩⟩ := k86
                          have hWs := wd_s (S := p0.toNat) (B := (p1 + 1).toNat) (c := (x6_76).toNat) (W := weightOf_76) (x := x7_76) (by omega)
                          have hZ := tb_Z (s := p0) (k := x7_76) (by omega) (by omega)
                          refine g_if_ne X (tgt := 95) dX10_weighings_89 (by decide) (by omega) (fun c89 => ?_) (fun c89 => ?_)
                          · refine g_aload_n X dX10_weighings_95 0 rfl ?_
                            refine gM_get X 0 rfl 47 (by decide) uw1226 rfl dX10_weighings_96 ?_
                            refine g_iload X dX10_weighings_99 7 rfl ?_
                            refine g_iload X dX10_weighings_101 6 rfl ?_
                            refine g_iload_n X dX10_weighings_103 2 rfl ?_
                            refine g_iconst X dX10_weighings_104 ?_
                            refine g_iadd X dX10_weighings_105 ?_
                            refine g_irem X dX10_weighings_106 (by omega) (by omega) ?_
                            refine g_nm (fun t106 e106 => ?_)
                            have r106 : 0 ≤ t106 ∧ ((0 : Int) < (p1 + 1) → t106 < (p1 + 1)) := by rw [e106]; exact ⟨Int.emod_nonneg _ (by omega), fun h => Int.emod_lt_of_pos _ h⟩
                            refine g_iast X 35 0 rfl rfl (by omega) (by decide) dX10_weighings_107 (fun weightOf_107 e107 => ?_)
                            have r_weightOf_107 : RA 0 9 weightOf_107 := by rw [e107]; exact RA_up r_weightOf_76 (by omega)
                            refine g_ws (ws2 := (wX10 cI cB cJ h q v_stalls v_claimMany v_taped v_place0 v_length0 v_fault v_number0 v_open v_codeMany v_waiting v_saidMany v_clauses v_newMany v_newStalls v_lines v_salesNow v_outNow v_isKept v_keptStalls v_now v_aside v_kept v_oneOf v_otherOf v_signOf v_byOf v_tape v_said v_waitsAt v_saidLetter v_saidFrom v_saidHalf v_saidTo v_codes v_clauseOf v_codeFrom v_codeHalf v_codeTo v_stack v_facts v_newOne v_newOther v_newSign v_newBy v_moreOf v_firstOf v_toldOf v_mostOf v_mostThen v_sumTo v_rowFrom v_ordersOf v_lessOf weightOf_107 v_rowNow v_slowRow v_fastRow v_lineNow v_firstLine v_freeBy v_heldBy v_heightOf v_upTo v_downTo v_oftenOf v_newUpper v_newLower)) rfl ?_
                            refine g_iload X dX10_weighings_108 6 rfl ?_
                            refine g_iload_n X dX10_weighings_110 2 rfl ?_
                            refine g_iconst X dX10_weighings_111 ?_
                            refine g_iadd X dX10_weighings_112 ?_
                            refine g_idiv X dX10_weighings_113 (by omega) (by omega) ?_
                            refine g_nm (fun t113 e113 => ?_)
                            have r113 := z_div_r x6_76 (p1 + 1) (by omega) (by omega); rw [← e113] at r113
                            refine g_istore X (lv' := [(6, vI t113), (0, .ref h), (1, vI p0), (2, vI p1), (3, vI x3_36), (4, vI x4_63), (5, vI x5_63), (7, vI x7_76)]) dX10_weighings_114 (by decide) rfl ?_
                            have hn76 : wd p0.toNat (p1 + 1).toNat (12 - (x7_76 + 1)).toNat (t113).toNat weightOf_107 = wd p0.toNat (p1 + 1).toNat 12 (x5_63).toNat weightOf_63 := by rw [← w76_2]; first | (have h106 : (((x6_76).toNat % (p1 + 1).toNat : Nat) : Int) = t106 := (by rw [e106]; show (((x6_76).toNat : Nat) : Int) % (((p1 + 1).toNat : Nat) : Int) = _; rw [hB1, show (((x6_76).toNat : Nat) : Int) = x6_76 by omega]); have h113 : (t113).toNat = (x6_76).toNat / (p1 + 1).toNat := (by have h9 : t113 = (((x6_76).toNat / (p1 + 1).toNat : Nat) : Int) := (by rw [e113]; show _ = (((x6_76).toNat : Nat) : Int) / (((p1 + 1).toNat : Nat) : Int); rw [hB1, show (((x6_76).toNat : Nat) : Int) = x6_76 by omega]); rw [h9]; exact Int.toNat_natCast _); rw [h113, e107, ← h106]; exact ((hWs.resolve_right (fun h => h.1 (hZ.mp (by omega)))).2).symm) | exact ((hWs.resolve_left (fun h => by have := hZ.mpr h.1; omega)).2).symm
                            refine g_iinc X (lv' := [(7, vI (x7_76 + 1)), (6, vI t113), (0, .ref h), (1, vI p0), (2, vI p1), (3, vI x3_36), (4, vI x4_63), (5, vI x5_63)]) dX10_weighings_116 7 rfl (by decide) rfl ?_
                            refine g_goto X (tgt := 76) dX10_weighings_119 (by decide) ?_
                            refine g_lv [2, 3, 4, 5, 6, 7, 1, 0] rfl ?_
                            exact ih76 t113 (x7_76 + 1) weightOf_107 r_weightOf_107 (by first | assumption | omega) (by first | assumption | omega) (by first | rfl | exact hn76) (by omega)
                          · refine g_goto X (tgt := 116) dX10_weighings_92 (by decide) ?_
                            have hn76 : wd p0.toNat (p1 + 1).toNat (12 - (x7_76 + 1)).toNat (x6_76).toNat weightOf_76 = wd p0.toNat (p1 + 1).toNat 12 (x5_63).toNat weightOf_63 := by rw [← w76_2]; first | (have h106 : (((x6_76).toNat % (p1 + 1).toNat : Nat) : Int) = t106 := (by rw [e106]; show (((x6_76).toNat : Nat) : Int) % (((p1 + 1).toNat : Nat) : Int) = _; rw [hB1, show (((x6_76).toNat : Nat) : Int) = x6_76 by omega]); have h113 : (t113).toNat = (x6_76).toNat / (p1 + 1).toNat := (by have h9 : t113 = (((x6_76).toNat / (p1 + 1).toNat : Nat) : Int) := (by rw [e113]; show _ = (((x6_76).toNat : Nat) : Int) / (((p1 + 1).toNat : Nat) : Int); rw [hB1, show (((x6_76).toNat : Nat) : Int) = x6_76 by omega]); rw [h9]; exact Int.toNat_natCast _); rw [h113, e107, ← h106]; exact ((hWs.resolve_right (fun h => h.1 (hZ.mp (by omega)))).2).symm) | exact ((hWs.resolve_left (fun h => by have := hZ.mpr h.1; omega)).2).symm
                            refine g_iinc X (lv' := [(7, vI (x7_76 + 1)), (0, .ref h), (1, vI p0), (2, vI p1), (3, vI x3_36), (4, vI x4_63), (5, vI x5_63), (6, vI x6_76)]) dX10_weighings_116 7 rfl (by decide) rfl ?_
                            refine g_goto X (tgt := 76) dX10_weighings_119 (by decide) ?_
                            refine g_lv [1, 2, 3, 4, 5, 6, 7, 0] rfl ?_
                            exact ih76 x6_76 (x7_76 + 1) weightOf_76 r_weightOf_76 (by first | assumption | omega) (by first | assumption | omega) (by first | rfl | exact hn76) (by omega)
                    refine g_lv [2, 3, 4, 5, 6, 7, 1, 0] rfl ?_
                    exact L76 _ x5_63 0 weightOf_63 r_weightOf_63 (by first | assumption | omega) (by first | assumption | omega) (by first | rfl | exact hn76) (Nat.lt_succ_self _)
              refine g_lv [2, 3, 4, 5, 1, 0] rfl ?_
              exact L63 _ 0 0 v_weightOf r_v_weightOf (by first | assumption | omega) (by first | assumption | omega) (by first | rfl | exact hN63) (Nat.lt_succ_self _)
            · refine g_iload_n X dX10_weighings_45 3 rfl ?_
              refine g_iload_n X dX10_weighings_46 2 rfl ?_
              refine g_iconst X dX10_weighings_47 ?_
              refine g_iadd X dX10_weighings_48 ?_
              refine g_imul X dX10_weighings_49 ?_
              refine g_nm (fun t49 e49 => ?_)
              have h49 : t49 = (((p1 + 1).toNat ^ (x4_36 + 1).toNat : Nat) : Int) := by rw [e49, w36_2, tn_s (show 0 ≤ x4_36 by omega), Nat.pow_succ, Int.natCast_mul, hB1]
              have hpi : t49 ≤ 10000 := by rw [h49]; exact Int.ofNat_le.mpr (pw10 (by omega) (by omega))
              have hpo : 1 ≤ t49 := by rw [h49]; exact Int.ofNat_le.mpr (Nat.pow_pos (by omega))
              refine g_istore_n X (lv' := [(3, vI t49), (0, .ref h), (1, vI p0), (2, vI p1), (4, vI x4_36)]) dX10_weighings_50 (by decide) rfl ?_
              refine g_iinc X (lv' := [(4, vI (x4_36 + 1)), (3, vI t49), (0, .ref h), (1, vI p0), (2, vI p1)]) dX10_weighings_51 4 rfl (by decide) rfl ?_
              refine g_goto X (tgt := 36) dX10_weighings_54 (by decide) ?_
              refine g_lv [2, 3, 4, 1, 0] rfl ?_
              exact ih36 t49 (x4_36 + 1) (by first | assumption | omega) (by first | assumption | omega) (by first | rfl | exact h49) (by omega)
        refine g_lv [2, 3, 4, 1, 0] rfl ?_
        exact L36 _ 1 0 (by first | assumption | omega) (by first | assumption | omega) (by first | rfl | exact h49) (Nat.lt_succ_self _)
      · refine g_iconst X dX10_weighings_29 ?_
        try (have hbc := bc_cn (s := p0) (by omega))
        exact hQ _ _ _ _ dX10_weighings_30 ⟨v_weightOf, r_v_weightOf, (by first | assumption | omega), (by first | assumption | omega), rfl⟩
