set_option maxHeartbeats 4000000 in
set_option maxRecDepth 100000 in
theorem c_X10_copies (l : Launch) (D : va_G) (cI cB cJ : ClassId) (r_from : Nat) (r_to : Nat) {v_from v_to : Nat → Int} (r_v_from : RA (-2147483648) 2147483647 v_from) (r_v_to : RA (-2147483648) 2147483647 v_to) : CtV l yX10_copies cX10_copies 3 none ⟨0, 0, 0, 0⟩ D (TY cI cB cJ) ((wA cI 34 r_from v_from) ++ (wA cI 34 r_to v_to)) [.ref r_from, .ref r_to] (fun ws' => ∃ n_to : Nat → Int, (RA (-2147483648) 2147483647 n_to) ∧ (∀ j : Nat, j < 34 → n_to j = v_from j) ∧ (ws' = ((wA cI 34 r_from v_from) ++ (wA cI 34 r_to n_to)))) := by
  refine hdrV (own := RX10) rfl (by decide +kernel) (Nat.le_of_ble_eq_true rfl) ?_
  intro p e s m args below meth c Q A X hQ
  refine g_lvE (lv2 := [(0, .ref r_from), (1, .ref r_to)]) rfl ?_
  refine g_iconst X dX10_copies_0 ?_
  refine g_istore_n X (lv' := [(2, vI 0), (0, .ref r_from), (1, .ref r_to)]) dX10_copies_1 (by decide) rfl ?_
  have L2 : ∀ (n : Nat) (x2_2 : Int) (to_2 : Nat → Int), (RA (-2147483648) 2147483647 to_2) → (0 ≤ x2_2 ∧ x2_2 ≤ 34) → (∀ j : Nat, (j : Int) < x2_2 → to_2 j = v_from j) → (34 - x2_2).toNat < n → GG p l e ⟨0, 0, 0, 0⟩ s m args below meth c 0 0 Q D A s.heap 3 ((wA cI 34 r_from v_from) ++ (wA cI 34 r_to to_2)) 2 [(0, .ref r_from), (1, .ref r_to), (2, vI x2_2)] [] := by
    intro n
    induction n with
    | zero => intros; exfalso; omega
    | succ n ih2 =>
      intro x2_2 to_2 r_to_2 w2_0 w2_1 wm2
      refine g_iload_n X dX10_copies_2 2 rfl ?_
      refine g_bipush X (z := 34) dX10_copies_3 (by decide) ?_
      refine g_icmp_ge X (tgt := 20) dX10_copies_5 (by decide) (by omega) (by omega) (fun c5 => ?_) (fun c5 => ?_)
      · have hf : ∀ j : Nat, j < 34 → to_2 j = v_from j := fun j hj => w2_1 j (by omega)
        exact hQ _ _ _ dX10_copies_20 ⟨to_2, r_to_2, (by first | assumption | omega), rfl⟩
      · refine g_aload_n X dX10_copies_8 1 rfl ?_
        refine g_iload_n X dX10_copies_9 2 rfl ?_
        refine g_aload_n X dX10_copies_10 0 rfl ?_
        refine g_iload_n X dX10_copies_11 2 rfl ?_
        refine g_iald X 0 0 rfl rfl (by omega) (by decide) dX10_copies_12 (fun t12 e12 => ?_)
        have r12 := r_v_from (x2_2 : Int).toNat; rw [← e12] at r12
        refine g_iast X 1 0 rfl rfl (by omega) (by decide) dX10_copies_13 (fun to_13 e13 => ?_)
        have r_to_13 : RA (-2147483648) 2147483647 to_13 := by rw [e13]; exact RA_up r_to_2 (by omega)
        refine g_ws (ws2 := ((wA cI 34 r_from v_from) ++ (wA cI 34 r_to to_13))) rfl ?_
        refine g_iinc X (lv' := [(2, vI (x2_2 + 1)), (0, .ref r_from), (1, .ref r_to)]) dX10_copies_14 2 rfl (by decide) rfl ?_
        refine g_goto X (tgt := 2) dX10_copies_17 (by decide) ?_
        refine g_lv [1, 2, 0] rfl ?_
        exact ih2 (x2_2 + 1) to_13 r_to_13 (by first | assumption | omega) (by intro j hj; first | (exfalso; omega) | (rw [e13]; exact if hq : j = (x2_2).toNat then by (rw [hq, updZ_s, e12]) else by (rw [updZ_n _ _ hq]; exact w2_1 j (by omega)))) (by omega)
  refine g_lv [1, 2, 0] rfl ?_
  exact L2 _ 0 v_to r_v_to (by first | assumption | omega) (by intro j hj; first | (exfalso; omega) | (rw [e13]; exact if hq : j = (x2_2).toNat then by (rw [hq, updZ_s, e12]) else by (rw [updZ_n _ _ hq]; exact w2_1 j (by omega)))) (Nat.lt_succ_self _)
set_option maxHeartbeats 4000000 in
set_option maxRecDepth 100000 in
theorem c_X10_keep (l : Launch) (D : va_G) (cI cB cJ : ClassId) (h : Nat) (q : Nat → Nat) {v_stalls v_claimMany v_taped v_place0 v_length0 v_fault v_number0 v_open v_codeMany v_waiting v_saidMany v_clauses v_newMany v_newStalls v_lines v_salesNow v_outNow v_isKept v_keptStalls : Int} {v_now v_aside v_kept v_oneOf v_otherOf v_signOf v_byOf v_tape v_said v_waitsAt v_saidLetter v_saidFrom v_saidHalf v_saidTo v_codes v_clauseOf v_codeFrom v_codeHalf v_codeTo v_stack v_facts v_newOne v_newOther v_newSign v_newBy v_moreOf v_firstOf v_toldOf v_mostOf v_mostThen v_sumTo v_rowFrom v_ordersOf v_lessOf v_weightOf v_rowNow v_slowRow v_fastRow v_lineNow v_firstLine v_freeBy v_heldBy v_heightOf v_upTo v_downTo v_oftenOf v_newUpper v_newLower : Nat → Int} (kr_v_stalls : 0 ≤ v_stalls ∧ v_stalls ≤ 255) (kr_v_isKept : 0 ≤ v_isKept ∧ v_isKept ≤ 1) (kr_v_keptStalls : 0 ≤ v_keptStalls ∧ v_keptStalls ≤ 255) (r_v_now : RA (-2147483648) 2147483647 v_now) (r_v_kept : RA (-2147483648) 2147483647 v_kept) : CtI l yX10_keep cX10_keep 1 (some .int) ⟨1, 0, 0, 22⟩ D (TY cI cB cJ) (wX10 cI cB cJ h q v_stalls v_claimMany v_taped v_place0 v_length0 v_fault v_number0 v_open v_codeMany v_waiting v_saidMany v_clauses v_newMany v_newStalls v_lines v_salesNow v_outNow v_isKept v_keptStalls v_now v_aside v_kept v_oneOf v_otherOf v_signOf v_byOf v_tape v_said v_waitsAt v_saidLetter v_saidFrom v_saidHalf v_saidTo v_codes v_clauseOf v_codeFrom v_codeHalf v_codeTo v_stack v_facts v_newOne v_newOther v_newSign v_newBy v_moreOf v_firstOf v_toldOf v_mostOf v_mostThen v_sumTo v_rowFrom v_ordersOf v_lessOf v_weightOf v_rowNow v_slowRow v_fastRow v_lineNow v_firstLine v_freeBy v_heldBy v_heightOf v_upTo v_downTo v_oftenOf v_newUpper v_newLower) [.ref h] (fun z ws' => ∃ n_isKept : Int, ∃ n_keptStalls : Int, ∃ n_kept : Nat → Int, (0 ≤ n_isKept ∧ n_isKept ≤ 1) ∧ (0 ≤ n_keptStalls ∧ n_keptStalls ≤ 255) ∧ (RA (-2147483648) 2147483647 n_kept) ∧ (z = v_now 32) ∧ (n_kept 32 = v_now 32) ∧ (n_isKept = 1) ∧ (ws' = (wX10 cI cB cJ h q v_stalls v_claimMany v_taped v_place0 v_length0 v_fault v_number0 v_open v_codeMany v_waiting v_saidMany v_clauses v_newMany v_newStalls v_lines v_salesNow v_outNow n_isKept n_keptStalls v_now v_aside n_kept v_oneOf v_otherOf v_signOf v_byOf v_tape v_said v_waitsAt v_saidLetter v_saidFrom v_saidHalf v_saidTo v_codes v_clauseOf v_codeFrom v_codeHalf v_codeTo v_stack v_facts v_newOne v_newOther v_newSign v_newBy v_moreOf v_firstOf v_toldOf v_mostOf v_mostThen v_sumTo v_rowFrom v_ordersOf v_lessOf v_weightOf v_rowNow v_slowRow v_fastRow v_lineNow v_firstLine v_freeBy v_heldBy v_heightOf v_upTo v_downTo v_oftenOf v_newUpper v_newLower))) := by
  refine hdrI (own := RX10) rfl (by decide +kernel) (Nat.le_of_ble_eq_true rfl) ?_
  intro p e s m args below meth c Q A X hQ
  refine g_lvE (lv2 := [(0, .ref h)]) rfl ?_
  refine g_aload_n X dX10_keep_0 0 rfl ?_
  refine g_iconst X dX10_keep_1 ?_
  refine gM_put X 0 rfl 65 (by decide) uw1244 rfl (zI_bool (by omega)) rfl (Nat.le_of_ble_eq_true rfl) dX10_keep_2 (ws2 := (wX10 cI cB cJ h q v_stalls v_claimMany v_taped v_place0 v_length0 v_fault v_number0 v_open v_codeMany v_waiting v_saidMany v_clauses v_newMany v_newStalls v_lines v_salesNow v_outNow 1 v_keptStalls v_now v_aside v_kept v_oneOf v_otherOf v_signOf v_byOf v_tape v_said v_waitsAt v_saidLetter v_saidFrom v_saidHalf v_saidTo v_codes v_clauseOf v_codeFrom v_codeHalf v_codeTo v_stack v_facts v_newOne v_newOther v_newSign v_newBy v_moreOf v_firstOf v_toldOf v_mostOf v_mostThen v_sumTo v_rowFrom v_ordersOf v_lessOf v_weightOf v_rowNow v_slowRow v_fastRow v_lineNow v_firstLine v_freeBy v_heldBy v_heightOf v_upTo v_downTo v_oftenOf v_newUpper v_newLower)) rfl ?_
  refine g_aload_n X dX10_keep_5 0 rfl ?_
  refine g_aload_n X dX10_keep_6 0 rfl ?_
  refine gM_get X 0 rfl 7 (by decide) uw1186 rfl dX10_keep_7 ?_
  refine gM_put X 0 rfl 66 (by decide) uw1245 rfl rfl rfl (Nat.le_of_ble_eq_true rfl) dX10_keep_10 (ws2 := (wX10 cI cB cJ h q v_stalls v_claimMany v_taped v_place0 v_length0 v_fault v_number0 v_open v_codeMany v_waiting v_saidMany v_clauses v_newMany v_newStalls v_lines v_salesNow v_outNow 1 v_stalls v_now v_aside v_kept v_oneOf v_otherOf v_signOf v_byOf v_tape v_said v_waitsAt v_saidLetter v_saidFrom v_saidHalf v_saidTo v_codes v_clauseOf v_codeFrom v_codeHalf v_codeTo v_stack v_facts v_newOne v_newOther v_newSign v_newBy v_moreOf v_firstOf v_toldOf v_mostOf v_mostThen v_sumTo v_rowFrom v_ordersOf v_lessOf v_weightOf v_rowNow v_slowRow v_fastRow v_lineNow v_firstLine v_freeBy v_heldBy v_heightOf v_upTo v_downTo v_oftenOf v_newUpper v_newLower)) rfl ?_
  refine g_aload_n X dX10_keep_13 0 rfl ?_
  refine gM_get X 0 rfl 0 (by decide) uw1179 rfl dX10_keep_14 ?_
  refine g_aload_n X dX10_keep_17 0 rfl ?_
  refine gM_get X 0 rfl 2 (by decide) uw1181 rfl dX10_keep_18 ?_
  refine g_callSV X (c_X10_copies l D cI cB cJ (q 0) (q 2)  r_v_now r_v_kept) [1, 3] [0, 2, 4, 5, 6, 7, 8, 9, 10, 11, 12, 13, 14, 15, 16, 17, 18, 19, 20, 21, 22, 23, 24, 25, 26, 27, 28, 29, 30, 31, 32, 33, 34, 35, 36, 37, 38, 39, 40, 41, 42, 43, 44, 45, 46, 47, 48] rfl rfl rfl rfl rfl (by decide) cv_X10_copies uw1806 ⟨rfl, rfl, by decide, by decide⟩ rfl rfl (Nat.le_of_ble_eq_true rfl) ⟨Nat.zero_le _, Nat.zero_le _⟩ dX10_keep_21 (fun ws21 k21 => ?_)
  obtain ⟨kept_21, r_kept_21, kp0_21, rfl⟩ := k21
  refine g_perm (ws2 := (wX10 cI cB cJ h q v_stalls v_claimMany v_taped v_place0 v_length0 v_fault v_number0 v_open v_codeMany v_waiting v_saidMany v_clauses v_newMany v_newStalls v_lines v_salesNow v_outNow 1 v_stalls v_now v_aside kept_21 v_oneOf v_otherOf v_signOf v_byOf v_tape v_said v_waitsAt v_saidLetter v_saidFrom v_saidHalf v_saidTo v_codes v_clauseOf v_codeFrom v_codeHalf v_codeTo v_stack v_facts v_newOne v_newOther v_newSign v_newBy v_moreOf v_firstOf v_toldOf v_mostOf v_mostThen v_sumTo v_rowFrom v_ordersOf v_lessOf v_weightOf v_rowNow v_slowRow v_fastRow v_lineNow v_firstLine v_freeBy v_heldBy v_heightOf v_upTo v_downTo v_oftenOf v_newUpper v_newLower)) [0, 47, 1, 48, 2, 3, 4, 5, 6, 7, 8, 9, 10, 11, 12, 13, 14, 15, 16, 17, 18, 19, 20, 21, 22, 23, 24, 25, 26, 27, 28, 29, 30, 31, 32, 33, 34, 35, 36, 37, 38, 39, 40, 41, 42, 43, 44, 45, 46] rfl rfl rfl ?_
  refine g_aload_n X dX10_keep_24 0 rfl ?_
  refine gM_get X 0 rfl 0 (by decide) uw1179 rfl dX10_keep_25 ?_
  refine g_bipush X (z := 32) dX10_keep_28 (by decide) ?_
  refine g_iald X 1 0 rfl rfl (by omega) (by decide) dX10_keep_30 (fun t30 e30 => ?_)
  have r30 := r_v_now (32 : Int).toNat; rw [← e30] at r30
  have l30 : t30 = v_now 32 := e30
  have hk : kept_21 32 = v_now 32 := kp0_21 32 (by decide)
  exact hQ _ _ _ _ dX10_keep_31 ⟨1, v_stalls, kept_21, (by omega), (by omega), r_kept_21, (by first | assumption | omega), (by first | assumption | omega), (by first | assumption | omega), rfl⟩
