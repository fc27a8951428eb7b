set_option maxHeartbeats 4000000 in
set_option maxRecDepth 100000 in
theorem c_X10_in (l : Launch) (D : va_G) (tys : List (ClassId × FieldType)) {p0 p1 p2 : Int} (hp0 : IR p0) (hp1 : IR p1) (hp2 : IR p2) : CtI l yX10_in cX10_in 3 (some .boolean) ⟨0, 0, 0, 0⟩ D tys [] [vI p0, vI p1, vI p2] (fun z ws' => (z = 0 ∨ z = 1) ∧ ((z = 1 ∧ p1 ≤ p0 ∧ p0 ≤ p2) ∨ (z = 0 ∧ ¬ (p1 ≤ p0 ∧ p0 ≤ p2))) ∧ (ws' = [])) := by
  refine hdrZ (own := RX10) rfl (by decide +kernel) (Nat.le_of_ble_eq_true rfl) ?_
  intro p e s m args below meth c Q A X hQ
  refine g_lvE (lv2 := [(0, vI p0), (1, vI p1), (2, vI p2)]) rfl ?_
  refine g_iload_n X dX10_in_0 0 rfl ?_
  refine g_iload_n X dX10_in_1 1 rfl ?_
  refine g_icmp_lt X (tgt := 14) dX10_in_2 (by decide) (by omega) (by omega) (fun c2 => ?_) (fun c2 => ?_)
  · refine g_iconst X dX10_in_14 ?_
    exact hQ _ _ _ _ dX10_in_15 ⟨by omega, ⟨(by first | omega | assumption), rfl⟩⟩
  · refine g_iload_n X dX10_in_5 0 rfl ?_
    refine g_iload_n X dX10_in_6 2 rfl ?_
    refine g_icmp_gt X (tgt := 14) dX10_in_7 (by decide) (by omega) (by omega) (fun c7 => ?_) (fun c7 => ?_)
    · refine g_iconst X dX10_in_14 ?_
      exact hQ _ _ _ _ dX10_in_15 ⟨by omega, ⟨(by first | omega | assumption), rfl⟩⟩
    · refine g_iconst X dX10_in_10 ?_
      refine g_goto X (tgt := 15) dX10_in_11 (by decide) ?_
      exact hQ _ _ _ _ dX10_in_15 ⟨by omega, ⟨(by first | omega | assumption), rfl⟩⟩
set_option maxHeartbeats 4000000 in
set_option maxRecDepth 100000 in
theorem c_X10_min (l : Launch) (D : va_G) (tys : List (ClassId × FieldType)) {p0 p1 : Int} (hp0 : IR p0) (hp1 : IR p1) : CtI l yX10_min cX10_min 2 (some .int) ⟨0, 0, 0, 0⟩ D tys [] [vI p0, vI p1] (fun z ws' => ((z = p0 ∧ p0 ≤ p1) ∨ (z = p1 ∧ p1 ≤ p0)) ∧ (ws' = [])) := by
  refine hdrI (own := RX10) rfl (by decide +kernel) (Nat.le_of_ble_eq_true rfl) ?_
  intro p e s m args below meth c Q A X hQ
  refine g_lvE (lv2 := [(0, vI p0), (1, vI p1)]) rfl ?_
  refine g_iload_n X dX10_min_0 0 rfl ?_
  refine g_iload_n X dX10_min_1 1 rfl ?_
  refine g_icmp_ge X (tgt := 9) dX10_min_2 (by decide) (by omega) (by omega) (fun c2 => ?_) (fun c2 => ?_)
  · refine g_iload_n X dX10_min_9 1 rfl ?_
    exact hQ _ _ _ _ dX10_min_10 ⟨(by first | omega | assumption), rfl⟩
  · refine g_iload_n X dX10_min_5 0 rfl ?_
    refine g_goto X (tgt := 10) dX10_min_6 (by decide) ?_
    exact hQ _ _ _ _ dX10_min_10 ⟨(by first | omega | assumption), rfl⟩
set_option maxHeartbeats 4000000 in
set_option maxRecDepth 100000 in
theorem c_X10_max (l : Launch) (D : va_G) (tys : List (ClassId × FieldType)) {p0 p1 : Int} (hp0 : IR p0) (hp1 : IR p1) : CtI l yX10_max cX10_max 2 (some .int) ⟨0, 0, 0, 0⟩ D tys [] [vI p0, vI p1] (fun z ws' => ((z = p0 ∧ p1 ≤ p0) ∨ (z = p1 ∧ p0 ≤ p1)) ∧ (ws' = [])) := by
  refine hdrI (own := RX10) rfl (by decide +kernel) (Nat.le_of_ble_eq_true rfl) ?_
  intro p e s m args below meth c Q A X hQ
  refine g_lvE (lv2 := [(0, vI p0), (1, vI p1)]) rfl ?_
  refine g_iload_n X dX10_max_0 0 rfl ?_
  refine g_iload_n X dX10_max_1 1 rfl ?_
  refine g_icmp_le X (tgt := 9) dX10_max_2 (by decide) (by omega) (by omega) (fun c2 => ?_) (fun c2 => ?_)
  · refine g_iload_n X dX10_max_9 1 rfl ?_
    exact hQ _ _ _ _ dX10_max_10 ⟨(by first | omega | assumption), rfl⟩
  · refine g_iload_n X dX10_max_5 0 rfl ?_
    refine g_goto X (tgt := 10) dX10_max_6 (by decide) ?_
    exact hQ _ _ _ _ dX10_max_10 ⟨(by first | omega | assumption), rfl⟩
set_option maxHeartbeats 4000000 in
set_option maxRecDepth 100000 in
theorem c_X10_size (l : Launch) (D : va_G) (tys : List (ClassId × FieldType)) {p0 : Int} (hp0 : IR p0) (hp1 : -2147483648 < p0) : CtI l yX10_size cX10_size 1 (some .int) ⟨0, 0, 0, 0⟩ D tys [] [vI p0] (fun z ws' => (0 ≤ z ∧ (z = p0 ∨ z = -p0)) ∧ (ws' = [])) := by
  refine hdrI (own := RX10) rfl (by decide +kernel) (Nat.le_of_ble_eq_true rfl) ?_
  intro p e s m args below meth c Q A X hQ
  refine g_lvE (lv2 := [(0, vI p0)]) rfl ?_
  refine g_iload_n X dX10_size_0 0 rfl ?_
  refine g_if_ge X (tgt := 9) dX10_size_1 (by decide) (by omega) (fun c1 => ?_) (fun c1 => ?_)
  · refine g_iload_n X dX10_size_9 0 rfl ?_
    exact hQ _ _ _ _ dX10_size_10 ⟨(by first | omega | assumption), rfl⟩
  · refine g_iload_n X dX10_size_4 0 rfl ?_
    refine g_ineg X dX10_size_5 ?_
    refine g_goto X (tgt := 10) dX10_size_6 (by decide) ?_
    exact hQ _ _ _ _ dX10_size_10 ⟨(by first | omega | assumption), rfl⟩
set_option maxHeartbeats 4000000 in
set_option maxRecDepth 100000 in
theorem c_X10_gcd (l : Launch) (D : va_G) (tys : List (ClassId × FieldType)) {p0 p1 : Int} (hp0 : IR p0) (hp1 : IR p1) (hp2 : 0 ≤ p0) (hp3 : 0 ≤ p1) : CtI l yX10_gcd cX10_gcd 5 (some .int) ⟨0, 0, 0, 0⟩ D tys [] [vI p0, vI p1] (fun z ws' => (0 ≤ z ∧ z ≤ 2147483647) ∧ ((0 < p0 ∨ 0 < p1) → 0 < z) ∧ (ws' = [])) := by
  refine hdrI (own := RX10) rfl (by decide +kernel) (Nat.le_of_ble_eq_true rfl) ?_
  intro p e s m args below meth c Q A X hQ
  refine g_lvE (lv2 := [(0, vI p0), (1, vI p1)]) rfl ?_
  refine g_iload_n X dX10_gcd_0 0 rfl ?_
  refine g_istore_n X (lv' := [(2, vI p0), (0, vI p0), (1, vI p1)]) dX10_gcd_1 (by decide) rfl ?_
  refine g_iload_n X dX10_gcd_2 2 rfl ?_
  refine g_istore_n X (lv' := [(3, vI p1), (2, vI p0), (0, vI p0), (1, vI p1)]) dX10_gcd_3 (by decide) rfl ?_
  have L4 : ∀ (n : Nat) (x2_4 : Int) (x3_4 : Int), (0 ≤ x2_4 ∧ x2_4 ≤ 2147483647) → (0 ≤ x3_4 ∧ x3_4 ≤ 2147483647) → ((0 < p0 ∨ 0 < p1) → (0 < x2_4 ∨ 0 < x3_4)) → (x3_4).toNat < n → GG p l e ⟨0, 0, 0, 0⟩ s m args below meth c 0 0 Q D A s.heap 5 [] 4 [(2, vI x2_4), (3, vI x3_4)] [] := by
    intro n
    induction n with
    | zero => intros; exfalso; omega
    | succ n ih =>
      intro x2_4 x3_4 w4_0 w4_1 w4_2 wm4
      refine g_iload_n X dX10_gcd_4 1 rfl ?_
      refine g_if_eq X (tgt := 21) dX10_gcd_5 (by decide) (by omega) (fun c5 => ?_) (fun c5 => ?_)
      · refine g_iload_n X dX10_gcd_21 0 rfl ?_
        exact hQ _ _ _ _ dX10_gcd_22 ⟨(by first | omega | assumption), (by first | omega | assumption), rfl⟩
      · refine g_iload_n X dX10_gcd_8 0 rfl ?_
        refine g_iload_n X dX10_gcd_9 1 rfl ?_
        refine g_irem X dX10_gcd_10 (by omega) (by omega) ?_
        refine g_nm (fun t10 e10 => ?_)
        have r10 : 0 ≤ t10 ∧ (0 < x3_4 → t10 < x3_4) := by rw [e10]; exact ⟨Int.emod_nonneg _ (by omega), fun h => Int.emod_lt_of_pos _ h⟩
        refine g_istore X (lv' := [(4, vI t10), (2, vI x2_4), (3, vI x3_4)]) dX10_gcd_11 (by decide) rfl ?_
        refine g_iload_n X dX10_gcd_13 2 rfl ?_
        refine g_istore_n X (lv' := [(2, vI x3_4), (4, vI t10), (3, vI x3_4)]) dX10_gcd_14 (by decide) rfl ?_
        refine g_iload X dX10_gcd_15 1 rfl ?_
        refine g_istore_n X (lv' := [(3, vI t10), (2, vI x3_4), (4, vI t10)]) dX10_gcd_17 (by decide) rfl ?_
        refine g_goto X (tgt := 4) dX10_gcd_18 (by decide) ?_
        refine g_lv [1, 0] rfl ?_
        exact ih x3_4 t10 (by first | omega | assumption) (by first | omega | assumption) (by first | omega | assumption) (by omega)
  refine g_lv [1, 0] rfl ?_
  exact L4 _ p0 p1 (by first | omega | assumption) (by first | omega | assumption) (by first | omega | assumption) (Nat.lt_succ_self _)
set_option maxHeartbeats 4000000 in
set_option maxRecDepth 100000 in
theorem c_X10_has (l : Launch) (D : va_G) (tys : List (ClassId × FieldType)) {p0 p1 : Int} (hp0 : IR p0) (hp1 : IR p1) : CtI l yX10_has cX10_has 2 (some .boolean) ⟨0, 0, 0, 0⟩ D tys [] [vI p0, vI p1] (fun z ws' => (z = 0 ∨ z = 1) ∧ (ws' = [])) := by
  refine hdrZ (own := RX10) rfl (by decide +kernel) (Nat.le_of_ble_eq_true rfl) ?_
  intro p e s m args below meth c Q A X hQ
  refine g_lvE (lv2 := [(0, vI p0), (1, vI p1)]) rfl ?_
  refine g_iload_n X dX10_has_0 0 rfl ?_
  refine g_iload_n X dX10_has_1 1 rfl ?_
  refine g_ishr X dX10_has_2 ?_
  refine g_nm (fun t2 e2 => ?_)
  have r2 : IR t2 := by rw [e2]; exact z_ir _
  refine g_iconst X dX10_has_3 ?_
  refine g_iand X dX10_has_4 ?_
  refine g_nm (fun t4 e4 => ?_)
  have r4 := z_iand_r t2 1 (by omega) (by omega); rw [← e4] at r4
  refine g_iconst X dX10_has_5 ?_
  refine g_icmp_ne X (tgt := 13) dX10_has_6 (by decide) (by omega) (by omega) (fun c6 => ?_) (fun c6 => ?_)
  · refine g_iconst X dX10_has_13 ?_
    exact hQ _ _ _ _ dX10_has_14 ⟨by omega, rfl⟩
  · refine g_iconst X dX10_has_9 ?_
    refine g_goto X (tgt := 14) dX10_has_10 (by decide) ?_
    exact hQ _ _ _ _ dX10_has_14 ⟨by omega, rfl⟩
set_option maxHeartbeats 4000000 in
set_option maxRecDepth 100000 in
theorem c_X10_bits (l : Launch) (D : va_G) (tys : List (ClassId × FieldType)) {p0 : Int} (hp0 : IR p0) : CtI l yX10_bits cX10_bits 3 (some .int) ⟨0, 0, 0, 0⟩ D tys [] [vI p0] (fun z ws' => (0 ≤ z ∧ z ≤ 16) ∧ (ws' = [])) := by
  refine hdrI (own := RX10) rfl (by decide +kernel) (Nat.le_of_ble_eq_true rfl) ?_
  intro p e s m args below meth c Q A X hQ
  refine g_lvE (lv2 := [(0, vI p0)]) rfl ?_
  refine g_iconst X dX10_bits_0 ?_
  refine g_istore_n X (lv' := [(1, vI 0), (0, vI p0)]) dX10_bits_1 (by decide) rfl ?_
  refine g_iconst X dX10_bits_2 ?_
  refine g_istore_n X (lv' := [(2, vI 0), (1, vI 0), (0, vI p0)]) dX10_bits_3 (by decide) rfl ?_
  have L4 : ∀ (n : Nat) (x1_4 : Int) (x2_4 : Int), (0 ≤ x2_4 ∧ x2_4 ≤ 16) → (0 ≤ x1_4 ∧ x1_4 ≤ x2_4) → (16 - x2_4).toNat < n → GG p l e ⟨0, 0, 0, 0⟩ s m args below meth c 0 0 Q D A s.heap 3 [] 4 [(0, vI p0), (1, vI x1_4), (2, vI x2_4)] [] := by
    intro n
    induction n with
    | zero => intros; exfalso; omega
    | succ n ih =>
      intro x1_4 x2_4 w4_0 w4_1 wm4
      refine g_iload_n X dX10_bits_4 2 rfl ?_
      refine g_bipush X (z := 16) dX10_bits_5 (by decide) ?_
      refine g_icmp_ge X (tgt := 24) dX10_bits_7 (by decide) (by omega) (by omega) (fun c7 => ?_) (fun c7 => ?_)
      · refine g_iload_n X dX10_bits_24 1 rfl ?_
        exact hQ _ _ _ _ dX10_bits_25 ⟨(by first | omega | assumption), rfl⟩
      · refine g_iload_n X dX10_bits_10 1 rfl ?_
        refine g_iload_n X dX10_bits_11 0 rfl ?_
        refine g_iload_n X dX10_bits_12 2 rfl ?_
        refine g_ishr X dX10_bits_13 ?_
        refine g_nm (fun t13 e13 => ?_)
        have r13 : IR t13 := by rw [e13]; exact z_ir _
        refine g_iconst X dX10_bits_14 ?_
        refine g_iand X dX10_bits_15 ?_
        refine g_nm (fun t15 e15 => ?_)
        have r15 := z_iand_r t13 1 (by omega) (by omega); rw [← e15] at r15
        refine g_iadd X dX10_bits_16 ?_
        refine g_istore_n X (lv' := [(1, vI (x1_4 + t15)), (0, vI p0), (2, vI x2_4)]) dX10_bits_17 (by decide) rfl ?_
        refine g_iinc X (lv' := [(2, vI (x2_4 + 1)), (1, vI (x1_4 + t15)), (0, vI p0)]) dX10_bits_18 2 rfl (by decide) rfl ?_
        refine g_goto X (tgt := 4) dX10_bits_21 (by decide) ?_
        refine g_lv [2, 1, 0] rfl ?_
        exact ih (x1_4 + t15) (x2_4 + 1) (by first | omega | assumption) (by first | omega | assumption) (by omega)
  refine g_lv [2, 1, 0] rfl ?_
  exact L4 _ 0 0 (by first | omega | assumption) (by first | omega | assumption) (Nat.lt_succ_self _)
set_option maxHeartbeats 4000000 in
set_option maxRecDepth 100000 in
theorem c_X10_isThing (l : Launch) (D : va_G) (tys : List (ClassId × FieldType)) {p0 : Int} (hp0 : IR p0) : CtI l yX10_isThing cX10_isThing 1 (some .boolean) ⟨1, 0, 0, 22⟩ D tys [] [vI p0] (fun z ws' => (z = 0 ∨ z = 1) ∧ ((z = 1 ∧ 0 ≤ p0 ∧ p0 ≤ 11) ∨ (z = 0 ∧ ¬ (0 ≤ p0 ∧ p0 ≤ 11))) ∧ (ws' = [])) := by
  refine hdrZ (own := RX10) rfl (by decide +kernel) (Nat.le_of_ble_eq_true rfl) ?_
  intro p e s m args below meth c Q A X hQ
  refine g_lvE (lv2 := [(0, vI p0)]) rfl ?_
  refine g_iload_n X dX10_isThing_0 0 rfl ?_
  refine g_iconst X dX10_isThing_1 ?_
  refine g_bipush X (z := 11) dX10_isThing_2 (by decide) ?_
  refine g_callSIE X (c_X10_in l D tys (p0 := p0) (p1 := 0) (p2 := 11) (by first | omega | assumption) (by first | omega | assumption) (by first | omega | assumption)) cv_X10_in uw1394 ⟨rfl, rfl, by decide, by decide⟩ rfl rfl (Nat.le_of_ble_eq_true rfl) ⟨Nat.zero_le _, Nat.zero_le _⟩ dX10_isThing_4 (fun t4 ws4 k4 => ?_)
  obtain ⟨kb_4, ⟨kp0_4, rfl⟩⟩ := k4
  exact hQ _ _ _ _ dX10_isThing_7 ⟨by omega, ⟨(by first | omega | assumption), rfl⟩⟩
set_option maxHeartbeats 4000000 in
set_option maxRecDepth 100000 in
theorem c_X10_isStall (l : Launch) (D : va_G) (cI cB cJ : ClassId) (h : Nat) (q : Nat → Nat) {v_stalls v_claimMany v_taped v_place0 v_length0 v_fault v_number0 v_open v_codeMany v_waiting v_saidMany v_clauses v_newMany v_newStalls v_lines v_salesNow v_outNow v_isKept v_keptStalls : Int} {v_now v_aside v_kept v_oneOf v_otherOf v_signOf v_byOf v_tape v_said v_waitsAt v_saidLetter v_saidFrom v_saidHalf v_saidTo v_codes v_clauseOf v_codeFrom v_codeHalf v_codeTo v_stack v_facts v_newOne v_newOther v_newSign v_newBy v_moreOf v_firstOf v_toldOf v_mostOf v_mostThen v_sumTo v_rowFrom v_ordersOf v_lessOf v_weightOf v_rowNow v_slowRow v_fastRow v_lineNow v_firstLine v_freeBy v_heldBy v_heightOf v_upTo v_downTo v_oftenOf v_newUpper v_newLower : Nat → Int} {p0 : Int} (r_v_stalls : 0 ≤ v_stalls ∧ v_stalls ≤ 255) (hp1 : IR p0) : CtI l yX10_isStall cX10_isStall 2 (some .boolean) ⟨1, 0, 0, 22⟩ D (TY cI cB cJ) (wM cI cB cJ h q v_stalls v_claimMany v_taped v_place0 v_length0 v_fault v_number0 v_open v_codeMany v_waiting v_saidMany v_clauses v_newMany v_newStalls v_lines v_salesNow v_outNow v_isKept v_keptStalls v_now v_aside v_kept v_oneOf v_otherOf v_signOf v_byOf v_tape v_said v_waitsAt v_saidLetter v_saidFrom v_saidHalf v_saidTo v_codes v_clauseOf v_codeFrom v_codeHalf v_codeTo v_stack v_facts v_newOne v_newOther v_newSign v_newBy v_moreOf v_firstOf v_toldOf v_mostOf v_mostThen v_sumTo v_rowFrom v_ordersOf v_lessOf v_weightOf v_rowNow v_slowRow v_fastRow v_lineNow v_firstLine v_freeBy v_heldBy v_heightOf v_upTo v_downTo v_oftenOf v_newUpper v_newLower) [.ref h, vI p0] (fun z ws' => (z = 0 ∨ z = 1) ∧ (z = 1 → 0 ≤ p0 ∧ p0 ≤ 7) ∧ (ws' = (wM cI cB cJ h q v_stalls v_claimMany v_taped v_place0 v_length0 v_fault v_number0 v_open v_codeMany v_waiting v_saidMany v_clauses v_newMany v_newStalls v_lines v_salesNow v_outNow v_isKept v_keptStalls v_now v_aside v_kept v_oneOf v_otherOf v_signOf v_byOf v_tape v_said v_waitsAt v_saidLetter v_saidFrom v_saidHalf v_saidTo v_codes v_clauseOf v_codeFrom v_codeHalf v_codeTo v_stack v_facts v_newOne v_newOther v_newSign v_newBy v_moreOf v_firstOf v_toldOf v_mostOf v_mostThen v_sumTo v_rowFrom v_ordersOf v_lessOf v_weightOf v_rowNow v_slowRow v_fastRow v_lineNow v_firstLine v_freeBy v_heldBy v_heightOf v_upTo v_downTo v_oftenOf v_newUpper v_newLower))) := by
  refine hdrZ (own := RX10) rfl (by decide +kernel) (Nat.le_of_ble_eq_true rfl) ?_
  intro p e s m args below meth c Q A X hQ
  refine g_lvE (lv2 := [(0, .ref h), (1, vI p0)]) rfl ?_
  refine g_iload_n X dX10_isStall_0 1 rfl ?_
  refine g_iconst X dX10_isStall_1 ?_
  refine g_bipush X (z := 7) dX10_isStall_2 (by decide) ?_
  refine g_callSIE X (c_X10_in l D (TY cI cB cJ) (p0 := p0) (p1 := 0) (p2 := 7) (by first | omega | assumption) (by first | omega | assumption) (by first | omega | assumption)) cv_X10_in uw1394 ⟨rfl, rfl, by decide, by decide⟩ rfl rfl (Nat.le_of_ble_eq_true rfl) ⟨Nat.zero_le _, Nat.zero_le _⟩ dX10_isStall_4 (fun t4 ws4 k4 => ?_)
  obtain ⟨kb_4, ⟨kp0_4, rfl⟩⟩ := k4
  refine g_if_eq X (tgt := 25) dX10_isStall_7 (by decide) (by omega) (fun c7 => ?_) (fun c7 => ?_)
  · refine g_iconst X dX10_isStall_25 ?_
    exact hQ _ _ _ _ dX10_isStall_26 ⟨by omega, ⟨(by first | omega | assumption), rfl⟩⟩
  · refine g_aload_n X dX10_isStall_10 0 rfl ?_
    refine gM_get X 0 rfl 7 (by decide) uw1186 rfl dX10_isStall_11 ?_
    refine g_iload_n X dX10_isStall_14 1 rfl ?_
    refine g_callSIE X (c_X10_has l D (TY cI cB cJ) (p0 := v_stalls) (p1 := p0) (by first | omega | assumption) (by first | omega | assumption)) cv_X10_has uw1531 ⟨rfl, rfl, by decide, by decide⟩ rfl rfl (Nat.le_of_ble_eq_true rfl) ⟨Nat.zero_le _, Nat.zero_le _⟩ dX10_isStall_15 (fun t15 ws15 k15 => ?_)
    obtain ⟨kb_15, rfl⟩ := k15
    refine g_if_eq X (tgt := 25) dX10_isStall_18 (by decide) (by omega) (fun c18 => ?_) (fun c18 => ?_)
    · refine g_iconst X dX10_isStall_25 ?_
      exact hQ _ _ _ _ dX10_isStall_26 ⟨by omega, ⟨(by first | omega | assumption), rfl⟩⟩
    · refine g_iconst X dX10_isStall_21 ?_
      refine g_goto X (tgt := 26) dX10_isStall_22 (by decide) ?_
      exact hQ _ _ _ _ dX10_isStall_26 ⟨by omega, ⟨(by first | omega | assumption), rfl⟩⟩
set_option maxHeartbeats 4000000 in
set_option maxRecDepth 100000 in
theorem c_X10_types (l : Launch) (D : va_G) (cI cB cJ : ClassId) (h : Nat) (q : Nat → Nat) {v_stalls v_claimMany v_taped v_place0 v_length0 v_fault v_number0 v_open v_codeMany v_waiting v_saidMany v_clauses v_newMany v_newStalls v_lines v_salesNow v_outNow v_isKept v_keptStalls : Int} {v_now v_aside v_kept v_oneOf v_otherOf v_signOf v_byOf v_tape v_said v_waitsAt v_saidLetter v_saidFrom v_saidHalf v_saidTo v_codes v_clauseOf v_codeFrom v_codeHalf v_codeTo v_stack v_facts v_newOne v_newOther v_newSign v_newBy v_moreOf v_firstOf v_toldOf v_mostOf v_mostThen v_sumTo v_rowFrom v_ordersOf v_lessOf v_weightOf v_rowNow v_slowRow v_fastRow v_lineNow v_firstLine v_freeBy v_heldBy v_heightOf v_upTo v_downTo v_oftenOf v_newUpper v_newLower : Nat → Int} {p0 : Int} (r_v_taped : 0 ≤ v_taped ∧ v_taped ≤ 260) (r_v_tape : RA (-128) 127 v_tape) (hp2 : IR p0) (hp3 : v_taped ≤ 256) : CtV l yX10_types cX10_types 3 none ⟨0, 0, 0, 0⟩ D (TY cI cB cJ) (wM cI cB cJ h q v_stalls v_claimMany v_taped v_place0 v_length0 v_fault v_number0 v_open v_codeMany v_waiting v_saidMany v_clauses v_newMany v_newStalls v_lines v_salesNow v_outNow v_isKept v_keptStalls v_now v_aside v_kept v_oneOf v_otherOf v_signOf v_byOf v_tape v_said v_waitsAt v_saidLetter v_saidFrom v_saidHalf v_saidTo v_codes v_clauseOf v_codeFrom v_codeHalf v_codeTo v_stack v_facts v_newOne v_newOther v_newSign v_newBy v_moreOf v_firstOf v_toldOf v_mostOf v_mostThen v_sumTo v_rowFrom v_ordersOf v_lessOf v_weightOf v_rowNow v_slowRow v_fastRow v_lineNow v_firstLine v_freeBy v_heldBy v_heightOf v_upTo v_downTo v_oftenOf v_newUpper v_newLower) [.ref h, vI p0] (fun ws' => ∃ n_taped : Int, ∃ n_tape : Nat → Int, (0 ≤ n_taped ∧ n_taped ≤ 260) ∧ (RA (-128) 127 n_tape) ∧ (n_taped = v_taped + 4) ∧ (ws' = (wM cI cB cJ h q v_stalls v_claimMany n_taped v_place0 v_length0 v_fault v_number0 v_open v_codeMany v_waiting v_saidMany v_clauses v_newMany v_newStalls v_lines v_salesNow v_outNow v_isKept v_keptStalls v_now v_aside v_kept v_oneOf v_otherOf v_signOf v_byOf n_tape v_said v_waitsAt v_saidLetter v_saidFrom v_saidHalf v_saidTo v_codes v_clauseOf v_codeFrom v_codeHalf v_codeTo v_stack v_facts v_newOne v_newOther v_newSign v_newBy v_moreOf v_firstOf v_toldOf v_mostOf v_mostThen v_sumTo v_rowFrom v_ordersOf v_lessOf v_weightOf v_rowNow v_slowRow v_fastRow v_lineNow v_firstLine v_freeBy v_heldBy v_heightOf v_upTo v_downTo v_oftenOf v_newUpper v_newLower))) := by
  refine hdrV (own := RX10) rfl (by decide +kernel) (Nat.le_of_ble_eq_true rfl) ?_
  intro p e s m args below meth c Q A X hQ
  refine g_lvE (lv2 := [(0, .ref h), (1, vI p0)]) rfl ?_
  refine g_iconst X dX10_types_0 ?_
  refine g_istore_n X (lv' := [(2, vI 3), (0, .ref h), (1, vI p0)]) dX10_types_1 (by decide) rfl ?_
  have L2 : ∀ (n : Nat) (x2_2 : Int) (taped_2 : Int) (tape_2 : Nat → Int), (0 ≤ taped_2 ∧ taped_2 ≤ 260) → (RA (-128) 127 tape_2) → (-1 ≤ x2_2 ∧ x2_2 ≤ 3) → (taped_2 = v_taped + (3 - x2_2)) → (x2_2 + 1).toNat < n → GG p l e ⟨0, 0, 0, 0⟩ s m args below meth c 0 0 Q D A s.heap 3 (wM cI cB cJ h q v_stalls v_claimMany taped_2 v_place0 v_length0 v_fault v_number0 v_open v_codeMany v_waiting v_saidMany v_clauses v_newMany v_newStalls v_lines v_salesNow v_outNow v_isKept v_keptStalls v_now v_aside v_kept v_oneOf v_otherOf v_signOf v_byOf tape_2 v_said v_waitsAt v_saidLetter v_saidFrom v_saidHalf v_saidTo v_codes v_clauseOf v_codeFrom v_codeHalf v_codeTo v_stack v_facts v_newOne v_newOther v_newSign v_newBy v_moreOf v_firstOf v_toldOf v_mostOf v_mostThen v_sumTo v_rowFrom v_ordersOf v_lessOf v_weightOf v_rowNow v_slowRow v_fastRow v_lineNow v_firstLine v_freeBy v_heldBy v_heightOf v_upTo v_downTo v_oftenOf v_newUpper v_newLower) 2 [(0, .ref h), (1, vI p0), (2, vI x2_2)] [] := by
    intro n
    induction n with
    | zero => intros; exfalso; omega
    | succ n ih =>
      intro x2_2 taped_2 tape_2 kr_taped_2 r_tape_2 w2_0 w2_1 wm2
      refine g_iload_n X dX10_types_2 2 rfl ?_
      refine g_if_lt X (tgt := 38) dX10_types_3 (by decide) (by omega) (fun c3 => ?_) (fun c3 => ?_)
      · exact hQ _ _ _ dX10_types_38 ⟨taped_2, tape_2, (by omega), r_tape_2, (by first | omega | assumption), rfl⟩
      · refine g_aload_n X dX10_types_6 0 rfl ?_
        refine gM_get X 0 rfl 9 (by decide) uw1188 rfl dX10_types_7 ?_
        refine g_aload_n X dX10_types_10 0 rfl ?_
        refine gM_get X 0 rfl 10 (by decide) uw1189 rfl dX10_types_11 ?_
        refine g_iload_n X dX10_types_14 1 rfl ?_
        refine g_bipush X (z := 8) dX10_types_15 (by decide) ?_
        refine g_iload_n X dX10_types_17 2 rfl ?_
        refine g_imul X dX10_types_18 ?_
        refine g_ishr X dX10_types_19 ?_
        refine g_nm (fun t19 e19 => ?_)
        have r19 : IR t19 := by rw [e19]; exact z_ir _
        refine g_i2b X dX10_types_20 ?_
        refine g_nm (fun t20 e20 => ?_)
        have r20 := z_i2b_r t19; rw [← e20] at r20
        refine g_bast X 8 1 rfl rfl (by omega) (by decide) (by omega) dX10_types_21 (fun tape_21 e21 => ?_)
        have r_tape_21 : RA (-128) 127 tape_21 := by rw [e21]; exact RA_up r_tape_2 (by omega)
        refine g_ws (ws2 := (wM cI cB cJ h q v_stalls v_claimMany taped_2 v_place0 v_length0 v_fault v_number0 v_open v_codeMany v_waiting v_saidMany v_clauses v_newMany v_newStalls v_lines v_salesNow v_outNow v_isKept v_keptStalls v_now v_aside v_kept v_oneOf v_otherOf v_signOf v_byOf tape_21 v_said v_waitsAt v_saidLetter v_saidFrom v_saidHalf v_saidTo v_codes v_clauseOf v_codeFrom v_codeHalf v_codeTo v_stack v_facts v_newOne v_newOther v_newSign v_newBy v_moreOf v_firstOf v_toldOf v_mostOf v_mostThen v_sumTo v_rowFrom v_ordersOf v_lessOf v_weightOf v_rowNow v_slowRow v_fastRow v_lineNow v_firstLine v_freeBy v_heldBy v_heightOf v_upTo v_downTo v_oftenOf v_newUpper v_newLower)) rfl ?_
        refine g_aload_n X dX10_types_22 0 rfl ?_
        refine g_aload_n X dX10_types_23 0 rfl ?_
        refine gM_get X 0 rfl 10 (by decide) uw1189 rfl dX10_types_24 ?_
        refine g_iconst X dX10_types_27 ?_
        refine g_iadd X dX10_types_28 ?_
        refine gM_put X 0 rfl 10 (by decide) uw1189 rfl rfl rfl (by decide) dX10_types_29 (ws2 := (wM cI cB cJ h q v_stalls v_claimMany (taped_2 + 1) v_place0 v_length0 v_fault v_number0 v_open v_codeMany v_waiting v_saidMany v_clauses v_newMany v_newStalls v_lines v_salesNow v_outNow v_isKept v_keptStalls v_now v_aside v_kept v_oneOf v_otherOf v_signOf v_byOf tape_21 v_said v_waitsAt v_saidLetter v_saidFrom v_saidHalf v_saidTo v_codes v_clauseOf v_codeFrom v_codeHalf v_codeTo v_stack v_facts v_newOne v_newOther v_newSign v_newBy v_moreOf v_firstOf v_toldOf v_mostOf v_mostThen v_sumTo v_rowFrom v_ordersOf v_lessOf v_weightOf v_rowNow v_slowRow v_fastRow v_lineNow v_firstLine v_freeBy v_heldBy v_heightOf v_upTo v_downTo v_oftenOf v_newUpper v_newLower)) rfl ?_
        refine g_iinc X (lv' := [(2, vI (x2_2 + (-1))), (0, .ref h), (1, vI p0)]) dX10_types_32 2 rfl (by decide) rfl ?_
        refine g_goto X (tgt := 2) dX10_types_35 (by decide) ?_
        refine g_lv [1, 2, 0] rfl ?_
        exact ih (x2_2 + (-1)) (taped_2 + 1) tape_21 (by omega) (by assumption) (by first | omega | assumption) (by first | omega | assumption) (by omega)
  refine g_lv [1, 2, 0] rfl ?_
  exact L2 _ 3 v_taped v_tape (by omega) (by assumption) (by first | omega | assumption) (by first | omega | assumption) (Nat.lt_succ_self _)
set_option maxHeartbeats 4000000 in
set_option maxRecDepth 100000 in
theorem c_X10_feed (l : Launch) (D : va_G) (cI cB cJ : ClassId) (h : Nat) (q : Nat → Nat) {v_stalls v_claimMany v_taped v_place0 v_length0 v_fault v_number0 v_open v_codeMany v_waiting v_saidMany v_clauses v_newMany v_newStalls v_lines v_salesNow v_outNow v_isKept v_keptStalls : Int} {v_now v_aside v_kept v_oneOf v_otherOf v_signOf v_byOf v_tape v_said v_waitsAt v_saidLetter v_saidFrom v_saidHalf v_saidTo v_codes v_clauseOf v_codeFrom v_codeHalf v_codeTo v_stack v_facts v_newOne v_newOther v_newSign v_newBy v_moreOf v_firstOf v_toldOf v_mostOf v_mostThen v_sumTo v_rowFrom v_ordersOf v_lessOf v_weightOf v_rowNow v_slowRow v_fastRow v_lineNow v_firstLine v_freeBy v_heldBy v_heightOf v_upTo v_downTo v_oftenOf v_newUpper v_newLower : Nat → Int} {p0 p1 p2 p3 p4 : Int} (r_v_taped : 0 ≤ v_taped ∧ v_taped ≤ 260) (r_v_tape : RA (-128) 127 v_tape) (hp2 : IR p0) (hp3 : IR p1) (hp4 : IR p2) (hp5 : IR p3) (hp6 : IR p4) : CtI l yX10_feed cX10_feed 6 (some .int) ⟨1, 0, 0, 22⟩ D (TY cI cB cJ) (wM cI cB cJ h q v_stalls v_claimMany v_taped v_place0 v_length0 v_fault v_number0 v_open v_codeMany v_waiting v_saidMany v_clauses v_newMany v_newStalls v_lines v_salesNow v_outNow v_isKept v_keptStalls v_now v_aside v_kept v_oneOf v_otherOf v_signOf v_byOf v_tape v_said v_waitsAt v_saidLetter v_saidFrom v_saidHalf v_saidTo v_codes v_clauseOf v_codeFrom v_codeHalf v_codeTo v_stack v_facts v_newOne v_newOther v_newSign v_newBy v_moreOf v_firstOf v_toldOf v_mostOf v_mostThen v_sumTo v_rowFrom v_ordersOf v_lessOf v_weightOf v_rowNow v_slowRow v_fastRow v_lineNow v_firstLine v_freeBy v_heldBy v_heightOf v_upTo v_downTo v_oftenOf v_newUpper v_newLower) [.ref h, vI p0, vI p1, vI p2, vI p3, vI p4] (fun z ws' => ∃ n_taped : Int, ∃ n_tape : Nat → Int, (0 ≤ n_taped ∧ n_taped ≤ 260) ∧ (RA (-128) 127 n_tape) ∧ ((260 < v_taped + 20 ∧ z = -1 ∧ n_taped = v_taped) ∨ (v_taped + 20 ≤ 260 ∧ z = v_taped + 20 ∧ n_taped = z)) ∧ (ws' = (wM cI cB cJ h q v_stalls v_claimMany n_taped v_place0 v_length0 v_fault v_number0 v_open v_codeMany v_waiting v_saidMany v_clauses v_newMany v_newStalls v_lines v_salesNow v_outNow v_isKept v_keptStalls v_now v_aside v_kept v_oneOf v_otherOf v_signOf v_byOf n_tape v_said v_waitsAt v_saidLetter v_saidFrom v_saidHalf v_saidTo v_codes v_clauseOf v_codeFrom v_codeHalf v_codeTo v_stack v_facts v_newOne v_newOther v_newSign v_newBy v_moreOf v_firstOf v_toldOf v_mostOf v_mostThen v_sumTo v_rowFrom v_ordersOf v_lessOf v_weightOf v_rowNow v_slowRow v_fastRow v_lineNow v_firstLine v_freeBy v_heldBy v_heightOf v_upTo v_downTo v_oftenOf v_newUpper v_newLower))) := by
  refine hdrI (own := RX10) rfl (by decide +kernel) (Nat.le_of_ble_eq_true rfl) ?_
  intro p e s m args below meth c Q A X hQ
  refine g_lvE (lv2 := [(0, .ref h), (1, vI p0), (2, vI p1), (3, vI p2), (4, vI p3), (5, vI p4)]) rfl ?_
  refine g_aload_n X dX10_feed_0 0 rfl ?_
  refine gM_get X 0 rfl 10 (by decide) uw1189 rfl dX10_feed_1 ?_
  refine g_bipush X (z := 20) dX10_feed_4 (by decide) ?_
  refine g_iadd X dX10_feed_6 ?_
  refine g_sipush X (z := 260) dX10_feed_7 (by decide) ?_
  refine g_icmp_le X (tgt := 15) dX10_feed_10 (by decide) (by omega) (by omega) (fun c10 => ?_) (fun c10 => ?_)
  · refine g_aload_n X dX10_feed_15 0 rfl ?_
    refine g_iload_n X dX10_feed_16 1 rfl ?_
    refine g_callVV0 X (c_X10_types l D cI cB cJ h q (p0 := p0) (by omega) r_v_tape (by first | omega | assumption) (by first | omega | assumption)) cv_X10_types uw1386 ⟨rfl, rfl, by decide, by decide⟩ 0 rfl rfl rfl rfl rfl (Nat.le_of_ble_eq_true rfl) ⟨Nat.zero_le _, Nat.zero_le _⟩ dX10_feed_17 (fun ws17 k17 => ?_)
    obtain ⟨taped_17, tape_17, kr_taped_17, r_tape_17, kp0_17, rfl⟩ := k17
    refine g_aload_n X dX10_feed_20 0 rfl ?_
    refine g_iload_n X dX10_feed_21 2 rfl ?_
    refine g_callVV0 X (c_X10_types l D cI cB cJ h q (p0 := p1) (by omega) r_tape_17 (by first | omega | assumption) (by first | omega | assumption)) cv_X10_types uw1386 ⟨rfl, rfl, by decide, by decide⟩ 0 rfl rfl rfl rfl rfl (Nat.le_of_ble_eq_true rfl) ⟨Nat.zero_le _, Nat.zero_le _⟩ dX10_feed_22 (fun ws22 k22 => ?_)
    obtain ⟨taped_22, tape_22, kr_taped_22, r_tape_22, kp0_22, rfl⟩ := k22
    refine g_aload_n X dX10_feed_25 0 rfl ?_
    refine g_iload_n X dX10_feed_26 3 rfl ?_
    refine g_callVV0 X (c_X10_types l D cI cB cJ h q (p0 := p2) (by omega) r_tape_22 (by first | omega | assumption) (by first | omega | assumption)) cv_X10_types uw1386 ⟨rfl, rfl, by decide, by decide⟩ 0 rfl rfl rfl rfl rfl (Nat.le_of_ble_eq_true rfl) ⟨Nat.zero_le _, Nat.zero_le _⟩ dX10_feed_27 (fun ws27 k27 => ?_)
    obtain ⟨taped_27, tape_27, kr_taped_27, r_tape_27, kp0_27, rfl⟩ := k27
    refine g_aload_n X dX10_feed_30 0 rfl ?_
    refine g_iload X dX10_feed_31 4 rfl ?_
    refine g_callVV0 X (c_X10_types l D cI cB cJ h q (p0 := p3) (by omega) r_tape_27 (by first | omega | assumption) (by first | omega | assumption)) cv_X10_types uw1386 ⟨rfl, rfl, by decide, by decide⟩ 0 rfl rfl rfl rfl rfl (Nat.le_of_ble_eq_true rfl) ⟨Nat.zero_le _, Nat.zero_le _⟩ dX10_feed_33 (fun ws33 k33 => ?_)
    obtain ⟨taped_33, tape_33, kr_taped_33, r_tape_33, kp0_33, rfl⟩ := k33
    refine g_aload_n X dX10_feed_36 0 rfl ?_
    refine g_iload X dX10_feed_37 5 rfl ?_
    refine g_callVV0 X (c_X10_types l D cI cB cJ h q (p0 := p4) (by omega) r_tape_33 (by first | omega | assumption) (by first | omega | assumption)) cv_X10_types uw1386 ⟨rfl, rfl, by decide, by decide⟩ 0 rfl rfl rfl rfl rfl (Nat.le_of_ble_eq_true rfl) ⟨Nat.zero_le _, Nat.zero_le _⟩ dX10_feed_39 (fun ws39 k39 => ?_)
    obtain ⟨taped_39, tape_39, kr_taped_39, r_tape_39, kp0_39, rfl⟩ := k39
    refine g_aload_n X dX10_feed_42 0 rfl ?_
    refine gM_get X 0 rfl 10 (by decide) uw1189 rfl dX10_feed_43 ?_
    exact hQ _ _ _ _ dX10_feed_46 ⟨taped_39, tape_39, (by omega), r_tape_39, (by first | omega | assumption), rfl⟩
  · refine g_iconst X dX10_feed_13 ?_
    exact hQ _ _ _ _ dX10_feed_14 ⟨v_taped, v_tape, (by omega), r_v_tape, (by first | omega | assumption), rfl⟩
set_option maxHeartbeats 4000000 in
set_option maxRecDepth 100000 in
theorem c_X10_octet (l : Launch) (D : va_G) (cI cB cJ : ClassId) (h : Nat) (q : Nat → Nat) {v_stalls v_claimMany v_taped v_place0 v_length0 v_fault v_number0 v_open v_codeMany v_waiting v_saidMany v_clauses v_newMany v_newStalls v_lines v_salesNow v_outNow v_isKept v_keptStalls : Int} {v_now v_aside v_kept v_oneOf v_otherOf v_signOf v_byOf v_tape v_said v_waitsAt v_saidLetter v_saidFrom v_saidHalf v_saidTo v_codes v_clauseOf v_codeFrom v_codeHalf v_codeTo v_stack v_facts v_newOne v_newOther v_newSign v_newBy v_moreOf v_firstOf v_toldOf v_mostOf v_mostThen v_sumTo v_rowFrom v_ordersOf v_lessOf v_weightOf v_rowNow v_slowRow v_fastRow v_lineNow v_firstLine v_freeBy v_heldBy v_heightOf v_upTo v_downTo v_oftenOf v_newUpper v_newLower : Nat → Int} {p0 : Int} (r_v_tape : RA (-128) 127 v_tape) (hp1 : IR p0) (hp2 : 0 ≤ p0 ∧ p0 < 260) : CtI l yX10_octet cX10_octet 2 (some .int) ⟨0, 0, 0, 0⟩ D (TY cI cB cJ) (wM cI cB cJ h q v_stalls v_claimMany v_taped v_place0 v_length0 v_fault v_number0 v_open v_codeMany v_waiting v_saidMany v_clauses v_newMany v_newStalls v_lines v_salesNow v_outNow v_isKept v_keptStalls v_now v_aside v_kept v_oneOf v_otherOf v_signOf v_byOf v_tape v_said v_waitsAt v_saidLetter v_saidFrom v_saidHalf v_saidTo v_codes v_clauseOf v_codeFrom v_codeHalf v_codeTo v_stack v_facts v_newOne v_newOther v_newSign v_newBy v_moreOf v_firstOf v_toldOf v_mostOf v_mostThen v_sumTo v_rowFrom v_ordersOf v_lessOf v_weightOf v_rowNow v_slowRow v_fastRow v_lineNow v_firstLine v_freeBy v_heldBy v_heightOf v_upTo v_downTo v_oftenOf v_newUpper v_newLower) [.ref h, vI p0] (fun z ws' => (0 ≤ z ∧ z ≤ 255) ∧ (ws' = (wM cI cB cJ h q v_stalls v_claimMany v_taped v_place0 v_length0 v_fault v_number0 v_open v_codeMany v_waiting v_saidMany v_clauses v_newMany v_newStalls v_lines v_salesNow v_outNow v_isKept v_keptStalls v_now v_aside v_kept v_oneOf v_otherOf v_signOf v_byOf v_tape v_said v_waitsAt v_saidLetter v_saidFrom v_saidHalf v_saidTo v_codes v_clauseOf v_codeFrom v_codeHalf v_codeTo v_stack v_facts v_newOne v_newOther v_newSign v_newBy v_moreOf v_firstOf v_toldOf v_mostOf v_mostThen v_sumTo v_rowFrom v_ordersOf v_lessOf v_weightOf v_rowNow v_slowRow v_fastRow v_lineNow v_firstLine v_freeBy v_heldBy v_heightOf v_upTo v_downTo v_oftenOf v_newUpper v_newLower))) := by
  refine hdrI (own := RX10) rfl (by decide +kernel) (Nat.le_of_ble_eq_true rfl) ?_
  intro p e s m args below meth c Q A X hQ
  refine g_lvE (lv2 := [(0, .ref h), (1, vI p0)]) rfl ?_
  refine g_aload_n X dX10_octet_0 0 rfl ?_
  refine gM_get X 0 rfl 9 (by decide) uw1188 rfl dX10_octet_1 ?_
  refine g_iload_n X dX10_octet_4 1 rfl ?_
  refine g_bald X 8 1 rfl rfl (by omega) (by decide) dX10_octet_5 (fun t5 e5 => ?_)
  have r5 := r_v_tape (p0).toNat; rw [← e5] at r5
  refine g_sipush X (z := 255) dX10_octet_6 (by decide) ?_
  refine g_iand X dX10_octet_9 ?_
  refine g_nm (fun t9 e9 => ?_)
  have r9 := z_iand_r t5 255 (by omega) (by omega); rw [← e9] at r9
  exact hQ _ _ _ _ dX10_octet_10 ⟨(by first | omega | assumption), rfl⟩
