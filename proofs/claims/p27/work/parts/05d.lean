set_option maxHeartbeats 600000 in
set_option maxRecDepth 100000 in
theorem c_X1_clear (l : Launch) (D : va_G) (cI cB cJ : ClassId) (h : Nat) (q : Nat → Nat) {v_size : Int} {v_first v_second v_kind v_number v_group v_over : Nat → Int} (kr_v_size : 0 ≤ v_size ∧ v_size ≤ 40) (r_v_group : RA 0 11 v_group) (r_v_over : RA (-2147483648) 2147483647 v_over) : CtV l yX1_clear cX1_clear 2 none ⟨0, 0, 0, 0⟩ D (TY cI cB cJ) (wX1 cI cB cJ h q v_size v_first v_second v_kind v_number v_group v_over) [.ref h] (fun ws' => ∃ n_size : Int, ∃ n_group : Nat → Int, ∃ n_over : Nat → Int, (0 ≤ n_size ∧ n_size ≤ 40) ∧ (RA 0 11 n_group) ∧ (RA (-2147483648) 2147483647 n_over) ∧ (n_size = 0) ∧ (∀ c : Nat, (c : Int) < 12 → n_group c = (c : Int) ∧ n_over c = 0) ∧ (ws' = (wX1 cI cB cJ h q n_size v_first v_second v_kind v_number n_group n_over))) := by
  refine hdrV (own := RX1) rfl (by decide +kernel) (Nat.le_of_ble_eq_true rfl) ?_
  intro p e s m args below meth c Q A X hQ
  refine g_lvE (lv2 := [(0, .ref h)]) rfl ?_
  refine g_aload_n X dX1_clear_0 0 rfl ?_
  refine g_iconst X dX1_clear_1 ?_
  refine gX1_put X 0 rfl 0 (by decide) uw170 rfl rfl rfl (Nat.le_of_ble_eq_true rfl) dX1_clear_2 (ws2 := (wX1 cI cB cJ h q 0 v_first v_second v_kind v_number v_group v_over)) rfl ?_
  refine g_iconst X dX1_clear_5 ?_
  refine g_istore_n X (lv' := [(1, vI 0), (0, .ref h)]) dX1_clear_6 (by decide) rfl ?_
  have L7 : ∀ (n : Nat) (x1_7 : Int) (group_7 : Nat → Int) (over_7 : Nat → Int), (RA 0 11 group_7) → (RA (-2147483648) 2147483647 over_7) → (0 ≤ x1_7 ∧ x1_7 ≤ 12) → (∀ c : Nat, (c : Int) < x1_7 → group_7 c = (c : Int) ∧ over_7 c = 0) → (12 - x1_7).toNat < n → GG p l e ⟨0, 0, 0, 0⟩ s m args below meth c 0 0 Q D A s.heap 2 (wX1 cI cB cJ h q 0 v_first v_second v_kind v_number group_7 over_7) 7 [(0, .ref h), (1, vI x1_7)] [] := by
    intro n
    induction n with
    | zero => intros; exfalso; omega
    | succ n ih7 =>
      intro x1_7 group_7 over_7 r_group_7 r_over_7 w7_0 w7_1 wm7
      refine g_iload_n X dX1_clear_7 1 rfl ?_
      refine g_bipush X (z := 12) dX1_clear_8 (by decide) ?_
      refine g_icmp_ge X (tgt := 33) dX1_clear_10 (by decide) (by omega) (by omega) (fun c10 => ?_) (fun c10 => ?_)
      · exact hQ _ _ _ dX1_clear_33 ⟨0, group_7, over_7, (by omega), r_group_7, r_over_7, (by first | assumption | omega), (by intro c hc; exact w7_1 c (by omega)), rfl⟩
      · refine g_aload_n X dX1_clear_13 0 rfl ?_
        refine gX1_get X 0 rfl 5 (by decide) uw185 rfl dX1_clear_14 ?_
        refine g_iload_n X dX1_clear_17 1 rfl ?_
        refine g_iload_n X dX1_clear_18 1 rfl ?_
        refine g_iast X 5 0 rfl rfl (by omega) (by decide) dX1_clear_19 (fun group_19 e19 => ?_)
        have r_group_19 : RA 0 11 group_19 := by rw [e19]; exact RA_up r_group_7 (by omega)
        refine g_ws (ws2 := (wX1 cI cB cJ h q 0 v_first v_second v_kind v_number group_19 over_7)) rfl ?_
        refine g_aload_n X dX1_clear_20 0 rfl ?_
        refine gX1_get X 0 rfl 6 (by decide) uw186 rfl dX1_clear_21 ?_
        refine g_iload_n X dX1_clear_24 1 rfl ?_
        refine g_iconst X dX1_clear_25 ?_
        refine g_iast X 6 0 rfl rfl (by omega) (by decide) dX1_clear_26 (fun over_26 e26 => ?_)
        have r_over_26 : RA (-2147483648) 2147483647 over_26 := by rw [e26]; exact RA_up r_over_7 (by omega)
        refine g_ws (ws2 := (wX1 cI cB cJ h q 0 v_first v_second v_kind v_number group_19 over_26)) rfl ?_
        refine g_iinc X (lv' := [(1, vI (x1_7 + 1)), (0, .ref h)]) dX1_clear_27 1 rfl (by decide) rfl ?_
        refine g_goto X (tgt := 7) dX1_clear_30 (by decide) ?_
        refine g_lv [1, 0] rfl ?_
        exact ih7 (x1_7 + 1) group_19 over_26 r_group_19 r_over_26 (by first | assumption | omega) (by intro c hc; first | (exfalso; omega) | (rw [e19, e26]; exact if hq : c = (x1_7).toNat then by (rw [hq, updZ_s, updZ_s]; exact ⟨by omega, rfl⟩) else by (rw [updZ_n _ _ hq, updZ_n _ _ hq]; exact w7_1 c (by omega)))) (by omega)
  refine g_lv [1, 0] rfl ?_
  exact L7 _ 0 v_group v_over r_v_group r_v_over (by first | assumption | omega) (by intro c hc; first | (exfalso; omega) | (rw [e19, e26]; exact if hq : c = (x1_7).toNat then by (rw [hq, updZ_s, updZ_s]; exact ⟨by omega, rfl⟩) else by (rw [updZ_n _ _ hq, updZ_n _ _ hq]; exact w7_1 c (by omega)))) (Nat.lt_succ_self _)
set_option maxHeartbeats 600000 in
set_option maxRecDepth 100000 in
theorem c_X1_hasNumber (l : Launch) (D : va_G) (cI cB cJ : ClassId) (h : Nat) (q : Nat → Nat) {v_size : Int} {v_first v_second v_kind v_number v_group v_over : Nat → Int} {p0 : Int} (kr_v_size : 0 ≤ v_size ∧ v_size ≤ 40) (hp0 : IR p0) : CtI l yX1_hasNumber cX1_hasNumber 2 (some .boolean) ⟨1, 0, 0, 22⟩ D (TY cI cB cJ) (wX1 cI cB cJ h q v_size v_first v_second v_kind v_number v_group v_over) [.ref h, vI p0] (fun z ws' => (z = 0 ∨ z = 1) ∧ ((z = 1 ∧ 0 ≤ p0 ∧ p0 < v_size) ∨ (z = 0 ∧ ¬ (0 ≤ p0 ∧ p0 < v_size))) ∧ (ws' = (wX1 cI cB cJ h q v_size v_first v_second v_kind v_number v_group v_over))) := by
  refine hdrZ (own := RX1) rfl (by decide +kernel) (Nat.le_of_ble_eq_true rfl) ?_
  intro p e s m args below meth c Q A X hQ
  refine g_lvE (lv2 := [(0, .ref h), (1, vI p0)]) rfl ?_
  refine g_iload_n X dX1_hasNumber_0 1 rfl ?_
  refine g_iconst X dX1_hasNumber_1 ?_
  refine g_aload_n X dX1_hasNumber_2 0 rfl ?_
  refine gX1_get X 0 rfl 0 (by decide) uw170 rfl dX1_hasNumber_3 ?_
  refine g_iconst X dX1_hasNumber_6 ?_
  refine g_isub X dX1_hasNumber_7 ?_
  refine g_callSNIE X (c_X9_isFrom l D cI cB cJ (p0 := p0) (p1 := 0) (p2 := v_size - 1) (by first | assumption | omega) (by first | assumption | omega) (by first | assumption | omega)) cv_X9_isFrom nw817 ⟨rfl, rfl, by decide, by decide⟩ rfl rfl (Nat.le_of_ble_eq_true rfl) ⟨Nat.zero_le _, Nat.zero_le _⟩ dX1_hasNumber_8 (fun t8 ws8 k8 => ?_)
  obtain ⟨kb_8, ⟨kp0_8, rfl⟩⟩ := k8
  exact hQ _ _ _ _ dX1_hasNumber_11 ⟨by omega, ⟨(by first | assumption | omega), rfl⟩⟩
set_option maxHeartbeats 600000 in
set_option maxRecDepth 100000 in
theorem c_X1_difference (l : Launch) (D : va_G) (cI cB cJ : ClassId) (h : Nat) (q : Nat → Nat) {v_size : Int} {v_first v_second v_kind v_number v_group v_over : Nat → Int} {p0 p1 : Int} (r_v_group : RA 0 11 v_group) (r_v_over : RA (-2147483648) 2147483647 v_over) (hp0 : IR p0) (hp1 : IR p1) (hp2 : 0 ≤ p0 ∧ p0 ≤ 11) (hp3 : 0 ≤ p1 ∧ p1 ≤ 11) : CtI l yX1_difference cX1_difference 3 (some .int) ⟨0, 0, 0, 0⟩ D (TY cI cB cJ) (wX1 cI cB cJ h q v_size v_first v_second v_kind v_number v_group v_over) [.ref h, vI p0, vI p1] (fun z ws' => (IR z) ∧ (z = dfA v_group v_over p0 p1) ∧ (ws' = (wX1 cI cB cJ h q v_size v_first v_second v_kind v_number v_group v_over))) := by
  refine hdrI (own := RX1) rfl (by decide +kernel) (Nat.le_of_ble_eq_true rfl) ?_
  intro p e s m args below meth c Q A X hQ
  refine g_lvE (lv2 := [(0, .ref h), (1, vI p0), (2, vI p1)]) rfl ?_
  refine g_aload_n X dX1_difference_0 0 rfl ?_
  refine gX1_get X 0 rfl 5 (by decide) uw185 rfl dX1_difference_1 ?_
  refine g_iload_n X dX1_difference_4 1 rfl ?_
  refine g_iald X 5 0 rfl rfl (by omega) (by decide) dX1_difference_5 (fun t5 e5 => ?_)
  have r5 := r_v_group (p0 : Int).toNat; rw [← e5] at r5
  refine g_aload_n X dX1_difference_6 0 rfl ?_
  refine gX1_get X 0 rfl 5 (by decide) uw185 rfl dX1_difference_7 ?_
  refine g_iload_n X dX1_difference_10 2 rfl ?_
  refine g_iald X 5 0 rfl rfl (by omega) (by decide) dX1_difference_11 (fun t11 e11 => ?_)
  have r11 := r_v_group (p1 : Int).toNat; rw [← e11] at r11
  refine g_icmp_ne X (tgt := 31) dX1_difference_12 (by decide) (by omega) (by omega) (fun c12 => ?_) (fun c12 => ?_)
  · refine g_ldc X (z := (-1000000)) dX1_difference_31 uw724 (by decide) ?_
    have hd := dfA_e v_group v_over p0 p1
    try (have hw := wz_of e27 r27)
    exact hQ _ _ _ _ dX1_difference_33 ⟨(by first | assumption | omega), (by first | omega | (rcases hd with ⟨h1, h2⟩ | ⟨h1, h2⟩; (rw [h2, hw]; congr 1; omega); (exfalso; omega))), rfl⟩
  · refine g_aload_n X dX1_difference_15 0 rfl ?_
    refine gX1_get X 0 rfl 6 (by decide) uw186 rfl dX1_difference_16 ?_
    refine g_iload_n X dX1_difference_19 1 rfl ?_
    refine g_iald X 6 0 rfl rfl (by omega) (by decide) dX1_difference_20 (fun t20 e20 => ?_)
    have r20 := r_v_over (p0 : Int).toNat; rw [← e20] at r20
    refine g_aload_n X dX1_difference_21 0 rfl ?_
    refine gX1_get X 0 rfl 6 (by decide) uw186 rfl dX1_difference_22 ?_
    refine g_iload_n X dX1_difference_25 2 rfl ?_
    refine g_iald X 6 0 rfl rfl (by omega) (by decide) dX1_difference_26 (fun t26 e26 => ?_)
    have r26 := r_v_over (p1 : Int).toNat; rw [← e26] at r26
    refine g_isub X dX1_difference_27 ?_
    refine g_nr (fun t27 e27 r27 => ?_)
    refine g_goto X (tgt := 33) dX1_difference_28 (by decide) ?_
    have hd := dfA_e v_group v_over p0 p1
    try (have hw := wz_of e27 r27)
    exact hQ _ _ _ _ dX1_difference_33 ⟨(by first | assumption | omega), (by first | omega | (rcases hd with ⟨h1, h2⟩ | ⟨h1, h2⟩; (rw [h2, hw]; congr 1; omega); (exfalso; omega))), rfl⟩
set_option maxHeartbeats 600000 in
set_option maxRecDepth 100000 in
theorem c_X1_groupOf (l : Launch) (D : va_G) (cI cB cJ : ClassId) (h : Nat) (q : Nat → Nat) {v_size : Int} {v_first v_second v_kind v_number v_group v_over : Nat → Int} {p0 : Int} (r_v_group : RA 0 11 v_group) (hp0 : IR p0) (hp1 : 0 ≤ p0 ∧ p0 ≤ 11) : CtI l yX1_groupOf cX1_groupOf 4 (some .int) ⟨0, 0, 0, 0⟩ D (TY cI cB cJ) (wX1 cI cB cJ h q v_size v_first v_second v_kind v_number v_group v_over) [.ref h, vI p0] (fun z ws' => (IR z) ∧ (z = grB v_group p0.toNat 12) ∧ (ws' = (wX1 cI cB cJ h q v_size v_first v_second v_kind v_number v_group v_over))) := by
  refine hdrI (own := RX1) rfl (by decide +kernel) (Nat.le_of_ble_eq_true rfl) ?_
  intro p e s m args below meth c Q A X hQ
  refine g_lvE (lv2 := [(0, .ref h), (1, vI p0)]) rfl ?_
  refine g_iconst X dX1_groupOf_0 ?_
  refine g_istore_n X (lv' := [(2, vI 0), (0, .ref h), (1, vI p0)]) dX1_groupOf_1 (by decide) rfl ?_
  refine g_iconst X dX1_groupOf_2 ?_
  refine g_istore_n X (lv' := [(3, vI 0), (2, vI 0), (0, .ref h), (1, vI p0)]) dX1_groupOf_3 (by decide) rfl ?_
  have h0 : grB v_group p0.toNat (0 : Int).toNat = 0 := rfl
  have L4 : ∀ (n : Nat) (x2_4 : Int) (x3_4 : Int), (0 ≤ x3_4 ∧ x3_4 ≤ 12) → (0 ≤ x2_4 ∧ x2_4 ≤ 4095) → (x2_4 = grB v_group p0.toNat (x3_4).toNat) → (12 - x3_4).toNat < n → GG p l e ⟨0, 0, 0, 0⟩ s m args below meth c 0 0 Q D A s.heap 4 (wX1 cI cB cJ h q v_size v_first v_second v_kind v_number v_group v_over) 4 [(0, .ref h), (1, vI p0), (2, vI x2_4), (3, vI x3_4)] [] := by
    intro n
    induction n with
    | zero => intros; exfalso; omega
    | succ n ih4 =>
      intro x2_4 x3_4 w4_0 w4_1 w4_2 wm4
      have hS := grB_s v_group p0.toNat (x := x3_4) (by omega)
      refine g_iload_n X dX1_groupOf_4 3 rfl ?_
      refine g_bipush X (z := 12) dX1_groupOf_5 (by decide) ?_
      refine g_icmp_ge X (tgt := 37) dX1_groupOf_7 (by decide) (by omega) (by omega) (fun c7 => ?_) (fun c7 => ?_)
      · refine g_iload_n X dX1_groupOf_37 2 rfl ?_
        have hx : x3_4 = 12 := by omega
        have hF : x2_4 = grB v_group p0.toNat 12 := by rw [w4_2, hx]; rfl
        exact hQ _ _ _ _ dX1_groupOf_38 ⟨(by first | assumption | omega), (by first | assumption | omega), rfl⟩
      · refine g_aload_n X dX1_groupOf_10 0 rfl ?_
        refine gX1_get X 0 rfl 5 (by decide) uw185 rfl dX1_groupOf_11 ?_
        refine g_iload_n X dX1_groupOf_14 3 rfl ?_
        refine g_iald X 5 0 rfl rfl (by omega) (by decide) dX1_groupOf_15 (fun t15 e15 => ?_)
        have r15 := r_v_group (x3_4 : Int).toNat; rw [← e15] at r15
        refine g_aload_n X dX1_groupOf_16 0 rfl ?_
        refine gX1_get X 0 rfl 5 (by decide) uw185 rfl dX1_groupOf_17 ?_
        refine g_iload_n X dX1_groupOf_20 1 rfl ?_
        refine g_iald X 5 0 rfl rfl (by omega) (by decide) dX1_groupOf_21 (fun t21 e21 => ?_)
        have r21 := r_v_group (p0 : Int).toNat; rw [← e21] at r21
        refine g_icmp_ne X (tgt := 31) dX1_groupOf_22 (by decide) (by omega) (by omega) (fun c22 => ?_) (fun c22 => ?_)
        · refine g_iinc X (lv' := [(3, vI (x3_4 + 1)), (0, .ref h), (1, vI p0), (2, vI x2_4)]) dX1_groupOf_31 3 rfl (by decide) rfl ?_
          refine g_goto X (tgt := 4) dX1_groupOf_34 (by decide) ?_
          refine g_lv [1, 2, 3, 0] rfl ?_
          exact ih4 x2_4 (x3_4 + 1) (by first | assumption | omega) (by first | assumption | omega) (by first | omega | (rw [e29, e28, w4_2]; omega)) (by omega)
        · refine g_iload_n X dX1_groupOf_25 2 rfl ?_
          refine g_iconst X dX1_groupOf_26 ?_
          refine g_iload_n X dX1_groupOf_27 3 rfl ?_
          refine g_ishl X dX1_groupOf_28 ?_
          refine g_nm (fun t28 e28 => ?_)
          have r28 := z_shl1_11 x3_4 (by omega); rw [← e28] at r28
          refine g_ior X dX1_groupOf_29 ?_
          refine g_nm (fun t29 e29 => ?_)
          have r29 := z_ior_4095 x2_4 t28 (by omega) (by omega); rw [← e29] at r29
          refine g_istore_n X (lv' := [(2, vI t29), (0, .ref h), (1, vI p0), (3, vI x3_4)]) dX1_groupOf_30 (by decide) rfl ?_
          refine g_iinc X (lv' := [(3, vI (x3_4 + 1)), (2, vI t29), (0, .ref h), (1, vI p0)]) dX1_groupOf_31 3 rfl (by decide) rfl ?_
          refine g_goto X (tgt := 4) dX1_groupOf_34 (by decide) ?_
          refine g_lv [2, 3, 1, 0] rfl ?_
          exact ih4 t29 (x3_4 + 1) (by first | assumption | omega) (by first | assumption | omega) (by first | omega | (rw [e29, e28, w4_2]; omega)) (by omega)
  refine g_lv [2, 3, 1, 0] rfl ?_
  exact L4 _ 0 0 (by first | assumption | omega) (by first | assumption | omega) (by first | omega | (rw [e29, e28, w4_2]; omega)) (Nat.lt_succ_self _)
set_option maxHeartbeats 600000 in
set_option maxRecDepth 100000 in
theorem c_X1_groupCount (l : Launch) (D : va_G) (cI cB cJ : ClassId) (h : Nat) (q : Nat → Nat) {v_size : Int} {v_first v_second v_kind v_number v_group v_over : Nat → Int} (r_v_group : RA 0 11 v_group) : CtI l yX1_groupCount cX1_groupCount 3 (some .int) ⟨1, 0, 0, 20⟩ D (TY cI cB cJ) (wX1 cI cB cJ h q v_size v_first v_second v_kind v_number v_group v_over) [.ref h] (fun z ws' => (IR z) ∧ (z = fcN v_group 12) ∧ (ws' = (wX1 cI cB cJ h q v_size v_first v_second v_kind v_number v_group v_over))) := by
  refine hdrI (own := RX1) rfl (by decide +kernel) (Nat.le_of_ble_eq_true rfl) ?_
  intro p e s m args below meth c Q A X hQ
  refine g_lvE (lv2 := [(0, .ref h)]) rfl ?_
  refine g_iconst X dX1_groupCount_0 ?_
  refine g_istore_n X (lv' := [(1, vI 0), (0, .ref h)]) dX1_groupCount_1 (by decide) rfl ?_
  refine g_iconst X dX1_groupCount_2 ?_
  refine g_istore_n X (lv' := [(2, vI 0), (1, vI 0), (0, .ref h)]) dX1_groupCount_3 (by decide) rfl ?_
  have h0 : gcS v_group (0 : Int).toNat = 0 := rfl
  have L4 : ∀ (n : Nat) (x1_4 : Int) (x2_4 : Int), (0 ≤ x2_4 ∧ x2_4 ≤ 12) → (0 ≤ x1_4 ∧ x1_4 ≤ 4095) → (x1_4 = gcS v_group (x2_4).toNat) → (12 - x2_4).toNat < n → GG p l e ⟨1, 0, 0, 20⟩ s m args below meth c 0 0 Q D A s.heap 3 (wX1 cI cB cJ h q v_size v_first v_second v_kind v_number v_group v_over) 4 [(0, .ref h), (1, vI x1_4), (2, vI x2_4)] [] := by
    intro n
    induction n with
    | zero => intros; exfalso; omega
    | succ n ih4 =>
      intro x1_4 x2_4 w4_0 w4_1 w4_2 wm4
      have hS := gcS_s v_group (x := x2_4) (by omega)
      refine g_iload_n X dX1_groupCount_4 2 rfl ?_
      refine g_bipush X (z := 12) dX1_groupCount_5 (by decide) ?_
      refine g_icmp_ge X (tgt := 27) dX1_groupCount_7 (by decide) (by omega) (by omega) (fun c7 => ?_) (fun c7 => ?_)
      · refine g_iload_n X dX1_groupCount_27 1 rfl ?_
        refine g_callSIE X (c_J6_bitCount_0f7a4 l D cI cB cJ (p0 := x1_4) (by first | assumption | omega)) cv_J6_bitCount_0f7a4 uw734 ⟨rfl, rfl, by decide, by decide⟩ rfl rfl (Nat.le_of_ble_eq_true rfl) ⟨Nat.zero_le _, Nat.zero_le _⟩ dX1_groupCount_28 (fun t28 ws28 k28 => ?_)
        obtain ⟨kp0_28, kp1_28, rfl⟩ := k28
        have hx : x2_4 = 12 := by omega
        have hF := gc_e (g := v_group) (fun c _ => r_v_group c) 12 (Nat.le_refl 12)
        have hx1 : x1_4 = gcS v_group 12 := by rw [w4_2, hx]; rfl
        exact hQ _ _ _ _ dX1_groupCount_31 ⟨(by first | assumption | omega), (by rw [kp1_28 (by omega), hx1]; exact hF.2.1), rfl⟩
      · refine g_iload_n X dX1_groupCount_10 1 rfl ?_
        refine g_iconst X dX1_groupCount_11 ?_
        refine g_aload_n X dX1_groupCount_12 0 rfl ?_
        refine gX1_get X 0 rfl 5 (by decide) uw185 rfl dX1_groupCount_13 ?_
        refine g_iload_n X dX1_groupCount_16 2 rfl ?_
        refine g_iald X 5 0 rfl rfl (by omega) (by decide) dX1_groupCount_17 (fun t17 e17 => ?_)
        have r17 := r_v_group (x2_4 : Int).toNat; rw [← e17] at r17
        refine g_ishl X dX1_groupCount_18 ?_
        refine g_nm (fun t18 e18 => ?_)
        have r18 := z_shl1_11 t17 (by omega); rw [← e18] at r18
        refine g_ior X dX1_groupCount_19 ?_
        refine g_nm (fun t19 e19 => ?_)
        have r19 := z_ior_4095 x1_4 t18 (by omega) (by omega); rw [← e19] at r19
        refine g_istore_n X (lv' := [(1, vI t19), (0, .ref h), (2, vI x2_4)]) dX1_groupCount_20 (by decide) rfl ?_
        refine g_iinc X (lv' := [(2, vI (x2_4 + 1)), (1, vI t19), (0, .ref h)]) dX1_groupCount_21 2 rfl (by decide) rfl ?_
        refine g_goto X (tgt := 4) dX1_groupCount_24 (by decide) ?_
        refine g_lv [2, 1, 0] rfl ?_
        exact ih4 t19 (x2_4 + 1) (by first | assumption | omega) (by first | assumption | omega) (by first | omega | (rw [e19, e18, e17, w4_2]; exact hS.symm)) (by omega)
  refine g_lv [2, 1, 0] rfl ?_
  exact L4 _ 0 0 (by first | assumption | omega) (by first | assumption | omega) (by first | omega | (rw [e19, e18, e17, w4_2]; exact hS.symm)) (Nat.lt_succ_self _)
set_option maxHeartbeats 600000 in
set_option maxRecDepth 100000 in
theorem c_X1_things (l : Launch) (D : va_G) (cI cB cJ : ClassId) (h : Nat) (q : Nat → Nat) {v_size : Int} {v_first v_second v_kind v_number v_group v_over : Nat → Int} (kr_v_size : 0 ≤ v_size ∧ v_size ≤ 40) (r_v_first : RA 0 11 v_first) (r_v_second : RA 0 11 v_second) : CtI l yX1_things cX1_things 3 (some .int) ⟨0, 0, 0, 0⟩ D (TY cI cB cJ) (wX1 cI cB cJ h q v_size v_first v_second v_kind v_number v_group v_over) [.ref h] (fun z ws' => (IR z) ∧ (ws' = (wX1 cI cB cJ h q v_size v_first v_second v_kind v_number v_group v_over))) := by
  refine hdrI (own := RX1) rfl (by decide +kernel) (Nat.le_of_ble_eq_true rfl) ?_
  intro p e s m args below meth c Q A X hQ
  refine g_lvE (lv2 := [(0, .ref h)]) rfl ?_
  refine g_iconst X dX1_things_0 ?_
  refine g_istore_n X (lv' := [(1, vI 0), (0, .ref h)]) dX1_things_1 (by decide) rfl ?_
  refine g_iconst X dX1_things_2 ?_
  refine g_istore_n X (lv' := [(2, vI 0), (1, vI 0), (0, .ref h)]) dX1_things_3 (by decide) rfl ?_
  have L4 : ∀ (n : Nat) (x1_4 : Int) (x2_4 : Int), (0 ≤ x2_4 ∧ x2_4 ≤ v_size) → (IR x1_4) → (v_size - x2_4).toNat < n → GG p l e ⟨0, 0, 0, 0⟩ s m args below meth c 0 0 Q D A s.heap 3 (wX1 cI cB cJ h q v_size v_first v_second v_kind v_number v_group v_over) 4 [(0, .ref h), (1, vI x1_4), (2, vI x2_4)] [] := by
    intro n
    induction n with
    | zero => intros; exfalso; omega
    | succ n ih4 =>
      intro x1_4 x2_4 w4_0 w4_1 wm4
      refine g_iload_n X dX1_things_4 2 rfl ?_
      refine g_aload_n X dX1_things_5 0 rfl ?_
      refine gX1_get X 0 rfl 0 (by decide) uw170 rfl dX1_things_6 ?_
      refine g_icmp_ge X (tgt := 38) dX1_things_9 (by decide) (by omega) (by omega) (fun c9 => ?_) (fun c9 => ?_)
      · refine g_iload_n X dX1_things_38 1 rfl ?_
        exact hQ _ _ _ _ dX1_things_39 ⟨(by omega), rfl⟩
      · refine g_iload_n X dX1_things_12 1 rfl ?_
        refine g_iconst X dX1_things_13 ?_
        refine g_aload_n X dX1_things_14 0 rfl ?_
        refine gX1_get X 0 rfl 1 (by decide) uw173 rfl dX1_things_15 ?_
        refine g_iload_n X dX1_things_18 2 rfl ?_
        refine g_iald X 1 0 rfl rfl (by omega) (by decide) dX1_things_19 (fun t19 e19 => ?_)
        have r19 := r_v_first (x2_4 : Int).toNat; rw [← e19] at r19
        refine g_ishl X dX1_things_20 ?_
        refine g_nm (fun t20 e20 => ?_)
        have r20 : IR t20 := by rw [e20]; exact z_ir _
        refine g_iconst X dX1_things_21 ?_
        refine g_aload_n X dX1_things_22 0 rfl ?_
        refine gX1_get X 0 rfl 2 (by decide) uw176 rfl dX1_things_23 ?_
        refine g_iload_n X dX1_things_26 2 rfl ?_
        refine g_iald X 2 0 rfl rfl (by omega) (by decide) dX1_things_27 (fun t27 e27 => ?_)
        have r27 := r_v_second (x2_4 : Int).toNat; rw [← e27] at r27
        refine g_ishl X dX1_things_28 ?_
        refine g_nm (fun t28 e28 => ?_)
        have r28 : IR t28 := by rw [e28]; exact z_ir _
        refine g_ior X dX1_things_29 ?_
        refine g_nm (fun t29 e29 => ?_)
        have r29 : IR t29 := by rw [e29]; exact z_ir _
        refine g_ior X dX1_things_30 ?_
        refine g_nm (fun t30 e30 => ?_)
        have r30 : IR t30 := by rw [e30]; exact z_ir _
        refine g_istore_n X (lv' := [(1, vI t30), (0, .ref h), (2, vI x2_4)]) dX1_things_31 (by decide) rfl ?_
        refine g_iinc X (lv' := [(2, vI (x2_4 + 1)), (1, vI t30), (0, .ref h)]) dX1_things_32 2 rfl (by decide) rfl ?_
        refine g_goto X (tgt := 4) dX1_things_35 (by decide) ?_
        refine g_lv [2, 1, 0] rfl ?_
        exact ih4 t30 (x2_4 + 1) (by first | assumption | omega) (by first | assumption | omega) (by omega)
  refine g_lv [2, 1, 0] rfl ?_
  exact L4 _ 0 0 (by first | assumption | omega) (by first | assumption | omega) (Nat.lt_succ_self _)
set_option maxHeartbeats 600000 in
set_option maxRecDepth 100000 in
theorem c_X1_add (l : Launch) (D : va_G) (cI cB cJ : ClassId) (h : Nat) (q : Nat → Nat) {v_size : Int} {v_first v_second v_kind v_number v_group v_over : Nat → Int} {p0 p1 p2 p3 : Int} (kr_v_size : 0 ≤ v_size ∧ v_size ≤ 40) (r_v_first : RA 0 11 v_first) (r_v_second : RA 0 11 v_second) (r_v_kind : RA 0 2 v_kind) (r_v_number : RA (-9999) 9999 v_number) (hp0 : IR p0) (hp1 : IR p1) (hp2 : IR p2) (hp3 : IR p3) (hp4 : 0 ≤ p0 ∧ p0 ≤ 11) (hp5 : 0 ≤ p1 ∧ p1 ≤ 11) (hp6 : 0 ≤ p2 ∧ p2 ≤ 2) (hp7 : -9999 ≤ p3 ∧ p3 ≤ 9999) (hp8 : v_size ≤ 39) : CtV l yX1_add cX1_add 5 none ⟨0, 0, 0, 0⟩ D (TY cI cB cJ) (wX1 cI cB cJ h q v_size v_first v_second v_kind v_number v_group v_over) [.ref h, vI p0, vI p1, vI p2, vI p3] (fun ws' => ∃ n_size : Int, ∃ n_first : Nat → Int, ∃ n_second : Nat → Int, ∃ n_kind : Nat → Int, ∃ n_number : Nat → Int, (0 ≤ n_size ∧ n_size ≤ 40) ∧ (RA 0 11 n_first) ∧ (RA 0 11 n_second) ∧ (RA 0 2 n_kind) ∧ (RA (-9999) 9999 n_number) ∧ (n_size = v_size + 1) ∧ (n_first = updZ v_first v_size.toNat p0) ∧ (n_second = updZ v_second v_size.toNat p1) ∧ (n_kind = updZ v_kind v_size.toNat p2) ∧ (n_number = updZ v_number v_size.toNat p3) ∧ (ws' = (wX1 cI cB cJ h q n_size n_first n_second n_kind n_number v_group v_over))) := by
  refine hdrV (own := RX1) rfl (by decide +kernel) (Nat.le_of_ble_eq_true rfl) ?_
  intro p e s m args below meth c Q A X hQ
  refine g_lvE (lv2 := [(0, .ref h), (1, vI p0), (2, vI p1), (3, vI p2), (4, vI p3)]) rfl ?_
  refine g_aload_n X dX1_add_0 0 rfl ?_
  refine gX1_get X 0 rfl 1 (by decide) uw173 rfl dX1_add_1 ?_
  refine g_aload_n X dX1_add_4 0 rfl ?_
  refine gX1_get X 0 rfl 0 (by decide) uw170 rfl dX1_add_5 ?_
  refine g_iload_n X dX1_add_8 1 rfl ?_
  refine g_iast X 1 0 rfl rfl (by omega) (by decide) dX1_add_9 (fun first_9 e9 => ?_)
  have r_first_9 : RA 0 11 first_9 := by rw [e9]; exact RA_up r_v_first (by omega)
  refine g_ws (ws2 := (wX1 cI cB cJ h q v_size first_9 v_second v_kind v_number v_group v_over)) rfl ?_
  refine g_aload_n X dX1_add_10 0 rfl ?_
  refine gX1_get X 0 rfl 2 (by decide) uw176 rfl dX1_add_11 ?_
  refine g_aload_n X dX1_add_14 0 rfl ?_
  refine gX1_get X 0 rfl 0 (by decide) uw170 rfl dX1_add_15 ?_
  refine g_iload_n X dX1_add_18 2 rfl ?_
  refine g_iast X 2 0 rfl rfl (by omega) (by decide) dX1_add_19 (fun second_19 e19 => ?_)
  have r_second_19 : RA 0 11 second_19 := by rw [e19]; exact RA_up r_v_second (by omega)
  refine g_ws (ws2 := (wX1 cI cB cJ h q v_size first_9 second_19 v_kind v_number v_group v_over)) rfl ?_
  refine g_aload_n X dX1_add_20 0 rfl ?_
  refine gX1_get X 0 rfl 3 (by decide) uw179 rfl dX1_add_21 ?_
  refine g_aload_n X dX1_add_24 0 rfl ?_
  refine gX1_get X 0 rfl 0 (by decide) uw170 rfl dX1_add_25 ?_
  refine g_iload_n X dX1_add_28 3 rfl ?_
  refine g_iast X 3 0 rfl rfl (by omega) (by decide) dX1_add_29 (fun kind_29 e29 => ?_)
  have r_kind_29 : RA 0 2 kind_29 := by rw [e29]; exact RA_up r_v_kind (by omega)
  refine g_ws (ws2 := (wX1 cI cB cJ h q v_size first_9 second_19 kind_29 v_number v_group v_over)) rfl ?_
  refine g_aload_n X dX1_add_30 0 rfl ?_
  refine gX1_get X 0 rfl 4 (by decide) uw182 rfl dX1_add_31 ?_
  refine g_aload_n X dX1_add_34 0 rfl ?_
  refine gX1_get X 0 rfl 0 (by decide) uw170 rfl dX1_add_35 ?_
  refine g_iload X dX1_add_38 4 rfl ?_
  refine g_iast X 4 0 rfl rfl (by omega) (by decide) dX1_add_40 (fun number_40 e40 => ?_)
  have r_number_40 : RA (-9999) 9999 number_40 := by rw [e40]; exact RA_up r_v_number (by omega)
  refine g_ws (ws2 := (wX1 cI cB cJ h q v_size first_9 second_19 kind_29 number_40 v_group v_over)) rfl ?_
  refine g_aload_n X dX1_add_41 0 rfl ?_
  refine g_dup X rfl dX1_add_42 ?_
  refine gX1_get X 0 rfl 0 (by decide) uw170 rfl dX1_add_43 ?_
  refine g_iconst X dX1_add_46 ?_
  refine g_iadd X dX1_add_47 ?_
  refine gX1_put X 0 rfl 0 (by decide) uw170 rfl rfl rfl (Nat.le_of_ble_eq_true rfl) dX1_add_48 (ws2 := (wX1 cI cB cJ h q (v_size + 1) first_9 second_19 kind_29 number_40 v_group v_over)) rfl ?_
  exact hQ _ _ _ dX1_add_51 ⟨v_size + 1, first_9, second_19, kind_29, number_40, (by omega), r_first_9, r_second_19, r_kind_29, r_number_40, (by first | assumption | omega), (by first | assumption | omega), (by first | assumption | omega), (by first | assumption | omega), (by first | assumption | omega), rfl⟩
set_option maxHeartbeats 600000 in
set_option maxRecDepth 100000 in
theorem c_X1_join (l : Launch) (D : va_G) (cI cB cJ : ClassId) (h : Nat) (q : Nat → Nat) {v_size : Int} {v_first v_second v_kind v_number v_group v_over : Nat → Int} {p0 p1 p2 : Int} (r_v_group : RA 0 11 v_group) (r_v_over : RA (-2147483648) 2147483647 v_over) (hp0 : IR p0) (hp1 : IR p1) (hp2 : IR p2) (hp3 : 0 ≤ p0 ∧ p0 ≤ 11) (hp4 : 0 ≤ p1 ∧ p1 ≤ 11) : CtI l yX1_join cX1_join 7 (some .boolean) ⟨0, 0, 0, 0⟩ D (TY cI cB cJ) (wX1 cI cB cJ h q v_size v_first v_second v_kind v_number v_group v_over) [.ref h, vI p0, vI p1, vI p2] (fun z ws' => (z = 0 ∨ z = 1) ∧ ∃ n_group : Nat → Int, ∃ n_over : Nat → Int, (RA 0 11 n_group) ∧ (RA (-2147483648) 2147483647 n_over) ∧ (JNO v_group v_over n_group n_over p0.toNat p1.toNat p2 z) ∧ (ws' = (wX1 cI cB cJ h q v_size v_first v_second v_kind v_number n_group n_over))) := by
  refine hdrZ (own := RX1) rfl (by decide +kernel) (Nat.le_of_ble_eq_true rfl) ?_
  intro p e s m args below meth c Q A X hQ
  refine g_lvE (lv2 := [(0, .ref h), (1, vI p0), (2, vI p1), (3, vI p2)]) rfl ?_
  refine g_aload_n X dX1_join_0 0 rfl ?_
  refine gX1_get X 0 rfl 5 (by decide) uw185 rfl dX1_join_1 ?_
  refine g_iload_n X dX1_join_4 1 rfl ?_
  refine g_iald X 5 0 rfl rfl (by omega) (by decide) dX1_join_5 (fun t5 e5 => ?_)
  have r5 := r_v_group (p0 : Int).toNat; rw [← e5] at r5
  refine g_aload_n X dX1_join_6 0 rfl ?_
  refine gX1_get X 0 rfl 5 (by decide) uw185 rfl dX1_join_7 ?_
  refine g_iload_n X dX1_join_10 2 rfl ?_
  refine g_iald X 5 0 rfl rfl (by omega) (by decide) dX1_join_11 (fun t11 e11 => ?_)
  have r11 := r_v_group (p1 : Int).toNat; rw [← e11] at r11
  refine g_icmp_ne X (tgt := 38) dX1_join_12 (by decide) (by omega) (by omega) (fun c12 => ?_) (fun c12 => ?_)
  · refine g_aload_n X dX1_join_38 0 rfl ?_
    refine gX1_get X 0 rfl 5 (by decide) uw185 rfl dX1_join_39 ?_
    refine g_iload_n X dX1_join_42 2 rfl ?_
    refine g_iald X 5 0 rfl rfl (by omega) (by decide) dX1_join_43 (fun t43 e43 => ?_)
    have r43 := r_v_group (p1 : Int).toNat; rw [← e43] at r43
    refine g_istore X (lv' := [(4, vI t43), (0, .ref h), (1, vI p0), (2, vI p1), (3, vI p2)]) dX1_join_44 (by decide) rfl ?_
    refine g_aload_n X dX1_join_46 1 rfl ?_
    refine gX1_get X 0 rfl 6 (by decide) uw186 rfl dX1_join_47 ?_
    refine g_iload_n X dX1_join_50 2 rfl ?_
    refine g_iald X 6 0 rfl rfl (by omega) (by decide) dX1_join_51 (fun t51 e51 => ?_)
    have r51 := r_v_over (p0 : Int).toNat; rw [← e51] at r51
    refine g_iload_n X dX1_join_52 4 rfl ?_
    refine g_isub X dX1_join_53 ?_
    refine g_nr (fun t53 e53 r53 => ?_)
    refine g_aload_n X dX1_join_54 1 rfl ?_
    refine gX1_get X 0 rfl 6 (by decide) uw186 rfl dX1_join_55 ?_
    refine g_iload_n X dX1_join_58 3 rfl ?_
    refine g_iald X 6 0 rfl rfl (by omega) (by decide) dX1_join_59 (fun t59 e59 => ?_)
    have r59 := r_v_over (p1 : Int).toNat; rw [← e59] at r59
    refine g_isub X dX1_join_60 ?_
    refine g_nr (fun t60 e60 r60 => ?_)
    refine g_istore X (lv' := [(5, vI t60), (4, vI t43), (0, .ref h), (1, vI p0), (2, vI p1), (3, vI p2)]) dX1_join_61 (by decide) rfl ?_
    refine g_iconst X dX1_join_63 ?_
    refine g_istore X (lv' := [(6, vI 0), (5, vI t60), (4, vI t43), (0, .ref h), (1, vI p0), (2, vI p1), (3, vI p2)]) dX1_join_64 (by decide) rfl ?_
    have L66 : ∀ (n : Nat) (x6_66 : Int) (group_66 : Nat → Int) (over_66 : Nat → Int), (RA 0 11 group_66) → (RA (-2147483648) 2147483647 over_66) → (0 ≤ x6_66 ∧ x6_66 ≤ 12) → (∀ c : Nat, (c : Int) < x6_66 → (v_group c = v_group p1.toNat → group_66 c = v_group p0.toNat ∧ CG (over_66 c) (v_over c + (v_over p0.toNat - p2 - v_over p1.toNat))) ∧ (v_group c ≠ v_group p1.toNat → group_66 c = v_group c ∧ over_66 c = v_over c)) → (∀ c : Nat, x6_66 ≤ (c : Int) → group_66 c = v_group c ∧ over_66 c = v_over c) → (group_66 p0.toNat = v_group p0.toNat) → (12 - x6_66).toNat < n → GG p l e ⟨0, 0, 0, 0⟩ s m args below meth c 0 0 Q D A s.heap 7 (wX1 cI cB cJ h q v_size v_first v_second v_kind v_number group_66 over_66) 66 [(0, .ref h), (1, vI p0), (4, vI t43), (5, vI t60), (6, vI x6_66)] [] := by
      intro n
      induction n with
      | zero => intros; exfalso; omega
      | succ n ih66 =>
        intro x6_66 group_66 over_66 r_group_66 r_over_66 w66_0 w66_1 w66_2 w66_3 wm66
        refine g_iload X dX1_join_66 4 rfl ?_
        refine g_bipush X (z := 12) dX1_join_68 (by decide) ?_
        refine g_icmp_ge X (tgt := 116) dX1_join_70 (by decide) (by omega) (by omega) (fun c70 => ?_) (fun c70 => ?_)
        · refine g_iconst X dX1_join_116 ?_
          exact hQ _ _ _ _ dX1_join_117 ⟨by omega, ⟨group_66, over_66, r_group_66, r_over_66, (by first | exact Or.inl ⟨by omega, rfl, rfl, Or.inl ⟨rfl, by have h := cg_of e27 r27; unfold CG at *; omega⟩⟩ | exact Or.inl ⟨by omega, rfl, rfl, Or.inr ⟨rfl, by have h := cg_of e27 r27; unfold CG at *; omega⟩⟩ | exact Or.inr ⟨by omega, rfl, fun c hc => w66_1 c (by omega)⟩), rfl⟩⟩
        · refine g_aload_n X dX1_join_73 0 rfl ?_
          refine gX1_get X 0 rfl 5 (by decide) uw185 rfl dX1_join_74 ?_
          refine g_iload X dX1_join_77 4 rfl ?_
          refine g_iald X 5 0 rfl rfl (by omega) (by decide) dX1_join_79 (fun t79 e79 => ?_)
          have r79 := r_group_66 (x6_66 : Int).toNat; rw [← e79] at r79
          refine g_iload X dX1_join_80 2 rfl ?_
          refine g_icmp_ne X (tgt := 110) dX1_join_82 (by decide) (by omega) (by omega) (fun c82 => ?_) (fun c82 => ?_)
          · have h2 := w66_2 (x6_66).toNat (by omega)
            have h3 : (v_group (x6_66).toNat = v_group p1.toNat → group_66 (x6_66).toNat = v_group p0.toNat ∧ CG (over_66 (x6_66).toNat) (v_over (x6_66).toNat + (v_over p0.toNat - p2 - v_over p1.toNat))) ∧ (v_group (x6_66).toNat ≠ v_group p1.toNat → group_66 (x6_66).toNat = v_group (x6_66).toNat ∧ over_66 (x6_66).toNat = v_over (x6_66).toNat) := by first | (have i1 := cg_of e108 r108; have i2 := cg_of e60 r60; have i3 := cg_of e53 r53; rw [e97, e109, updZ_s, updZ_s]; exact ⟨fun _ => ⟨by omega, by unfold CG at *; omega⟩, fun h => absurd (by omega) h⟩) | exact ⟨fun h => absurd h (by omega), fun _ => h2⟩
            have h4 : ∀ c : Nat, c ≠ (x6_66).toNat → group_66 c = group_66 c ∧ over_66 c = over_66 c := by first | (intro c hc; rw [e97, e109, updZ_n _ _ hc, updZ_n _ _ hc]; exact ⟨rfl, rfl⟩) | exact fun _ _ => ⟨rfl, rfl⟩
            refine g_iinc X (lv' := [(6, vI (x6_66 + 1)), (0, .ref h), (1, vI p0), (4, vI t43), (5, vI t60)]) dX1_join_110 4 rfl (by decide) rfl ?_
            refine g_goto X (tgt := 66) dX1_join_113 (by decide) ?_
            refine g_lv [1, 2, 3, 4, 0] rfl ?_
            exact ih66 (x6_66 + 1) group_66 over_66 r_group_66 r_over_66 (by first | assumption | omega) (by intro c hc; first | (exfalso; omega) | (rcases (show (c : Int) < x6_66 ∨ c = (x6_66).toNat by omega) with h | h; (rw [(h4 c (by omega)).1, (h4 c (by omega)).2]; exact w66_1 c h); (rw [h]; exact h3))) (by intro c hc; first | exact ⟨rfl, rfl⟩ | (rw [(h4 c (by omega)).1, (h4 c (by omega)).2]; exact w66_2 c (by omega))) (by first | rfl | exact w66_3 | exact if hq : p0.toNat = (x6_66).toNat then by (rw [e97, ← hq, updZ_s, e96]; exact w66_3) else ((h4 _ hq).1.trans w66_3)) (by omega)
          · refine g_aload_n X dX1_join_85 0 rfl ?_
            refine gX1_get X 0 rfl 5 (by decide) uw185 rfl dX1_join_86 ?_
            refine g_iload X dX1_join_89 4 rfl ?_
            refine g_aload_n X dX1_join_91 0 rfl ?_
            refine gX1_get X 0 rfl 5 (by decide) uw185 rfl dX1_join_92 ?_
            refine g_iload_n X dX1_join_95 1 rfl ?_
            refine g_iald X 5 0 rfl rfl (by omega) (by decide) dX1_join_96 (fun t96 e96 => ?_)
            have r96 := r_group_66 (p0 : Int).toNat; rw [← e96] at r96
            refine g_iast X 5 0 rfl rfl (by omega) (by decide) dX1_join_97 (fun group_97 e97 => ?_)
            have r_group_97 : RA 0 11 group_97 := by rw [e97]; exact RA_up r_group_66 (by omega)
            refine g_ws (ws2 := (wX1 cI cB cJ h q v_size v_first v_second v_kind v_number group_97 over_66)) rfl ?_
            refine g_aload_n X dX1_join_98 0 rfl ?_
            refine gX1_get X 0 rfl 6 (by decide) uw186 rfl dX1_join_99 ?_
            refine g_iload X dX1_join_102 4 rfl ?_
            refine g_dup2 X rfl rfl dX1_join_104 ?_
            refine g_iald X 6 0 rfl rfl (by omega) (by decide) dX1_join_105 (fun t105 e105 => ?_)
            have r105 := r_over_66 (x6_66 : Int).toNat; rw [← e105] at r105
            refine g_iload X dX1_join_106 3 rfl ?_
            refine g_iadd X dX1_join_108 ?_
            refine g_nr (fun t108 e108 r108 => ?_)
            refine g_iast X 6 0 rfl rfl (by omega) (by decide) dX1_join_109 (fun over_109 e109 => ?_)
            have r_over_109 : RA (-2147483648) 2147483647 over_109 := by rw [e109]; exact RA_up r_over_66 (by omega)
            refine g_ws (ws2 := (wX1 cI cB cJ h q v_size v_first v_second v_kind v_number group_97 over_109)) rfl ?_
            have h2 := w66_2 (x6_66).toNat (by omega)
            have h3 : (v_group (x6_66).toNat = v_group p1.toNat → group_97 (x6_66).toNat = v_group p0.toNat ∧ CG (over_109 (x6_66).toNat) (v_over (x6_66).toNat + (v_over p0.toNat - p2 - v_over p1.toNat))) ∧ (v_group (x6_66).toNat ≠ v_group p1.toNat → group_97 (x6_66).toNat = v_group (x6_66).toNat ∧ over_109 (x6_66).toNat = v_over (x6_66).toNat) := by first | (have i1 := cg_of e108 r108; have i2 := cg_of e60 r60; have i3 := cg_of e53 r53; rw [e97, e109, updZ_s, updZ_s]; exact ⟨fun _ => ⟨by omega, by unfold CG at *; omega⟩, fun h => absurd (by omega) h⟩) | exact ⟨fun h => absurd h (by omega), fun _ => h2⟩
            have h4 : ∀ c : Nat, c ≠ (x6_66).toNat → group_97 c = group_66 c ∧ over_109 c = over_66 c := by first | (intro c hc; rw [e97, e109, updZ_n _ _ hc, updZ_n _ _ hc]; exact ⟨rfl, rfl⟩) | exact fun _ _ => ⟨rfl, rfl⟩
            refine g_iinc X (lv' := [(6, vI (x6_66 + 1)), (0, .ref h), (1, vI p0), (4, vI t43), (5, vI t60)]) dX1_join_110 4 rfl (by decide) rfl ?_
            refine g_goto X (tgt := 66) dX1_join_113 (by decide) ?_
            refine g_lv [1, 2, 3, 4, 0] rfl ?_
            exact ih66 (x6_66 + 1) group_97 over_109 r_group_97 r_over_109 (by first | assumption | omega) (by intro c hc; first | (exfalso; omega) | (rcases (show (c : Int) < x6_66 ∨ c = (x6_66).toNat by omega) with h | h; (rw [(h4 c (by omega)).1, (h4 c (by omega)).2]; exact w66_1 c h); (rw [h]; exact h3))) (by intro c hc; first | exact ⟨rfl, rfl⟩ | (rw [(h4 c (by omega)).1, (h4 c (by omega)).2]; exact w66_2 c (by omega))) (by first | rfl | exact w66_3 | exact if hq : p0.toNat = (x6_66).toNat then by (rw [e97, ← hq, updZ_s, e96]; exact w66_3) else ((h4 _ hq).1.trans w66_3)) (by omega)
    refine g_lv [3, 4, 2, 1, 0] rfl ?_
    exact L66 _ 0 v_group v_over r_v_group r_v_over (by first | assumption | omega) (by intro c hc; first | (exfalso; omega) | (rcases (show (c : Int) < x6_66 ∨ c = (x6_66).toNat by omega) with h | h; (rw [(h4 c (by omega)).1, (h4 c (by omega)).2]; exact w66_1 c h); (rw [h]; exact h3))) (by intro c hc; first | exact ⟨rfl, rfl⟩ | (rw [(h4 c (by omega)).1, (h4 c (by omega)).2]; exact w66_2 c (by omega))) (by first | rfl | exact w66_3 | exact if hq : p0.toNat = (x6_66).toNat then by (rw [e97, ← hq, updZ_s, e96]; exact w66_3) else ((h4 _ hq).1.trans w66_3)) (Nat.lt_succ_self _)
  · refine g_aload_n X dX1_join_15 0 rfl ?_
    refine gX1_get X 0 rfl 6 (by decide) uw186 rfl dX1_join_16 ?_
    refine g_iload_n X dX1_join_19 1 rfl ?_
    refine g_iald X 6 0 rfl rfl (by omega) (by decide) dX1_join_20 (fun t20 e20 => ?_)
    have r20 := r_v_over (p0 : Int).toNat; rw [← e20] at r20
    refine g_aload_n X dX1_join_21 0 rfl ?_
    refine gX1_get X 0 rfl 6 (by decide) uw186 rfl dX1_join_22 ?_
    refine g_iload_n X dX1_join_25 2 rfl ?_
    refine g_iald X 6 0 rfl rfl (by omega) (by decide) dX1_join_26 (fun t26 e26 => ?_)
    have r26 := r_v_over (p1 : Int).toNat; rw [← e26] at r26
    refine g_isub X dX1_join_27 ?_
    refine g_nr (fun t27 e27 r27 => ?_)
    refine g_iload_n X dX1_join_28 3 rfl ?_
    refine g_icmp_ne X (tgt := 36) dX1_join_29 (by decide) (by omega) (by omega) (fun c29 => ?_) (fun c29 => ?_)
    · refine g_iconst X dX1_join_36 ?_
      exact hQ _ _ _ _ dX1_join_37 ⟨by omega, ⟨v_group, v_over, r_v_group, r_v_over, (by first | exact Or.inl ⟨by omega, rfl, rfl, Or.inl ⟨rfl, by have h := cg_of e27 r27; unfold CG at *; omega⟩⟩ | exact Or.inl ⟨by omega, rfl, rfl, Or.inr ⟨rfl, by have h := cg_of e27 r27; unfold CG at *; omega⟩⟩ | exact Or.inr ⟨by omega, rfl, fun c hc => w66_1 c (by omega)⟩), rfl⟩⟩
    · refine g_iconst X dX1_join_32 ?_
      refine g_goto X (tgt := 37) dX1_join_33 (by decide) ?_
      exact hQ _ _ _ _ dX1_join_37 ⟨by omega, ⟨v_group, v_over, r_v_group, r_v_over, (by first | exact Or.inl ⟨by omega, rfl, rfl, Or.inl ⟨rfl, by have h := cg_of e27 r27; unfold CG at *; omega⟩⟩ | exact Or.inl ⟨by omega, rfl, rfl, Or.inr ⟨rfl, by have h := cg_of e27 r27; unfold CG at *; omega⟩⟩ | exact Or.inr ⟨by omega, rfl, fun c hc => w66_1 c (by omega)⟩), rfl⟩⟩
set_option maxHeartbeats 600000 in
set_option maxRecDepth 100000 in
theorem c_X1_readKind (l : Launch) (D : va_G) (cI cB cJ : ClassId) (h_tp : Nat) (q_tp : Nat → Nat) {v_tp_length v_tp_end v_tp_at v_tp_fault v_tp_faultAt : Int} {v_tp_bytes v_tp_taken : Nat → Int} (kr_v_tp_end : 0 ≤ v_tp_end ∧ v_tp_end ≤ 260) (kr_v_tp_at : 0 ≤ v_tp_at ∧ v_tp_at ≤ 260) (kr_v_tp_fault : 0 ≤ v_tp_fault ∧ v_tp_fault ≤ 8) (kr_v_tp_faultAt : 0 ≤ v_tp_faultAt ∧ v_tp_faultAt ≤ 260) (r_v_tp_bytes : RA 0 255 v_tp_bytes) (hp0 : v_tp_at ≤ v_tp_end) : CtI l yX1_readKind cX1_readKind 2 (some .int) ⟨1, 0, 0, 22⟩ D (TY cI cB cJ) (wX7 cI cB cJ h_tp q_tp v_tp_length v_tp_end v_tp_at v_tp_fault v_tp_faultAt v_tp_bytes v_tp_taken) [.ref h_tp] (fun z ws' => ∃ n_tp_at : Int, ∃ n_tp_fault : Int, ∃ n_tp_faultAt : Int, (0 ≤ n_tp_at ∧ n_tp_at ≤ 260) ∧ (0 ≤ n_tp_fault ∧ n_tp_fault ≤ 8) ∧ (0 ≤ n_tp_faultAt ∧ n_tp_faultAt ≤ 260) ∧ (0 ≤ z ∧ z ≤ 2) ∧ (v_tp_fault ≠ 0 → n_tp_fault ≠ 0) ∧ (n_tp_at ≤ v_tp_end) ∧ (TG v_tp_fault v_tp_faultAt v_tp_at n_tp_fault n_tp_faultAt n_tp_at (kdC (sgP v_tp_end v_tp_bytes) v_tp_at) (v_tp_at + 1)) ∧ (n_tp_fault = 0 → v_tp_fault = 0 ∧ z = kdV (sgP v_tp_end v_tp_bytes) v_tp_at) ∧ (ws' = (wX7 cI cB cJ h_tp q_tp v_tp_length v_tp_end n_tp_at n_tp_fault n_tp_faultAt v_tp_bytes v_tp_taken))) := by
  refine hdrI (own := RX1) rfl (by decide +kernel) (Nat.le_of_ble_eq_true rfl) ?_
  intro p e s m args below meth c Q A X hQ
  refine g_lvE (lv2 := [(0, .ref h_tp)]) rfl ?_
  refine g_aload_n X dX1_readKind_0 0 rfl ?_
  refine g_callVI0 X (c_X7_sign l D cI cB cJ h_tp q_tp  (by omega) (by omega) (by omega) r_v_tp_bytes) cv_X7_sign uw651 ⟨rfl, rfl, by decide, by decide⟩ 0 rfl rfl rfl rfl rfl (Nat.le_of_ble_eq_true rfl) ⟨Nat.zero_le _, Nat.zero_le _⟩ dX1_readKind_1 (fun t1 ws1 k1 => ?_)
  obtain ⟨kp0_1, kp1_1, kp2_1, rfl⟩ := k1
  refine g_istore_n X (lv' := [(1, vI t1), (0, .ref h_tp)]) dX1_readKind_4 (by decide) rfl ?_
  refine g_iload_n X dX1_readKind_5 0 rfl ?_
  refine g_bipush X (z := 61) dX1_readKind_6 (by decide) ?_
  refine g_icmp_eq X (tgt := 32) dX1_readKind_8 (by decide) (by omega) (by omega) (fun c8 => ?_) (fun c8 => ?_)
  · refine g_aload_n X dX1_readKind_32 1 rfl ?_
    refine g_callVV0 X (c_X7_step l D cI cB cJ h_tp q_tp  (by omega) (by omega) (by omega) (by first | assumption | omega)) cv_X7_step uw652 ⟨rfl, rfl, by decide, by decide⟩ 0 rfl rfl rfl rfl rfl (Nat.le_of_ble_eq_true rfl) ⟨Nat.zero_le _, Nat.zero_le _⟩ dX1_readKind_33 (fun ws33 k33 => ?_)
    obtain ⟨tp_at_33, kr_tp_at_33, kp0_33, kp1_33, rfl⟩ := k33
    refine g_iload_n X dX1_readKind_36 0 rfl ?_
    refine g_bipush X (z := 61) dX1_readKind_37 (by decide) ?_
    refine g_icmp_ne X (tgt := 44) dX1_readKind_39 (by decide) (by omega) (by omega) (fun c39 => ?_) (fun c39 => ?_)
    · refine g_iload_n X dX1_readKind_44 0 rfl ?_
      refine g_bipush X (z := 60) dX1_readKind_45 (by decide) ?_
      refine g_icmp_ne X (tgt := 54) dX1_readKind_47 (by decide) (by omega) (by omega) (fun c47 => ?_) (fun c47 => ?_)
      · refine g_iconst X dX1_readKind_54 ?_
        have hz : v_tp_fault = 0 → t1 = (sgP v_tp_end v_tp_bytes) v_tp_at := fun h => by rw [kp0_1]; exact sgZ_0 h
        have hk := kdC_e (sgP v_tp_end v_tp_bytes) v_tp_at
        have hv := kdV_e (sgP v_tp_end v_tp_bytes) v_tp_at
        exact hQ _ _ _ _ dX1_readKind_55 ⟨tp_at_33, v_tp_fault, v_tp_faultAt, (by omega), (by omega), (by omega), (by first | assumption | omega), (by first | assumption | omega), (by first | assumption | omega), (by first | exact TG.of_y (by omega) (by omega) (by omega) | exact TG.of_n kp1_29 (by omega) (fun h => by have h1 := hz h; omega) | (exfalso; omega)), (by first | exact fun h => ⟨by omega, by have h1 := hz (by omega); omega⟩ | exact fun h => absurd h (by omega)), rfl⟩
      · refine g_iconst X dX1_readKind_50 ?_
        refine g_goto X (tgt := 55) dX1_readKind_51 (by decide) ?_
        have hz : v_tp_fault = 0 → t1 = (sgP v_tp_end v_tp_bytes) v_tp_at := fun h => by rw [kp0_1]; exact sgZ_0 h
        have hk := kdC_e (sgP v_tp_end v_tp_bytes) v_tp_at
        have hv := kdV_e (sgP v_tp_end v_tp_bytes) v_tp_at
        exact hQ _ _ _ _ dX1_readKind_55 ⟨tp_at_33, v_tp_fault, v_tp_faultAt, (by omega), (by omega), (by omega), (by first | assumption | omega), (by first | assumption | omega), (by first | assumption | omega), (by first | exact TG.of_y (by omega) (by omega) (by omega) | exact TG.of_n kp1_29 (by omega) (fun h => by have h1 := hz h; omega) | (exfalso; omega)), (by first | exact fun h => ⟨by omega, by have h1 := hz (by omega); omega⟩ | exact fun h => absurd h (by omega)), rfl⟩
    · refine g_iconst X dX1_readKind_42 ?_
      have hz : v_tp_fault = 0 → t1 = (sgP v_tp_end v_tp_bytes) v_tp_at := fun h => by rw [kp0_1]; exact sgZ_0 h
      have hk := kdC_e (sgP v_tp_end v_tp_bytes) v_tp_at
      have hv := kdV_e (sgP v_tp_end v_tp_bytes) v_tp_at
      exact hQ _ _ _ _ dX1_readKind_43 ⟨tp_at_33, v_tp_fault, v_tp_faultAt, (by omega), (by omega), (by omega), (by first | assumption | omega), (by first | assumption | omega), (by first | assumption | omega), (by first | exact TG.of_y (by omega) (by omega) (by omega) | exact TG.of_n kp1_29 (by omega) (fun h => by have h1 := hz h; omega) | (exfalso; omega)), (by first | exact fun h => ⟨by omega, by have h1 := hz (by omega); omega⟩ | exact fun h => absurd h (by omega)), rfl⟩
  · refine g_iload_n X dX1_readKind_11 0 rfl ?_
    refine g_bipush X (z := 60) dX1_readKind_12 (by decide) ?_
    refine g_icmp_eq X (tgt := 32) dX1_readKind_14 (by decide) (by omega) (by omega) (fun c14 => ?_) (fun c14 => ?_)
    · refine g_aload_n X dX1_readKind_32 1 rfl ?_
      refine g_callVV0 X (c_X7_step l D cI cB cJ h_tp q_tp  (by omega) (by omega) (by omega) (by first | assumption | omega)) cv_X7_step uw652 ⟨rfl, rfl, by decide, by decide⟩ 0 rfl rfl rfl rfl rfl (Nat.le_of_ble_eq_true rfl) ⟨Nat.zero_le _, Nat.zero_le _⟩ dX1_readKind_33 (fun ws33 k33 => ?_)
      obtain ⟨tp_at_33, kr_tp_at_33, kp0_33, kp1_33, rfl⟩ := k33
      refine g_iload_n X dX1_readKind_36 0 rfl ?_
      refine g_bipush X (z := 61) dX1_readKind_37 (by decide) ?_
      refine g_icmp_ne X (tgt := 44) dX1_readKind_39 (by decide) (by omega) (by omega) (fun c39 => ?_) (fun c39 => ?_)
      · refine g_iload_n X dX1_readKind_44 0 rfl ?_
        refine g_bipush X (z := 60) dX1_readKind_45 (by decide) ?_
        refine g_icmp_ne X (tgt := 54) dX1_readKind_47 (by decide) (by omega) (by omega) (fun c47 => ?_) (fun c47 => ?_)
        · refine g_iconst X dX1_readKind_54 ?_
          have hz : v_tp_fault = 0 → t1 = (sgP v_tp_end v_tp_bytes) v_tp_at := fun h => by rw [kp0_1]; exact sgZ_0 h
          have hk := kdC_e (sgP v_tp_end v_tp_bytes) v_tp_at
          have hv := kdV_e (sgP v_tp_end v_tp_bytes) v_tp_at
          exact hQ _ _ _ _ dX1_readKind_55 ⟨tp_at_33, v_tp_fault, v_tp_faultAt, (by omega), (by omega), (by omega), (by first | assumption | omega), (by first | assumption | omega), (by first | assumption | omega), (by first | exact TG.of_y (by omega) (by omega) (by omega) | exact TG.of_n kp1_29 (by omega) (fun h => by have h1 := hz h; omega) | (exfalso; omega)), (by first | exact fun h => ⟨by omega, by have h1 := hz (by omega); omega⟩ | exact fun h => absurd h (by omega)), rfl⟩
        · refine g_iconst X dX1_readKind_50 ?_
          refine g_goto X (tgt := 55) dX1_readKind_51 (by decide) ?_
          have hz : v_tp_fault = 0 → t1 = (sgP v_tp_end v_tp_bytes) v_tp_at := fun h => by rw [kp0_1]; exact sgZ_0 h
          have hk := kdC_e (sgP v_tp_end v_tp_bytes) v_tp_at
          have hv := kdV_e (sgP v_tp_end v_tp_bytes) v_tp_at
          exact hQ _ _ _ _ dX1_readKind_55 ⟨tp_at_33, v_tp_fault, v_tp_faultAt, (by omega), (by omega), (by omega), (by first | assumption | omega), (by first | assumption | omega), (by first | assumption | omega), (by first | exact TG.of_y (by omega) (by omega) (by omega) | exact TG.of_n kp1_29 (by omega) (fun h => by have h1 := hz h; omega) | (exfalso; omega)), (by first | exact fun h => ⟨by omega, by have h1 := hz (by omega); omega⟩ | exact fun h => absurd h (by omega)), rfl⟩
      · refine g_iconst X dX1_readKind_42 ?_
        have hz : v_tp_fault = 0 → t1 = (sgP v_tp_end v_tp_bytes) v_tp_at := fun h => by rw [kp0_1]; exact sgZ_0 h
        have hk := kdC_e (sgP v_tp_end v_tp_bytes) v_tp_at
        have hv := kdV_e (sgP v_tp_end v_tp_bytes) v_tp_at
        exact hQ _ _ _ _ dX1_readKind_43 ⟨tp_at_33, v_tp_fault, v_tp_faultAt, (by omega), (by omega), (by omega), (by first | assumption | omega), (by first | assumption | omega), (by first | assumption | omega), (by first | exact TG.of_y (by omega) (by omega) (by omega) | exact TG.of_n kp1_29 (by omega) (fun h => by have h1 := hz h; omega) | (exfalso; omega)), (by first | exact fun h => ⟨by omega, by have h1 := hz (by omega); omega⟩ | exact fun h => absurd h (by omega)), rfl⟩
    · refine g_iload_n X dX1_readKind_17 0 rfl ?_
      refine g_bipush X (z := 62) dX1_readKind_18 (by decide) ?_
      refine g_icmp_eq X (tgt := 32) dX1_readKind_20 (by decide) (by omega) (by omega) (fun c20 => ?_) (fun c20 => ?_)
      · refine g_aload_n X dX1_readKind_32 1 rfl ?_
        refine g_callVV0 X (c_X7_step l D cI cB cJ h_tp q_tp  (by omega) (by omega) (by omega) (by first | assumption | omega)) cv_X7_step uw652 ⟨rfl, rfl, by decide, by decide⟩ 0 rfl rfl rfl rfl rfl (Nat.le_of_ble_eq_true rfl) ⟨Nat.zero_le _, Nat.zero_le _⟩ dX1_readKind_33 (fun ws33 k33 => ?_)
        obtain ⟨tp_at_33, kr_tp_at_33, kp0_33, kp1_33, rfl⟩ := k33
        refine g_iload_n X dX1_readKind_36 0 rfl ?_
        refine g_bipush X (z := 61) dX1_readKind_37 (by decide) ?_
        refine g_icmp_ne X (tgt := 44) dX1_readKind_39 (by decide) (by omega) (by omega) (fun c39 => ?_) (fun c39 => ?_)
        · refine g_iload_n X dX1_readKind_44 0 rfl ?_
          refine g_bipush X (z := 60) dX1_readKind_45 (by decide) ?_
          refine g_icmp_ne X (tgt := 54) dX1_readKind_47 (by decide) (by omega) (by omega) (fun c47 => ?_) (fun c47 => ?_)
          · refine g_iconst X dX1_readKind_54 ?_
            have hz : v_tp_fault = 0 → t1 = (sgP v_tp_end v_tp_bytes) v_tp_at := fun h => by rw [kp0_1]; exact sgZ_0 h
            have hk := kdC_e (sgP v_tp_end v_tp_bytes) v_tp_at
            have hv := kdV_e (sgP v_tp_end v_tp_bytes) v_tp_at
            exact hQ _ _ _ _ dX1_readKind_55 ⟨tp_at_33, v_tp_fault, v_tp_faultAt, (by omega), (by omega), (by omega), (by first | assumption | omega), (by first | assumption | omega), (by first | assumption | omega), (by first | exact TG.of_y (by omega) (by omega) (by omega) | exact TG.of_n kp1_29 (by omega) (fun h => by have h1 := hz h; omega) | (exfalso; omega)), (by first | exact fun h => ⟨by omega, by have h1 := hz (by omega); omega⟩ | exact fun h => absurd h (by omega)), rfl⟩
          · refine g_iconst X dX1_readKind_50 ?_
            refine g_goto X (tgt := 55) dX1_readKind_51 (by decide) ?_
            have hz : v_tp_fault = 0 → t1 = (sgP v_tp_end v_tp_bytes) v_tp_at := fun h => by rw [kp0_1]; exact sgZ_0 h
            have hk := kdC_e (sgP v_tp_end v_tp_bytes) v_tp_at
            have hv := kdV_e (sgP v_tp_end v_tp_bytes) v_tp_at
            exact hQ _ _ _ _ dX1_readKind_55 ⟨tp_at_33, v_tp_fault, v_tp_faultAt, (by omega), (by omega), (by omega), (by first | assumption | omega), (by first | assumption | omega), (by first | assumption | omega), (by first | exact TG.of_y (by omega) (by omega) (by omega) | exact TG.of_n kp1_29 (by omega) (fun h => by have h1 := hz h; omega) | (exfalso; omega)), (by first | exact fun h => ⟨by omega, by have h1 := hz (by omega); omega⟩ | exact fun h => absurd h (by omega)), rfl⟩
        · refine g_iconst X dX1_readKind_42 ?_
          have hz : v_tp_fault = 0 → t1 = (sgP v_tp_end v_tp_bytes) v_tp_at := fun h => by rw [kp0_1]; exact sgZ_0 h
          have hk := kdC_e (sgP v_tp_end v_tp_bytes) v_tp_at
          have hv := kdV_e (sgP v_tp_end v_tp_bytes) v_tp_at
          exact hQ _ _ _ _ dX1_readKind_43 ⟨tp_at_33, v_tp_fault, v_tp_faultAt, (by omega), (by omega), (by omega), (by first | assumption | omega), (by first | assumption | omega), (by first | assumption | omega), (by first | exact TG.of_y (by omega) (by omega) (by omega) | exact TG.of_n kp1_29 (by omega) (fun h => by have h1 := hz h; omega) | (exfalso; omega)), (by first | exact fun h => ⟨by omega, by have h1 := hz (by omega); omega⟩ | exact fun h => absurd h (by omega)), rfl⟩
      · refine g_aload_n X dX1_readKind_23 1 rfl ?_
        refine g_iconst X dX1_readKind_24 ?_
        refine g_aload_n X dX1_readKind_25 1 rfl ?_
        refine gN_get X (T := TX7) 0 rfl rfl inU_X7 4 (by decide) nw141 rfl rfl dX1_readKind_26 ?_
        refine g_callVV0 X (c_X7_fail l D cI cB cJ h_tp q_tp (p0 := 1) (p1 := v_tp_at) (by omega) (by omega) (by first | assumption | omega) (by first | assumption | omega) (by first | assumption | omega) (by first | assumption | omega)) cv_X7_fail uw646 ⟨rfl, rfl, by decide, by decide⟩ 0 rfl rfl rfl rfl rfl (Nat.le_of_ble_eq_true rfl) ⟨Nat.zero_le _, Nat.zero_le _⟩ dX1_readKind_29 (fun ws29 k29 => ?_)
        obtain ⟨tp_fault_29, tp_faultAt_29, kr_tp_fault_29, kr_tp_faultAt_29, kp0_29, kp1_29, rfl⟩ := k29
        refine g_aload_n X dX1_readKind_32 1 rfl ?_
        refine g_callVV0 X (c_X7_step l D cI cB cJ h_tp q_tp  (by omega) (by omega) (by omega) (by first | assumption | omega)) cv_X7_step uw652 ⟨rfl, rfl, by decide, by decide⟩ 0 rfl rfl rfl rfl rfl (Nat.le_of_ble_eq_true rfl) ⟨Nat.zero_le _, Nat.zero_le _⟩ dX1_readKind_33 (fun ws33 k33 => ?_)
        obtain ⟨tp_at_33, kr_tp_at_33, kp0_33, kp1_33, rfl⟩ := k33
        refine g_iload_n X dX1_readKind_36 0 rfl ?_
        refine g_bipush X (z := 61) dX1_readKind_37 (by decide) ?_
        refine g_icmp_ne X (tgt := 44) dX1_readKind_39 (by decide) (by omega) (by omega) (fun c39 => ?_) (fun c39 => ?_)
        · refine g_iload_n X dX1_readKind_44 0 rfl ?_
          refine g_bipush X (z := 60) dX1_readKind_45 (by decide) ?_
          refine g_icmp_ne X (tgt := 54) dX1_readKind_47 (by decide) (by omega) (by omega) (fun c47 => ?_) (fun c47 => ?_)
          · refine g_iconst X dX1_readKind_54 ?_
            have hz : v_tp_fault = 0 → t1 = (sgP v_tp_end v_tp_bytes) v_tp_at := fun h => by rw [kp0_1]; exact sgZ_0 h
            have hk := kdC_e (sgP v_tp_end v_tp_bytes) v_tp_at
            have hv := kdV_e (sgP v_tp_end v_tp_bytes) v_tp_at
            exact hQ _ _ _ _ dX1_readKind_55 ⟨tp_at_33, tp_fault_29, tp_faultAt_29, (by omega), (by omega), (by omega), (by first | assumption | omega), (by first | assumption | omega), (by first | assumption | omega), (by first | exact TG.of_y (by omega) (by omega) (by omega) | exact TG.of_n kp1_29 (by omega) (fun h => by have h1 := hz h; omega) | (exfalso; omega)), (by first | exact fun h => ⟨by omega, by have h1 := hz (by omega); omega⟩ | exact fun h => absurd h (by omega)), rfl⟩
          · refine g_iconst X dX1_readKind_50 ?_
            refine g_goto X (tgt := 55) dX1_readKind_51 (by decide) ?_
            have hz : v_tp_fault = 0 → t1 = (sgP v_tp_end v_tp_bytes) v_tp_at := fun h => by rw [kp0_1]; exact sgZ_0 h
            have hk := kdC_e (sgP v_tp_end v_tp_bytes) v_tp_at
            have hv := kdV_e (sgP v_tp_end v_tp_bytes) v_tp_at
            exact hQ _ _ _ _ dX1_readKind_55 ⟨tp_at_33, tp_fault_29, tp_faultAt_29, (by omega), (by omega), (by omega), (by first | assumption | omega), (by first | assumption | omega), (by first | assumption | omega), (by first | exact TG.of_y (by omega) (by omega) (by omega) | exact TG.of_n kp1_29 (by omega) (fun h => by have h1 := hz h; omega) | (exfalso; omega)), (by first | exact fun h => ⟨by omega, by have h1 := hz (by omega); omega⟩ | exact fun h => absurd h (by omega)), rfl⟩
        · refine g_iconst X dX1_readKind_42 ?_
          have hz : v_tp_fault = 0 → t1 = (sgP v_tp_end v_tp_bytes) v_tp_at := fun h => by rw [kp0_1]; exact sgZ_0 h
          have hk := kdC_e (sgP v_tp_end v_tp_bytes) v_tp_at
          have hv := kdV_e (sgP v_tp_end v_tp_bytes) v_tp_at
          exact hQ _ _ _ _ dX1_readKind_43 ⟨tp_at_33, tp_fault_29, tp_faultAt_29, (by omega), (by omega), (by omega), (by first | assumption | omega), (by first | assumption | omega), (by first | assumption | omega), (by first | exact TG.of_y (by omega) (by omega) (by omega) | exact TG.of_n kp1_29 (by omega) (fun h => by have h1 := hz h; omega) | (exfalso; omega)), (by first | exact fun h => ⟨by omega, by have h1 := hz (by omega); omega⟩ | exact fun h => absurd h (by omega)), rfl⟩
set_option maxHeartbeats 600000 in
set_option maxRecDepth 100000 in
theorem c_X1_readLine (l : Launch) (D : va_G) (cI cB cJ : ClassId) (h : Nat) (q : Nat → Nat) (h_tp : Nat) (q_tp : Nat → Nat) {v_size v_tp_length v_tp_end v_tp_at v_tp_fault v_tp_faultAt : Int} {v_first v_second v_kind v_number v_group v_over v_tp_bytes v_tp_taken : Nat → Int} (kr_v_size : 0 ≤ v_size ∧ v_size ≤ 40) (r_v_first : RA 0 11 v_first) (r_v_second : RA 0 11 v_second) (r_v_kind : RA 0 2 v_kind) (r_v_number : RA (-9999) 9999 v_number) (r_v_group : RA 0 11 v_group) (r_v_over : RA (-2147483648) 2147483647 v_over) (kr_v_tp_end : 0 ≤ v_tp_end ∧ v_tp_end ≤ 260) (kr_v_tp_at : 0 ≤ v_tp_at ∧ v_tp_at ≤ 260) (kr_v_tp_fault : 0 ≤ v_tp_fault ∧ v_tp_fault ≤ 8) (kr_v_tp_faultAt : 0 ≤ v_tp_faultAt ∧ v_tp_faultAt ≤ 260) (r_v_tp_bytes : RA 0 255 v_tp_bytes) (hp0 : v_tp_at ≤ v_tp_end) : CtV l yX1_readLine cX1_readLine 9 none ⟨2, 0, 0, 45⟩ D (TY cI cB cJ) ((wX1 cI cB cJ h q v_size v_first v_second v_kind v_number v_group v_over) ++ (wX7 cI cB cJ h_tp q_tp v_tp_length v_tp_end v_tp_at v_tp_fault v_tp_faultAt v_tp_bytes v_tp_taken)) [.ref h, .ref h_tp] (fun ws' => ∃ n_size : Int, ∃ n_first : Nat → Int, ∃ n_second : Nat → Int, ∃ n_kind : Nat → Int, ∃ n_number : Nat → Int, ∃ n_group : Nat → Int, ∃ n_over : Nat → Int, ∃ n_tp_at : Int, ∃ n_tp_fault : Int, ∃ n_tp_faultAt : Int, (0 ≤ n_size ∧ n_size ≤ 40) ∧ (RA 0 11 n_first) ∧ (RA 0 11 n_second) ∧ (RA 0 2 n_kind) ∧ (RA (-9999) 9999 n_number) ∧ (RA 0 11 n_group) ∧ (RA (-2147483648) 2147483647 n_over) ∧ (0 ≤ n_tp_at ∧ n_tp_at ≤ 260) ∧ (0 ≤ n_tp_fault ∧ n_tp_fault ≤ 8) ∧ (0 ≤ n_tp_faultAt ∧ n_tp_faultAt ≤ 260) ∧ (n_tp_at ≤ v_tp_end) ∧ (RLo (sgP v_tp_end v_tp_bytes) v_tp_fault v_tp_faultAt v_tp_at v_size v_first v_second v_kind v_number v_group v_over n_tp_fault n_tp_faultAt n_tp_at n_size n_first n_second n_kind n_number n_group n_over) ∧ (ws' = ((wX1 cI cB cJ h q n_size n_first n_second n_kind n_number n_group n_over) ++ (wX7 cI cB cJ h_tp q_tp v_tp_length v_tp_end n_tp_at n_tp_fault n_tp_faultAt v_tp_bytes v_tp_taken)))) := by
  refine hdrV (own := RX1) rfl (by decide +kernel) (Nat.le_of_ble_eq_true rfl) ?_
  intro p e s m args below meth c Q A X hQ
  refine g_lvE (lv2 := [(0, .ref h), (1, .ref h_tp)]) rfl ?_
  refine g_aload_n X dX1_readLine_0 1 rfl ?_
  refine gN_get X (T := TX7) 7 rfl rfl inU_X7 4 (by decide) nw141 rfl rfl dX1_readLine_1 ?_
  refine g_istore_n X (lv' := [(2, vI v_tp_at), (0, .ref h), (1, .ref h_tp)]) dX1_readLine_4 (by decide) rfl ?_
  refine g_aload_n X dX1_readLine_5 2 rfl ?_
  refine g_bipush X (z := 97) dX1_readLine_6 (by decide) ?_
  refine g_bipush X (z := 12) dX1_readLine_8 (by decide) ?_
  refine g_callVIw X (c_X7_oneOf l D cI cB cJ h_tp q_tp (p0 := 97) (p1 := 12) (by omega) (by omega) (by omega) (by omega) r_v_tp_bytes (by first | assumption | omega) (by first | assumption | omega) (by first | assumption | omega) (by first | assumption | omega) (by first | assumption | omega)) [7, 8, 9] rfl rfl rfl cv_X7_oneOf uw642 ⟨rfl, rfl, by decide, by decide⟩ 0 rfl rfl rfl rfl rfl (Nat.le_of_ble_eq_true rfl) ⟨Nat.zero_le _, Nat.zero_le _⟩ dX1_readLine_10 (fun t10 ws10 k10 => ?_)
  obtain ⟨tp_at_10, tp_fault_10, tp_faultAt_10, kr_tp_at_10, kr_tp_fault_10, kr_tp_faultAt_10, kp0_10, kp1_10, kp2_10, kp3_10, kp4_10, kp5_10, kp6_10, rfl⟩ := k10
  refine ⟨rfl, ?_⟩
  refine g_ws (ws2 := ((wX1 cI cB cJ h q v_size v_first v_second v_kind v_number v_group v_over) ++ (wX7 cI cB cJ h_tp q_tp v_tp_length v_tp_end tp_at_10 tp_fault_10 tp_faultAt_10 v_tp_bytes v_tp_taken))) rfl ?_
  refine g_istore_n X (lv' := [(3, vI t10), (2, vI v_tp_at), (0, .ref h), (1, .ref h_tp)]) dX1_readLine_13 (by decide) rfl ?_
  have J29 : ∀ (tp_fault_29 : Int) (tp_faultAt_29 : Int), (0 ≤ tp_fault_29 ∧ tp_fault_29 ≤ 8) → (0 ≤ tp_faultAt_29 ∧ tp_faultAt_29 ≤ 260) → (TG v_tp_fault v_tp_faultAt v_tp_at tp_fault_29 tp_faultAt_29 tp_at_10 (l2 (sgP v_tp_end v_tp_bytes) v_size v_tp_at) (v_tp_at + 1)) → (tp_fault_29 = 0 → v_tp_fault = 0 ∧ t10 = (sgP v_tp_end v_tp_bytes) v_tp_at - 97 ∧ 0 ≤ t10 ∧ v_size ≤ 39) → (v_tp_fault ≠ 0 → tp_fault_29 ≠ 0) → GG p l e ⟨2, 0, 0, 45⟩ s m args below meth c 0 0 Q D A s.heap 9 ((wX1 cI cB cJ h q v_size v_first v_second v_kind v_number v_group v_over) ++ (wX7 cI cB cJ h_tp q_tp v_tp_length v_tp_end tp_at_10 tp_fault_29 tp_faultAt_29 v_tp_bytes v_tp_taken)) 29 [(0, .ref h), (1, .ref h_tp), (2, vI v_tp_at), (3, vI t10)] [] := by
    intro tp_fault_29 tp_faultAt_29 kr_tp_fault_29 kr_tp_faultAt_29 w29_0 w29_1 w29_2
    refine g_aload_n X dX1_readLine_29 1 rfl ?_
    refine g_bipush X (z := 45) dX1_readLine_30 (by decide) ?_
    refine g_callVVw X (c_X7_pass l D cI cB cJ h_tp q_tp (p0 := 45) (by omega) (by omega) (by omega) (by omega) r_v_tp_bytes (by first | assumption | omega) (by first | assumption | omega) (by first | assumption | omega)) [7, 8, 9] rfl rfl rfl cv_X7_pass uw647 ⟨rfl, rfl, by decide, by decide⟩ 0 rfl rfl rfl rfl rfl (Nat.le_of_ble_eq_true rfl) ⟨Nat.zero_le _, Nat.zero_le _⟩ dX1_readLine_32 (fun ws32 k32 => ?_)
    obtain ⟨tp_at_32, tp_fault_32, tp_faultAt_32, kr_tp_at_32, kr_tp_fault_32, kr_tp_faultAt_32, kp0_32, kp1_32, kp2_32, kp3_32, rfl⟩ := k32
    refine ⟨rfl, ?_⟩
    refine g_ws (ws2 := ((wX1 cI cB cJ h q v_size v_first v_second v_kind v_number v_group v_over) ++ (wX7 cI cB cJ h_tp q_tp v_tp_length v_tp_end tp_at_32 tp_fault_32 tp_faultAt_32 v_tp_bytes v_tp_taken))) rfl ?_
    refine g_aload_n X dX1_readLine_35 1 rfl ?_
    refine gN_get X (T := TX7) 7 rfl rfl inU_X7 4 (by decide) nw141 rfl rfl dX1_readLine_36 ?_
    refine g_istore X (lv' := [(4, vI tp_at_32), (0, .ref h), (1, .ref h_tp), (2, vI v_tp_at), (3, vI t10)]) dX1_readLine_39 (by decide) rfl ?_
    refine g_aload_n X dX1_readLine_41 2 rfl ?_
    refine g_bipush X (z := 97) dX1_readLine_42 (by decide) ?_
    refine g_bipush X (z := 12) dX1_readLine_44 (by decide) ?_
    refine g_callVIw X (c_X7_oneOf l D cI cB cJ h_tp q_tp (p0 := 97) (p1 := 12) (by omega) (by omega) (by omega) (by omega) r_v_tp_bytes (by first | assumption | omega) (by first | assumption | omega) (by first | assumption | omega) (by first | assumption | omega) (by first | assumption | omega)) [7, 8, 9] rfl rfl rfl cv_X7_oneOf uw642 ⟨rfl, rfl, by decide, by decide⟩ 0 rfl rfl rfl rfl rfl (Nat.le_of_ble_eq_true rfl) ⟨Nat.zero_le _, Nat.zero_le _⟩ dX1_readLine_46 (fun t46 ws46 k46 => ?_)
    obtain ⟨tp_at_46, tp_fault_46, tp_faultAt_46, kr_tp_at_46, kr_tp_fault_46, kr_tp_faultAt_46, kp0_46, kp1_46, kp2_46, kp3_46, kp4_46, kp5_46, kp6_46, rfl⟩ := k46
    refine ⟨rfl, ?_⟩
    refine g_ws (ws2 := ((wX1 cI cB cJ h q v_size v_first v_second v_kind v_number v_group v_over) ++ (wX7 cI cB cJ h_tp q_tp v_tp_length v_tp_end tp_at_46 tp_fault_46 tp_faultAt_46 v_tp_bytes v_tp_taken))) rfl ?_
    refine g_istore X (lv' := [(5, vI t46), (4, vI tp_at_32), (0, .ref h), (1, .ref h_tp), (2, vI v_tp_at), (3, vI t10)]) dX1_readLine_49 (by decide) rfl ?_
    have J65 : ∀ (tp_fault_65 : Int) (tp_faultAt_65 : Int), (0 ≤ tp_fault_65 ∧ tp_fault_65 ≤ 8) → (0 ≤ tp_faultAt_65 ∧ tp_faultAt_65 ≤ 260) → (TG v_tp_fault v_tp_faultAt v_tp_at tp_fault_65 tp_faultAt_65 tp_at_46 (l5 (sgP v_tp_end v_tp_bytes) v_size v_tp_at) (v_tp_at + 1 + 1 + 1)) → (tp_fault_65 = 0 → v_tp_fault = 0 ∧ t10 = (sgP v_tp_end v_tp_bytes) v_tp_at - 97 ∧ 0 ≤ t10 ∧ v_size ≤ 39 ∧ t46 = (sgP v_tp_end v_tp_bytes) (v_tp_at + 1 + 1) - 97 ∧ 0 ≤ t46) → (v_tp_fault ≠ 0 → tp_fault_65 ≠ 0) → GG p l e ⟨2, 0, 0, 45⟩ s m args below meth c 0 0 Q D A s.heap 9 ((wX1 cI cB cJ h q v_size v_first v_second v_kind v_number v_group v_over) ++ (wX7 cI cB cJ h_tp q_tp v_tp_length v_tp_end tp_at_46 tp_fault_65 tp_faultAt_65 v_tp_bytes v_tp_taken)) 65 [(0, .ref h), (1, .ref h_tp), (2, vI v_tp_at), (3, vI t10), (5, vI t46)] [] := by
      intro tp_fault_65 tp_faultAt_65 kr_tp_fault_65 kr_tp_faultAt_65 w65_0 w65_1 w65_2
      refine g_aload_n X dX1_readLine_65 1 rfl ?_
      refine g_callSIw X (c_X1_readKind l D cI cB cJ h_tp q_tp  (by omega) (by omega) (by omega) (by omega) r_v_tp_bytes (by first | assumption | omega)) [7, 8, 9] rfl rfl rfl cv_X1_readKind uw648 ⟨rfl, rfl, by decide, by decide⟩ rfl rfl (Nat.le_of_ble_eq_true rfl) ⟨Nat.zero_le _, Nat.zero_le _⟩ dX1_readLine_66 (fun t66 ws66 k66 => ?_)
      obtain ⟨tp_at_66, tp_fault_66, tp_faultAt_66, kr_tp_at_66, kr_tp_fault_66, kr_tp_faultAt_66, kp0_66, kp1_66, kp2_66, kp3_66, kp4_66, rfl⟩ := k66
      refine ⟨rfl, ?_⟩
      refine g_ws (ws2 := ((wX1 cI cB cJ h q v_size v_first v_second v_kind v_number v_group v_over) ++ (wX7 cI cB cJ h_tp q_tp v_tp_length v_tp_end tp_at_66 tp_fault_66 tp_faultAt_66 v_tp_bytes v_tp_taken))) rfl ?_
      refine g_istore X (lv' := [(6, vI t66), (0, .ref h), (1, .ref h_tp), (2, vI v_tp_at), (3, vI t10), (5, vI t46)]) dX1_readLine_69 (by decide) rfl ?_
      have J96 : ∀ (x7_96 : Int) (tp_at_96 : Int), (0 ≤ tp_at_96 ∧ tp_at_96 ≤ 260) → (TG v_tp_fault v_tp_faultAt v_tp_at tp_fault_66 tp_faultAt_66 tp_at_96 (l6 (sgP v_tp_end v_tp_bytes) v_size v_tp_at) (mnQ (sgP v_tp_end v_tp_bytes) (v_tp_at + 1 + 1 + 1 + 1))) → (0 ≤ x7_96 ∧ x7_96 ≤ 1) → (tp_fault_66 = 0 → ((sgP v_tp_end v_tp_bytes) (v_tp_at + 1 + 1 + 1 + 1) = 45 ∧ x7_96 = 1) ∨ ((sgP v_tp_end v_tp_bytes) (v_tp_at + 1 + 1 + 1 + 1) ≠ 45 ∧ x7_96 = 0)) → (tp_at_96 ≤ v_tp_end) → GG p l e ⟨2, 0, 0, 45⟩ s m args below meth c 0 0 Q D A s.heap 9 ((wX1 cI cB cJ h q v_size v_first v_second v_kind v_number v_group v_over) ++ (wX7 cI cB cJ h_tp q_tp v_tp_length v_tp_end tp_at_96 tp_fault_66 tp_faultAt_66 v_tp_bytes v_tp_taken)) 96 [(0, .ref h), (1, .ref h_tp), (2, vI v_tp_at), (3, vI t10), (5, vI t46), (6, vI t66), (7, vI x7_96)] [] := by
        intro x7_96 tp_at_96 kr_tp_at_96 w96_0 w96_1 w96_2 w96_3
        refine g_aload_n X dX1_readLine_96 1 rfl ?_
        refine g_iconst X dX1_readLine_97 ?_
        refine g_callVIw X (c_X7_number l D cI cB cJ h_tp q_tp (p0 := 4) (by omega) (by omega) (by omega) (by omega) r_v_tp_bytes (by first | assumption | omega) (by first | assumption | omega) (by first | assumption | omega)) [7, 8, 9] rfl rfl rfl cv_X7_number uw653 ⟨rfl, rfl, by decide, by decide⟩ 0 rfl rfl rfl rfl rfl (Nat.le_of_ble_eq_true rfl) ⟨Nat.zero_le _, Nat.zero_le _⟩ dX1_readLine_98 (fun t98 ws98 k98 => ?_)
        obtain ⟨tp_at_98, tp_fault_98, tp_faultAt_98, kr_tp_at_98, kr_tp_fault_98, kr_tp_faultAt_98, kp0_98, kp1_98, kp2_98, kp3_98, kp4_98, kp5_98, kp6_98, kp7_98, rfl⟩ := k98
        refine ⟨rfl, ?_⟩
        refine g_ws (ws2 := ((wX1 cI cB cJ h q v_size v_first v_second v_kind v_number v_group v_over) ++ (wX7 cI cB cJ h_tp q_tp v_tp_length v_tp_end tp_at_98 tp_fault_98 tp_faultAt_98 v_tp_bytes v_tp_taken))) rfl ?_
        refine g_istore X (lv' := [(8, vI t98), (0, .ref h), (1, .ref h_tp), (2, vI v_tp_at), (3, vI t10), (5, vI t46), (6, vI t66), (7, vI x7_96)]) dX1_readLine_101 (by decide) rfl ?_
        have hT7 : TG v_tp_fault v_tp_faultAt v_tp_at tp_fault_98 tp_faultAt_98 tp_at_98 (l7 (sgP v_tp_end v_tp_bytes) v_size v_tp_at) (lnQ (sgP v_tp_end v_tp_bytes) v_tp_at) := TG.trans (aC (sgP v_tp_end v_tp_bytes) 4) (aQ (sgP v_tp_end v_tp_bytes) 4) w96_0 kp6_98
        have hZ : tp_fault_98 = 0 → v_tp_fault = 0 ∧ t10 = (sgP v_tp_end v_tp_bytes) v_tp_at - 97 ∧ 0 ≤ t10 ∧ v_size ≤ 39 ∧ t46 = (sgP v_tp_end v_tp_bytes) (v_tp_at + 1 + 1) - 97 ∧ 0 ≤ t46 ∧ t66 = kdV (sgP v_tp_end v_tp_bytes) (v_tp_at + 1 + 1 + 1) ∧ t98 = aV (sgP v_tp_end v_tp_bytes) 4 (mnQ (sgP v_tp_end v_tp_bytes) (v_tp_at + 1 + 1 + 1 + 1)) ∧ (((sgP v_tp_end v_tp_bytes) (v_tp_at + 1 + 1 + 1 + 1) = 45 ∧ x7_96 = 1) ∨ ((sgP v_tp_end v_tp_bytes) (v_tp_at + 1 + 1 + 1 + 1) ≠ 45 ∧ x7_96 = 0)) := fun h => by have i1 := kp7_98 h; have i2 := w96_2 i1.1; have i3 := TG.at0 w96_0 i1.1; have i4 := kp4_66 i1.1; have i5 := w65_1 i4.1; have i6 := TG.at0 w65_0 i4.1; have i7 : kdV (sgP v_tp_end v_tp_bytes) tp_at_46 = kdV (sgP v_tp_end v_tp_bytes) (v_tp_at + 1 + 1 + 1) := congrArg _ i6.2.2; have i8 : aV (sgP v_tp_end v_tp_bytes) 4 tp_at_96 = aV (sgP v_tp_end v_tp_bytes) 4 (mnQ (sgP v_tp_end v_tp_bytes) (v_tp_at + 1 + 1 + 1 + 1)) := congrArg _ i3.2.2; have i9 : t98 = aV (sgP v_tp_end v_tp_bytes) 4 tp_at_96 := i1.2; omega
        refine g_aload_n X dX1_readLine_103 2 rfl ?_
        refine g_callVIw X (c_X7_hasFailed l D cI cB cJ h_tp q_tp  (by omega)) [7, 8, 9] rfl rfl rfl cv_X7_hasFailed uw654 ⟨rfl, rfl, by decide, by decide⟩ 0 rfl rfl rfl rfl rfl (Nat.le_of_ble_eq_true rfl) ⟨Nat.zero_le _, Nat.zero_le _⟩ dX1_readLine_104 (fun t104 ws104 k104 => ?_)
        obtain ⟨kb_104, ⟨kp0_104, rfl⟩⟩ := k104
        refine ⟨rfl, ?_⟩
        refine g_ws (ws2 := ((wX1 cI cB cJ h q v_size v_first v_second v_kind v_number v_group v_over) ++ (wX7 cI cB cJ h_tp q_tp v_tp_length v_tp_end tp_at_98 tp_fault_98 tp_faultAt_98 v_tp_bytes v_tp_taken))) rfl ?_
        refine g_if_eq X (tgt := 111) dX1_readLine_107 (by decide) (by omega) (fun c107 => ?_) (fun c107 => ?_)
        · clear kb_104
          replace kp0_104 := (kp0_104.resolve_left (fun h => absurd h.1 (by omega))).2
          have hz := hZ (by omega)
          have hlv := lnV_e (sgP v_tp_end v_tp_bytes) v_tp_at
          refine g_aload_n X dX1_readLine_111 1 rfl ?_
          refine g_iload_n X dX1_readLine_112 4 rfl ?_
          refine g_iload X dX1_readLine_113 5 rfl ?_
          refine g_iload X dX1_readLine_115 6 rfl ?_
          refine g_iload X dX1_readLine_117 7 rfl ?_
          refine g_if_eq X (tgt := 128) dX1_readLine_119 (by decide) (by omega) (fun c119 => ?_) (fun c119 => ?_)
          · refine g_iload X dX1_readLine_128 0 rfl ?_
            refine g_callVVw X (c_X1_add l D cI cB cJ h q (p0 := t10) (p1 := t46) (p2 := t66) (p3 := t98) (by omega) r_v_first r_v_second r_v_kind r_v_number (by first | assumption | omega) (by first | assumption | omega) (by first | assumption | omega) (by first | assumption | omega) (by first | assumption | omega) (by first | assumption | omega) (by first | assumption | omega) (by first | assumption | omega) (by first | assumption | omega)) [0, 1, 2, 3, 4, 5, 6] rfl rfl rfl cv_X1_add uw655 ⟨rfl, rfl, by decide, by decide⟩ 0 rfl rfl rfl rfl rfl (Nat.le_of_ble_eq_true rfl) ⟨Nat.zero_le _, Nat.zero_le _⟩ dX1_readLine_130 (fun ws130 k130 => ?_)
            obtain ⟨size_130, first_130, second_130, kind_130, number_130, kr_size_130, r_first_130, r_second_130, r_kind_130, r_number_130, kp0_130, kp1_130, kp2_130, kp3_130, kp4_130, rfl⟩ := k130
            refine ⟨rfl, ?_⟩
            refine g_ws (ws2 := ((wX1 cI cB cJ h q size_130 first_130 second_130 kind_130 number_130 v_group v_over) ++ (wX7 cI cB cJ h_tp q_tp v_tp_length v_tp_end tp_at_98 tp_fault_98 tp_faultAt_98 v_tp_bytes v_tp_taken))) rfl ?_
            have hnum : number_130 = updZ v_number v_size.toNat (lnV (sgP v_tp_end v_tp_bytes) v_tp_at) := by rw [kp4_130]; congr 1; omega
            refine g_iload X dX1_readLine_133 6 rfl ?_
            refine g_if_ne X (tgt := 166) dX1_readLine_135 (by decide) (by omega) (fun c135 => ?_) (fun c135 => ?_)
            · have hR : RLo (sgP v_tp_end v_tp_bytes) v_tp_fault v_tp_faultAt v_tp_at v_size v_first v_second v_kind v_number v_group v_over tp_fault_98 tp_faultAt_98 tp_at_98 size_130 first_130 second_130 kind_130 number_130 v_group v_over := by first | exact RLo.ok hT7 (by omega) (by omega) (by rw [kp1_130, hz.2.1]) (by rw [kp2_130, hz.2.2.2.2.1]) (by rw [kp3_130, hz.2.2.2.2.2.2.1]) hnum (Or.inl ⟨by omega, by omega, rfl, rfl⟩) | exact RLo.ok hT7 (by omega) (by omega) (by rw [kp1_130, hz.2.1]) (by rw [kp2_130, hz.2.2.2.2.1]) (by rw [kp3_130, hz.2.2.2.2.2.2.1]) hnum (Or.inr ⟨by omega, _, by have h9 := kp0_153; rw [h152, hz.2.1, hz.2.2.2.2.1] at h9; exact h9, Or.inl ⟨by omega, by omega⟩⟩) | exact RLo.ok hT7 (by omega) (by omega) (by rw [kp1_130, hz.2.1]) (by rw [kp2_130, hz.2.2.2.2.1]) (by rw [kp3_130, hz.2.2.2.2.2.2.1]) hnum (Or.inr ⟨by omega, _, by have h9 := kp0_153; rw [h152, hz.2.1, hz.2.2.2.2.1] at h9; exact h9, Or.inr ⟨by omega, by omega, by have h8 := TG.bad kp1_163 (by omega) (by omega); omega⟩⟩)
              exact hQ _ _ _ dX1_readLine_166 ⟨size_130, first_130, second_130, kind_130, number_130, v_group, v_over, tp_at_98, tp_fault_98, tp_faultAt_98, (by omega), r_first_130, r_second_130, r_kind_130, r_number_130, r_v_group, r_v_over, (by omega), (by omega), (by omega), (by first | assumption | omega), (by exact hR), rfl⟩
            · refine g_aload_n X dX1_readLine_138 1 rfl ?_
              refine g_iload_n X dX1_readLine_139 4 rfl ?_
              refine g_iload X dX1_readLine_140 5 rfl ?_
              refine g_aload_n X dX1_readLine_142 1 rfl ?_
              refine gX1_get X 0 rfl 4 (by decide) uw182 rfl dX1_readLine_143 ?_
              refine g_aload_n X dX1_readLine_146 1 rfl ?_
              refine gX1_get X 0 rfl 0 (by decide) uw170 rfl dX1_readLine_147 ?_
              refine g_iconst X dX1_readLine_150 ?_
              refine g_isub X dX1_readLine_151 ?_
              refine g_iald X 4 0 rfl rfl (by omega) (by decide) dX1_readLine_152 (fun t152 e152 => ?_)
              have r152 := r_number_130 (size_130 - 1 : Int).toNat; rw [← e152] at r152
              have h152 : t152 = lnV (sgP v_tp_end v_tp_bytes) v_tp_at := by rw [e152, hnum, show (size_130 - 1).toNat = v_size.toNat by omega, updZ_s]
              refine g_callVIw X (c_X1_join l D cI cB cJ h q (p0 := t10) (p1 := t46) (p2 := t152) r_v_group r_v_over (by first | assumption | omega) (by first | assumption | omega) (by first | assumption | omega) (by first | assumption | omega) (by first | assumption | omega)) [0, 1, 2, 3, 4, 5, 6] rfl rfl rfl cv_X1_join uw659 ⟨rfl, rfl, by decide, by decide⟩ 0 rfl rfl rfl rfl rfl (Nat.le_of_ble_eq_true rfl) ⟨Nat.zero_le _, Nat.zero_le _⟩ dX1_readLine_153 (fun t153 ws153 k153 => ?_)
              obtain ⟨kb_153, ⟨group_153, over_153, r_group_153, r_over_153, kp0_153, rfl⟩⟩ := k153
              refine ⟨rfl, ?_⟩
              refine g_ws (ws2 := ((wX1 cI cB cJ h q size_130 first_130 second_130 kind_130 number_130 group_153 over_153) ++ (wX7 cI cB cJ h_tp q_tp v_tp_length v_tp_end tp_at_98 tp_fault_98 tp_faultAt_98 v_tp_bytes v_tp_taken))) rfl ?_
              refine g_if_ne X (tgt := 166) dX1_readLine_156 (by decide) (by omega) (fun c156 => ?_) (fun c156 => ?_)
              · replace kb_153 := kb_153.resolve_left (fun h => c156 h)
                have hR : RLo (sgP v_tp_end v_tp_bytes) v_tp_fault v_tp_faultAt v_tp_at v_size v_first v_second v_kind v_number v_group v_over tp_fault_98 tp_faultAt_98 tp_at_98 size_130 first_130 second_130 kind_130 number_130 group_153 over_153 := by first | exact RLo.ok hT7 (by omega) (by omega) (by rw [kp1_130, hz.2.1]) (by rw [kp2_130, hz.2.2.2.2.1]) (by rw [kp3_130, hz.2.2.2.2.2.2.1]) hnum (Or.inl ⟨by omega, by omega, rfl, rfl⟩) | exact RLo.ok hT7 (by omega) (by omega) (by rw [kp1_130, hz.2.1]) (by rw [kp2_130, hz.2.2.2.2.1]) (by rw [kp3_130, hz.2.2.2.2.2.2.1]) hnum (Or.inr ⟨by omega, _, by have h9 := kp0_153; rw [h152, hz.2.1, hz.2.2.2.2.1] at h9; exact h9, Or.inl ⟨by omega, by omega⟩⟩) | exact RLo.ok hT7 (by omega) (by omega) (by rw [kp1_130, hz.2.1]) (by rw [kp2_130, hz.2.2.2.2.1]) (by rw [kp3_130, hz.2.2.2.2.2.2.1]) hnum (Or.inr ⟨by omega, _, by have h9 := kp0_153; rw [h152, hz.2.1, hz.2.2.2.2.1] at h9; exact h9, Or.inr ⟨by omega, by omega, by have h8 := TG.bad kp1_163 (by omega) (by omega); omega⟩⟩)
                exact hQ _ _ _ dX1_readLine_166 ⟨size_130, first_130, second_130, kind_130, number_130, group_153, over_153, tp_at_98, tp_fault_98, tp_faultAt_98, (by omega), r_first_130, r_second_130, r_kind_130, r_number_130, r_group_153, r_over_153, (by omega), (by omega), (by omega), (by first | assumption | omega), (by exact hR), rfl⟩
              · clear kb_153
                refine g_aload_n X dX1_readLine_159 2 rfl ?_
                refine g_bipush X (z := 8) dX1_readLine_160 (by decide) ?_
                refine g_iload_n X dX1_readLine_162 3 rfl ?_
                refine g_callVVw X (c_X7_fail l D cI cB cJ h_tp q_tp (p0 := 8) (p1 := v_tp_at) (by omega) (by omega) (by first | assumption | omega) (by first | assumption | omega) (by first | assumption | omega) (by first | assumption | omega)) [7, 8, 9] rfl rfl rfl cv_X7_fail uw646 ⟨rfl, rfl, by decide, by decide⟩ 0 rfl rfl rfl rfl rfl (Nat.le_of_ble_eq_true rfl) ⟨Nat.zero_le _, Nat.zero_le _⟩ dX1_readLine_163 (fun ws163 k163 => ?_)
                obtain ⟨tp_fault_163, tp_faultAt_163, kr_tp_fault_163, kr_tp_faultAt_163, kp0_163, kp1_163, rfl⟩ := k163
                refine ⟨rfl, ?_⟩
                refine g_ws (ws2 := ((wX1 cI cB cJ h q size_130 first_130 second_130 kind_130 number_130 group_153 over_153) ++ (wX7 cI cB cJ h_tp q_tp v_tp_length v_tp_end tp_at_98 tp_fault_163 tp_faultAt_163 v_tp_bytes v_tp_taken))) rfl ?_
                have hR : RLo (sgP v_tp_end v_tp_bytes) v_tp_fault v_tp_faultAt v_tp_at v_size v_first v_second v_kind v_number v_group v_over tp_fault_163 tp_faultAt_163 tp_at_98 size_130 first_130 second_130 kind_130 number_130 group_153 over_153 := by first | exact RLo.ok hT7 (by omega) (by omega) (by rw [kp1_130, hz.2.1]) (by rw [kp2_130, hz.2.2.2.2.1]) (by rw [kp3_130, hz.2.2.2.2.2.2.1]) hnum (Or.inl ⟨by omega, by omega, rfl, rfl⟩) | exact RLo.ok hT7 (by omega) (by omega) (by rw [kp1_130, hz.2.1]) (by rw [kp2_130, hz.2.2.2.2.1]) (by rw [kp3_130, hz.2.2.2.2.2.2.1]) hnum (Or.inr ⟨by omega, _, by have h9 := kp0_153; rw [h152, hz.2.1, hz.2.2.2.2.1] at h9; exact h9, Or.inl ⟨by omega, by omega⟩⟩) | exact RLo.ok hT7 (by omega) (by omega) (by rw [kp1_130, hz.2.1]) (by rw [kp2_130, hz.2.2.2.2.1]) (by rw [kp3_130, hz.2.2.2.2.2.2.1]) hnum (Or.inr ⟨by omega, _, by have h9 := kp0_153; rw [h152, hz.2.1, hz.2.2.2.2.1] at h9; exact h9, Or.inr ⟨by omega, by omega, by have h8 := TG.bad kp1_163 (by omega) (by omega); omega⟩⟩)
                exact hQ _ _ _ dX1_readLine_166 ⟨size_130, first_130, second_130, kind_130, number_130, group_153, over_153, tp_at_98, tp_fault_163, tp_faultAt_163, (by omega), r_first_130, r_second_130, r_kind_130, r_number_130, r_group_153, r_over_153, (by omega), (by omega), (by omega), (by first | assumption | omega), (by exact hR), rfl⟩
          · refine g_iload X dX1_readLine_122 0 rfl ?_
            refine g_ineg X dX1_readLine_124 ?_
            refine g_goto X (tgt := 130) dX1_readLine_125 (by decide) ?_
            refine g_callVVw X (c_X1_add l D cI cB cJ h q (p0 := t10) (p1 := t46) (p2 := t66) (p3 := -t98) (by omega) r_v_first r_v_second r_v_kind r_v_number (by first | assumption | omega) (by first | assumption | omega) (by first | assumption | omega) (by first | assumption | omega) (by first | assumption | omega) (by first | assumption | omega) (by first | assumption | omega) (by first | assumption | omega) (by first | assumption | omega)) [0, 1, 2, 3, 4, 5, 6] rfl rfl rfl cv_X1_add uw655 ⟨rfl, rfl, by decide, by decide⟩ 0 rfl rfl rfl rfl rfl (Nat.le_of_ble_eq_true rfl) ⟨Nat.zero_le _, Nat.zero_le _⟩ dX1_readLine_130 (fun ws130 k130 => ?_)
            obtain ⟨size_130, first_130, second_130, kind_130, number_130, kr_size_130, r_first_130, r_second_130, r_kind_130, r_number_130, kp0_130, kp1_130, kp2_130, kp3_130, kp4_130, rfl⟩ := k130
            refine ⟨rfl, ?_⟩
            refine g_ws (ws2 := ((wX1 cI cB cJ h q size_130 first_130 second_130 kind_130 number_130 v_group v_over) ++ (wX7 cI cB cJ h_tp q_tp v_tp_length v_tp_end tp_at_98 tp_fault_98 tp_faultAt_98 v_tp_bytes v_tp_taken))) rfl ?_
            have hnum : number_130 = updZ v_number v_size.toNat (lnV (sgP v_tp_end v_tp_bytes) v_tp_at) := by rw [kp4_130]; congr 1; omega
            refine g_iload X dX1_readLine_133 6 rfl ?_
            refine g_if_ne X (tgt := 166) dX1_readLine_135 (by decide) (by omega) (fun c135 => ?_) (fun c135 => ?_)
            · have hR : RLo (sgP v_tp_end v_tp_bytes) v_tp_fault v_tp_faultAt v_tp_at v_size v_first v_second v_kind v_number v_group v_over tp_fault_98 tp_faultAt_98 tp_at_98 size_130 first_130 second_130 kind_130 number_130 v_group v_over := by first | exact RLo.ok hT7 (by omega) (by omega) (by rw [kp1_130, hz.2.1]) (by rw [kp2_130, hz.2.2.2.2.1]) (by rw [kp3_130, hz.2.2.2.2.2.2.1]) hnum (Or.inl ⟨by omega, by omega, rfl, rfl⟩) | exact RLo.ok hT7 (by omega) (by omega) (by rw [kp1_130, hz.2.1]) (by rw [kp2_130, hz.2.2.2.2.1]) (by rw [kp3_130, hz.2.2.2.2.2.2.1]) hnum (Or.inr ⟨by omega, _, by have h9 := kp0_153; rw [h152, hz.2.1, hz.2.2.2.2.1] at h9; exact h9, Or.inl ⟨by omega, by omega⟩⟩) | exact RLo.ok hT7 (by omega) (by omega) (by rw [kp1_130, hz.2.1]) (by rw [kp2_130, hz.2.2.2.2.1]) (by rw [kp3_130, hz.2.2.2.2.2.2.1]) hnum (Or.inr ⟨by omega, _, by have h9 := kp0_153; rw [h152, hz.2.1, hz.2.2.2.2.1] at h9; exact h9, Or.inr ⟨by omega, by omega, by have h8 := TG.bad kp1_163 (by omega) (by omega); omega⟩⟩)
              exact hQ _ _ _ dX1_readLine_166 ⟨size_130, first_130, second_130, kind_130, number_130, v_group, v_over, tp_at_98, tp_fault_98, tp_faultAt_98, (by omega), r_first_130, r_second_130, r_kind_130, r_number_130, r_v_group, r_v_over, (by omega), (by omega), (by omega), (by first | assumption | omega), (by exact hR), rfl⟩
            · refine g_aload_n X dX1_readLine_138 1 rfl ?_
              refine g_iload_n X dX1_readLine_139 4 rfl ?_
              refine g_iload X dX1_readLine_140 5 rfl ?_
              refine g_aload_n X dX1_readLine_142 1 rfl ?_
              refine gX1_get X 0 rfl 4 (by decide) uw182 rfl dX1_readLine_143 ?_
              refine g_aload_n X dX1_readLine_146 1 rfl ?_
              refine gX1_get X 0 rfl 0 (by decide) uw170 rfl dX1_readLine_147 ?_
              refine g_iconst X dX1_readLine_150 ?_
              refine g_isub X dX1_readLine_151 ?_
              refine g_iald X 4 0 rfl rfl (by omega) (by decide) dX1_readLine_152 (fun t152 e152 => ?_)
              have r152 := r_number_130 (size_130 - 1 : Int).toNat; rw [← e152] at r152
              have h152 : t152 = lnV (sgP v_tp_end v_tp_bytes) v_tp_at := by rw [e152, hnum, show (size_130 - 1).toNat = v_size.toNat by omega, updZ_s]
              refine g_callVIw X (c_X1_join l D cI cB cJ h q (p0 := t10) (p1 := t46) (p2 := t152) r_v_group r_v_over (by first | assumption | omega) (by first | assumption | omega) (by first | assumption | omega) (by first | assumption | omega) (by first | assumption | omega)) [0, 1, 2, 3, 4, 5, 6] rfl rfl rfl cv_X1_join uw659 ⟨rfl, rfl, by decide, by decide⟩ 0 rfl rfl rfl rfl rfl (Nat.le_of_ble_eq_true rfl) ⟨Nat.zero_le _, Nat.zero_le _⟩ dX1_readLine_153 (fun t153 ws153 k153 => ?_)
              obtain ⟨kb_153, ⟨group_153, over_153, r_group_153, r_over_153, kp0_153, rfl⟩⟩ := k153
              refine ⟨rfl, ?_⟩
              refine g_ws (ws2 := ((wX1 cI cB cJ h q size_130 first_130 second_130 kind_130 number_130 group_153 over_153) ++ (wX7 cI cB cJ h_tp q_tp v_tp_length v_tp_end tp_at_98 tp_fault_98 tp_faultAt_98 v_tp_bytes v_tp_taken))) rfl ?_
              refine g_if_ne X (tgt := 166) dX1_readLine_156 (by decide) (by omega) (fun c156 => ?_) (fun c156 => ?_)
              · replace kb_153 := kb_153.resolve_left (fun h => c156 h)
                have hR : RLo (sgP v_tp_end v_tp_bytes) v_tp_fault v_tp_faultAt v_tp_at v_size v_first v_second v_kind v_number v_group v_over tp_fault_98 tp_faultAt_98 tp_at_98 size_130 first_130 second_130 kind_130 number_130 group_153 over_153 := by first | exact RLo.ok hT7 (by omega) (by omega) (by rw [kp1_130, hz.2.1]) (by rw [kp2_130, hz.2.2.2.2.1]) (by rw [kp3_130, hz.2.2.2.2.2.2.1]) hnum (Or.inl ⟨by omega, by omega, rfl, rfl⟩) | exact RLo.ok hT7 (by omega) (by omega) (by rw [kp1_130, hz.2.1]) (by rw [kp2_130, hz.2.2.2.2.1]) (by rw [kp3_130, hz.2.2.2.2.2.2.1]) hnum (Or.inr ⟨by omega, _, by have h9 := kp0_153; rw [h152, hz.2.1, hz.2.2.2.2.1] at h9; exact h9, Or.inl ⟨by omega, by omega⟩⟩) | exact RLo.ok hT7 (by omega) (by omega) (by rw [kp1_130, hz.2.1]) (by rw [kp2_130, hz.2.2.2.2.1]) (by rw [kp3_130, hz.2.2.2.2.2.2.1]) hnum (Or.inr ⟨by omega, _, by have h9 := kp0_153; rw [h152, hz.2.1, hz.2.2.2.2.1] at h9; exact h9, Or.inr ⟨by omega, by omega, by have h8 := TG.bad kp1_163 (by omega) (by omega); omega⟩⟩)
                exact hQ _ _ _ dX1_readLine_166 ⟨size_130, first_130, second_130, kind_130, number_130, group_153, over_153, tp_at_98, tp_fault_98, tp_faultAt_98, (by omega), r_first_130, r_second_130, r_kind_130, r_number_130, r_group_153, r_over_153, (by omega), (by omega), (by omega), (by first | assumption | omega), (by exact hR), rfl⟩
              · clear kb_153
                refine g_aload_n X dX1_readLine_159 2 rfl ?_
                refine g_bipush X (z := 8) dX1_readLine_160 (by decide) ?_
                refine g_iload_n X dX1_readLine_162 3 rfl ?_
                refine g_callVVw X (c_X7_fail l D cI cB cJ h_tp q_tp (p0 := 8) (p1 := v_tp_at) (by omega) (by omega) (by first | assumption | omega) (by first | assumption | omega) (by first | assumption | omega) (by first | assumption | omega)) [7, 8, 9] rfl rfl rfl cv_X7_fail uw646 ⟨rfl, rfl, by decide, by decide⟩ 0 rfl rfl rfl rfl rfl (Nat.le_of_ble_eq_true rfl) ⟨Nat.zero_le _, Nat.zero_le _⟩ dX1_readLine_163 (fun ws163 k163 => ?_)
                obtain ⟨tp_fault_163, tp_faultAt_163, kr_tp_fault_163, kr_tp_faultAt_163, kp0_163, kp1_163, rfl⟩ := k163
                refine ⟨rfl, ?_⟩
                refine g_ws (ws2 := ((wX1 cI cB cJ h q size_130 first_130 second_130 kind_130 number_130 group_153 over_153) ++ (wX7 cI cB cJ h_tp q_tp v_tp_length v_tp_end tp_at_98 tp_fault_163 tp_faultAt_163 v_tp_bytes v_tp_taken))) rfl ?_
                have hR : RLo (sgP v_tp_end v_tp_bytes) v_tp_fault v_tp_faultAt v_tp_at v_size v_first v_second v_kind v_number v_group v_over tp_fault_163 tp_faultAt_163 tp_at_98 size_130 first_130 second_130 kind_130 number_130 group_153 over_153 := by first | exact RLo.ok hT7 (by omega) (by omega) (by rw [kp1_130, hz.2.1]) (by rw [kp2_130, hz.2.2.2.2.1]) (by rw [kp3_130, hz.2.2.2.2.2.2.1]) hnum (Or.inl ⟨by omega, by omega, rfl, rfl⟩) | exact RLo.ok hT7 (by omega) (by omega) (by rw [kp1_130, hz.2.1]) (by rw [kp2_130, hz.2.2.2.2.1]) (by rw [kp3_130, hz.2.2.2.2.2.2.1]) hnum (Or.inr ⟨by omega, _, by have h9 := kp0_153; rw [h152, hz.2.1, hz.2.2.2.2.1] at h9; exact h9, Or.inl ⟨by omega, by omega⟩⟩) | exact RLo.ok hT7 (by omega) (by omega) (by rw [kp1_130, hz.2.1]) (by rw [kp2_130, hz.2.2.2.2.1]) (by rw [kp3_130, hz.2.2.2.2.2.2.1]) hnum (Or.inr ⟨by omega, _, by have h9 := kp0_153; rw [h152, hz.2.1, hz.2.2.2.2.1] at h9; exact h9, Or.inr ⟨by omega, by omega, by have h8 := TG.bad kp1_163 (by omega) (by omega); omega⟩⟩)
                exact hQ _ _ _ dX1_readLine_166 ⟨size_130, first_130, second_130, kind_130, number_130, group_153, over_153, tp_at_98, tp_fault_163, tp_faultAt_163, (by omega), r_first_130, r_second_130, r_kind_130, r_number_130, r_group_153, r_over_153, (by omega), (by omega), (by omega), (by first | assumption | omega), (by exact hR), rfl⟩
        · replace kb_104 := kb_104.resolve_left (fun h => c107 h)
          replace kp0_104 := kp0_104.resolve_right (fun h => c107 h.1)
          have hR : RLo (sgP v_tp_end v_tp_bytes) v_tp_fault v_tp_faultAt v_tp_at v_size v_first v_second v_kind v_number v_group v_over tp_fault_98 tp_faultAt_98 tp_at_98 v_size v_first v_second v_kind v_number v_group v_over := RLo.bad hT7 (by omega)
          exact hQ _ _ _ dX1_readLine_110 ⟨v_size, v_first, v_second, v_kind, v_number, v_group, v_over, tp_at_98, tp_fault_98, tp_faultAt_98, (by omega), r_v_first, r_v_second, r_v_kind, r_v_number, r_v_group, r_v_over, (by omega), (by omega), (by omega), (by first | assumption | omega), (by exact hR), rfl⟩
      have hT6 : TG v_tp_fault v_tp_faultAt v_tp_at tp_fault_66 tp_faultAt_66 tp_at_66 (l6 (sgP v_tp_end v_tp_bytes) v_size v_tp_at) (v_tp_at + 1 + 1 + 1 + 1) := TG.trans (kdC (sgP v_tp_end v_tp_bytes)) (fun x => x + 1) w65_0 kp3_66
      refine g_aload_n X dX1_readLine_71 2 rfl ?_
      refine g_callVIw X (c_X7_sign l D cI cB cJ h_tp q_tp  (by omega) (by omega) (by omega) r_v_tp_bytes) [7, 8, 9] rfl rfl rfl cv_X7_sign uw651 ⟨rfl, rfl, by decide, by decide⟩ 0 rfl rfl rfl rfl rfl (Nat.le_of_ble_eq_true rfl) ⟨Nat.zero_le _, Nat.zero_le _⟩ dX1_readLine_72 (fun t72 ws72 k72 => ?_)
      obtain ⟨kp0_72, kp1_72, kp2_72, rfl⟩ := k72
      refine ⟨rfl, ?_⟩
      refine g_ws (ws2 := ((wX1 cI cB cJ h q v_size v_first v_second v_kind v_number v_group v_over) ++ (wX7 cI cB cJ h_tp q_tp v_tp_length v_tp_end tp_at_66 tp_fault_66 tp_faultAt_66 v_tp_bytes v_tp_taken))) rfl ?_
      have hz72 : tp_fault_66 = 0 → t72 = (sgP v_tp_end v_tp_bytes) (v_tp_at + 1 + 1 + 1 + 1) := fun h => by have i1 := TG.at0 hT6 h; rw [kp0_72, sgZ_0 h]; exact congrArg _ i1.2.2
      refine g_bipush X (z := 45) dX1_readLine_75 (by decide) ?_
      refine g_icmp_ne X (tgt := 84) dX1_readLine_77 (by decide) (by omega) (by omega) (fun c77 => ?_) (fun c77 => ?_)
      · refine g_iconst X dX1_readLine_84 ?_
        refine g_istore X (lv' := [(7, vI 0), (6, vI t66), (0, .ref h), (1, .ref h_tp), (2, vI v_tp_at), (3, vI t10), (5, vI t46)]) dX1_readLine_85 (by decide) rfl ?_
        refine g_iload X dX1_readLine_87 0 rfl ?_
        refine g_if_eq X (tgt := 96) dX1_readLine_89 (by decide) (by omega) (fun c89 => ?_) (fun c89 => ?_)
        · refine g_lv [2, 3, 4, 5, 6, 1, 0] rfl ?_
          exact J96 0 tp_at_66 (by omega) (by first | exact TG.q hT6 (fun e1 e2 => by have e3 := hz72 e1; have e4 := mnQ_e (sgP v_tp_end v_tp_bytes) (v_tp_at + 1 + 1 + 1 + 1); omega) | (exfalso; omega)) (by first | assumption | omega) (by intro h; have e3 := hz72 h; omega) (by first | assumption | omega)
        · refine g_aload_n X dX1_readLine_92 3 rfl ?_
          refine g_callVVw X (c_X7_step l D cI cB cJ h_tp q_tp  (by omega) (by omega) (by omega) (by first | assumption | omega)) [7, 8, 9] rfl rfl rfl cv_X7_step uw652 ⟨rfl, rfl, by decide, by decide⟩ 0 rfl rfl rfl rfl rfl (Nat.le_of_ble_eq_true rfl) ⟨Nat.zero_le _, Nat.zero_le _⟩ dX1_readLine_93 (fun ws93 k93 => ?_)
          obtain ⟨tp_at_93, kr_tp_at_93, kp0_93, kp1_93, rfl⟩ := k93
          refine ⟨rfl, ?_⟩
          refine g_ws (ws2 := ((wX1 cI cB cJ h q v_size v_first v_second v_kind v_number v_group v_over) ++ (wX7 cI cB cJ h_tp q_tp v_tp_length v_tp_end tp_at_93 tp_fault_66 tp_faultAt_66 v_tp_bytes v_tp_taken))) rfl ?_
          refine g_lv [2, 3, 4, 5, 6, 1, 0] rfl ?_
          exact J96 0 tp_at_93 (by omega) (by first | exact TG.q hT6 (fun e1 e2 => by have e3 := hz72 e1; have e4 := mnQ_e (sgP v_tp_end v_tp_bytes) (v_tp_at + 1 + 1 + 1 + 1); omega) | (exfalso; omega)) (by first | assumption | omega) (by intro h; have e3 := hz72 h; omega) (by first | assumption | omega)
      · refine g_iconst X dX1_readLine_80 ?_
        refine g_goto X (tgt := 85) dX1_readLine_81 (by decide) ?_
        refine g_istore X (lv' := [(7, vI 1), (6, vI t66), (0, .ref h), (1, .ref h_tp), (2, vI v_tp_at), (3, vI t10), (5, vI t46)]) dX1_readLine_85 (by decide) rfl ?_
        refine g_iload X dX1_readLine_87 0 rfl ?_
        refine g_if_eq X (tgt := 96) dX1_readLine_89 (by decide) (by omega) (fun c89 => ?_) (fun c89 => ?_)
        · refine g_lv [2, 3, 4, 5, 6, 1, 0] rfl ?_
          exact J96 1 tp_at_66 (by omega) (by first | exact TG.q hT6 (fun e1 e2 => by have e3 := hz72 e1; have e4 := mnQ_e (sgP v_tp_end v_tp_bytes) (v_tp_at + 1 + 1 + 1 + 1); omega) | (exfalso; omega)) (by first | assumption | omega) (by intro h; have e3 := hz72 h; omega) (by first | assumption | omega)
        · refine g_aload_n X dX1_readLine_92 3 rfl ?_
          refine g_callVVw X (c_X7_step l D cI cB cJ h_tp q_tp  (by omega) (by omega) (by omega) (by first | assumption | omega)) [7, 8, 9] rfl rfl rfl cv_X7_step uw652 ⟨rfl, rfl, by decide, by decide⟩ 0 rfl rfl rfl rfl rfl (Nat.le_of_ble_eq_true rfl) ⟨Nat.zero_le _, Nat.zero_le _⟩ dX1_readLine_93 (fun ws93 k93 => ?_)
          obtain ⟨tp_at_93, kr_tp_at_93, kp0_93, kp1_93, rfl⟩ := k93
          refine ⟨rfl, ?_⟩
          refine g_ws (ws2 := ((wX1 cI cB cJ h q v_size v_first v_second v_kind v_number v_group v_over) ++ (wX7 cI cB cJ h_tp q_tp v_tp_length v_tp_end tp_at_93 tp_fault_66 tp_faultAt_66 v_tp_bytes v_tp_taken))) rfl ?_
          refine g_lv [2, 3, 4, 5, 6, 1, 0] rfl ?_
          exact J96 1 tp_at_93 (by omega) (by first | exact TG.q hT6 (fun e1 e2 => by have e3 := hz72 e1; have e4 := mnQ_e (sgP v_tp_end v_tp_bytes) (v_tp_at + 1 + 1 + 1 + 1); omega) | (exfalso; omega)) (by first | assumption | omega) (by intro h; have e3 := hz72 h; omega) (by first | assumption | omega)
    have hT3 := TG.trans (psC (sgP v_tp_end v_tp_bytes) 45) (fun x => x + 1) w29_0 kp3_32
    have hT4 : TG v_tp_fault v_tp_faultAt v_tp_at tp_fault_46 tp_faultAt_46 tp_at_46 (l4 (sgP v_tp_end v_tp_bytes) v_size v_tp_at) (v_tp_at + 1 + 1 + 1) := TG.trans (oneC (sgP v_tp_end v_tp_bytes) 97 12) (fun x => x + 1) hT3 kp5_46
    have h46 : tp_fault_46 = 0 → v_tp_fault = 0 ∧ t10 = (sgP v_tp_end v_tp_bytes) v_tp_at - 97 ∧ 0 ≤ t10 ∧ v_size ≤ 39 ∧ t46 = (sgP v_tp_end v_tp_bytes) (v_tp_at + 1 + 1) - 97 ∧ 0 ≤ t46 ∧ tp_at_32 = (v_tp_at + 1 + 1) := fun h => by have i1 := kp6_46 h; have i2 := TG.at0 hT3 i1.1; have i3 := TG.at0 kp3_32 i1.1; have i4 := w29_1 i3.1; have i5 := kp1_46 h; have i6 : (sgP v_tp_end v_tp_bytes) tp_at_32 = (sgP v_tp_end v_tp_bytes) (v_tp_at + 1 + 1) := congrArg _ i2.2.2; omega
    refine g_iload_n X dX1_readLine_51 5 rfl ?_
    refine g_iload X dX1_readLine_52 0 rfl ?_
    refine g_icmp_ne X (tgt := 65) dX1_readLine_54 (by decide) (by omega) (by omega) (fun c54 => ?_) (fun c54 => ?_)
    · refine g_lv [2, 3, 4, 5, 0] rfl ?_
      exact J65 tp_fault_46 tp_faultAt_46 (by omega) (by omega) (by first | exact TG.trans (fun _ => smC (sgP v_tp_end v_tp_bytes) v_tp_at) (fun x => x) hT4 (TG.k _ kp1_62 (fun h => by have h3 := smC_e (sgP v_tp_end v_tp_bytes) v_tp_at; have h4 := h46 h; omega)) | exact TG.trans (fun _ => smC (sgP v_tp_end v_tp_bytes) v_tp_at) (fun x => x) hT4 (TG.k _ (TG.id0 _ _ _) (fun h => by have h3 := smC_e (sgP v_tp_end v_tp_bytes) v_tp_at; have h4 := h46 h; omega))) (by intro h; have h1 := h46; omega) (by first | assumption | omega)
    · refine g_aload_n X dX1_readLine_57 3 rfl ?_
      refine g_bipush X (z := 6) dX1_readLine_58 (by decide) ?_
      refine g_iload X dX1_readLine_60 1 rfl ?_
      refine g_callVVw X (c_X7_fail l D cI cB cJ h_tp q_tp (p0 := 6) (p1 := tp_at_32) (by omega) (by omega) (by first | assumption | omega) (by first | assumption | omega) (by first | assumption | omega) (by first | assumption | omega)) [7, 8, 9] rfl rfl rfl cv_X7_fail uw646 ⟨rfl, rfl, by decide, by decide⟩ 0 rfl rfl rfl rfl rfl (Nat.le_of_ble_eq_true rfl) ⟨Nat.zero_le _, Nat.zero_le _⟩ dX1_readLine_62 (fun ws62 k62 => ?_)
      obtain ⟨tp_fault_62, tp_faultAt_62, kr_tp_fault_62, kr_tp_faultAt_62, kp0_62, kp1_62, rfl⟩ := k62
      refine ⟨rfl, ?_⟩
      refine g_ws (ws2 := ((wX1 cI cB cJ h q v_size v_first v_second v_kind v_number v_group v_over) ++ (wX7 cI cB cJ h_tp q_tp v_tp_length v_tp_end tp_at_46 tp_fault_62 tp_faultAt_62 v_tp_bytes v_tp_taken))) rfl ?_
      refine g_lv [2, 3, 4, 5, 0] rfl ?_
      exact J65 tp_fault_62 tp_faultAt_62 (by omega) (by omega) (by first | exact TG.trans (fun _ => smC (sgP v_tp_end v_tp_bytes) v_tp_at) (fun x => x) hT4 (TG.k _ kp1_62 (fun h => by have h3 := smC_e (sgP v_tp_end v_tp_bytes) v_tp_at; have h4 := h46 h; omega)) | exact TG.trans (fun _ => smC (sgP v_tp_end v_tp_bytes) v_tp_at) (fun x => x) hT4 (TG.k _ (TG.id0 _ _ _) (fun h => by have h3 := smC_e (sgP v_tp_end v_tp_bytes) v_tp_at; have h4 := h46 h; omega))) (by intro h; have h1 := h46; omega) (by first | assumption | omega)
  refine g_aload_n X dX1_readLine_14 2 rfl ?_
  refine gX1_get X 0 rfl 0 (by decide) uw170 rfl dX1_readLine_15 ?_
  refine g_bipush X (z := 40) dX1_readLine_18 (by decide) ?_
  refine g_icmp_lt X (tgt := 29) dX1_readLine_20 (by decide) (by omega) (by omega) (fun c20 => ?_) (fun c20 => ?_)
  · refine g_lv [2, 3, 1, 0] rfl ?_
    exact J29 tp_fault_10 tp_faultAt_10 (by omega) (by omega) (by first | exact TG.trans (fun _ => myC v_size v_tp_at) (fun x => x) kp5_10 (TG.k _ kp1_26 (fun h => by have h3 := myC_e v_size v_tp_at; omega)) | exact TG.trans (fun _ => myC v_size v_tp_at) (fun x => x) kp5_10 (TG.k _ (TG.id0 _ _ _) (fun h => by have h3 := myC_e v_size v_tp_at; omega))) (by intro h; have h1 := kp6_10; have h2 := kp1_10; omega) (by first | assumption | omega)
  · refine g_aload_n X dX1_readLine_23 3 rfl ?_
    refine g_iconst X dX1_readLine_24 ?_
    refine g_iload_n X dX1_readLine_25 1 rfl ?_
    refine g_callVVw X (c_X7_fail l D cI cB cJ h_tp q_tp (p0 := 4) (p1 := v_tp_at) (by omega) (by omega) (by first | assumption | omega) (by first | assumption | omega) (by first | assumption | omega) (by first | assumption | omega)) [7, 8, 9] rfl rfl rfl cv_X7_fail uw646 ⟨rfl, rfl, by decide, by decide⟩ 0 rfl rfl rfl rfl rfl (Nat.le_of_ble_eq_true rfl) ⟨Nat.zero_le _, Nat.zero_le _⟩ dX1_readLine_26 (fun ws26 k26 => ?_)
    obtain ⟨tp_fault_26, tp_faultAt_26, kr_tp_fault_26, kr_tp_faultAt_26, kp0_26, kp1_26, rfl⟩ := k26
    refine ⟨rfl, ?_⟩
    refine g_ws (ws2 := ((wX1 cI cB cJ h q v_size v_first v_second v_kind v_number v_group v_over) ++ (wX7 cI cB cJ h_tp q_tp v_tp_length v_tp_end tp_at_10 tp_fault_26 tp_faultAt_26 v_tp_bytes v_tp_taken))) rfl ?_
    refine g_lv [2, 3, 1, 0] rfl ?_
    exact J29 tp_fault_26 tp_faultAt_26 (by omega) (by omega) (by first | exact TG.trans (fun _ => myC v_size v_tp_at) (fun x => x) kp5_10 (TG.k _ kp1_26 (fun h => by have h3 := myC_e v_size v_tp_at; omega)) | exact TG.trans (fun _ => myC v_size v_tp_at) (fun x => x) kp5_10 (TG.k _ (TG.id0 _ _ _) (fun h => by have h3 := myC_e v_size v_tp_at; omega))) (by intro h; have h1 := kp6_10; have h2 := kp1_10; omega) (by first | assumption | omega)
set_option maxHeartbeats 600000 in
set_option maxRecDepth 100000 in
theorem c_X1_read (l : Launch) (D : va_G) (cI cB cJ : ClassId) (h : Nat) (q : Nat → Nat) (h_tp : Nat) (q_tp : Nat → Nat) {v_size v_tp_length v_tp_end v_tp_at v_tp_fault v_tp_faultAt : Int} {v_first v_second v_kind v_number v_group v_over v_tp_bytes v_tp_taken : Nat → Int} {p1 : Int} (kr_v_size : 0 ≤ v_size ∧ v_size ≤ 40) (r_v_first : RA 0 11 v_first) (r_v_second : RA 0 11 v_second) (r_v_kind : RA 0 2 v_kind) (r_v_number : RA (-9999) 9999 v_number) (r_v_group : RA 0 11 v_group) (r_v_over : RA (-2147483648) 2147483647 v_over) (kr_v_tp_length : 0 ≤ v_tp_length ∧ v_tp_length ≤ 260) (kr_v_tp_end : 0 ≤ v_tp_end ∧ v_tp_end ≤ 260) (kr_v_tp_at : 0 ≤ v_tp_at ∧ v_tp_at ≤ 260) (kr_v_tp_fault : 0 ≤ v_tp_fault ∧ v_tp_fault ≤ 8) (kr_v_tp_faultAt : 0 ≤ v_tp_faultAt ∧ v_tp_faultAt ≤ 260) (r_v_tp_bytes : RA 0 255 v_tp_bytes) (hp0 : IR p1) (hp1 : 0 ≤ p1 ∧ p1 ≤ 260) (hp2 : p1 ≤ v_tp_length) : CtI l yX1_read cX1_read 4 (some .int) ⟨3, 0, 0, 73⟩ D (TY cI cB cJ) ((wX1 cI cB cJ h q v_size v_first v_second v_kind v_number v_group v_over) ++ (wX7 cI cB cJ h_tp q_tp v_tp_length v_tp_end v_tp_at v_tp_fault v_tp_faultAt v_tp_bytes v_tp_taken)) [.ref h, .ref h_tp, vI p1] (fun z ws' => ∃ n_size : Int, ∃ n_first : Nat → Int, ∃ n_second : Nat → Int, ∃ n_kind : Nat → Int, ∃ n_number : Nat → Int, ∃ n_group : Nat → Int, ∃ n_over : Nat → Int, ∃ n_tp_end : Int, ∃ n_tp_at : Int, ∃ n_tp_fault : Int, ∃ n_tp_faultAt : Int, (0 ≤ n_size ∧ n_size ≤ 40) ∧ (RA 0 11 n_first) ∧ (RA 0 11 n_second) ∧ (RA 0 2 n_kind) ∧ (RA (-9999) 9999 n_number) ∧ (RA 0 11 n_group) ∧ (RA (-2147483648) 2147483647 n_over) ∧ (0 ≤ n_tp_end ∧ n_tp_end ≤ 260) ∧ (0 ≤ n_tp_at ∧ n_tp_at ≤ 260) ∧ (0 ≤ n_tp_fault ∧ n_tp_fault ≤ 8) ∧ (0 ≤ n_tp_faultAt ∧ n_tp_faultAt ≤ 260) ∧ (IR z) ∧ (z = clN (sgP p1 v_tp_bytes) p1) ∧ (0 ≤ z → n_size = z ∧ AG (sgP p1 v_tp_bytes) z n_first n_second n_kind n_number ∧ KR n_group n_over (knP (sgP p1 v_tp_bytes) z.toNat)) ∧ (ws' = ((wX1 cI cB cJ h q n_size n_first n_second n_kind n_number n_group n_over) ++ (wX7 cI cB cJ h_tp q_tp v_tp_length n_tp_end n_tp_at n_tp_fault n_tp_faultAt v_tp_bytes v_tp_taken)))) := by
  refine hdrI (own := RX1) rfl (by decide +kernel) (Nat.le_of_ble_eq_true rfl) ?_
  intro p e s m args below meth c Q A X hQ
  refine g_lvE (lv2 := [(0, .ref h), (1, .ref h_tp), (2, vI p1)]) rfl ?_
  refine g_aload_n X dX1_read_0 0 rfl ?_
  refine g_callVVw X (c_X1_clear l D cI cB cJ h q  (by omega) r_v_group r_v_over) [0, 1, 2, 3, 4, 5, 6] rfl rfl rfl cv_X1_clear uw166 ⟨rfl, rfl, by decide, by decide⟩ 0 rfl rfl rfl rfl rfl (Nat.le_of_ble_eq_true rfl) ⟨Nat.zero_le _, Nat.zero_le _⟩ dX1_read_1 (fun ws1 k1 => ?_)
  obtain ⟨size_1, group_1, over_1, kr_size_1, r_group_1, r_over_1, kp0_1, kp1_1, rfl⟩ := k1
  refine ⟨rfl, ?_⟩
  refine g_ws (ws2 := ((wX1 cI cB cJ h q size_1 v_first v_second v_kind v_number group_1 over_1) ++ (wX7 cI cB cJ h_tp q_tp v_tp_length v_tp_end v_tp_at v_tp_fault v_tp_faultAt v_tp_bytes v_tp_taken))) rfl ?_
  refine g_aload_n X dX1_read_4 1 rfl ?_
  refine g_iload_n X dX1_read_5 2 rfl ?_
  refine g_callVVw X (c_X7_begin l D cI cB cJ h_tp q_tp (p0 := p1) (by omega) (by omega) (by omega) (by omega) (by omega) (by first | assumption | omega) (by first | assumption | omega)) [7, 8, 9] rfl rfl rfl cv_X7_begin uw637 ⟨rfl, rfl, by decide, by decide⟩ 0 rfl rfl rfl rfl rfl (Nat.le_of_ble_eq_true rfl) ⟨Nat.zero_le _, Nat.zero_le _⟩ dX1_read_6 (fun ws6 k6 => ?_)
  obtain ⟨tp_end_6, tp_at_6, tp_fault_6, tp_faultAt_6, kr_tp_end_6, kr_tp_at_6, kr_tp_fault_6, kr_tp_faultAt_6, kp0_6, kp1_6, kp2_6, kp3_6, kp4_6, rfl⟩ := k6
  refine ⟨rfl, ?_⟩
  refine g_ws (ws2 := ((wX1 cI cB cJ h q size_1 v_first v_second v_kind v_number group_1 over_1) ++ (wX7 cI cB cJ h_tp q_tp v_tp_length tp_end_6 tp_at_6 tp_fault_6 tp_faultAt_6 v_tp_bytes v_tp_taken))) rfl ?_
  have hE : tp_end_6 = p1 := by omega
  refine g_iconst X dX1_read_9 ?_
  refine g_istore_n X (lv' := [(3, vI 0), (0, .ref h), (1, .ref h_tp), (2, vI p1)]) dX1_read_10 (by decide) rfl ?_
  have L11 : ∀ (n : Nat) (x3_11 : Int) (size_11 : Int) (tp_at_11 : Int) (tp_fault_11 : Int) (tp_faultAt_11 : Int) (first_11 : Nat → Int) (second_11 : Nat → Int) (kind_11 : Nat → Int) (number_11 : Nat → Int) (group_11 : Nat → Int) (over_11 : Nat → Int), (0 ≤ size_11 ∧ size_11 ≤ 40) → (0 ≤ tp_at_11 ∧ tp_at_11 ≤ 260) → (0 ≤ tp_fault_11 ∧ tp_fault_11 ≤ 8) → (0 ≤ tp_faultAt_11 ∧ tp_faultAt_11 ≤ 260) → (RA 0 11 first_11) → (RA 0 11 second_11) → (RA 0 2 kind_11) → (RA (-9999) 9999 number_11) → (RA 0 11 group_11) → (RA (-2147483648) 2147483647 over_11) → (0 ≤ x3_11 ∧ x3_11 ≤ 41) → (tp_at_11 ≤ tp_end_6) → (CLI (sgP p1 v_tp_bytes) p1 tp_fault_11 tp_faultAt_11 tp_at_11 size_11 x3_11 first_11 second_11 kind_11 number_11 group_11 over_11) → (41 - x3_11).toNat < n → GG p l e ⟨3, 0, 0, 73⟩ s m args below meth c 0 0 Q D A s.heap 4 ((wX1 cI cB cJ h q size_11 first_11 second_11 kind_11 number_11 group_11 over_11) ++ (wX7 cI cB cJ h_tp q_tp v_tp_length tp_end_6 tp_at_11 tp_fault_11 tp_faultAt_11 v_tp_bytes v_tp_taken)) 11 [(0, .ref h), (1, .ref h_tp), (3, vI x3_11)] [] := by
    intro n
    induction n with
    | zero => intros; exfalso; omega
    | succ n ih11 =>
      intro x3_11 size_11 tp_at_11 tp_fault_11 tp_faultAt_11 first_11 second_11 kind_11 number_11 group_11 over_11 kr_size_11 kr_tp_at_11 kr_tp_fault_11 kr_tp_faultAt_11 r_first_11 r_second_11 r_kind_11 r_number_11 r_group_11 r_over_11 w11_0 w11_1 w11_2 wm11
      refine g_iload_n X dX1_read_11 2 rfl ?_
      refine g_bipush X (z := 40) dX1_read_12 (by decide) ?_
      refine g_icmp_gt X (tgt := 44) dX1_read_14 (by decide) (by omega) (by omega) (fun c14 => ?_) (fun c14 => ?_)
      · have hA : (tp_fault_11 = 0 ∧ clN (sgP p1 v_tp_bytes) p1 = size_11 ∧ 1 ≤ size_11 ∧ AG (sgP p1 v_tp_bytes) size_11 first_11 second_11 kind_11 number_11 ∧ KR group_11 over_11 (knP (sgP p1 v_tp_bytes) (size_11).toNat)) ∨ (tp_fault_11 ≠ 0 ∧ clN (sgP p1 v_tp_bytes) p1 = -1000 * tp_fault_11 - tp_faultAt_11 ∧ clN (sgP p1 v_tp_bytes) p1 < 0) := by first | exact CLO.over hO (by omega) (by omega) | exact CLI.out w11_2 (by omega) (by omega)
        refine g_aload_n X dX1_read_44 1 rfl ?_
        refine g_aload_n X dX1_read_45 0 rfl ?_
        refine gX1_get X 0 rfl 0 (by decide) uw170 rfl dX1_read_46 ?_
        refine g_callVIw X (c_X7_answer l D cI cB cJ h_tp q_tp (p0 := size_11) (by omega) (by omega) (by first | assumption | omega)) [7, 8, 9] rfl rfl rfl cv_X7_answer uw664 ⟨rfl, rfl, by decide, by decide⟩ 0 rfl rfl rfl rfl rfl (Nat.le_of_ble_eq_true rfl) ⟨Nat.zero_le _, Nat.zero_le _⟩ dX1_read_49 (fun t49 ws49 k49 => ?_)
        obtain ⟨kp0_49, rfl⟩ := k49
        refine ⟨rfl, ?_⟩
        refine g_ws (ws2 := ((wX1 cI cB cJ h q size_11 first_11 second_11 kind_11 number_11 group_11 over_11) ++ (wX7 cI cB cJ h_tp q_tp v_tp_length tp_end_6 tp_at_11 tp_fault_11 tp_faultAt_11 v_tp_bytes v_tp_taken))) rfl ?_
        have hB : 0 ≤ t49 → size_11 = t49 ∧ AG (sgP p1 v_tp_bytes) t49 first_11 second_11 kind_11 number_11 ∧ KR group_11 over_11 (knP (sgP p1 v_tp_bytes) (t49).toNat) := by intro h; rcases hA with ⟨i1, i2, i3, i4, i5⟩ | ⟨i1, i2, i3⟩; (have e : t49 = size_11 := by omega); (rw [e]; exact ⟨rfl, i4, i5⟩); (exfalso; omega)
        exact hQ _ _ _ _ dX1_read_52 ⟨size_11, first_11, second_11, kind_11, number_11, group_11, over_11, tp_end_6, tp_at_11, tp_fault_11, tp_faultAt_11, (by omega), r_first_11, r_second_11, r_kind_11, r_number_11, r_group_11, r_over_11, (by omega), (by omega), (by omega), (by omega), (by first | assumption | omega), (by first | assumption | omega), (by exact hB), rfl⟩
      · refine g_aload_n X dX1_read_17 0 rfl ?_
        refine g_aload_n X dX1_read_18 1 rfl ?_
        refine g_callVV0 X (c_X1_readLine l D cI cB cJ h q h_tp q_tp  (by omega) r_first_11 r_second_11 r_kind_11 r_number_11 r_group_11 r_over_11 (by omega) (by omega) (by omega) (by omega) r_v_tp_bytes (by first | assumption | omega)) cv_X1_readLine uw638 ⟨rfl, rfl, by decide, by decide⟩ 0 rfl rfl rfl rfl rfl (Nat.le_of_ble_eq_true rfl) ⟨Nat.zero_le _, Nat.zero_le _⟩ dX1_read_19 (fun ws19 k19 => ?_)
        obtain ⟨size_19, first_19, second_19, kind_19, number_19, group_19, over_19, tp_at_19, tp_fault_19, tp_faultAt_19, kr_size_19, r_first_19, r_second_19, r_kind_19, r_number_19, r_group_19, r_over_19, kr_tp_at_19, kr_tp_fault_19, kr_tp_faultAt_19, kp0_19, kp1_19, rfl⟩ := k19
        rw [hE] at kp1_19
        have hO := CLI.one w11_2 (by omega) (by omega) kp1_19
        refine g_aload_n X dX1_read_22 1 rfl ?_
        refine g_callVIw X (c_X7_isOver l D cI cB cJ h_tp q_tp  (by omega) (by omega) (by omega)) [7, 8, 9] rfl rfl rfl cv_X7_isOver uw663 ⟨rfl, rfl, by decide, by decide⟩ 0 rfl rfl rfl rfl rfl (Nat.le_of_ble_eq_true rfl) ⟨Nat.zero_le _, Nat.zero_le _⟩ dX1_read_23 (fun t23 ws23 k23 => ?_)
        obtain ⟨kb_23, ⟨kp0_23, rfl⟩⟩ := k23
        refine ⟨rfl, ?_⟩
        refine g_ws (ws2 := ((wX1 cI cB cJ h q size_19 first_19 second_19 kind_19 number_19 group_19 over_19) ++ (wX7 cI cB cJ h_tp q_tp v_tp_length tp_end_6 tp_at_19 tp_fault_19 tp_faultAt_19 v_tp_bytes v_tp_taken))) rfl ?_
        refine g_if_eq X (tgt := 32) dX1_read_26 (by decide) (by omega) (fun c26 => ?_) (fun c26 => ?_)
        · clear kb_23
          replace kp0_23 := (kp0_23.resolve_left (fun h => absurd h.1 (by omega))).2
          refine g_aload_n X dX1_read_32 1 rfl ?_
          refine g_bipush X (z := 59) dX1_read_33 (by decide) ?_
          refine g_callVVw X (c_X7_pass l D cI cB cJ h_tp q_tp (p0 := 59) (by omega) (by omega) (by omega) (by omega) r_v_tp_bytes (by first | assumption | omega) (by first | assumption | omega) (by first | assumption | omega)) [7, 8, 9] rfl rfl rfl cv_X7_pass uw647 ⟨rfl, rfl, by decide, by decide⟩ 0 rfl rfl rfl rfl rfl (Nat.le_of_ble_eq_true rfl) ⟨Nat.zero_le _, Nat.zero_le _⟩ dX1_read_35 (fun ws35 k35 => ?_)
          obtain ⟨tp_at_35, tp_fault_35, tp_faultAt_35, kr_tp_at_35, kr_tp_fault_35, kr_tp_faultAt_35, kp0_35, kp1_35, kp2_35, kp3_35, rfl⟩ := k35
          refine ⟨rfl, ?_⟩
          refine g_ws (ws2 := ((wX1 cI cB cJ h q size_19 first_19 second_19 kind_19 number_19 group_19 over_19) ++ (wX7 cI cB cJ h_tp q_tp v_tp_length tp_end_6 tp_at_35 tp_fault_35 tp_faultAt_35 v_tp_bytes v_tp_taken))) rfl ?_
          refine g_iinc X (lv' := [(3, vI (x3_11 + 1)), (0, .ref h), (1, .ref h_tp)]) dX1_read_38 2 rfl (by decide) rfl ?_
          refine g_goto X (tgt := 11) dX1_read_41 (by decide) ?_
          rw [hE] at kp3_35
          refine g_lv [1, 2, 0] rfl ?_
          exact ih11 (x3_11 + 1) size_19 tp_at_35 tp_fault_35 tp_faultAt_35 first_19 second_19 kind_19 number_19 group_19 over_19 (by omega) (by omega) (by omega) (by omega) r_first_19 r_second_19 r_kind_19 r_number_19 r_group_19 r_over_19 (by first | assumption | omega) (by first | assumption | omega) (by first | exact CLI.ini (by omega) (by omega) (by omega) rfl kp1_1 | exact CLO.step hO (by omega) (by omega) (by omega) kp3_35 rfl) (by omega)
        · replace kb_23 := kb_23.resolve_left (fun h => c26 h)
          replace kp0_23 := kp0_23.resolve_right (fun h => c26 h.1)
          refine g_goto X (tgt := 44) dX1_read_29 (by decide) ?_
          have hA : (tp_fault_19 = 0 ∧ clN (sgP p1 v_tp_bytes) p1 = size_19 ∧ 1 ≤ size_19 ∧ AG (sgP p1 v_tp_bytes) size_19 first_19 second_19 kind_19 number_19 ∧ KR group_19 over_19 (knP (sgP p1 v_tp_bytes) (size_19).toNat)) ∨ (tp_fault_19 ≠ 0 ∧ clN (sgP p1 v_tp_bytes) p1 = -1000 * tp_fault_19 - tp_faultAt_19 ∧ clN (sgP p1 v_tp_bytes) p1 < 0) := by first | exact CLO.over hO (by omega) (by omega) | exact CLI.out w11_2 (by omega) (by omega)
          refine g_aload_n X dX1_read_44 1 rfl ?_
          refine g_aload_n X dX1_read_45 0 rfl ?_
          refine gX1_get X 0 rfl 0 (by decide) uw170 rfl dX1_read_46 ?_
          refine g_callVIw X (c_X7_answer l D cI cB cJ h_tp q_tp (p0 := size_19) (by omega) (by omega) (by first | assumption | omega)) [7, 8, 9] rfl rfl rfl cv_X7_answer uw664 ⟨rfl, rfl, by decide, by decide⟩ 0 rfl rfl rfl rfl rfl (Nat.le_of_ble_eq_true rfl) ⟨Nat.zero_le _, Nat.zero_le _⟩ dX1_read_49 (fun t49 ws49 k49 => ?_)
          obtain ⟨kp0_49, rfl⟩ := k49
          refine ⟨rfl, ?_⟩
          refine g_ws (ws2 := ((wX1 cI cB cJ h q size_19 first_19 second_19 kind_19 number_19 group_19 over_19) ++ (wX7 cI cB cJ h_tp q_tp v_tp_length tp_end_6 tp_at_19 tp_fault_19 tp_faultAt_19 v_tp_bytes v_tp_taken))) rfl ?_
          have hB : 0 ≤ t49 → size_19 = t49 ∧ AG (sgP p1 v_tp_bytes) t49 first_19 second_19 kind_19 number_19 ∧ KR group_19 over_19 (knP (sgP p1 v_tp_bytes) (t49).toNat) := by intro h; rcases hA with ⟨i1, i2, i3, i4, i5⟩ | ⟨i1, i2, i3⟩; (have e : t49 = size_19 := by omega); (rw [e]; exact ⟨rfl, i4, i5⟩); (exfalso; omega)
          exact hQ _ _ _ _ dX1_read_52 ⟨size_19, first_19, second_19, kind_19, number_19, group_19, over_19, tp_end_6, tp_at_19, tp_fault_19, tp_faultAt_19, (by omega), r_first_19, r_second_19, r_kind_19, r_number_19, r_group_19, r_over_19, (by omega), (by omega), (by omega), (by omega), (by first | assumption | omega), (by first | assumption | omega), (by exact hB), rfl⟩
  refine g_lv [1, 2, 0] rfl ?_
  exact L11 _ 0 size_1 tp_at_6 tp_fault_6 tp_faultAt_6 v_first v_second v_kind v_number group_1 over_1 (by omega) (by omega) (by omega) (by omega) r_v_first r_v_second r_v_kind r_v_number r_group_1 r_over_1 (by first | assumption | omega) (by first | assumption | omega) (by first | exact CLI.ini (by omega) (by omega) (by omega) rfl kp1_1 | exact CLO.step hO (by omega) (by omega) (by omega) kp3_35 rfl) (Nat.lt_succ_self _)
