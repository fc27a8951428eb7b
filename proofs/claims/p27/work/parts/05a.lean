set_option maxHeartbeats 600000 in
set_option maxRecDepth 100000 in
theorem c_J6_bitCount_0f7a4 (l : Launch) (D : va_G) (cI cB cJ : ClassId) {p0 : Int} (hp0 : IR p0) : CtI l yJ6_bitCount_0f7a4 cJ6_bitCount_0f7a4 1 (some .int) ⟨0, 0, 0, 0⟩ D (TY cI cB cJ) [] [vI p0] (fun z ws' => (IR z) ∧ (0 ≤ p0 ∧ p0 ≤ 4095 → z = cnZ p0) ∧ (ws' = [])) := by
  refine hdrI (own := RJ6) rfl (by decide +kernel) (Nat.le_of_ble_eq_true rfl) ?_
  intro p e s m args below meth c Q A X hQ
  refine g_lvE (lv2 := [(0, vI p0)]) rfl ?_
  refine g_iload_n X dJ6_bitCount_0f7a4_0 0 rfl ?_
  refine g_iload_n X dJ6_bitCount_0f7a4_1 0 rfl ?_
  refine g_iconst X dJ6_bitCount_0f7a4_2 ?_
  refine g_iushr X dJ6_bitCount_0f7a4_3 ?_
  refine g_nm (fun t3 e3 => ?_)
  have r3 : IR t3 := by rw [e3]; exact z_ir _
  refine g_ldcw X (z := 1431655765) dJ6_bitCount_0f7a4_4 uw700 (by decide) ?_
  refine g_iand X dJ6_bitCount_0f7a4_7 ?_
  refine g_nm (fun t7 e7 => ?_)
  have r7 := z_iand_r t3 1431655765 (by omega) (by omega); rw [← e7] at r7
  refine g_isub X dJ6_bitCount_0f7a4_8 ?_
  refine g_nr (fun t8 e8 r8 => ?_)
  refine g_istore_n X (lv' := [(0, vI t8)]) dJ6_bitCount_0f7a4_9 (by decide) rfl ?_
  refine g_iload_n X dJ6_bitCount_0f7a4_10 0 rfl ?_
  refine g_ldcw X (z := 858993459) dJ6_bitCount_0f7a4_11 uw701 (by decide) ?_
  refine g_iand X dJ6_bitCount_0f7a4_14 ?_
  refine g_nm (fun t14 e14 => ?_)
  have r14 := z_iand_r t8 858993459 (by omega) (by omega); rw [← e14] at r14
  refine g_iload_n X dJ6_bitCount_0f7a4_15 0 rfl ?_
  refine g_iconst X dJ6_bitCount_0f7a4_16 ?_
  refine g_iushr X dJ6_bitCount_0f7a4_17 ?_
  refine g_nm (fun t17 e17 => ?_)
  have r17 : IR t17 := by rw [e17]; exact z_ir _
  refine g_ldcw X (z := 858993459) dJ6_bitCount_0f7a4_18 uw701 (by decide) ?_
  refine g_iand X dJ6_bitCount_0f7a4_21 ?_
  refine g_nm (fun t21 e21 => ?_)
  have r21 := z_iand_r t17 858993459 (by omega) (by omega); rw [← e21] at r21
  refine g_iadd X dJ6_bitCount_0f7a4_22 ?_
  refine g_istore_n X (lv' := [(0, vI (t14 + t21))]) dJ6_bitCount_0f7a4_23 (by decide) rfl ?_
  refine g_iload_n X dJ6_bitCount_0f7a4_24 0 rfl ?_
  refine g_iload_n X dJ6_bitCount_0f7a4_25 0 rfl ?_
  refine g_iconst X dJ6_bitCount_0f7a4_26 ?_
  refine g_iushr X dJ6_bitCount_0f7a4_27 ?_
  refine g_nm (fun t27 e27 => ?_)
  have r27 : IR t27 := by rw [e27]; exact z_ir _
  refine g_iadd X dJ6_bitCount_0f7a4_28 ?_
  refine g_nr (fun t28 e28 r28 => ?_)
  refine g_ldcw X (z := 252645135) dJ6_bitCount_0f7a4_29 uw702 (by decide) ?_
  refine g_iand X dJ6_bitCount_0f7a4_32 ?_
  refine g_nm (fun t32 e32 => ?_)
  have r32 := z_iand_r t28 252645135 (by omega) (by omega); rw [← e32] at r32
  refine g_istore_n X (lv' := [(0, vI t32)]) dJ6_bitCount_0f7a4_33 (by decide) rfl ?_
  refine g_iload_n X dJ6_bitCount_0f7a4_34 0 rfl ?_
  refine g_iload_n X dJ6_bitCount_0f7a4_35 0 rfl ?_
  refine g_bipush X (z := 8) dJ6_bitCount_0f7a4_36 (by decide) ?_
  refine g_iushr X dJ6_bitCount_0f7a4_38 ?_
  refine g_nm (fun t38 e38 => ?_)
  have r38 : IR t38 := by rw [e38]; exact z_ir _
  refine g_iadd X dJ6_bitCount_0f7a4_39 ?_
  refine g_nr (fun t39 e39 r39 => ?_)
  refine g_istore_n X (lv' := [(0, vI t39)]) dJ6_bitCount_0f7a4_40 (by decide) rfl ?_
  refine g_iload_n X dJ6_bitCount_0f7a4_41 0 rfl ?_
  refine g_iload_n X dJ6_bitCount_0f7a4_42 0 rfl ?_
  refine g_bipush X (z := 16) dJ6_bitCount_0f7a4_43 (by decide) ?_
  refine g_iushr X dJ6_bitCount_0f7a4_45 ?_
  refine g_nm (fun t45 e45 => ?_)
  have r45 : IR t45 := by rw [e45]; exact z_ir _
  refine g_iadd X dJ6_bitCount_0f7a4_46 ?_
  refine g_nr (fun t46 e46 r46 => ?_)
  refine g_istore_n X (lv' := [(0, vI t46)]) dJ6_bitCount_0f7a4_47 (by decide) rfl ?_
  refine g_iload_n X dJ6_bitCount_0f7a4_48 0 rfl ?_
  refine g_bipush X (z := 63) dJ6_bitCount_0f7a4_49 (by decide) ?_
  refine g_iand X dJ6_bitCount_0f7a4_51 ?_
  refine g_nm (fun t51 e51 => ?_)
  have r51 := z_iand_r t46 63 (by omega) (by omega); rw [← e51] at r51
  have hb : 0 ≤ p0 ∧ p0 ≤ 4095 → t51 = cnZ p0 := fun h => by rw [← bcZ_e h, e51, zI_w e46 r46, e45, zI_w e39 r39, e38, e32, zI_w e28 r28, e27, e21, e14, e17, zI_w e8 r8, e7, e3]; rfl
  exact hQ _ _ _ _ dJ6_bitCount_0f7a4_52 ⟨(by first | assumption | omega), (by first | assumption | omega), rfl⟩
set_option maxHeartbeats 600000 in
set_option maxRecDepth 100000 in
theorem c_J7_rangeCheck_23922 (l : Launch) (D : va_G) (cI cB cJ : ClassId) {p0 p1 p2 : Int} (hp0 : IR p0) (hp1 : IR p1) (hp2 : IR p2) (hp3 : 0 ≤ p1 ∧ p1 ≤ p2 ∧ p2 ≤ p0) : CtV l yJ7_rangeCheck_23922 cJ7_rangeCheck_23922 3 none ⟨1, 0, 0, 40⟩ D (TY cI cB cJ) [] [vI p0, vI p1, vI p2] (fun ws' => (ws' = [])) := by
  refine hdrV (own := RJ7) rfl (by decide +kernel) (Nat.le_of_ble_eq_true rfl) ?_
  intro p e s m args below meth c Q A X hQ
  refine g_lvE (lv2 := [(0, vI p0), (1, vI p1), (2, vI p2)]) rfl ?_
  refine g_iload_n X dJ7_rangeCheck_23922_0 1 rfl ?_
  refine g_iload_n X dJ7_rangeCheck_23922_1 2 rfl ?_
  refine g_icmp_le X (tgt := 46) dJ7_rangeCheck_23922_2 (by decide) (by omega) (by omega) (fun c2 => ?_) (fun c2 => ?_)
  · refine g_iload_n X dJ7_rangeCheck_23922_46 1 rfl ?_
    refine g_if_ge X (tgt := 59) dJ7_rangeCheck_23922_47 (by decide) (by omega) (fun c47 => ?_) (fun c47 => ?_)
    · refine g_iload_n X dJ7_rangeCheck_23922_59 2 rfl ?_
      refine g_iload_n X dJ7_rangeCheck_23922_60 0 rfl ?_
      refine g_icmp_le X (tgt := 73) dJ7_rangeCheck_23922_61 (by decide) (by omega) (by omega) (fun c61 => ?_) (fun c61 => ?_)
      · exact hQ _ _ _ dJ7_rangeCheck_23922_73 rfl
      · exfalso; omega
    · exfalso; omega
  · exfalso; omega
set_option maxHeartbeats 600000 in
set_option maxRecDepth 100000 in
theorem c_J7_fill_53178_8 (l : Launch) (D : va_G) (cI cB cJ : ClassId) (r_row : Nat) {v_row : Nat → Int} {p1 : Int} (r_v_row : RA (-2147483648) 2147483647 v_row) (hp0 : IR p1) : CtV l yJ7_fill_53178 cJ7_fill_53178 4 none ⟨0, 0, 0, 0⟩ D (TY cI cB cJ) (wA cI 8 r_row v_row) [.ref r_row, vI p1] (fun ws' => ∃ n_row : Nat → Int, (RA (-2147483648) 2147483647 n_row) ∧ (ws' = (wA cI 8 r_row n_row))) := by
  refine hdrV (own := RJ7) rfl (by decide +kernel) (Nat.le_of_ble_eq_true rfl) ?_
  intro p e s m args below meth c Q A X hQ
  refine g_lvE (lv2 := [(0, .ref r_row), (1, vI p1)]) rfl ?_
  refine g_iconst X dJ7_fill_53178_0 ?_
  refine g_istore_n X (lv' := [(2, vI 0), (0, .ref r_row), (1, vI p1)]) dJ7_fill_53178_1 (by decide) rfl ?_
  refine g_aload_n X dJ7_fill_53178_2 1 rfl ?_
  refine g_alen X 0 0 rfl rfl (z := 8) rfl dJ7_fill_53178_3 ?_
  refine g_istore_n X (lv' := [(3, vI 8), (2, vI 0), (0, .ref r_row), (1, vI p1)]) dJ7_fill_53178_4 (by decide) rfl ?_
  have L5 : ∀ (n : Nat) (x2_5 : Int) (row_5 : Nat → Int), (RA (-2147483648) 2147483647 row_5) → (0 ≤ x2_5 ∧ x2_5 ≤ 8) → (8 - x2_5).toNat < n → GG p l e ⟨0, 0, 0, 0⟩ s m args below meth c 0 0 Q D A s.heap 4 (wA cI 8 r_row row_5) 5 [(0, .ref r_row), (1, vI p1), (2, vI x2_5), (3, vI 8)] [] := by
    intro n
    induction n with
    | zero => intros; exfalso; omega
    | succ n ih5 =>
      intro x2_5 row_5 r_row_5 w5_0 wm5
      refine g_iload_n X dJ7_fill_53178_5 2 rfl ?_
      refine g_iload_n X dJ7_fill_53178_6 3 rfl ?_
      refine g_icmp_ge X (tgt := 20) dJ7_fill_53178_7 (by decide) (by omega) (by omega) (fun c7 => ?_) (fun c7 => ?_)
      · exact hQ _ _ _ dJ7_fill_53178_20 ⟨row_5, r_row_5, rfl⟩
      · refine g_aload_n X dJ7_fill_53178_10 0 rfl ?_
        refine g_iload_n X dJ7_fill_53178_11 2 rfl ?_
        refine g_iload_n X dJ7_fill_53178_12 1 rfl ?_
        refine g_iast X 0 0 rfl rfl (by omega) (by decide) dJ7_fill_53178_13 (fun row_13 e13 => ?_)
        have r_row_13 : RA (-2147483648) 2147483647 row_13 := by rw [e13]; exact RA_up r_row_5 (by omega)
        refine g_ws (ws2 := (wA cI 8 r_row row_13)) rfl ?_
        refine g_iinc X (lv' := [(2, vI (x2_5 + 1)), (0, .ref r_row), (1, vI p1), (3, vI 8)]) dJ7_fill_53178_14 2 rfl (by decide) rfl ?_
        refine g_goto X (tgt := 5) dJ7_fill_53178_17 (by decide) ?_
        refine g_lv [1, 2, 0, 3] rfl ?_
        exact ih5 (x2_5 + 1) row_13 r_row_13 (by first | assumption | omega) (by omega)
  refine g_lv [2, 3, 1, 0] rfl ?_
  exact L5 _ 0 v_row r_v_row (by first | assumption | omega) (Nat.lt_succ_self _)
set_option maxHeartbeats 600000 in
set_option maxRecDepth 100000 in
theorem c_J7_fill_53178_12 (l : Launch) (D : va_G) (cI cB cJ : ClassId) (r_row : Nat) {v_row : Nat → Int} {p1 : Int} (r_v_row : RA (-2147483648) 2147483647 v_row) (hp0 : IR p1) : CtV l yJ7_fill_53178 cJ7_fill_53178 4 none ⟨0, 0, 0, 0⟩ D (TY cI cB cJ) (wA cI 12 r_row v_row) [.ref r_row, vI p1] (fun ws' => ∃ n_row : Nat → Int, (RA (-2147483648) 2147483647 n_row) ∧ (ws' = (wA cI 12 r_row n_row))) := by
  refine hdrV (own := RJ7) rfl (by decide +kernel) (Nat.le_of_ble_eq_true rfl) ?_
  intro p e s m args below meth c Q A X hQ
  refine g_lvE (lv2 := [(0, .ref r_row), (1, vI p1)]) rfl ?_
  refine g_iconst X dJ7_fill_53178_0 ?_
  refine g_istore_n X (lv' := [(2, vI 0), (0, .ref r_row), (1, vI p1)]) dJ7_fill_53178_1 (by decide) rfl ?_
  refine g_aload_n X dJ7_fill_53178_2 1 rfl ?_
  refine g_alen X 0 0 rfl rfl (z := 12) rfl dJ7_fill_53178_3 ?_
  refine g_istore_n X (lv' := [(3, vI 12), (2, vI 0), (0, .ref r_row), (1, vI p1)]) dJ7_fill_53178_4 (by decide) rfl ?_
  have L5 : ∀ (n : Nat) (x2_5 : Int) (row_5 : Nat → Int), (RA (-2147483648) 2147483647 row_5) → (0 ≤ x2_5 ∧ x2_5 ≤ 12) → (12 - x2_5).toNat < n → GG p l e ⟨0, 0, 0, 0⟩ s m args below meth c 0 0 Q D A s.heap 4 (wA cI 12 r_row row_5) 5 [(0, .ref r_row), (1, vI p1), (2, vI x2_5), (3, vI 12)] [] := by
    intro n
    induction n with
    | zero => intros; exfalso; omega
    | succ n ih5 =>
      intro x2_5 row_5 r_row_5 w5_0 wm5
      refine g_iload_n X dJ7_fill_53178_5 2 rfl ?_
      refine g_iload_n X dJ7_fill_53178_6 3 rfl ?_
      refine g_icmp_ge X (tgt := 20) dJ7_fill_53178_7 (by decide) (by omega) (by omega) (fun c7 => ?_) (fun c7 => ?_)
      · exact hQ _ _ _ dJ7_fill_53178_20 ⟨row_5, r_row_5, rfl⟩
      · refine g_aload_n X dJ7_fill_53178_10 0 rfl ?_
        refine g_iload_n X dJ7_fill_53178_11 2 rfl ?_
        refine g_iload_n X dJ7_fill_53178_12 1 rfl ?_
        refine g_iast X 0 0 rfl rfl (by omega) (by decide) dJ7_fill_53178_13 (fun row_13 e13 => ?_)
        have r_row_13 : RA (-2147483648) 2147483647 row_13 := by rw [e13]; exact RA_up r_row_5 (by omega)
        refine g_ws (ws2 := (wA cI 12 r_row row_13)) rfl ?_
        refine g_iinc X (lv' := [(2, vI (x2_5 + 1)), (0, .ref r_row), (1, vI p1), (3, vI 12)]) dJ7_fill_53178_14 2 rfl (by decide) rfl ?_
        refine g_goto X (tgt := 5) dJ7_fill_53178_17 (by decide) ?_
        refine g_lv [1, 2, 0, 3] rfl ?_
        exact ih5 (x2_5 + 1) row_13 r_row_13 (by first | assumption | omega) (by omega)
  refine g_lv [2, 3, 1, 0] rfl ?_
  exact L5 _ 0 v_row r_v_row (by first | assumption | omega) (Nat.lt_succ_self _)
set_option maxHeartbeats 600000 in
set_option maxRecDepth 100000 in
theorem c_J7_fill_53178_144 (l : Launch) (D : va_G) (cI cB cJ : ClassId) (r_row : Nat) {v_row : Nat → Int} {p1 : Int} (r_v_row : RA (-9999) 1000000 v_row) (hp0 : IR p1) (hp1 : -9999 ≤ p1 ∧ p1 ≤ 1000000) : CtV l yJ7_fill_53178 cJ7_fill_53178 4 none ⟨0, 0, 0, 0⟩ D (TY cI cB cJ) (wA cI 144 r_row v_row) [.ref r_row, vI p1] (fun ws' => ∃ n_row : Nat → Int, (RA (-9999) 1000000 n_row) ∧ (∀ j : Nat, (j : Int) < 144 → n_row j = p1) ∧ (ws' = (wA cI 144 r_row n_row))) := by
  refine hdrV (own := RJ7) rfl (by decide +kernel) (Nat.le_of_ble_eq_true rfl) ?_
  intro p e s m args below meth c Q A X hQ
  refine g_lvE (lv2 := [(0, .ref r_row), (1, vI p1)]) rfl ?_
  refine g_iconst X dJ7_fill_53178_0 ?_
  refine g_istore_n X (lv' := [(2, vI 0), (0, .ref r_row), (1, vI p1)]) dJ7_fill_53178_1 (by decide) rfl ?_
  refine g_aload_n X dJ7_fill_53178_2 1 rfl ?_
  refine g_alen X 0 0 rfl rfl (z := 144) rfl dJ7_fill_53178_3 ?_
  refine g_istore_n X (lv' := [(3, vI 144), (2, vI 0), (0, .ref r_row), (1, vI p1)]) dJ7_fill_53178_4 (by decide) rfl ?_
  have L5 : ∀ (n : Nat) (x2_5 : Int) (row_5 : Nat → Int), (RA (-9999) 1000000 row_5) → (0 ≤ x2_5 ∧ x2_5 ≤ 144) → (∀ j : Nat, (j : Int) < x2_5 → row_5 j = p1) → (144 - x2_5).toNat < n → GG p l e ⟨0, 0, 0, 0⟩ s m args below meth c 0 0 Q D A s.heap 4 (wA cI 144 r_row row_5) 5 [(0, .ref r_row), (1, vI p1), (2, vI x2_5), (3, vI 144)] [] := by
    intro n
    induction n with
    | zero => intros; exfalso; omega
    | succ n ih5 =>
      intro x2_5 row_5 r_row_5 w5_0 w5_1 wm5
      refine g_iload_n X dJ7_fill_53178_5 2 rfl ?_
      refine g_iload_n X dJ7_fill_53178_6 3 rfl ?_
      refine g_icmp_ge X (tgt := 20) dJ7_fill_53178_7 (by decide) (by omega) (by omega) (fun c7 => ?_) (fun c7 => ?_)
      · exact hQ _ _ _ dJ7_fill_53178_20 ⟨row_5, r_row_5, (by intro j hj; exact w5_1 j (by omega)), rfl⟩
      · refine g_aload_n X dJ7_fill_53178_10 0 rfl ?_
        refine g_iload_n X dJ7_fill_53178_11 2 rfl ?_
        refine g_iload_n X dJ7_fill_53178_12 1 rfl ?_
        refine g_iast X 0 0 rfl rfl (by omega) (by decide) dJ7_fill_53178_13 (fun row_13 e13 => ?_)
        have r_row_13 : RA (-9999) 1000000 row_13 := by rw [e13]; exact RA_up r_row_5 (by omega)
        refine g_ws (ws2 := (wA cI 144 r_row row_13)) rfl ?_
        refine g_iinc X (lv' := [(2, vI (x2_5 + 1)), (0, .ref r_row), (1, vI p1), (3, vI 144)]) dJ7_fill_53178_14 2 rfl (by decide) rfl ?_
        refine g_goto X (tgt := 5) dJ7_fill_53178_17 (by decide) ?_
        refine g_lv [1, 2, 0, 3] rfl ?_
        exact ih5 (x2_5 + 1) row_13 r_row_13 (by first | assumption | omega) (by intro j hj; first | (exfalso; omega) | (rw [e13]; exact if hq : j = (x2_5).toNat then by (rw [hq, updZ_s]) else by (rw [updZ_n _ _ hq]; exact w5_1 j (by omega)))) (by omega)
  refine g_lv [2, 3, 1, 0] rfl ?_
  exact L5 _ 0 v_row r_v_row (by first | assumption | omega) (by intro j hj; first | (exfalso; omega) | (rw [e13]; exact if hq : j = (x2_5).toNat then by (rw [hq, updZ_s]) else by (rw [updZ_n _ _ hq]; exact w5_1 j (by omega)))) (Nat.lt_succ_self _)
set_option maxHeartbeats 600000 in
set_option maxRecDepth 100000 in
theorem c_J7_fill_53178_4096 (l : Launch) (D : va_G) (cI cB cJ : ClassId) (r_row : Nat) {v_row : Nat → Int} {p1 : Int} (r_v_row : RA (-2147483648) 2147483647 v_row) (hp0 : IR p1) : CtV l yJ7_fill_53178 cJ7_fill_53178 4 none ⟨0, 0, 0, 0⟩ D (TY cI cB cJ) (wA cI 4096 r_row v_row) [.ref r_row, vI p1] (fun ws' => ∃ n_row : Nat → Int, (RA (-2147483648) 2147483647 n_row) ∧ (∀ j : Nat, (j : Int) < 4096 → n_row j = p1) ∧ (ws' = (wA cI 4096 r_row n_row))) := by
  refine hdrV (own := RJ7) rfl (by decide +kernel) (Nat.le_of_ble_eq_true rfl) ?_
  intro p e s m args below meth c Q A X hQ
  refine g_lvE (lv2 := [(0, .ref r_row), (1, vI p1)]) rfl ?_
  refine g_iconst X dJ7_fill_53178_0 ?_
  refine g_istore_n X (lv' := [(2, vI 0), (0, .ref r_row), (1, vI p1)]) dJ7_fill_53178_1 (by decide) rfl ?_
  refine g_aload_n X dJ7_fill_53178_2 1 rfl ?_
  refine g_alen X 0 0 rfl rfl (z := 4096) rfl dJ7_fill_53178_3 ?_
  refine g_istore_n X (lv' := [(3, vI 4096), (2, vI 0), (0, .ref r_row), (1, vI p1)]) dJ7_fill_53178_4 (by decide) rfl ?_
  have L5 : ∀ (n : Nat) (x2_5 : Int) (row_5 : Nat → Int), (RA (-2147483648) 2147483647 row_5) → (0 ≤ x2_5 ∧ x2_5 ≤ 4096) → (∀ j : Nat, (j : Int) < x2_5 → row_5 j = p1) → (4096 - x2_5).toNat < n → GG p l e ⟨0, 0, 0, 0⟩ s m args below meth c 0 0 Q D A s.heap 4 (wA cI 4096 r_row row_5) 5 [(0, .ref r_row), (1, vI p1), (2, vI x2_5), (3, vI 4096)] [] := by
    intro n
    induction n with
    | zero => intros; exfalso; omega
    | succ n ih5 =>
      intro x2_5 row_5 r_row_5 w5_0 w5_1 wm5
      refine g_iload_n X dJ7_fill_53178_5 2 rfl ?_
      refine g_iload_n X dJ7_fill_53178_6 3 rfl ?_
      refine g_icmp_ge X (tgt := 20) dJ7_fill_53178_7 (by decide) (by omega) (by omega) (fun c7 => ?_) (fun c7 => ?_)
      · exact hQ _ _ _ dJ7_fill_53178_20 ⟨row_5, r_row_5, (by intro j hj; exact w5_1 j (by omega)), rfl⟩
      · refine g_aload_n X dJ7_fill_53178_10 0 rfl ?_
        refine g_iload_n X dJ7_fill_53178_11 2 rfl ?_
        refine g_iload_n X dJ7_fill_53178_12 1 rfl ?_
        refine g_iast X 0 0 rfl rfl (by omega) (by decide) dJ7_fill_53178_13 (fun row_13 e13 => ?_)
        have r_row_13 : RA (-2147483648) 2147483647 row_13 := by rw [e13]; exact RA_up r_row_5 (by omega)
        refine g_ws (ws2 := (wA cI 4096 r_row row_13)) rfl ?_
        refine g_iinc X (lv' := [(2, vI (x2_5 + 1)), (0, .ref r_row), (1, vI p1), (3, vI 4096)]) dJ7_fill_53178_14 2 rfl (by decide) rfl ?_
        refine g_goto X (tgt := 5) dJ7_fill_53178_17 (by decide) ?_
        refine g_lv [1, 2, 0, 3] rfl ?_
        exact ih5 (x2_5 + 1) row_13 r_row_13 (by first | assumption | omega) (by intro j hj; first | (exfalso; omega) | (rw [e13]; exact if hq : j = (x2_5).toNat then by (rw [hq, updZ_s]) else by (rw [updZ_n _ _ hq]; exact w5_1 j (by omega)))) (by omega)
  refine g_lv [2, 3, 1, 0] rfl ?_
  exact L5 _ 0 v_row r_v_row (by first | assumption | omega) (by intro j hj; first | (exfalso; omega) | (rw [e13]; exact if hq : j = (x2_5).toNat then by (rw [hq, updZ_s]) else by (rw [updZ_n _ _ hq]; exact w5_1 j (by omega)))) (Nat.lt_succ_self _)
set_option maxHeartbeats 600000 in
set_option maxRecDepth 100000 in
theorem c_J7_fill_fda19_4096 (l : Launch) (D : va_G) (cI cB cJ : ClassId) (r_row : Nat) {v_row : Nat → Int} {p1 p2 p3 : Int} (r_v_row : RA (-2147483648) 2147483647 v_row) (hp0 : IR p1) (hp1 : IR p2) (hp2 : IR p3) (hp3 : 0 ≤ p1 ∧ p1 ≤ p2 ∧ p2 ≤ 4096) : CtV l yJ7_fill_fda19 cJ7_fill_fda19 5 none ⟨2, 0, 0, 62⟩ D (TY cI cB cJ) (wA cI 4096 r_row v_row) [.ref r_row, vI p1, vI p2, vI p3] (fun ws' => ∃ n_row : Nat → Int, (RA (-2147483648) 2147483647 n_row) ∧ (∀ j : Nat, p1 ≤ (j : Int) → (j : Int) < p2 → n_row j = p3) ∧ (ws' = (wA cI 4096 r_row n_row))) := by
  refine hdrV (own := RJ7) rfl (by decide +kernel) (Nat.le_of_ble_eq_true rfl) ?_
  intro p e s m args below meth c Q A X hQ
  refine g_lvE (lv2 := [(0, .ref r_row), (1, vI p1), (2, vI p2), (3, vI p3)]) rfl ?_
  refine g_aload_n X dJ7_fill_fda19_0 0 rfl ?_
  refine g_alen X 0 0 rfl rfl (z := 4096) rfl dJ7_fill_fda19_1 ?_
  refine g_iload_n X dJ7_fill_fda19_2 1 rfl ?_
  refine g_iload_n X dJ7_fill_fda19_3 2 rfl ?_
  refine g_callSVE X (c_J7_rangeCheck_23922 l D cI cB cJ (p0 := 4096) (p1 := p1) (p2 := p2) (by first | assumption | omega) (by first | assumption | omega) (by first | assumption | omega) (by first | assumption | omega)) cv_J7_rangeCheck_23922 uw829 ⟨rfl, rfl, by decide, by decide⟩ rfl rfl (Nat.le_of_ble_eq_true rfl) ⟨Nat.zero_le _, Nat.zero_le _⟩ dJ7_fill_fda19_4 (fun ws4 k4 => ?_)
  obtain rfl := k4
  refine g_iload_n X dJ7_fill_fda19_7 1 rfl ?_
  refine g_istore X (lv' := [(4, vI p1), (0, .ref r_row), (1, vI p1), (2, vI p2), (3, vI p3)]) dJ7_fill_fda19_8 (by decide) rfl ?_
  have L10 : ∀ (n : Nat) (x4_10 : Int) (row_10 : Nat → Int), (RA (-2147483648) 2147483647 row_10) → (p1 ≤ x4_10 ∧ x4_10 ≤ p2) → (∀ j : Nat, p1 ≤ (j : Int) → (j : Int) < x4_10 → row_10 j = p3) → (p2 - x4_10).toNat < n → GG p l e ⟨2, 0, 0, 62⟩ s m args below meth c 0 0 Q D A s.heap 5 (wA cI 4096 r_row row_10) 10 [(0, .ref r_row), (2, vI p2), (3, vI p3), (4, vI x4_10)] [] := by
    intro n
    induction n with
    | zero => intros; exfalso; omega
    | succ n ih10 =>
      intro x4_10 row_10 r_row_10 w10_0 w10_1 wm10
      refine g_iload X dJ7_fill_fda19_10 3 rfl ?_
      refine g_iload_n X dJ7_fill_fda19_12 1 rfl ?_
      refine g_icmp_ge X (tgt := 27) dJ7_fill_fda19_13 (by decide) (by omega) (by omega) (fun c13 => ?_) (fun c13 => ?_)
      · exact hQ _ _ _ dJ7_fill_fda19_27 ⟨row_10, r_row_10, (by intro j h1 h2; exact w10_1 j h1 (by omega)), rfl⟩
      · refine g_aload_n X dJ7_fill_fda19_16 0 rfl ?_
        refine g_iload X dJ7_fill_fda19_17 3 rfl ?_
        refine g_iload_n X dJ7_fill_fda19_19 2 rfl ?_
        refine g_iast X 0 0 rfl rfl (by omega) (by decide) dJ7_fill_fda19_20 (fun row_20 e20 => ?_)
        have r_row_20 : RA (-2147483648) 2147483647 row_20 := by rw [e20]; exact RA_up r_row_10 (by omega)
        refine g_ws (ws2 := (wA cI 4096 r_row row_20)) rfl ?_
        refine g_iinc X (lv' := [(4, vI (x4_10 + 1)), (0, .ref r_row), (2, vI p2), (3, vI p3)]) dJ7_fill_fda19_21 3 rfl (by decide) rfl ?_
        refine g_goto X (tgt := 10) dJ7_fill_fda19_24 (by decide) ?_
        refine g_lv [1, 2, 3, 0] rfl ?_
        exact ih10 (x4_10 + 1) row_20 r_row_20 (by first | assumption | omega) (by intro j h1 h2; first | (exfalso; omega) | (rw [e20]; exact if hq : j = (x4_10).toNat then by (rw [hq, updZ_s]) else by (rw [updZ_n _ _ hq]; exact w10_1 j h1 (by omega)))) (by omega)
  refine g_lv [1, 3, 4, 0] rfl ?_
  exact L10 _ p1 v_row r_v_row (by first | assumption | omega) (by intro j h1 h2; first | (exfalso; omega) | (rw [e20]; exact if hq : j = (x4_10).toNat then by (rw [hq, updZ_s]) else by (rw [updZ_n _ _ hq]; exact w10_1 j h1 (by omega)))) (Nat.lt_succ_self _)
set_option maxHeartbeats 600000 in
set_option maxRecDepth 100000 in
theorem c_X9_isFrom (l : Launch) (D : va_G) (cI cB cJ : ClassId) {p0 p1 p2 : Int} (hp0 : IR p0) (hp1 : IR p1) (hp2 : IR p2) : CtI l yX9_isFrom cX9_isFrom 3 (some .boolean) ⟨0, 0, 0, 0⟩ D (TY cI cB cJ) [] [vI p0, vI p1, vI p2] (fun z ws' => (z = 0 ∨ z = 1) ∧ ((z = 1 ∧ p1 ≤ p0 ∧ p0 ≤ p2) ∨ (z = 0 ∧ ¬ (p1 ≤ p0 ∧ p0 ≤ p2))) ∧ (ws' = [])) := by
  refine hdrZ (own := RX9) rfl (by decide +kernel) (Nat.le_of_ble_eq_true rfl) ?_
  intro p e s m args below meth c Q A X hQ
  refine g_lvE (lv2 := [(0, vI p0), (1, vI p1), (2, vI p2)]) rfl ?_
  refine g_iload_n X dX9_isFrom_0 0 rfl ?_
  refine g_iload_n X dX9_isFrom_1 1 rfl ?_
  refine g_icmp_lt X (tgt := 14) dX9_isFrom_2 (by decide) (by omega) (by omega) (fun c2 => ?_) (fun c2 => ?_)
  · refine g_iconst X dX9_isFrom_14 ?_
    exact hQ _ _ _ _ dX9_isFrom_15 ⟨by omega, ⟨(by first | assumption | omega), rfl⟩⟩
  · refine g_iload_n X dX9_isFrom_5 0 rfl ?_
    refine g_iload_n X dX9_isFrom_6 2 rfl ?_
    refine g_icmp_gt X (tgt := 14) dX9_isFrom_7 (by decide) (by omega) (by omega) (fun c7 => ?_) (fun c7 => ?_)
    · refine g_iconst X dX9_isFrom_14 ?_
      exact hQ _ _ _ _ dX9_isFrom_15 ⟨by omega, ⟨(by first | assumption | omega), rfl⟩⟩
    · refine g_iconst X dX9_isFrom_10 ?_
      refine g_goto X (tgt := 15) dX9_isFrom_11 (by decide) ?_
      exact hQ _ _ _ _ dX9_isFrom_15 ⟨by omega, ⟨(by first | assumption | omega), rfl⟩⟩
set_option maxHeartbeats 600000 in
set_option maxRecDepth 100000 in
theorem c_X9_isThing (l : Launch) (D : va_G) (cI cB cJ : ClassId) {p0 : Int} (hp0 : IR p0) : CtI l yX9_isThing cX9_isThing 1 (some .boolean) ⟨1, 0, 0, 22⟩ D (TY cI cB cJ) [] [vI p0] (fun z ws' => (z = 0 ∨ z = 1) ∧ ((z = 1 ∧ 0 ≤ p0 ∧ p0 ≤ 11) ∨ (z = 0 ∧ ¬ (0 ≤ p0 ∧ p0 ≤ 11))) ∧ (ws' = [])) := by
  refine hdrZ (own := RX9) rfl (by decide +kernel) (Nat.le_of_ble_eq_true rfl) ?_
  intro p e s m args below meth c Q A X hQ
  refine g_lvE (lv2 := [(0, vI p0)]) rfl ?_
  refine g_iload_n X dX9_isThing_0 0 rfl ?_
  refine g_iconst X dX9_isThing_1 ?_
  refine g_bipush X (z := 11) dX9_isThing_2 (by decide) ?_
  refine g_callSIE X (c_X9_isFrom l D cI cB cJ (p0 := p0) (p1 := 0) (p2 := 11) (by first | assumption | omega) (by first | assumption | omega) (by first | assumption | omega)) cv_X9_isFrom uw719 ⟨rfl, rfl, by decide, by decide⟩ rfl rfl (Nat.le_of_ble_eq_true rfl) ⟨Nat.zero_le _, Nat.zero_le _⟩ dX9_isThing_4 (fun t4 ws4 k4 => ?_)
  obtain ⟨kb_4, ⟨kp0_4, rfl⟩⟩ := k4
  exact hQ _ _ _ _ dX9_isThing_7 ⟨by omega, ⟨(by first | assumption | omega), rfl⟩⟩
set_option maxHeartbeats 600000 in
set_option maxRecDepth 100000 in
theorem c_X9_isIn (l : Launch) (D : va_G) (cI cB cJ : ClassId) {p0 p1 : Int} (hp0 : IR p0) (hp1 : IR p1) : CtI l yX9_isIn cX9_isIn 2 (some .boolean) ⟨0, 0, 0, 0⟩ D (TY cI cB cJ) [] [vI p0, vI p1] (fun z ws' => (z = 0 ∨ z = 1) ∧ ((z = 1 ∧ z_iand (z_iushr p0 p1) 1 ≠ 0) ∨ (z = 0 ∧ z_iand (z_iushr p0 p1) 1 = 0)) ∧ (ws' = [])) := by
  refine hdrZ (own := RX9) rfl (by decide +kernel) (Nat.le_of_ble_eq_true rfl) ?_
  intro p e s m args below meth c Q A X hQ
  refine g_lvE (lv2 := [(0, vI p0), (1, vI p1)]) rfl ?_
  refine g_iload_n X dX9_isIn_0 0 rfl ?_
  refine g_iload_n X dX9_isIn_1 1 rfl ?_
  refine g_iushr X dX9_isIn_2 ?_
  refine g_nm (fun t2 e2 => ?_)
  have r2 : IR t2 := by rw [e2]; exact z_ir _
  refine g_iconst X dX9_isIn_3 ?_
  refine g_iand X dX9_isIn_4 ?_
  refine g_nm (fun t4 e4 => ?_)
  have r4 := z_iand_r t2 1 (by omega) (by omega); rw [← e4] at r4
  refine g_if_eq X (tgt := 12) dX9_isIn_5 (by decide) (by omega) (fun c5 => ?_) (fun c5 => ?_)
  · refine g_iconst X dX9_isIn_12 ?_
    have hq : t4 = z_iand (z_iushr p0 p1) 1 := by rw [e4, e2]
    exact hQ _ _ _ _ dX9_isIn_13 ⟨by omega, ⟨(by first | assumption | omega), rfl⟩⟩
  · refine g_iconst X dX9_isIn_8 ?_
    refine g_goto X (tgt := 13) dX9_isIn_9 (by decide) ?_
    have hq : t4 = z_iand (z_iushr p0 p1) 1 := by rw [e4, e2]
    exact hQ _ _ _ _ dX9_isIn_13 ⟨by omega, ⟨(by first | assumption | omega), rfl⟩⟩
set_option maxHeartbeats 600000 in
set_option maxRecDepth 100000 in
theorem c_X9_lowestIn (l : Launch) (D : va_G) (cI cB cJ : ClassId) {p0 : Int} (hp0 : IR p0) : CtI l yX9_lowestIn cX9_lowestIn 2 (some .int) ⟨1, 0, 0, 21⟩ D (TY cI cB cJ) [] [vI p0] (fun z ws' => (0 ≤ z ∧ z ≤ 31) ∧ (ws' = [])) := by
  refine hdrI (own := RX9) rfl (by decide +kernel) (Nat.le_of_ble_eq_true rfl) ?_
  intro p e s m args below meth c Q A X hQ
  refine g_lvE (lv2 := [(0, vI p0)]) rfl ?_
  refine g_iconst X dX9_lowestIn_0 ?_
  refine g_istore_n X (lv' := [(1, vI 0), (0, vI p0)]) dX9_lowestIn_1 (by decide) rfl ?_
  have L2 : ∀ (n : Nat) (x1_2 : Int), (0 ≤ x1_2 ∧ x1_2 ≤ 31) → (31 - x1_2).toNat < n → GG p l e ⟨1, 0, 0, 21⟩ s m args below meth c 0 0 Q D A s.heap 2 [] 2 [(0, vI p0), (1, vI x1_2)] [] := by
    intro n
    induction n with
    | zero => intros; exfalso; omega
    | succ n ih2 =>
      intro x1_2 w2_0 wm2
      refine g_iload_n X dX9_lowestIn_2 1 rfl ?_
      refine g_bipush X (z := 31) dX9_lowestIn_3 (by decide) ?_
      refine g_icmp_ge X (tgt := 22) dX9_lowestIn_5 (by decide) (by omega) (by omega) (fun c5 => ?_) (fun c5 => ?_)
      · refine g_iload_n X dX9_lowestIn_22 1 rfl ?_
        exact hQ _ _ _ _ dX9_lowestIn_23 ⟨(by first | assumption | omega), rfl⟩
      · refine g_iload_n X dX9_lowestIn_8 0 rfl ?_
        refine g_iload_n X dX9_lowestIn_9 1 rfl ?_
        refine g_callSIE X (c_X9_isIn l D cI cB cJ (p0 := p0) (p1 := x1_2) (by first | assumption | omega) (by first | assumption | omega)) cv_X9_isIn uw776 ⟨rfl, rfl, by decide, by decide⟩ rfl rfl (Nat.le_of_ble_eq_true rfl) ⟨Nat.zero_le _, Nat.zero_le _⟩ dX9_lowestIn_10 (fun t10 ws10 k10 => ?_)
        obtain ⟨kb_10, ⟨kp0_10, rfl⟩⟩ := k10
        refine g_if_ne X (tgt := 22) dX9_lowestIn_13 (by decide) (by omega) (fun c13 => ?_) (fun c13 => ?_)
        · refine g_iload_n X dX9_lowestIn_22 1 rfl ?_
          exact hQ _ _ _ _ dX9_lowestIn_23 ⟨(by first | assumption | omega), rfl⟩
        · refine g_iinc X (lv' := [(1, vI (x1_2 + 1)), (0, vI p0)]) dX9_lowestIn_16 1 rfl (by decide) rfl ?_
          refine g_goto X (tgt := 2) dX9_lowestIn_19 (by decide) ?_
          refine g_lv [1, 0] rfl ?_
          exact ih2 (x1_2 + 1) (by first | assumption | omega) (by omega)
  refine g_lv [1, 0] rfl ?_
  exact L2 _ 0 (by first | assumption | omega) (Nat.lt_succ_self _)
set_option maxHeartbeats 600000 in
set_option maxRecDepth 100000 in
theorem c_X9_lowestIn_b (l : Launch) (D : va_G) (cI cB cJ : ClassId) {p0 : Int} (hp0 : IR p0) (hp1 : 1 ≤ p0 ∧ p0 ≤ 4095) : CtI l yX9_lowestIn cX9_lowestIn 2 (some .int) ⟨1, 0, 0, 21⟩ D (TY cI cB cJ) [] [vI p0] (fun z ws' => (0 ≤ z ∧ z ≤ 11) ∧ (ws' = [])) := by
  refine hdrI (own := RX9) rfl (by decide +kernel) (Nat.le_of_ble_eq_true rfl) ?_
  intro p e s m args below meth c Q A X hQ
  refine g_lvE (lv2 := [(0, vI p0)]) rfl ?_
  obtain ⟨k0, hk0, hk1, hk2⟩ := lowI_ex p0 (by omega)
  refine g_iconst X dX9_lowestIn_0 ?_
  refine g_istore_n X (lv' := [(1, vI 0), (0, vI p0)]) dX9_lowestIn_1 (by decide) rfl ?_
  have L2 : ∀ (n : Nat) (x1_2 : Int), (0 ≤ x1_2 ∧ x1_2 ≤ k0) → (k0 + 1 - x1_2).toNat < n → GG p l e ⟨1, 0, 0, 21⟩ s m args below meth c 0 0 Q D A s.heap 2 [] 2 [(0, vI p0), (1, vI x1_2)] [] := by
    intro n
    induction n with
    | zero => intros; exfalso; omega
    | succ n ih2 =>
      intro x1_2 w2_0 wm2
      have hq7 : x1_2 = k0 → z_iand (z_iushr p0 x1_2) 1 = z_iand (z_iushr p0 k0) 1 := fun h => by rw [h]
      refine g_iload_n X dX9_lowestIn_2 1 rfl ?_
      refine g_bipush X (z := 31) dX9_lowestIn_3 (by decide) ?_
      refine g_icmp_ge X (tgt := 22) dX9_lowestIn_5 (by decide) (by omega) (by omega) (fun c5 => ?_) (fun c5 => ?_)
      · refine g_iload_n X dX9_lowestIn_22 1 rfl ?_
        exact hQ _ _ _ _ dX9_lowestIn_23 ⟨(by first | assumption | omega), rfl⟩
      · refine g_iload_n X dX9_lowestIn_8 0 rfl ?_
        refine g_iload_n X dX9_lowestIn_9 1 rfl ?_
        refine g_callSIE X (c_X9_isIn l D cI cB cJ (p0 := p0) (p1 := x1_2) (by first | assumption | omega) (by first | assumption | omega)) cv_X9_isIn uw776 ⟨rfl, rfl, by decide, by decide⟩ rfl rfl (Nat.le_of_ble_eq_true rfl) ⟨Nat.zero_le _, Nat.zero_le _⟩ dX9_lowestIn_10 (fun t10 ws10 k10 => ?_)
        obtain ⟨kb_10, ⟨kp0_10, rfl⟩⟩ := k10
        refine g_if_ne X (tgt := 22) dX9_lowestIn_13 (by decide) (by omega) (fun c13 => ?_) (fun c13 => ?_)
        · refine g_iload_n X dX9_lowestIn_22 1 rfl ?_
          exact hQ _ _ _ _ dX9_lowestIn_23 ⟨(by first | assumption | omega), rfl⟩
        · refine g_iinc X (lv' := [(1, vI (x1_2 + 1)), (0, vI p0)]) dX9_lowestIn_16 1 rfl (by decide) rfl ?_
          refine g_goto X (tgt := 2) dX9_lowestIn_19 (by decide) ?_
          refine g_lv [1, 0] rfl ?_
          exact ih2 (x1_2 + 1) (by first | assumption | omega) (by omega)
  refine g_lv [1, 0] rfl ?_
  exact L2 _ 0 (by first | assumption | omega) (Nat.lt_succ_self _)
set_option maxHeartbeats 600000 in
set_option maxRecDepth 100000 in
theorem c_X6_areAlike (l : Launch) (D : va_G) (cI cB cJ : ClassId) (r_row : Nat) {v_row : Nat → Int} {p1 : Int} (r_v_row : RA (-2147483648) 2147483647 v_row) (hp0 : IR p1) (hp1 : p1 ≤ 20) : CtI l yX6_areAlike cX6_areAlike 3 (some .boolean) ⟨0, 0, 0, 0⟩ D (TY cI cB cJ) (wA cI 20 r_row v_row) [.ref r_row, vI p1] (fun z ws' => (z = 0 ∨ z = 1) ∧ ((z = 1 ∧ ¬ 0 < unA v_row p1.toNat) ∨ (z = 0 ∧ 0 < unA v_row p1.toNat)) ∧ (ws' = (wA cI 20 r_row v_row))) := by
  refine hdrZ (own := RX6) rfl (by decide +kernel) (Nat.le_of_ble_eq_true rfl) ?_
  intro p e s m args below meth c Q A X hQ
  refine g_lvE (lv2 := [(0, .ref r_row), (1, vI p1)]) rfl ?_
  refine g_iconst X dX6_areAlike_0 ?_
  refine g_istore_n X (lv' := [(2, vI 1), (0, .ref r_row), (1, vI p1)]) dX6_areAlike_1 (by decide) rfl ?_
  have L2 : ∀ (n : Nat) (x2_2 : Int), (1 ≤ x2_2 ∧ (x2_2 = 1 ∨ x2_2 ≤ p1)) → (∀ j : Nat, (j : Int) < x2_2 → v_row j = v_row 0) → (20 - x2_2).toNat < n → GG p l e ⟨0, 0, 0, 0⟩ s m args below meth c 0 0 Q D A s.heap 3 (wA cI 20 r_row v_row) 2 [(0, .ref r_row), (1, vI p1), (2, vI x2_2)] [] := by
    intro n
    induction n with
    | zero => intros; exfalso; omega
    | succ n ih2 =>
      intro x2_2 w2_0 w2_1 wm2
      refine g_iload_n X dX6_areAlike_2 2 rfl ?_
      refine g_iload_n X dX6_areAlike_3 1 rfl ?_
      refine g_icmp_ge X (tgt := 24) dX6_areAlike_4 (by decide) (by omega) (by omega) (fun c4 => ?_) (fun c4 => ?_)
      · refine g_iconst X dX6_areAlike_24 ?_
        exact hQ _ _ _ _ dX6_areAlike_25 ⟨by omega, ⟨(by first | exact Or.inl ⟨rfl, unA_n (fun j hj => w2_1 j (by omega))⟩ | exact Or.inr ⟨rfl, unA_y (j := (x2_2).toNat) (by omega) (by rw [← e9, show v_row 0 = t12 from e12.symm]; omega)⟩), rfl⟩⟩
      · refine g_aload_n X dX6_areAlike_7 0 rfl ?_
        refine g_iload_n X dX6_areAlike_8 2 rfl ?_
        refine g_iald X 0 0 rfl rfl (by omega) (by decide) dX6_areAlike_9 (fun t9 e9 => ?_)
        have r9 := r_v_row (x2_2 : Int).toNat; rw [← e9] at r9
        refine g_aload_n X dX6_areAlike_10 0 rfl ?_
        refine g_iconst X dX6_areAlike_11 ?_
        refine g_iald X 0 0 rfl rfl (by omega) (by decide) dX6_areAlike_12 (fun t12 e12 => ?_)
        have r12 := r_v_row (0 : Int).toNat; rw [← e12] at r12
        refine g_icmp_eq X (tgt := 18) dX6_areAlike_13 (by decide) (by omega) (by omega) (fun c13 => ?_) (fun c13 => ?_)
        · refine g_iinc X (lv' := [(2, vI (x2_2 + 1)), (0, .ref r_row), (1, vI p1)]) dX6_areAlike_18 2 rfl (by decide) rfl ?_
          refine g_goto X (tgt := 2) dX6_areAlike_21 (by decide) ?_
          refine g_lv [1, 2, 0] rfl ?_
          exact ih2 (x2_2 + 1) (by first | assumption | omega) (by intro j hj; first | (have hj0 : j = 0 := (by omega); subst hj0; rfl) | (rcases (show (j : Int) < x2_2 ∨ j = (x2_2).toNat by omega) with h | h; exact w2_1 j h; (rw [h, ← e9, show v_row 0 = t12 from e12.symm]; omega))) (by omega)
        · refine g_iconst X dX6_areAlike_16 ?_
          exact hQ _ _ _ _ dX6_areAlike_17 ⟨by omega, ⟨(by first | exact Or.inl ⟨rfl, unA_n (fun j hj => w2_1 j (by omega))⟩ | exact Or.inr ⟨rfl, unA_y (j := (x2_2).toNat) (by omega) (by rw [← e9, show v_row 0 = t12 from e12.symm]; omega)⟩), rfl⟩⟩
  refine g_lv [1, 2, 0] rfl ?_
  exact L2 _ 1 (by first | assumption | omega) (by intro j hj; first | (have hj0 : j = 0 := (by omega); subst hj0; rfl) | (rcases (show (j : Int) < x2_2 ∨ j = (x2_2).toNat by omega) with h | h; exact w2_1 j h; (rw [h, ← e9, show v_row 0 = t12 from e12.symm]; omega))) (Nat.lt_succ_self _)
set_option maxHeartbeats 600000 in
set_option maxRecDepth 100000 in
theorem c_X6_takeDifferences (l : Launch) (D : va_G) (cI cB cJ : ClassId) (r_row : Nat) {v_row : Nat → Int} {p1 : Int} (r_v_row : RA (-2147483648) 2147483647 v_row) (hp0 : IR p1) (hp1 : p1 ≤ 20) (hp2 : ∀ j : Nat, (j : Int) < p1 → -1000000000 ≤ v_row j ∧ v_row j ≤ 1000000000) : CtV l yX6_takeDifferences cX6_takeDifferences 3 none ⟨0, 0, 0, 0⟩ D (TY cI cB cJ) (wA cI 20 r_row v_row) [.ref r_row, vI p1] (fun ws' => ∃ n_row : Nat → Int, (RA (-2147483648) 2147483647 n_row) ∧ (∀ j : Nat, (j : Int) + 1 < p1 → n_row j = v_row (j + 1) - v_row j) ∧ (ws' = (wA cI 20 r_row n_row))) := by
  refine hdrV (own := RX6) rfl (by decide +kernel) (Nat.le_of_ble_eq_true rfl) ?_
  intro p e s m args below meth c Q A X hQ
  refine g_lvE (lv2 := [(0, .ref r_row), (1, vI p1)]) rfl ?_
  refine g_iconst X dX6_takeDifferences_0 ?_
  refine g_istore_n X (lv' := [(2, vI 0), (0, .ref r_row), (1, vI p1)]) dX6_takeDifferences_1 (by decide) rfl ?_
  have L2 : ∀ (n : Nat) (x2_2 : Int) (row_2 : Nat → Int), (RA (-2147483648) 2147483647 row_2) → (0 ≤ x2_2 ∧ x2_2 ≤ 20) → (∀ j : Nat, (j : Int) < x2_2 → row_2 j = v_row (j + 1) - v_row j) → (∀ j : Nat, x2_2 ≤ (j : Int) → row_2 j = v_row j) → (20 - x2_2).toNat < n → GG p l e ⟨0, 0, 0, 0⟩ s m args below meth c 0 0 Q D A s.heap 3 (wA cI 20 r_row row_2) 2 [(0, .ref r_row), (1, vI p1), (2, vI x2_2)] [] := by
    intro n
    induction n with
    | zero => intros; exfalso; omega
    | succ n ih2 =>
      intro x2_2 row_2 r_row_2 w2_0 w2_1 w2_2 wm2
      refine g_iload_n X dX6_takeDifferences_2 2 rfl ?_
      refine g_iconst X dX6_takeDifferences_3 ?_
      refine g_iadd X dX6_takeDifferences_4 ?_
      refine g_iload_n X dX6_takeDifferences_5 1 rfl ?_
      refine g_icmp_ge X (tgt := 27) dX6_takeDifferences_6 (by decide) (by omega) (by omega) (fun c6 => ?_) (fun c6 => ?_)
      · exact hQ _ _ _ dX6_takeDifferences_27 ⟨row_2, r_row_2, (by intro j hj; exact w2_1 j (by omega)), rfl⟩
      · refine g_aload_n X dX6_takeDifferences_9 0 rfl ?_
        refine g_iload_n X dX6_takeDifferences_10 2 rfl ?_
        refine g_aload_n X dX6_takeDifferences_11 0 rfl ?_
        refine g_iload_n X dX6_takeDifferences_12 2 rfl ?_
        refine g_iconst X dX6_takeDifferences_13 ?_
        refine g_iadd X dX6_takeDifferences_14 ?_
        refine g_iald X 0 0 rfl rfl (by omega) (by decide) dX6_takeDifferences_15 (fun t15 e15 => ?_)
        have r15 := r_row_2 (x2_2 + 1 : Int).toNat; rw [← e15] at r15
        have c15 := w2_2 ((x2_2 + 1)).toNat (by omega)
        have b15 := hp2 ((x2_2 + 1)).toNat (by omega)
        refine g_aload_n X dX6_takeDifferences_16 0 rfl ?_
        refine g_iload_n X dX6_takeDifferences_17 2 rfl ?_
        refine g_iald X 0 0 rfl rfl (by omega) (by decide) dX6_takeDifferences_18 (fun t18 e18 => ?_)
        have r18 := r_row_2 (x2_2 : Int).toNat; rw [← e18] at r18
        have c18 := w2_2 (x2_2).toNat (by omega)
        have b18 := hp2 (x2_2).toNat (by omega)
        refine g_isub X dX6_takeDifferences_19 ?_
        refine g_iast X 0 0 rfl rfl (by omega) (by decide) dX6_takeDifferences_20 (fun row_20 e20 => ?_)
        have r_row_20 : RA (-2147483648) 2147483647 row_20 := by rw [e20]; exact RA_up r_row_2 (by omega)
        refine g_ws (ws2 := (wA cI 20 r_row row_20)) rfl ?_
        refine g_iinc X (lv' := [(2, vI (x2_2 + 1)), (0, .ref r_row), (1, vI p1)]) dX6_takeDifferences_21 2 rfl (by decide) rfl ?_
        refine g_goto X (tgt := 2) dX6_takeDifferences_24 (by decide) ?_
        refine g_lv [1, 2, 0] rfl ?_
        exact ih2 (x2_2 + 1) row_20 r_row_20 (by first | assumption | omega) (by intro j hj; first | (exfalso; omega) | (rw [e20]; exact if hq : j = (x2_2).toNat then by (rw [hq, updZ_s, e15, e18, c15, c18, show (x2_2 + 1).toNat = (x2_2).toNat + 1 by omega]) else by (rw [updZ_n _ _ hq]; exact w2_1 j (by omega)))) (by intro j hj; first | rfl | (rw [e20, updZ_n _ _ (by omega)]; exact w2_2 j (by omega))) (by omega)
  refine g_lv [1, 2, 0] rfl ?_
  exact L2 _ 0 v_row r_v_row (by first | assumption | omega) (by intro j hj; first | (exfalso; omega) | (rw [e20]; exact if hq : j = (x2_2).toNat then by (rw [hq, updZ_s, e15, e18, c15, c18, show (x2_2 + 1).toNat = (x2_2).toNat + 1 by omega]) else by (rw [updZ_n _ _ hq]; exact w2_1 j (by omega)))) (by intro j hj; first | rfl | (rw [e20, updZ_n _ _ (by omega)]; exact w2_2 j (by omega))) (Nat.lt_succ_self _)
set_option maxHeartbeats 600000 in
set_option maxRecDepth 100000 in
theorem c_X6_depth (l : Launch) (D : va_G) (cI cB cJ : ClassId) (r_row : Nat) {v_row : Nat → Int} {p1 : Int} (r_v_row : RA (-2147483648) 2147483647 v_row) (hp0 : IR p1) (hp1 : 2 ≤ p1 ∧ p1 ≤ 12) (hp2 : ∀ j : Nat, (j : Int) < p1 → 0 ≤ v_row j ∧ v_row j ≤ 65535) : CtI l yX6_depth cX6_depth 4 (some .int) ⟨1, 0, 0, 22⟩ D (TY cI cB cJ) (wA cI 20 r_row v_row) [.ref r_row, vI p1] (fun z ws' => ∃ n_row : Nat → Int, (RA (-2147483648) 2147483647 n_row) ∧ (0 ≤ z ∧ z ≤ 12) ∧ (z = rwD p1.toNat v_row) ∧ (ws' = (wA cI 20 r_row n_row))) := by
  refine hdrI (own := RX6) rfl (by decide +kernel) (Nat.le_of_ble_eq_true rfl) ?_
  intro p e s m args below meth c Q A X hQ
  refine g_lvE (lv2 := [(0, .ref r_row), (1, vI p1)]) rfl ?_
  refine g_iconst X dX6_depth_0 ?_
  refine g_istore_n X (lv' := [(2, vI 0), (0, .ref r_row), (1, vI p1)]) dX6_depth_1 (by decide) rfl ?_
  refine g_iload_n X dX6_depth_2 2 rfl ?_
  refine g_istore_n X (lv' := [(3, vI p1), (2, vI 0), (0, .ref r_row), (1, vI p1)]) dX6_depth_3 (by decide) rfl ?_
  have L4 : ∀ (n : Nat) (x2_4 : Int) (x3_4 : Int) (row_4 : Nat → Int), (RA (-2147483648) 2147483647 row_4) → (1 ≤ x3_4 ∧ x3_4 ≤ p1) → (x2_4 = p1 - x3_4) → (x2_4 + rwD (x3_4).toNat row_4 = rwD p1.toNat v_row) → (∀ j : Nat, (j : Int) < x3_4 → -bdZ (p1 - x3_4) ≤ row_4 j ∧ row_4 j ≤ bdZ (p1 - x3_4)) → (x3_4).toNat < n → GG p l e ⟨1, 0, 0, 22⟩ s m args below meth c 0 0 Q D A s.heap 4 (wA cI 20 r_row row_4) 4 [(0, .ref r_row), (2, vI x2_4), (3, vI x3_4)] [] := by
    intro n
    induction n with
    | zero => intros; exfalso; omega
    | succ n ih4 =>
      intro x2_4 x3_4 row_4 r_row_4 w4_0 w4_1 w4_2 w4_3 wm4
      refine g_iload_n X dX6_depth_4 2 rfl ?_
      refine g_iconst X dX6_depth_5 ?_
      refine g_icmp_le X (tgt := 31) dX6_depth_6 (by decide) (by omega) (by omega) (fun c6 => ?_) (fun c6 => ?_)
      · refine g_iload_n X dX6_depth_31 1 rfl ?_
        have hD := rwD_n (f := row_4) (x := x3_4) (by first | exact unA_le (by omega) | omega)
        exact hQ _ _ _ _ dX6_depth_32 ⟨row_4, r_row_4, (by first | assumption | omega), (by first | assumption | omega), rfl⟩
      · have hb := bdZ_r (k := p1 - x3_4) (by omega)
        have hR : ∀ j : Nat, (j : Int) < x3_4 → -1000000000 ≤ row_4 j ∧ row_4 j ≤ 1000000000 := fun j hj => by have := w4_3 j hj; omega
        refine g_aload_n X dX6_depth_9 0 rfl ?_
        refine g_iload_n X dX6_depth_10 2 rfl ?_
        refine g_callSI0 X (c_X6_areAlike l D cI cB cJ r_row (p1 := x3_4) r_row_4 (by first | assumption | omega) (by first | assumption | omega)) cv_X6_areAlike uw877 ⟨rfl, rfl, by decide, by decide⟩ rfl rfl (Nat.le_of_ble_eq_true rfl) ⟨Nat.zero_le _, Nat.zero_le _⟩ dX6_depth_11 (fun t11 ws11 k11 => ?_)
        obtain ⟨kb_11, ⟨kp0_11, rfl⟩⟩ := k11
        refine g_if_ne X (tgt := 31) dX6_depth_14 (by decide) (by omega) (fun c14 => ?_) (fun c14 => ?_)
        · replace kb_11 := kb_11.resolve_left (fun h => c14 h)
          replace kp0_11 := kp0_11.resolve_right (fun h => c14 h.1)
          refine g_iload_n X dX6_depth_31 1 rfl ?_
          have hD := rwD_n (f := row_4) (x := x3_4) (by first | exact unA_le (by omega) | omega)
          exact hQ _ _ _ _ dX6_depth_32 ⟨row_4, r_row_4, (by first | assumption | omega), (by first | assumption | omega), rfl⟩
        · clear kb_11
          replace kp0_11 := (kp0_11.resolve_left (fun h => absurd h.1 (by omega))).2
          refine g_aload_n X dX6_depth_17 0 rfl ?_
          refine g_iload_n X dX6_depth_18 2 rfl ?_
          refine g_callSV0 X (c_X6_takeDifferences l D cI cB cJ r_row (p1 := x3_4) r_row_4 (by first | assumption | omega) (by first | assumption | omega) (by first | assumption | omega)) cv_X6_takeDifferences uw880 ⟨rfl, rfl, by decide, by decide⟩ rfl rfl (Nat.le_of_ble_eq_true rfl) ⟨Nat.zero_le _, Nat.zero_le _⟩ dX6_depth_19 (fun ws19 k19 => ?_)
          obtain ⟨row_19, r_row_19, kp0_19, rfl⟩ := k19
          refine g_iinc X (lv' := [(2, vI (x2_4 + 1)), (0, .ref r_row), (3, vI x3_4)]) dX6_depth_22 1 rfl (by decide) rfl ?_
          refine g_iinc X (lv' := [(3, vI (x3_4 + (-1))), (2, vI (x2_4 + 1)), (0, .ref r_row)]) dX6_depth_25 2 rfl (by decide) rfl ?_
          refine g_goto X (tgt := 4) dX6_depth_28 (by decide) ?_
          have hD := rwD_y (f := row_4) (g := row_19) (x := x3_4) (by omega) kp0_19
          rw [show x3_4 - 1 = x3_4 + (-1) by omega] at hD
          refine g_lv [2, 1, 0] rfl ?_
          exact ih4 (x2_4 + 1) (x3_4 + (-1)) row_19 r_row_19 (by first | assumption | omega) (by first | assumption | omega) (by first | assumption | omega) (by intro j hj; first | (rw [kp0_19 j (by omega), show p1 - (x3_4 + (-1)) = p1 - x3_4 + 1 by omega, bdZ_s (by omega)]; have h1 := w4_3 j (by omega); have h2 := w4_3 (j + 1) (by omega); omega) | (have h3 := bdZ_r (k := p1 - p1) (by omega); have h4 := hp2 j (by omega); omega)) (by omega)
  refine g_lv [2, 1, 0] rfl ?_
  exact L4 _ 0 p1 v_row r_v_row (by first | assumption | omega) (by first | assumption | omega) (by first | assumption | omega) (by intro j hj; first | (rw [kp0_19 j (by omega), show p1 - (x3_4 + (-1)) = p1 - x3_4 + 1 by omega, bdZ_s (by omega)]; have h1 := w4_3 j (by omega); have h2 := w4_3 (j + 1) (by omega); omega) | (have h3 := bdZ_r (k := p1 - p1) (by omega); have h4 := hp2 j (by omega); omega)) (Nat.lt_succ_self _)
set_option maxHeartbeats 600000 in
set_option maxRecDepth 100000 in
theorem c_X6_turns (l : Launch) (D : va_G) (cI cB cJ : ClassId) (r_row : Nat) {v_row : Nat → Int} {p1 : Int} (r_v_row : RA (-2147483648) 2147483647 v_row) (hp0 : IR p1) (hp1 : 0 ≤ p1 ∧ p1 ≤ 20) : CtI l yX6_turns cX6_turns 5 (some .int) ⟨0, 0, 0, 0⟩ D (TY cI cB cJ) (wA cI 20 r_row v_row) [.ref r_row, vI p1] (fun z ws' => (IR z) ∧ (z = wkT v_row p1.toNat) ∧ (ws' = (wA cI 20 r_row v_row))) := by
  refine hdrI (own := RX6) rfl (by decide +kernel) (Nat.le_of_ble_eq_true rfl) ?_
  intro p e s m args below meth c Q A X hQ
  refine g_lvE (lv2 := [(0, .ref r_row), (1, vI p1)]) rfl ?_
  refine g_iconst X dX6_turns_0 ?_
  refine g_istore_n X (lv' := [(2, vI 0), (0, .ref r_row), (1, vI p1)]) dX6_turns_1 (by decide) rfl ?_
  refine g_iconst X dX6_turns_2 ?_
  refine g_istore_n X (lv' := [(3, vI 0), (2, vI 0), (0, .ref r_row), (1, vI p1)]) dX6_turns_3 (by decide) rfl ?_
  refine g_iconst X dX6_turns_4 ?_
  refine g_istore X (lv' := [(4, vI 0), (3, vI 0), (2, vI 0), (0, .ref r_row), (1, vI p1)]) dX6_turns_5 (by decide) rfl ?_
  have h0 : wkT v_row (0 : Int).toNat = 0 := rfl
  have h1 : wkB v_row (0 : Int).toNat = 0 := rfl
  have L7 : ∀ (n : Nat) (x2_7 : Int) (x3_7 : Int) (x4_7 : Int), (0 ≤ x4_7 ∧ x4_7 ≤ p1) → (0 ≤ x2_7 ∧ x2_7 ≤ x4_7) → (IR x3_7) → (x2_7 = wkT v_row (x4_7).toNat) → ((0 < x3_7 ∧ wkB v_row (x4_7).toNat = 1) ∨ (x3_7 < 0 ∧ wkB v_row (x4_7).toNat = -1) ∨ (x3_7 = 0 ∧ wkB v_row (x4_7).toNat = 0)) → (p1 - x4_7).toNat < n → GG p l e ⟨0, 0, 0, 0⟩ s m args below meth c 0 0 Q D A s.heap 5 (wA cI 20 r_row v_row) 7 [(0, .ref r_row), (1, vI p1), (2, vI x2_7), (3, vI x3_7), (4, vI x4_7)] [] := by
    intro n
    induction n with
    | zero => intros; exfalso; omega
    | succ n ih7 =>
      intro x2_7 x3_7 x4_7 w7_0 w7_1 w7_2 w7_3 w7_4 wm7
      have hT := wkBT_s v_row (x := x4_7) (by omega)
      refine g_iload X dX6_turns_7 4 rfl ?_
      refine g_iload_n X dX6_turns_9 1 rfl ?_
      refine g_icmp_ge X (tgt := 56) dX6_turns_10 (by decide) (by omega) (by omega) (fun c10 => ?_) (fun c10 => ?_)
      · refine g_iload_n X dX6_turns_56 2 rfl ?_
        have hx : x4_7 = p1 := by omega
        rw [hx] at w7_3
        exact hQ _ _ _ _ dX6_turns_57 ⟨(by first | assumption | omega), (by first | assumption | omega), rfl⟩
      · refine g_aload_n X dX6_turns_13 0 rfl ?_
        refine g_iload X dX6_turns_14 4 rfl ?_
        refine g_iald X 0 0 rfl rfl (by omega) (by decide) dX6_turns_16 (fun t16 e16 => ?_)
        have r16 := r_v_row (x4_7 : Int).toNat; rw [← e16] at r16
        refine g_if_eq X (tgt := 50) dX6_turns_17 (by decide) (by omega) (fun c17 => ?_) (fun c17 => ?_)
        · refine g_iinc X (lv' := [(4, vI (x4_7 + 1)), (0, .ref r_row), (1, vI p1), (2, vI x2_7), (3, vI x3_7)]) dX6_turns_50 4 rfl (by decide) rfl ?_
          refine g_goto X (tgt := 7) dX6_turns_53 (by decide) ?_
          refine g_lv [1, 2, 3, 4, 0] rfl ?_
          exact ih7 x2_7 x3_7 (x4_7 + 1) (by first | assumption | omega) (by first | assumption | omega) (by first | assumption | omega) (by first | assumption | omega) (by first | assumption | omega) (by omega)
        · refine g_aload_n X dX6_turns_20 0 rfl ?_
          refine g_iload X dX6_turns_21 4 rfl ?_
          refine g_iald X 0 0 rfl rfl (by omega) (by decide) dX6_turns_23 (fun t23 e23 => ?_)
          have r23 := r_v_row (x4_7 : Int).toNat; rw [← e23] at r23
          refine g_if_ge X (tgt := 31) dX6_turns_24 (by decide) (by omega) (fun c24 => ?_) (fun c24 => ?_)
          · refine g_aload_n X dX6_turns_31 0 rfl ?_
            refine g_iload X dX6_turns_32 4 rfl ?_
            refine g_iald X 0 0 rfl rfl (by omega) (by decide) dX6_turns_34 (fun t34 e34 => ?_)
            have r34 := r_v_row (x4_7 : Int).toNat; rw [← e34] at r34
            refine g_if_le X (tgt := 45) dX6_turns_35 (by decide) (by omega) (fun c35 => ?_) (fun c35 => ?_)
            · refine g_aload_n X dX6_turns_45 0 rfl ?_
              refine g_iload X dX6_turns_46 4 rfl ?_
              refine g_iald X 0 0 rfl rfl (by omega) (by decide) dX6_turns_48 (fun t48 e48 => ?_)
              have r48 := r_v_row (x4_7 : Int).toNat; rw [← e48] at r48
              refine g_istore_n X (lv' := [(3, vI t48), (0, .ref r_row), (1, vI p1), (2, vI x2_7), (4, vI x4_7)]) dX6_turns_49 (by decide) rfl ?_
              refine g_iinc X (lv' := [(4, vI (x4_7 + 1)), (3, vI t48), (0, .ref r_row), (1, vI p1), (2, vI x2_7)]) dX6_turns_50 4 rfl (by decide) rfl ?_
              refine g_goto X (tgt := 7) dX6_turns_53 (by decide) ?_
              refine g_lv [2, 3, 4, 1, 0] rfl ?_
              exact ih7 x2_7 t48 (x4_7 + 1) (by first | assumption | omega) (by first | assumption | omega) (by first | assumption | omega) (by first | assumption | omega) (by first | assumption | omega) (by omega)
            · refine g_iload_n X dX6_turns_38 3 rfl ?_
              refine g_if_ge X (tgt := 45) dX6_turns_39 (by decide) (by omega) (fun c39 => ?_) (fun c39 => ?_)
              · refine g_aload_n X dX6_turns_45 0 rfl ?_
                refine g_iload X dX6_turns_46 4 rfl ?_
                refine g_iald X 0 0 rfl rfl (by omega) (by decide) dX6_turns_48 (fun t48 e48 => ?_)
                have r48 := r_v_row (x4_7 : Int).toNat; rw [← e48] at r48
                refine g_istore_n X (lv' := [(3, vI t48), (0, .ref r_row), (1, vI p1), (2, vI x2_7), (4, vI x4_7)]) dX6_turns_49 (by decide) rfl ?_
                refine g_iinc X (lv' := [(4, vI (x4_7 + 1)), (3, vI t48), (0, .ref r_row), (1, vI p1), (2, vI x2_7)]) dX6_turns_50 4 rfl (by decide) rfl ?_
                refine g_goto X (tgt := 7) dX6_turns_53 (by decide) ?_
                refine g_lv [2, 3, 4, 1, 0] rfl ?_
                exact ih7 x2_7 t48 (x4_7 + 1) (by first | assumption | omega) (by first | assumption | omega) (by first | assumption | omega) (by first | assumption | omega) (by first | assumption | omega) (by omega)
              · refine g_iinc X (lv' := [(2, vI (x2_7 + 1)), (0, .ref r_row), (1, vI p1), (3, vI x3_7), (4, vI x4_7)]) dX6_turns_42 2 rfl (by decide) rfl ?_
                refine g_aload_n X dX6_turns_45 1 rfl ?_
                refine g_iload X dX6_turns_46 4 rfl ?_
                refine g_iald X 0 0 rfl rfl (by omega) (by decide) dX6_turns_48 (fun t48 e48 => ?_)
                have r48 := r_v_row (x4_7 : Int).toNat; rw [← e48] at r48
                refine g_istore_n X (lv' := [(3, vI t48), (2, vI (x2_7 + 1)), (0, .ref r_row), (1, vI p1), (4, vI x4_7)]) dX6_turns_49 (by decide) rfl ?_
                refine g_iinc X (lv' := [(4, vI (x4_7 + 1)), (3, vI t48), (2, vI (x2_7 + 1)), (0, .ref r_row), (1, vI p1)]) dX6_turns_50 4 rfl (by decide) rfl ?_
                refine g_goto X (tgt := 7) dX6_turns_53 (by decide) ?_
                refine g_lv [3, 4, 2, 1, 0] rfl ?_
                exact ih7 (x2_7 + 1) t48 (x4_7 + 1) (by first | assumption | omega) (by first | assumption | omega) (by first | assumption | omega) (by first | assumption | omega) (by first | assumption | omega) (by omega)
          · refine g_iload_n X dX6_turns_27 3 rfl ?_
            refine g_if_gt X (tgt := 42) dX6_turns_28 (by decide) (by omega) (fun c28 => ?_) (fun c28 => ?_)
            · refine g_iinc X (lv' := [(2, vI (x2_7 + 1)), (0, .ref r_row), (1, vI p1), (3, vI x3_7), (4, vI x4_7)]) dX6_turns_42 2 rfl (by decide) rfl ?_
              refine g_aload_n X dX6_turns_45 1 rfl ?_
              refine g_iload X dX6_turns_46 4 rfl ?_
              refine g_iald X 0 0 rfl rfl (by omega) (by decide) dX6_turns_48 (fun t48 e48 => ?_)
              have r48 := r_v_row (x4_7 : Int).toNat; rw [← e48] at r48
              refine g_istore_n X (lv' := [(3, vI t48), (2, vI (x2_7 + 1)), (0, .ref r_row), (1, vI p1), (4, vI x4_7)]) dX6_turns_49 (by decide) rfl ?_
              refine g_iinc X (lv' := [(4, vI (x4_7 + 1)), (3, vI t48), (2, vI (x2_7 + 1)), (0, .ref r_row), (1, vI p1)]) dX6_turns_50 4 rfl (by decide) rfl ?_
              refine g_goto X (tgt := 7) dX6_turns_53 (by decide) ?_
              refine g_lv [3, 4, 2, 1, 0] rfl ?_
              exact ih7 (x2_7 + 1) t48 (x4_7 + 1) (by first | assumption | omega) (by first | assumption | omega) (by first | assumption | omega) (by first | assumption | omega) (by first | assumption | omega) (by omega)
            · refine g_aload_n X dX6_turns_31 0 rfl ?_
              refine g_iload X dX6_turns_32 4 rfl ?_
              refine g_iald X 0 0 rfl rfl (by omega) (by decide) dX6_turns_34 (fun t34 e34 => ?_)
              have r34 := r_v_row (x4_7 : Int).toNat; rw [← e34] at r34
              refine g_if_le X (tgt := 45) dX6_turns_35 (by decide) (by omega) (fun c35 => ?_) (fun c35 => ?_)
              · refine g_aload_n X dX6_turns_45 0 rfl ?_
                refine g_iload X dX6_turns_46 4 rfl ?_
                refine g_iald X 0 0 rfl rfl (by omega) (by decide) dX6_turns_48 (fun t48 e48 => ?_)
                have r48 := r_v_row (x4_7 : Int).toNat; rw [← e48] at r48
                refine g_istore_n X (lv' := [(3, vI t48), (0, .ref r_row), (1, vI p1), (2, vI x2_7), (4, vI x4_7)]) dX6_turns_49 (by decide) rfl ?_
                refine g_iinc X (lv' := [(4, vI (x4_7 + 1)), (3, vI t48), (0, .ref r_row), (1, vI p1), (2, vI x2_7)]) dX6_turns_50 4 rfl (by decide) rfl ?_
                refine g_goto X (tgt := 7) dX6_turns_53 (by decide) ?_
                refine g_lv [2, 3, 4, 1, 0] rfl ?_
                exact ih7 x2_7 t48 (x4_7 + 1) (by first | assumption | omega) (by first | assumption | omega) (by first | assumption | omega) (by first | assumption | omega) (by first | assumption | omega) (by omega)
              · refine g_iload_n X dX6_turns_38 3 rfl ?_
                refine g_if_ge X (tgt := 45) dX6_turns_39 (by decide) (by omega) (fun c39 => ?_) (fun c39 => ?_)
                · refine g_aload_n X dX6_turns_45 0 rfl ?_
                  refine g_iload X dX6_turns_46 4 rfl ?_
                  refine g_iald X 0 0 rfl rfl (by omega) (by decide) dX6_turns_48 (fun t48 e48 => ?_)
                  have r48 := r_v_row (x4_7 : Int).toNat; rw [← e48] at r48
                  refine g_istore_n X (lv' := [(3, vI t48), (0, .ref r_row), (1, vI p1), (2, vI x2_7), (4, vI x4_7)]) dX6_turns_49 (by decide) rfl ?_
                  refine g_iinc X (lv' := [(4, vI (x4_7 + 1)), (3, vI t48), (0, .ref r_row), (1, vI p1), (2, vI x2_7)]) dX6_turns_50 4 rfl (by decide) rfl ?_
                  refine g_goto X (tgt := 7) dX6_turns_53 (by decide) ?_
                  refine g_lv [2, 3, 4, 1, 0] rfl ?_
                  exact ih7 x2_7 t48 (x4_7 + 1) (by first | assumption | omega) (by first | assumption | omega) (by first | assumption | omega) (by first | assumption | omega) (by first | assumption | omega) (by omega)
                · refine g_iinc X (lv' := [(2, vI (x2_7 + 1)), (0, .ref r_row), (1, vI p1), (3, vI x3_7), (4, vI x4_7)]) dX6_turns_42 2 rfl (by decide) rfl ?_
                  refine g_aload_n X dX6_turns_45 1 rfl ?_
                  refine g_iload X dX6_turns_46 4 rfl ?_
                  refine g_iald X 0 0 rfl rfl (by omega) (by decide) dX6_turns_48 (fun t48 e48 => ?_)
                  have r48 := r_v_row (x4_7 : Int).toNat; rw [← e48] at r48
                  refine g_istore_n X (lv' := [(3, vI t48), (2, vI (x2_7 + 1)), (0, .ref r_row), (1, vI p1), (4, vI x4_7)]) dX6_turns_49 (by decide) rfl ?_
                  refine g_iinc X (lv' := [(4, vI (x4_7 + 1)), (3, vI t48), (2, vI (x2_7 + 1)), (0, .ref r_row), (1, vI p1)]) dX6_turns_50 4 rfl (by decide) rfl ?_
                  refine g_goto X (tgt := 7) dX6_turns_53 (by decide) ?_
                  refine g_lv [3, 4, 2, 1, 0] rfl ?_
                  exact ih7 (x2_7 + 1) t48 (x4_7 + 1) (by first | assumption | omega) (by first | assumption | omega) (by first | assumption | omega) (by first | assumption | omega) (by first | assumption | omega) (by omega)
  refine g_lv [3, 4, 2, 1, 0] rfl ?_
  exact L7 _ 0 0 0 (by first | assumption | omega) (by first | assumption | omega) (by first | assumption | omega) (by first | assumption | omega) (by first | assumption | omega) (Nat.lt_succ_self _)
set_option maxHeartbeats 600000 in
set_option maxRecDepth 100000 in
theorem c_X6_sort (l : Launch) (D : va_G) (cI cB cJ : ClassId) (r_row : Nat) {v_row : Nat → Int} {p1 : Int} (r_v_row : RA (-2147483648) 2147483647 v_row) (hp0 : IR p1) (hp1 : 1 ≤ p1 ∧ p1 ≤ 20) : CtV l yX6_sort cX6_sort 5 none ⟨0, 0, 0, 0⟩ D (TY cI cB cJ) (wA cI 20 r_row v_row) [.ref r_row, vI p1] (fun ws' => ∃ n_row : Nat → Int, (RA (-2147483648) 2147483647 n_row) ∧ (n_row = srt v_row v_row p1.toNat) ∧ (ws' = (wA cI 20 r_row n_row))) := by
  refine hdrV (own := RX6) rfl (by decide +kernel) (Nat.le_of_ble_eq_true rfl) ?_
  intro p e s m args below meth c Q A X hQ
  refine g_lvE (lv2 := [(0, .ref r_row), (1, vI p1)]) rfl ?_
  refine g_iconst X dX6_sort_0 ?_
  refine g_istore_n X (lv' := [(2, vI 1), (0, .ref r_row), (1, vI p1)]) dX6_sort_1 (by decide) rfl ?_
  have L2 : ∀ (n : Nat) (x2_2 : Int) (row_2 : Nat → Int), (RA (-2147483648) 2147483647 row_2) → (1 ≤ x2_2 ∧ x2_2 ≤ p1) → (row_2 = srt v_row v_row (x2_2).toNat) → (p1 - x2_2).toNat < n → GG p l e ⟨0, 0, 0, 0⟩ s m args below meth c 0 0 Q D A s.heap 5 (wA cI 20 r_row row_2) 2 [(0, .ref r_row), (1, vI p1), (2, vI x2_2)] [] := by
    intro n
    induction n with
    | zero => intros; exfalso; omega
    | succ n ih2 =>
      intro x2_2 row_2 r_row_2 w2_0 w2_1 wm2
      refine g_iload_n X dX6_sort_2 2 rfl ?_
      refine g_iload_n X dX6_sort_3 1 rfl ?_
      refine g_icmp_ge X (tgt := 56) dX6_sort_4 (by decide) (by omega) (by omega) (fun c4 => ?_) (fun c4 => ?_)
      · have hx : x2_2 = p1 := by omega
        rw [hx] at w2_1
        exact hQ _ _ _ dX6_sort_56 ⟨row_2, r_row_2, (by first | assumption | omega), rfl⟩
      · refine g_aload_n X dX6_sort_7 0 rfl ?_
        refine g_iload_n X dX6_sort_8 2 rfl ?_
        refine g_iald X 0 0 rfl rfl (by omega) (by decide) dX6_sort_9 (fun t9 e9 => ?_)
        have r9 := r_row_2 (x2_2 : Int).toNat; rw [← e9] at r9
        refine g_istore_n X (lv' := [(3, vI t9), (0, .ref r_row), (1, vI p1), (2, vI x2_2)]) dX6_sort_10 (by decide) rfl ?_
        refine g_iload_n X dX6_sort_11 3 rfl ?_
        refine g_istore X (lv' := [(4, vI x2_2), (3, vI t9), (0, .ref r_row), (1, vI p1), (2, vI x2_2)]) dX6_sort_12 (by decide) rfl ?_
        have L14 : ∀ (n : Nat) (x4_14 : Int) (row_14 : Nat → Int), (RA (-2147483648) 2147483647 row_14) → (0 ≤ x4_14 ∧ x4_14 ≤ x2_2) → (ins row_14 t9 (x4_14).toNat = ins row_2 t9 (x2_2).toNat) → (x4_14).toNat < n → GG p l e ⟨0, 0, 0, 0⟩ s m args below meth c 0 0 Q D A s.heap 5 (wA cI 20 r_row row_14) 14 [(0, .ref r_row), (1, vI p1), (2, vI x2_2), (3, vI t9), (4, vI x4_14)] [] := by
          intro n
          induction n with
          | zero => intros; exfalso; omega
          | succ n ih14 =>
            intro x4_14 row_14 r_row_14 w14_0 w14_1 wm14
            refine g_iload X dX6_sort_14 4 rfl ?_
            refine g_if_le X (tgt := 45) dX6_sort_16 (by decide) (by omega) (fun c16 => ?_) (fun c16 => ?_)
            · refine g_aload_n X dX6_sort_45 0 rfl ?_
              refine g_iload X dX6_sort_46 4 rfl ?_
              refine g_iload_n X dX6_sort_48 3 rfl ?_
              refine g_iast X 0 0 rfl rfl (by omega) (by decide) dX6_sort_49 (fun row_49 e49 => ?_)
              have r_row_49 : RA (-2147483648) 2147483647 row_49 := by rw [e49]; exact RA_up r_row_14 (by omega)
              refine g_ws (ws2 := (wA cI 20 r_row row_49)) rfl ?_
              refine g_iinc X (lv' := [(2, vI (x2_2 + 1)), (0, .ref r_row), (1, vI p1), (3, vI t9), (4, vI x4_14)]) dX6_sort_50 2 rfl (by decide) rfl ?_
              refine g_goto X (tgt := 2) dX6_sort_53 (by decide) ?_
              refine g_lv [1, 2, 0] rfl ?_
              exact ih2 (x2_2 + 1) row_49 r_row_49 (by first | assumption | omega) (by first | assumption | exact srt_one _ | (rw [e49, ← ins_stop (s := row_14) (v := t9) (x := x4_14) (by omega) (by omega), w14_1, e9, w2_1, srt_out v_row v_row _ _ (Nat.le_refl _)]; exact srt_s _ _ (by omega))) (by omega)
            · refine g_aload_n X dX6_sort_19 0 rfl ?_
              refine g_iload X dX6_sort_20 4 rfl ?_
              refine g_iconst X dX6_sort_22 ?_
              refine g_isub X dX6_sort_23 ?_
              refine g_iald X 0 0 rfl rfl (by omega) (by decide) dX6_sort_24 (fun t24 e24 => ?_)
              have r24 := r_row_14 (x4_14 - 1 : Int).toNat; rw [← e24] at r24
              refine g_iload_n X dX6_sort_25 3 rfl ?_
              refine g_icmp_le X (tgt := 45) dX6_sort_26 (by decide) (by omega) (by omega) (fun c26 => ?_) (fun c26 => ?_)
              · refine g_aload_n X dX6_sort_45 0 rfl ?_
                refine g_iload X dX6_sort_46 4 rfl ?_
                refine g_iload_n X dX6_sort_48 3 rfl ?_
                refine g_iast X 0 0 rfl rfl (by omega) (by decide) dX6_sort_49 (fun row_49 e49 => ?_)
                have r_row_49 : RA (-2147483648) 2147483647 row_49 := by rw [e49]; exact RA_up r_row_14 (by omega)
                refine g_ws (ws2 := (wA cI 20 r_row row_49)) rfl ?_
                refine g_iinc X (lv' := [(2, vI (x2_2 + 1)), (0, .ref r_row), (1, vI p1), (3, vI t9), (4, vI x4_14)]) dX6_sort_50 2 rfl (by decide) rfl ?_
                refine g_goto X (tgt := 2) dX6_sort_53 (by decide) ?_
                refine g_lv [1, 2, 0] rfl ?_
                exact ih2 (x2_2 + 1) row_49 r_row_49 (by first | assumption | omega) (by first | assumption | exact srt_one _ | (rw [e49, ← ins_stop (s := row_14) (v := t9) (x := x4_14) (by omega) (by omega), w14_1, e9, w2_1, srt_out v_row v_row _ _ (Nat.le_refl _)]; exact srt_s _ _ (by omega))) (by omega)
              · refine g_aload_n X dX6_sort_29 0 rfl ?_
                refine g_iload X dX6_sort_30 4 rfl ?_
                refine g_aload_n X dX6_sort_32 0 rfl ?_
                refine g_iload X dX6_sort_33 4 rfl ?_
                refine g_iconst X dX6_sort_35 ?_
                refine g_isub X dX6_sort_36 ?_
                refine g_iald X 0 0 rfl rfl (by omega) (by decide) dX6_sort_37 (fun t37 e37 => ?_)
                have r37 := r_row_14 (x4_14 - 1 : Int).toNat; rw [← e37] at r37
                refine g_iast X 0 0 rfl rfl (by omega) (by decide) dX6_sort_38 (fun row_38 e38 => ?_)
                have r_row_38 : RA (-2147483648) 2147483647 row_38 := by rw [e38]; exact RA_up r_row_14 (by omega)
                refine g_ws (ws2 := (wA cI 20 r_row row_38)) rfl ?_
                refine g_iinc X (lv' := [(4, vI (x4_14 + (-1))), (0, .ref r_row), (1, vI p1), (2, vI x2_2), (3, vI t9)]) dX6_sort_39 4 rfl (by decide) rfl ?_
                refine g_goto X (tgt := 14) dX6_sort_42 (by decide) ?_
                refine g_lv [1, 2, 3, 4, 0] rfl ?_
                exact ih14 (x4_14 + (-1)) row_38 r_row_38 (by first | assumption | omega) (by first | rfl | (rw [show x4_14 + (-1) = x4_14 - 1 by omega, e38, e37, ins_go (s := row_14) (v := t9) (x := x4_14) (by omega) (by omega)]; exact w14_1)) (by omega)
        refine g_lv [2, 3, 4, 1, 0] rfl ?_
        exact L14 _ x2_2 row_2 r_row_2 (by first | assumption | omega) (by first | rfl | (rw [show x4_14 + (-1) = x4_14 - 1 by omega, e38, e37, ins_go (s := row_14) (v := t9) (x := x4_14) (by omega) (by omega)]; exact w14_1)) (Nat.lt_succ_self _)
  refine g_lv [1, 2, 0] rfl ?_
  exact L2 _ 1 v_row r_v_row (by first | assumption | omega) (by first | assumption | exact srt_one _ | (rw [e49, ← ins_stop (s := row_14) (v := t9) (x := x4_14) (by omega) (by omega), w14_1, e9, w2_1, srt_out v_row v_row _ _ (Nat.le_refl _)]; exact srt_s _ _ (by omega))) (Nat.lt_succ_self _)
set_option maxHeartbeats 600000 in
set_option maxRecDepth 100000 in
theorem c_X6_sum (l : Launch) (D : va_G) (cI cB cJ : ClassId) (r_row : Nat) {v_row : Nat → Int} {p1 : Int} (r_v_row : RA (-2147483648) 2147483647 v_row) (hp0 : IR p1) (hp1 : 0 ≤ p1 ∧ p1 ≤ 20) (hp2 : ∀ j : Nat, (j : Int) < p1 → 0 ≤ v_row j ∧ v_row j ≤ 255) : CtI l yX6_sum cX6_sum 4 (some .int) ⟨0, 0, 0, 0⟩ D (TY cI cB cJ) (wA cI 20 r_row v_row) [.ref r_row, vI p1] (fun z ws' => (0 ≤ z ∧ z ≤ 5100) ∧ (0 ≤ z ∧ z ≤ 255 * p1) ∧ (z = whF v_row p1.toNat) ∧ (ws' = (wA cI 20 r_row v_row))) := by
  refine hdrI (own := RX6) rfl (by decide +kernel) (Nat.le_of_ble_eq_true rfl) ?_
  intro p e s m args below meth c Q A X hQ
  refine g_lvE (lv2 := [(0, .ref r_row), (1, vI p1)]) rfl ?_
  refine g_iconst X dX6_sum_0 ?_
  refine g_istore_n X (lv' := [(2, vI 0), (0, .ref r_row), (1, vI p1)]) dX6_sum_1 (by decide) rfl ?_
  refine g_iconst X dX6_sum_2 ?_
  refine g_istore_n X (lv' := [(3, vI 0), (2, vI 0), (0, .ref r_row), (1, vI p1)]) dX6_sum_3 (by decide) rfl ?_
  have h0 : whF v_row (0 : Int).toNat = 0 := rfl
  have L4 : ∀ (n : Nat) (x2_4 : Int) (x3_4 : Int), (0 ≤ x3_4 ∧ x3_4 ≤ p1) → (0 ≤ x2_4 ∧ x2_4 ≤ 255 * x3_4) → (x2_4 = whF v_row (x3_4).toNat) → (p1 - x3_4).toNat < n → GG p l e ⟨0, 0, 0, 0⟩ s m args below meth c 0 0 Q D A s.heap 4 (wA cI 20 r_row v_row) 4 [(0, .ref r_row), (1, vI p1), (2, vI x2_4), (3, vI x3_4)] [] := by
    intro n
    induction n with
    | zero => intros; exfalso; omega
    | succ n ih4 =>
      intro x2_4 x3_4 w4_0 w4_1 w4_2 wm4
      have hS := whF_s v_row (x := x3_4) (by omega)
      refine g_iload_n X dX6_sum_4 3 rfl ?_
      refine g_iload_n X dX6_sum_5 1 rfl ?_
      refine g_icmp_ge X (tgt := 21) dX6_sum_6 (by decide) (by omega) (by omega) (fun c6 => ?_) (fun c6 => ?_)
      · refine g_iload_n X dX6_sum_21 2 rfl ?_
        have hx : x3_4 = p1 := by omega
        rw [hx] at w4_2
        exact hQ _ _ _ _ dX6_sum_22 ⟨(by first | assumption | omega), (by first | assumption | omega), (by first | assumption | omega), rfl⟩
      · refine g_iload_n X dX6_sum_9 2 rfl ?_
        refine g_aload_n X dX6_sum_10 0 rfl ?_
        refine g_iload_n X dX6_sum_11 3 rfl ?_
        refine g_iald X 0 0 rfl rfl (by omega) (by decide) dX6_sum_12 (fun t12 e12 => ?_)
        have r12 := r_v_row (x3_4 : Int).toNat; rw [← e12] at r12
        have b12 := hp2 (x3_4).toNat (by omega)
        refine g_iadd X dX6_sum_13 ?_
        refine g_istore_n X (lv' := [(2, vI (x2_4 + t12)), (0, .ref r_row), (1, vI p1), (3, vI x3_4)]) dX6_sum_14 (by decide) rfl ?_
        refine g_iinc X (lv' := [(3, vI (x3_4 + 1)), (2, vI (x2_4 + t12)), (0, .ref r_row), (1, vI p1)]) dX6_sum_15 3 rfl (by decide) rfl ?_
        refine g_goto X (tgt := 4) dX6_sum_18 (by decide) ?_
        refine g_lv [2, 3, 1, 0] rfl ?_
        exact ih4 (x2_4 + t12) (x3_4 + 1) (by first | assumption | omega) (by first | assumption | omega) (by first | assumption | omega) (by omega)
  refine g_lv [2, 3, 1, 0] rfl ?_
  exact L4 _ 0 0 (by first | assumption | omega) (by first | assumption | omega) (by first | assumption | omega) (Nat.lt_succ_self _)
set_option maxHeartbeats 600000 in
set_option maxRecDepth 100000 in
theorem c_X2_isPushed (l : Launch) (D : va_G) (cI cB cJ : ClassId) {p0 : Int} (hp0 : IR p0) : CtI l yX2_isPushed cX2_isPushed 1 (some .boolean) ⟨0, 0, 0, 0⟩ D (TY cI cB cJ) [] [vI p0] (fun z ws' => (z = 0 ∨ z = 1) ∧ ((z = 1 ∧ (p0 = 48 ∨ p0 = 97)) ∨ (z = 0 ∧ p0 ≠ 48 ∧ p0 ≠ 97)) ∧ (ws' = [])) := by
  refine hdrZ (own := RX2) rfl (by decide +kernel) (Nat.le_of_ble_eq_true rfl) ?_
  intro p e s m args below meth c Q A X hQ
  refine g_lvE (lv2 := [(0, vI p0)]) rfl ?_
  refine g_iload_n X dX2_isPushed_0 0 rfl ?_
  refine g_bipush X (z := 48) dX2_isPushed_1 (by decide) ?_
  refine g_icmp_eq X (tgt := 12) dX2_isPushed_3 (by decide) (by omega) (by omega) (fun c3 => ?_) (fun c3 => ?_)
  · refine g_iconst X dX2_isPushed_12 ?_
    refine g_goto X (tgt := 17) dX2_isPushed_13 (by decide) ?_
    exact hQ _ _ _ _ dX2_isPushed_17 ⟨by omega, ⟨(by first | assumption | omega), rfl⟩⟩
  · refine g_iload_n X dX2_isPushed_6 0 rfl ?_
    refine g_bipush X (z := 97) dX2_isPushed_7 (by decide) ?_
    refine g_icmp_ne X (tgt := 16) dX2_isPushed_9 (by decide) (by omega) (by omega) (fun c9 => ?_) (fun c9 => ?_)
    · refine g_iconst X dX2_isPushed_16 ?_
      exact hQ _ _ _ _ dX2_isPushed_17 ⟨by omega, ⟨(by first | assumption | omega), rfl⟩⟩
    · refine g_iconst X dX2_isPushed_12 ?_
      refine g_goto X (tgt := 17) dX2_isPushed_13 (by decide) ?_
      exact hQ _ _ _ _ dX2_isPushed_17 ⟨by omega, ⟨(by first | assumption | omega), rfl⟩⟩
