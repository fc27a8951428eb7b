set_option maxHeartbeats 600000 in
set_option maxRecDepth 100000 in
theorem c_X0_most (l : Launch) (D : va_G) (cI cB cJ : ClassId) (h : Nat) (q : Nat → Nat) {v_canHold : Int} {v_direct v_byAll v_more : Nat → Int} {p0 p1 : Int} (r_v_byAll : RA (-1000000) 1000000 v_byAll) (hp0 : IR p0) (hp1 : IR p1) (hp2 : 0 ≤ p0 ∧ p0 ≤ 11) (hp3 : 0 ≤ p1 ∧ p1 ≤ 11) : CtI l yX0_most cX0_most 3 (some .int) ⟨0, 0, 0, 0⟩ D (TY cI cB cJ) (wX0 cI cB cJ h q v_canHold v_direct v_byAll v_more) [.ref h, vI p0, vI p1] (fun z ws' => (-1000000 ≤ z ∧ z ≤ 1000000) ∧ (z = v_byAll (12 * p0.toNat + p1.toNat)) ∧ (ws' = (wX0 cI cB cJ h q v_canHold v_direct v_byAll v_more))) := by
  refine hdrI (own := RX0) rfl (by decide +kernel) (Nat.le_of_ble_eq_true rfl) ?_
  intro p e s m args below meth c Q A X hQ
  refine g_lvE (lv2 := [(0, .ref h), (1, vI p0), (2, vI p1)]) rfl ?_
  refine g_aload_n X dX0_most_0 0 rfl ?_
  refine gX0_get X 0 rfl 1 (by decide) uw210 rfl dX0_most_1 ?_
  refine g_iload_n X dX0_most_4 1 rfl ?_
  refine g_bipush X (z := 12) dX0_most_5 (by decide) ?_
  refine g_imul X dX0_most_7 ?_
  refine g_iload_n X dX0_most_8 2 rfl ?_
  refine g_iadd X dX0_most_9 ?_
  refine g_iald X 2 0 rfl rfl (by omega) (by decide) dX0_most_10 (fun t10 e10 => ?_)
  have r10 := r_v_byAll ((p0 * 12) + p1 : Int).toNat; rw [← e10] at r10
  have hq : t10 = v_byAll (12 * p0.toNat + p1.toNat) := by rw [e10]; congr 1; omega
  exact hQ _ _ _ _ dX0_most_11 ⟨(by first | assumption | omega), (by first | assumption | omega), rfl⟩
set_option maxHeartbeats 600000 in
set_option maxRecDepth 100000 in
theorem c_X0_tell (l : Launch) (D : va_G) (cI cB cJ : ClassId) (h : Nat) (q : Nat → Nat) {v_canHold : Int} {v_direct v_byAll v_more : Nat → Int} {p0 p1 p2 : Int} (r_v_direct : RA (-9999) 1000000 v_direct) (hp0 : IR p0) (hp1 : IR p1) (hp2 : IR p2) (hp3 : 0 ≤ p0 ∧ p0 ≤ 11) (hp4 : 0 ≤ p1 ∧ p1 ≤ 11) (hp5 : -9999 ≤ p2 ∧ p2 ≤ 9999) : CtV l yX0_tell cX0_tell 5 none ⟨1, 0, 0, 40⟩ D (TY cI cB cJ) (wX0 cI cB cJ h q v_canHold v_direct v_byAll v_more) [.ref h, vI p0, vI p1, vI p2] (fun ws' => ∃ n_direct : Nat → Int, (RA (-9999) 1000000 n_direct) ∧ (n_direct = tlU v_direct (12 * p0.toNat + p1.toNat) p2) ∧ (ws' = (wX0 cI cB cJ h q v_canHold n_direct v_byAll v_more))) := by
  refine hdrV (own := RX0) rfl (by decide +kernel) (Nat.le_of_ble_eq_true rfl) ?_
  intro p e s m args below meth c Q A X hQ
  refine g_lvE (lv2 := [(0, .ref h), (1, vI p0), (2, vI p1), (3, vI p2)]) rfl ?_
  refine g_iload_n X dX0_tell_0 1 rfl ?_
  refine g_bipush X (z := 12) dX0_tell_1 (by decide) ?_
  refine g_imul X dX0_tell_3 ?_
  refine g_iload_n X dX0_tell_4 2 rfl ?_
  refine g_iadd X dX0_tell_5 ?_
  refine g_istore X (lv' := [(4, vI ((p0 * 12) + p1)), (0, .ref h), (1, vI p0), (2, vI p1), (3, vI p2)]) dX0_tell_6 (by decide) rfl ?_
  refine g_aload_n X dX0_tell_8 1 rfl ?_
  refine gX0_get X 0 rfl 0 (by decide) uw208 rfl dX0_tell_9 ?_
  refine g_iload X dX0_tell_12 0 rfl ?_
  refine g_aload_n X dX0_tell_14 1 rfl ?_
  refine gX0_get X 0 rfl 0 (by decide) uw208 rfl dX0_tell_15 ?_
  refine g_iload X dX0_tell_18 0 rfl ?_
  refine g_iald X 1 0 rfl rfl (by omega) (by decide) dX0_tell_20 (fun t20 e20 => ?_)
  have r20 := r_v_direct ((p0 * 12) + p1 : Int).toNat; rw [← e20] at r20
  refine g_iload_n X dX0_tell_21 4 rfl ?_
  refine g_mmin X uw397 uw398 uw111 uw399 ⟨by decide, Nat.le_of_ble_eq_true rfl⟩ ⟨Nat.zero_le _, Nat.zero_le _⟩ (by omega) (by omega) dX0_tell_22 (fun t22 k22 => ?_)
  refine g_iast X 1 0 rfl rfl (by omega) (by decide) dX0_tell_25 (fun direct_25 e25 => ?_)
  have r_direct_25 : RA (-9999) 1000000 direct_25 := by rw [e25]; exact RA_up r_v_direct (by omega)
  refine g_ws (ws2 := (wX0 cI cB cJ h q v_canHold direct_25 v_byAll v_more)) rfl ?_
  exact hQ _ _ _ dX0_tell_26 ⟨direct_25, r_direct_25, (by exact tl_st e25 (by omega) (by rw [e20]; congr 1; omega) k22), rfl⟩
set_option maxHeartbeats 600000 in
set_option maxRecDepth 100000 in
theorem c_X0_tellBothSides (l : Launch) (D : va_G) (cI cB cJ : ClassId) (h : Nat) (q : Nat → Nat) (h_cl : Nat) (q_cl : Nat → Nat) {v_canHold v_cl_size : Int} {v_direct v_byAll v_more v_cl_first v_cl_second v_cl_kind v_cl_number v_cl_group v_cl_over : Nat → Int} {p1 : Int} (r_v_direct : RA (-9999) 1000000 v_direct) (r_v_cl_first : RA 0 11 v_cl_first) (r_v_cl_second : RA 0 11 v_cl_second) (r_v_cl_kind : RA 0 2 v_cl_kind) (r_v_cl_number : RA (-9999) 9999 v_cl_number) (hp0 : IR p1) (hp1 : 0 ≤ p1 ∧ p1 ≤ 39) : CtV l yX0_tellBothSides cX0_tellBothSides 3 none ⟨2, 0, 0, 64⟩ D (TY cI cB cJ) ((wX0 cI cB cJ h q v_canHold v_direct v_byAll v_more) ++ (wX1 cI cB cJ h_cl q_cl v_cl_size v_cl_first v_cl_second v_cl_kind v_cl_number v_cl_group v_cl_over)) [.ref h, .ref h_cl, vI p1] (fun ws' => ∃ n_direct : Nat → Int, (RA (-9999) 1000000 n_direct) ∧ (n_direct = to2 (to1 v_direct (v_cl_first p1.toNat).toNat (v_cl_second p1.toNat).toNat (v_cl_kind p1.toNat) (v_cl_number p1.toNat)) (v_cl_first p1.toNat).toNat (v_cl_second p1.toNat).toNat (v_cl_kind p1.toNat) (v_cl_number p1.toNat)) ∧ (ws' = ((wX0 cI cB cJ h q v_canHold n_direct v_byAll v_more) ++ (wX1 cI cB cJ h_cl q_cl v_cl_size v_cl_first v_cl_second v_cl_kind v_cl_number v_cl_group v_cl_over)))) := by
  refine hdrV (own := RX0) rfl (by decide +kernel) (Nat.le_of_ble_eq_true rfl) ?_
  intro p e s m args below meth c Q A X hQ
  refine g_lvE (lv2 := [(0, .ref h), (1, .ref h_cl), (2, vI p1)]) rfl ?_
  refine g_aload_n X dX0_tellBothSides_0 1 rfl ?_
  refine gN_get X (T := TX1) 4 rfl rfl inU_X1 3 (by decide) nw180 rfl rfl dX0_tellBothSides_1 ?_
  refine g_iload_n X dX0_tellBothSides_4 2 rfl ?_
  refine g_iald X 7 0 rfl rfl (by omega) (by decide) dX0_tellBothSides_5 (fun t5 e5 => ?_)
  have r5 := r_v_cl_kind (p1 : Int).toNat; rw [← e5] at r5
  refine g_iconst X dX0_tellBothSides_6 ?_
  refine g_icmp_eq X (tgt := 32) dX0_tellBothSides_7 (by decide) (by omega) (by omega) (fun c7 => ?_) (fun c7 => ?_)
  · refine g_aload_n X dX0_tellBothSides_32 1 rfl ?_
    refine gN_get X (T := TX1) 4 rfl rfl inU_X1 3 (by decide) nw180 rfl rfl dX0_tellBothSides_33 ?_
    refine g_iload_n X dX0_tellBothSides_36 2 rfl ?_
    refine g_iald X 7 0 rfl rfl (by omega) (by decide) dX0_tellBothSides_37 (fun t37 e37 => ?_)
    have r37 := r_v_cl_kind (p1 : Int).toNat; rw [← e37] at r37
    refine g_iconst X dX0_tellBothSides_38 ?_
    refine g_icmp_eq X (tgt := 65) dX0_tellBothSides_39 (by decide) (by omega) (by omega) (fun c39 => ?_) (fun c39 => ?_)
    · exact hQ _ _ _ dX0_tellBothSides_65 ⟨v_direct, r_v_direct, (by first | (exfalso; omega) | (rw [to1_x (by omega), to2_x (by omega), kp0_62, kp0_29, e16, e22, e28, e48, e54, e60]) | (rw [to1_2 (by omega), to2_x (by omega), kp0_62, e48, e54, e60]) | (rw [to1_x (by omega), to2_1 (by omega), kp0_29, e16, e22, e28])), rfl⟩
    · refine g_aload_n X dX0_tellBothSides_42 0 rfl ?_
      refine g_aload_n X dX0_tellBothSides_43 1 rfl ?_
      refine gN_get X (T := TX1) 4 rfl rfl inU_X1 2 (by decide) nw177 rfl rfl dX0_tellBothSides_44 ?_
      refine g_iload_n X dX0_tellBothSides_47 2 rfl ?_
      refine g_iald X 6 0 rfl rfl (by omega) (by decide) dX0_tellBothSides_48 (fun t48 e48 => ?_)
      have r48 := r_v_cl_second (p1 : Int).toNat; rw [← e48] at r48
      refine g_aload_n X dX0_tellBothSides_49 1 rfl ?_
      refine gN_get X (T := TX1) 4 rfl rfl inU_X1 1 (by decide) nw174 rfl rfl dX0_tellBothSides_50 ?_
      refine g_iload_n X dX0_tellBothSides_53 2 rfl ?_
      refine g_iald X 5 0 rfl rfl (by omega) (by decide) dX0_tellBothSides_54 (fun t54 e54 => ?_)
      have r54 := r_v_cl_first (p1 : Int).toNat; rw [← e54] at r54
      refine g_aload_n X dX0_tellBothSides_55 1 rfl ?_
      refine gN_get X (T := TX1) 4 rfl rfl inU_X1 4 (by decide) nw183 rfl rfl dX0_tellBothSides_56 ?_
      refine g_iload_n X dX0_tellBothSides_59 2 rfl ?_
      refine g_iald X 8 0 rfl rfl (by omega) (by decide) dX0_tellBothSides_60 (fun t60 e60 => ?_)
      have r60 := r_v_cl_number (p1 : Int).toNat; rw [← e60] at r60
      refine g_ineg X dX0_tellBothSides_61 ?_
      refine g_callVVw X (c_X0_tell l D cI cB cJ h q (p0 := t48) (p1 := t54) (p2 := -t60) r_v_direct (by first | assumption | omega) (by first | assumption | omega) (by first | assumption | omega) (by first | assumption | omega) (by first | assumption | omega) (by first | assumption | omega)) [0, 1, 2, 3] rfl rfl rfl cv_X0_tell uw393 ⟨rfl, rfl, by decide, by decide⟩ 0 rfl rfl rfl rfl rfl (Nat.le_of_ble_eq_true rfl) ⟨Nat.zero_le _, Nat.zero_le _⟩ dX0_tellBothSides_62 (fun ws62 k62 => ?_)
      obtain ⟨direct_62, r_direct_62, kp0_62, rfl⟩ := k62
      refine ⟨rfl, ?_⟩
      refine g_ws (ws2 := ((wX0 cI cB cJ h q v_canHold direct_62 v_byAll v_more) ++ (wX1 cI cB cJ h_cl q_cl v_cl_size v_cl_first v_cl_second v_cl_kind v_cl_number v_cl_group v_cl_over))) rfl ?_
      exact hQ _ _ _ dX0_tellBothSides_65 ⟨direct_62, r_direct_62, (by first | (exfalso; omega) | (rw [to1_x (by omega), to2_x (by omega), kp0_62, kp0_29, e16, e22, e28, e48, e54, e60]) | (rw [to1_2 (by omega), to2_x (by omega), kp0_62, e48, e54, e60]) | (rw [to1_x (by omega), to2_1 (by omega), kp0_29, e16, e22, e28])), rfl⟩
  · refine g_aload_n X dX0_tellBothSides_10 0 rfl ?_
    refine g_aload_n X dX0_tellBothSides_11 1 rfl ?_
    refine gN_get X (T := TX1) 4 rfl rfl inU_X1 1 (by decide) nw174 rfl rfl dX0_tellBothSides_12 ?_
    refine g_iload_n X dX0_tellBothSides_15 2 rfl ?_
    refine g_iald X 5 0 rfl rfl (by omega) (by decide) dX0_tellBothSides_16 (fun t16 e16 => ?_)
    have r16 := r_v_cl_first (p1 : Int).toNat; rw [← e16] at r16
    refine g_aload_n X dX0_tellBothSides_17 1 rfl ?_
    refine gN_get X (T := TX1) 4 rfl rfl inU_X1 2 (by decide) nw177 rfl rfl dX0_tellBothSides_18 ?_
    refine g_iload_n X dX0_tellBothSides_21 2 rfl ?_
    refine g_iald X 6 0 rfl rfl (by omega) (by decide) dX0_tellBothSides_22 (fun t22 e22 => ?_)
    have r22 := r_v_cl_second (p1 : Int).toNat; rw [← e22] at r22
    refine g_aload_n X dX0_tellBothSides_23 1 rfl ?_
    refine gN_get X (T := TX1) 4 rfl rfl inU_X1 4 (by decide) nw183 rfl rfl dX0_tellBothSides_24 ?_
    refine g_iload_n X dX0_tellBothSides_27 2 rfl ?_
    refine g_iald X 8 0 rfl rfl (by omega) (by decide) dX0_tellBothSides_28 (fun t28 e28 => ?_)
    have r28 := r_v_cl_number (p1 : Int).toNat; rw [← e28] at r28
    refine g_callVVw X (c_X0_tell l D cI cB cJ h q (p0 := t16) (p1 := t22) (p2 := t28) r_v_direct (by first | assumption | omega) (by first | assumption | omega) (by first | assumption | omega) (by first | assumption | omega) (by first | assumption | omega) (by first | assumption | omega)) [0, 1, 2, 3] rfl rfl rfl cv_X0_tell uw393 ⟨rfl, rfl, by decide, by decide⟩ 0 rfl rfl rfl rfl rfl (Nat.le_of_ble_eq_true rfl) ⟨Nat.zero_le _, Nat.zero_le _⟩ dX0_tellBothSides_29 (fun ws29 k29 => ?_)
    obtain ⟨direct_29, r_direct_29, kp0_29, rfl⟩ := k29
    refine ⟨rfl, ?_⟩
    refine g_ws (ws2 := ((wX0 cI cB cJ h q v_canHold direct_29 v_byAll v_more) ++ (wX1 cI cB cJ h_cl q_cl v_cl_size v_cl_first v_cl_second v_cl_kind v_cl_number v_cl_group v_cl_over))) rfl ?_
    refine g_aload_n X dX0_tellBothSides_32 1 rfl ?_
    refine gN_get X (T := TX1) 4 rfl rfl inU_X1 3 (by decide) nw180 rfl rfl dX0_tellBothSides_33 ?_
    refine g_iload_n X dX0_tellBothSides_36 2 rfl ?_
    refine g_iald X 7 0 rfl rfl (by omega) (by decide) dX0_tellBothSides_37 (fun t37 e37 => ?_)
    have r37 := r_v_cl_kind (p1 : Int).toNat; rw [← e37] at r37
    refine g_iconst X dX0_tellBothSides_38 ?_
    refine g_icmp_eq X (tgt := 65) dX0_tellBothSides_39 (by decide) (by omega) (by omega) (fun c39 => ?_) (fun c39 => ?_)
    · exact hQ _ _ _ dX0_tellBothSides_65 ⟨direct_29, r_direct_29, (by first | (exfalso; omega) | (rw [to1_x (by omega), to2_x (by omega), kp0_62, kp0_29, e16, e22, e28, e48, e54, e60]) | (rw [to1_2 (by omega), to2_x (by omega), kp0_62, e48, e54, e60]) | (rw [to1_x (by omega), to2_1 (by omega), kp0_29, e16, e22, e28])), rfl⟩
    · refine g_aload_n X dX0_tellBothSides_42 0 rfl ?_
      refine g_aload_n X dX0_tellBothSides_43 1 rfl ?_
      refine gN_get X (T := TX1) 4 rfl rfl inU_X1 2 (by decide) nw177 rfl rfl dX0_tellBothSides_44 ?_
      refine g_iload_n X dX0_tellBothSides_47 2 rfl ?_
      refine g_iald X 6 0 rfl rfl (by omega) (by decide) dX0_tellBothSides_48 (fun t48 e48 => ?_)
      have r48 := r_v_cl_second (p1 : Int).toNat; rw [← e48] at r48
      refine g_aload_n X dX0_tellBothSides_49 1 rfl ?_
      refine gN_get X (T := TX1) 4 rfl rfl inU_X1 1 (by decide) nw174 rfl rfl dX0_tellBothSides_50 ?_
      refine g_iload_n X dX0_tellBothSides_53 2 rfl ?_
      refine g_iald X 5 0 rfl rfl (by omega) (by decide) dX0_tellBothSides_54 (fun t54 e54 => ?_)
      have r54 := r_v_cl_first (p1 : Int).toNat; rw [← e54] at r54
      refine g_aload_n X dX0_tellBothSides_55 1 rfl ?_
      refine gN_get X (T := TX1) 4 rfl rfl inU_X1 4 (by decide) nw183 rfl rfl dX0_tellBothSides_56 ?_
      refine g_iload_n X dX0_tellBothSides_59 2 rfl ?_
      refine g_iald X 8 0 rfl rfl (by omega) (by decide) dX0_tellBothSides_60 (fun t60 e60 => ?_)
      have r60 := r_v_cl_number (p1 : Int).toNat; rw [← e60] at r60
      refine g_ineg X dX0_tellBothSides_61 ?_
      refine g_callVVw X (c_X0_tell l D cI cB cJ h q (p0 := t48) (p1 := t54) (p2 := -t60) r_direct_29 (by first | assumption | omega) (by first | assumption | omega) (by first | assumption | omega) (by first | assumption | omega) (by first | assumption | omega) (by first | assumption | omega)) [0, 1, 2, 3] rfl rfl rfl cv_X0_tell uw393 ⟨rfl, rfl, by decide, by decide⟩ 0 rfl rfl rfl rfl rfl (Nat.le_of_ble_eq_true rfl) ⟨Nat.zero_le _, Nat.zero_le _⟩ dX0_tellBothSides_62 (fun ws62 k62 => ?_)
      obtain ⟨direct_62, r_direct_62, kp0_62, rfl⟩ := k62
      refine ⟨rfl, ?_⟩
      refine g_ws (ws2 := ((wX0 cI cB cJ h q v_canHold direct_62 v_byAll v_more) ++ (wX1 cI cB cJ h_cl q_cl v_cl_size v_cl_first v_cl_second v_cl_kind v_cl_number v_cl_group v_cl_over))) rfl ?_
      exact hQ _ _ _ dX0_tellBothSides_65 ⟨direct_62, r_direct_62, (by first | (exfalso; omega) | (rw [to1_x (by omega), to2_x (by omega), kp0_62, kp0_29, e16, e22, e28, e48, e54, e60]) | (rw [to1_2 (by omega), to2_x (by omega), kp0_62, e48, e54, e60]) | (rw [to1_x (by omega), to2_1 (by omega), kp0_29, e16, e22, e28])), rfl⟩
set_option maxHeartbeats 600000 in
set_option maxRecDepth 100000 in
theorem c_X0_tellAll (l : Launch) (D : va_G) (cI cB cJ : ClassId) (h : Nat) (q : Nat → Nat) (h_cl : Nat) (q_cl : Nat → Nat) {v_canHold v_cl_size : Int} {v_direct v_byAll v_more v_cl_first v_cl_second v_cl_kind v_cl_number v_cl_group v_cl_over : Nat → Int} {p1 : Int} (r_v_direct : RA (-9999) 1000000 v_direct) (kr_v_cl_size : 0 ≤ v_cl_size ∧ v_cl_size ≤ 40) (r_v_cl_first : RA 0 11 v_cl_first) (r_v_cl_second : RA 0 11 v_cl_second) (r_v_cl_kind : RA 0 2 v_cl_kind) (r_v_cl_number : RA (-9999) 9999 v_cl_number) (hp0 : IR p1) : CtV l yX0_tellAll cX0_tellAll 4 none ⟨3, 0, 0, 86⟩ D (TY cI cB cJ) ((wX0 cI cB cJ h q v_canHold v_direct v_byAll v_more) ++ (wX1 cI cB cJ h_cl q_cl v_cl_size v_cl_first v_cl_second v_cl_kind v_cl_number v_cl_group v_cl_over)) [.ref h, .ref h_cl, vI p1] (fun ws' => ∃ n_direct : Nat → Int, (RA (-9999) 1000000 n_direct) ∧ (∀ c : Nat, c < 144 → n_direct c = toF v_cl_first v_cl_second v_cl_kind v_cl_number p1 v_cl_size.toNat c) ∧ (ws' = ((wX0 cI cB cJ h q v_canHold n_direct v_byAll v_more) ++ (wX1 cI cB cJ h_cl q_cl v_cl_size v_cl_first v_cl_second v_cl_kind v_cl_number v_cl_group v_cl_over)))) := by
  refine hdrV (own := RX0) rfl (by decide +kernel) (Nat.le_of_ble_eq_true rfl) ?_
  intro p e s m args below meth c Q A X hQ
  refine g_lvE (lv2 := [(0, .ref h), (1, .ref h_cl), (2, vI p1)]) rfl ?_
  refine g_aload_n X dX0_tellAll_0 0 rfl ?_
  refine gX0_get X 0 rfl 0 (by decide) uw208 rfl dX0_tellAll_1 ?_
  refine g_ldc X (z := 1000000) dX0_tellAll_4 uw385 (by decide) ?_
  refine g_callSVw X (c_J7_fill_53178_144 l D cI cB cJ (q 0) (p1 := 1000000) r_v_direct (by first | assumption | omega) (by first | assumption | omega)) [1] rfl rfl rfl cv_J7_fill_53178 uw386 ⟨rfl, rfl, by decide, by decide⟩ rfl rfl (Nat.le_of_ble_eq_true rfl) ⟨Nat.zero_le _, Nat.zero_le _⟩ dX0_tellAll_6 (fun ws6 k6 => ?_)
  obtain ⟨direct_6, r_direct_6, kp0_6, rfl⟩ := k6
  refine ⟨rfl, ?_⟩
  refine g_ws (ws2 := ((wX0 cI cB cJ h q v_canHold direct_6 v_byAll v_more) ++ (wX1 cI cB cJ h_cl q_cl v_cl_size v_cl_first v_cl_second v_cl_kind v_cl_number v_cl_group v_cl_over))) rfl ?_
  refine g_iconst X dX0_tellAll_9 ?_
  refine g_istore_n X (lv' := [(3, vI 0), (0, .ref h), (1, .ref h_cl), (2, vI p1)]) dX0_tellAll_10 (by decide) rfl ?_
  have L11 : ∀ (n : Nat) (x3_11 : Int) (direct_11 : Nat → Int), (RA (-9999) 1000000 direct_11) → (0 ≤ x3_11 ∧ x3_11 ≤ 12) → (∀ c : Nat, c < 144 → ((c % 13 = 0 ∧ (c : Int) < 13 * x3_11) → direct_11 c = 0) ∧ (¬ (c % 13 = 0 ∧ (c : Int) < 13 * x3_11) → direct_11 c = 1000000)) → (12 - x3_11).toNat < n → GG p l e ⟨3, 0, 0, 86⟩ s m args below meth c 0 0 Q D A s.heap 4 ((wX0 cI cB cJ h q v_canHold direct_11 v_byAll v_more) ++ (wX1 cI cB cJ h_cl q_cl v_cl_size v_cl_first v_cl_second v_cl_kind v_cl_number v_cl_group v_cl_over)) 11 [(0, .ref h), (1, .ref h_cl), (2, vI p1), (3, vI x3_11)] [] := by
    intro n
    induction n with
    | zero => intros; exfalso; omega
    | succ n ih11 =>
      intro x3_11 direct_11 r_direct_11 w11_0 w11_1 wm11
      refine g_iload_n X dX0_tellAll_11 3 rfl ?_
      refine g_bipush X (z := 12) dX0_tellAll_12 (by decide) ?_
      refine g_icmp_ge X (tgt := 35) dX0_tellAll_14 (by decide) (by omega) (by omega) (fun c14 => ?_) (fun c14 => ?_)
      · refine g_iconst X dX0_tellAll_35 ?_
        refine g_istore_n X (lv' := [(3, vI 0), (0, .ref h), (1, .ref h_cl), (2, vI p1)]) dX0_tellAll_36 (by decide) rfl ?_
        have L37 : ∀ (n : Nat) (x3_37 : Int) (direct_37 : Nat → Int), (RA (-9999) 1000000 direct_37) → (0 ≤ x3_37 ∧ x3_37 ≤ v_cl_size) → (∀ c : Nat, c < 144 → direct_37 c = toF v_cl_first v_cl_second v_cl_kind v_cl_number p1 (x3_37).toNat c) → (v_cl_size - x3_37).toNat < n → GG p l e ⟨3, 0, 0, 86⟩ s m args below meth c 0 0 Q D A s.heap 4 ((wX0 cI cB cJ h q v_canHold direct_37 v_byAll v_more) ++ (wX1 cI cB cJ h_cl q_cl v_cl_size v_cl_first v_cl_second v_cl_kind v_cl_number v_cl_group v_cl_over)) 37 [(0, .ref h), (1, .ref h_cl), (2, vI p1), (3, vI x3_37)] [] := by
          intro n
          induction n with
          | zero => intros; exfalso; omega
          | succ n ih37 =>
            intro x3_37 direct_37 r_direct_37 w37_0 w37_1 wm37
            have hS := toF_s (A := v_cl_first) (B := v_cl_second) (K := v_cl_kind) (V := v_cl_number) (w := p1) (x := x3_37) (by omega)
            refine g_iload_n X dX0_tellAll_37 3 rfl ?_
            refine g_aload_n X dX0_tellAll_38 1 rfl ?_
            refine gN_get X (T := TX1) 4 rfl rfl inU_X1 0 (by decide) nw171 rfl rfl dX0_tellAll_39 ?_
            refine g_icmp_ge X (tgt := 62) dX0_tellAll_42 (by decide) (by omega) (by omega) (fun c42 => ?_) (fun c42 => ?_)
            · exact hQ _ _ _ dX0_tellAll_62 ⟨direct_37, r_direct_37, (by intro c hc; rw [← show (x3_37).toNat = v_cl_size.toNat by omega]; exact w37_1 c hc), rfl⟩
            · refine g_iload_n X dX0_tellAll_45 3 rfl ?_
              refine g_iload_n X dX0_tellAll_46 2 rfl ?_
              refine g_icmp_eq X (tgt := 56) dX0_tellAll_47 (by decide) (by omega) (by omega) (fun c47 => ?_) (fun c47 => ?_)
              · refine g_iinc X (lv' := [(3, vI (x3_37 + 1)), (0, .ref h), (1, .ref h_cl), (2, vI p1)]) dX0_tellAll_56 3 rfl (by decide) rfl ?_
                refine g_goto X (tgt := 37) dX0_tellAll_59 (by decide) ?_
                refine g_lv [1, 2, 3, 0] rfl ?_
                exact ih37 (x3_37 + 1) direct_37 r_direct_37 (by first | assumption | omega) (by intro c hc; first | (rw [show (0 : Int).toNat = 0 from rfl, toF_0]; have h9 := w11_1 c hc; by_cases hq : c / 12 = c % 12; (rw [if_pos hq]; exact h9.1 (by omega)); (rw [if_neg hq]; exact h9.2 (by omega))) | (rcases hS with ⟨g1, g2⟩ | ⟨g1, g2⟩; (first | (rw [g2]; exact w37_1 c hc) | (exfalso; omega)); (first | (rw [g2, kp0_53]; exact to2_c (by omega) (by omega) (to1_c (by omega) (by omega) w37_1) c hc) | (exfalso; omega)))) (by omega)
              · refine g_aload_n X dX0_tellAll_50 0 rfl ?_
                refine g_aload_n X dX0_tellAll_51 1 rfl ?_
                refine g_iload_n X dX0_tellAll_52 3 rfl ?_
                have hfr := r_v_cl_first (x3_37).toNat
                have hse := r_v_cl_second (x3_37).toNat
                refine g_callVV0 X (c_X0_tellBothSides l D cI cB cJ h q h_cl q_cl (p1 := x3_37) r_direct_37 r_v_cl_first r_v_cl_second r_v_cl_kind r_v_cl_number (by first | assumption | omega) (by first | assumption | omega)) cv_X0_tellBothSides uw389 ⟨rfl, rfl, by decide, by decide⟩ 0 rfl rfl rfl rfl rfl (Nat.le_of_ble_eq_true rfl) ⟨Nat.zero_le _, Nat.zero_le _⟩ dX0_tellAll_53 (fun ws53 k53 => ?_)
                obtain ⟨direct_53, r_direct_53, kp0_53, rfl⟩ := k53
                refine g_iinc X (lv' := [(3, vI (x3_37 + 1)), (0, .ref h), (1, .ref h_cl), (2, vI p1)]) dX0_tellAll_56 3 rfl (by decide) rfl ?_
                refine g_goto X (tgt := 37) dX0_tellAll_59 (by decide) ?_
                refine g_lv [1, 2, 3, 0] rfl ?_
                exact ih37 (x3_37 + 1) direct_53 r_direct_53 (by first | assumption | omega) (by intro c hc; first | (rw [show (0 : Int).toNat = 0 from rfl, toF_0]; have h9 := w11_1 c hc; by_cases hq : c / 12 = c % 12; (rw [if_pos hq]; exact h9.1 (by omega)); (rw [if_neg hq]; exact h9.2 (by omega))) | (rcases hS with ⟨g1, g2⟩ | ⟨g1, g2⟩; (first | (rw [g2]; exact w37_1 c hc) | (exfalso; omega)); (first | (rw [g2, kp0_53]; exact to2_c (by omega) (by omega) (to1_c (by omega) (by omega) w37_1) c hc) | (exfalso; omega)))) (by omega)
        refine g_lv [1, 2, 3, 0] rfl ?_
        exact L37 _ 0 direct_11 r_direct_11 (by first | assumption | omega) (by intro c hc; first | (rw [show (0 : Int).toNat = 0 from rfl, toF_0]; have h9 := w11_1 c hc; by_cases hq : c / 12 = c % 12; (rw [if_pos hq]; exact h9.1 (by omega)); (rw [if_neg hq]; exact h9.2 (by omega))) | (rcases hS with ⟨g1, g2⟩ | ⟨g1, g2⟩; (first | (rw [g2]; exact w37_1 c hc) | (exfalso; omega)); (first | (rw [g2, kp0_53]; exact to2_c (by omega) (by omega) (to1_c (by omega) (by omega) w37_1) c hc) | (exfalso; omega)))) (Nat.lt_succ_self _)
      · refine g_aload_n X dX0_tellAll_17 0 rfl ?_
        refine gX0_get X 0 rfl 0 (by decide) uw208 rfl dX0_tellAll_18 ?_
        refine g_iload_n X dX0_tellAll_21 3 rfl ?_
        refine g_bipush X (z := 12) dX0_tellAll_22 (by decide) ?_
        refine g_imul X dX0_tellAll_24 ?_
        refine g_iload_n X dX0_tellAll_25 3 rfl ?_
        refine g_iadd X dX0_tellAll_26 ?_
        refine g_iconst X dX0_tellAll_27 ?_
        refine g_iast X 1 0 rfl rfl (by omega) (by decide) dX0_tellAll_28 (fun direct_28 e28 => ?_)
        have r_direct_28 : RA (-9999) 1000000 direct_28 := by rw [e28]; exact RA_up r_direct_11 (by omega)
        refine g_ws (ws2 := ((wX0 cI cB cJ h q v_canHold direct_28 v_byAll v_more) ++ (wX1 cI cB cJ h_cl q_cl v_cl_size v_cl_first v_cl_second v_cl_kind v_cl_number v_cl_group v_cl_over))) rfl ?_
        refine g_iinc X (lv' := [(3, vI (x3_11 + 1)), (0, .ref h), (1, .ref h_cl), (2, vI p1)]) dX0_tellAll_29 3 rfl (by decide) rfl ?_
        refine g_goto X (tgt := 11) dX0_tellAll_32 (by decide) ?_
        refine g_lv [1, 2, 3, 0] rfl ?_
        exact ih11 (x3_11 + 1) direct_28 r_direct_28 (by first | assumption | omega) (by intro c hc; first | exact ⟨fun h => absurd h (by omega), fun _ => kp0_6 c (by omega)⟩ | (rw [e28]; exact if hq : c = (x3_11 * 12 + x3_11).toNat then by (rw [hq, updZ_s]; exact ⟨fun _ => rfl, fun h => absurd (by omega) h⟩) else by (rw [updZ_n _ _ hq]; exact ⟨fun h => (w11_1 c hc).1 (by omega), fun h => (w11_1 c hc).2 (by omega)⟩))) (by omega)
  refine g_lv [1, 2, 3, 0] rfl ?_
  exact L11 _ 0 direct_6 r_direct_6 (by first | assumption | omega) (by intro c hc; first | exact ⟨fun h => absurd h (by omega), fun _ => kp0_6 c (by omega)⟩ | (rw [e28]; exact if hq : c = (x3_11 * 12 + x3_11).toNat then by (rw [hq, updZ_s]; exact ⟨fun _ => rfl, fun h => absurd (by omega) h⟩) else by (rw [updZ_n _ _ hq]; exact ⟨fun h => (w11_1 c hc).1 (by omega), fun h => (w11_1 c hc).2 (by omega)⟩))) (Nat.lt_succ_self _)
set_option maxHeartbeats 600000 in
set_option maxRecDepth 100000 in
theorem c_X0_goBy (l : Launch) (D : va_G) (cI cB cJ : ClassId) (h : Nat) (q : Nat → Nat) {v_canHold : Int} {v_direct v_byAll v_more : Nat → Int} {p0 : Int} (r_v_byAll : RA (-1000000) 1000000 v_byAll) (hp0 : IR p0) (hp1 : 0 ≤ p0 ∧ p0 ≤ 11) (hp2 : ∀ c : Nat, c < 144 → (-129987 ≤ v_byAll c ∧ v_byAll c ≤ 129987) ∨ v_byAll c = 1000000) (hp3 : 0 ≤ v_byAll (13 * p0.toNat)) : CtV l yX0_goBy cX0_goBy 7 none ⟨1, 0, 0, 40⟩ D (TY cI cB cJ) (wX0 cI cB cJ h q v_canHold v_direct v_byAll v_more) [.ref h, vI p0] (fun ws' => ∃ n_byAll : Nat → Int, (RA (-1000000) 1000000 n_byAll) ∧ (∀ c : Nat, c < 144 → n_byAll c = fwS v_byAll p0.toNat c) ∧ (ws' = (wX0 cI cB cJ h q v_canHold v_direct n_byAll v_more))) := by
  refine hdrV (own := RX0) rfl (by decide +kernel) (Nat.le_of_ble_eq_true rfl) ?_
  intro p e s m args below meth c Q A X hQ
  refine g_lvE (lv2 := [(0, .ref h), (1, vI p0)]) rfl ?_
  refine g_iconst X dX0_goBy_0 ?_
  refine g_istore_n X (lv' := [(2, vI 0), (0, .ref h), (1, vI p0)]) dX0_goBy_1 (by decide) rfl ?_
  have L2 : ∀ (n : Nat) (x2_2 : Int) (byAll_2 : Nat → Int), (RA (-1000000) 1000000 byAll_2) → (0 ≤ x2_2 ∧ x2_2 ≤ 12) → (∀ c : Nat, c < 144 → ((c : Int) < 12 * x2_2 → byAll_2 c = fwS v_byAll p0.toNat c) ∧ (12 * x2_2 ≤ (c : Int) → byAll_2 c = v_byAll c)) → (12 - x2_2).toNat < n → GG p l e ⟨1, 0, 0, 40⟩ s m args below meth c 0 0 Q D A s.heap 7 (wX0 cI cB cJ h q v_canHold v_direct byAll_2 v_more) 2 [(0, .ref h), (1, vI p0), (2, vI x2_2)] [] := by
    intro n
    induction n with
    | zero => intros; exfalso; omega
    | succ n ih2 =>
      intro x2_2 byAll_2 r_byAll_2 w2_0 w2_1 wm2
      refine g_iload_n X dX0_goBy_2 2 rfl ?_
      refine g_bipush X (z := 12) dX0_goBy_3 (by decide) ?_
      refine g_icmp_ge X (tgt := 99) dX0_goBy_5 (by decide) (by omega) (by omega) (fun c5 => ?_) (fun c5 => ?_)
      · exact hQ _ _ _ dX0_goBy_99 ⟨byAll_2, r_byAll_2, (by intro c hc; exact (w2_1 c hc).1 (by omega)), rfl⟩
      · refine g_aload_n X dX0_goBy_8 0 rfl ?_
        refine gX0_get X 0 rfl 1 (by decide) uw210 rfl dX0_goBy_9 ?_
        refine g_iload_n X dX0_goBy_12 2 rfl ?_
        refine g_bipush X (z := 12) dX0_goBy_13 (by decide) ?_
        refine g_imul X dX0_goBy_15 ?_
        refine g_iload_n X dX0_goBy_16 1 rfl ?_
        refine g_iadd X dX0_goBy_17 ?_
        refine g_iald X 2 0 rfl rfl (by omega) (by decide) dX0_goBy_18 (fun t18 e18 => ?_)
        have r18 := r_byAll_2 ((x2_2 * 12) + p0 : Int).toNat; rw [← e18] at r18
        refine g_istore_n X (lv' := [(3, vI t18), (0, .ref h), (1, vI p0), (2, vI x2_2)]) dX0_goBy_19 (by decide) rfl ?_
        refine g_iconst X dX0_goBy_20 ?_
        refine g_istore X (lv' := [(4, vI 0), (3, vI t18), (0, .ref h), (1, vI p0), (2, vI x2_2)]) dX0_goBy_21 (by decide) rfl ?_
        have hb18 := hp2 (12 * (x2_2).toNat + p0.toNat) (by omega)
        have h18 : t18 = v_byAll (12 * (x2_2).toNat + p0.toNat) := by rw [e18, show (x2_2 * 12 + p0).toNat = 12 * (x2_2).toNat + p0.toNat by omega]; exact (w2_1 _ (by omega)).2 (by omega)
        have L23 : ∀ (n : Nat) (x4_23 : Int) (byAll_23 : Nat → Int), (RA (-1000000) 1000000 byAll_23) → (0 ≤ x4_23 ∧ x4_23 ≤ 12) → (∀ c : Nat, c < 144 → ((c : Int) < 12 * x2_2 + x4_23 → byAll_23 c = fwS v_byAll p0.toNat c) ∧ (12 * x2_2 + x4_23 ≤ (c : Int) → byAll_23 c = v_byAll c)) → (12 - x4_23).toNat < n → GG p l e ⟨1, 0, 0, 40⟩ s m args below meth c 0 0 Q D A s.heap 7 (wX0 cI cB cJ h q v_canHold v_direct byAll_23 v_more) 23 [(0, .ref h), (1, vI p0), (2, vI x2_2), (3, vI t18), (4, vI x4_23)] [] := by
          intro n
          induction n with
          | zero => intros; exfalso; omega
          | succ n ih23 =>
            intro x4_23 byAll_23 r_byAll_23 w23_0 w23_1 wm23
            refine g_iload X dX0_goBy_23 4 rfl ?_
            refine g_bipush X (z := 12) dX0_goBy_25 (by decide) ?_
            refine g_icmp_ge X (tgt := 93) dX0_goBy_27 (by decide) (by omega) (by omega) (fun c27 => ?_) (fun c27 => ?_)
            · refine g_iinc X (lv' := [(2, vI (x2_2 + 1)), (0, .ref h), (1, vI p0), (3, vI t18), (4, vI x4_23)]) dX0_goBy_93 2 rfl (by decide) rfl ?_
              refine g_goto X (tgt := 2) dX0_goBy_96 (by decide) ?_
              refine g_lv [1, 2, 0] rfl ?_
              exact ih2 (x2_2 + 1) byAll_23 r_byAll_23 (by first | assumption | omega) (by intro c hc; first | exact ⟨fun h => absurd h (by omega), fun _ => rfl⟩ | (have h9 := w23_1 c hc; refine ⟨fun h => ?_, fun h => h9.2 (by omega)⟩; rcases (show (c : Int) < 12 * x2_2 + x4_23 ∨ 12 * x2_2 + x4_23 ≤ (c : Int) by omega) with g | g; exact h9.1 g; (rw [h9.2 g]; have hF := fwS_e v_byAll p0.toNat c; rw [show c / 12 = (x2_2).toNat by omega] at hF; omega))) (by omega)
            · refine g_iload_n X dX0_goBy_30 3 rfl ?_
              refine g_ldc X (z := 1000000) dX0_goBy_31 uw385 (by decide) ?_
              refine g_icmp_eq X (tgt := 93) dX0_goBy_33 (by decide) (by omega) (by omega) (fun c33 => ?_) (fun c33 => ?_)
              · refine g_iinc X (lv' := [(2, vI (x2_2 + 1)), (0, .ref h), (1, vI p0), (3, vI t18), (4, vI x4_23)]) dX0_goBy_93 2 rfl (by decide) rfl ?_
                refine g_goto X (tgt := 2) dX0_goBy_96 (by decide) ?_
                refine g_lv [1, 2, 0] rfl ?_
                exact ih2 (x2_2 + 1) byAll_23 r_byAll_23 (by first | assumption | omega) (by intro c hc; first | exact ⟨fun h => absurd h (by omega), fun _ => rfl⟩ | (have h9 := w23_1 c hc; refine ⟨fun h => ?_, fun h => h9.2 (by omega)⟩; rcases (show (c : Int) < 12 * x2_2 + x4_23 ∨ 12 * x2_2 + x4_23 ≤ (c : Int) by omega) with g | g; exact h9.1 g; (rw [h9.2 g]; have hF := fwS_e v_byAll p0.toNat c; rw [show c / 12 = (x2_2).toNat by omega] at hF; omega))) (by omega)
              · refine g_aload_n X dX0_goBy_36 0 rfl ?_
                refine gX0_get X 0 rfl 1 (by decide) uw210 rfl dX0_goBy_37 ?_
                refine g_iload_n X dX0_goBy_40 1 rfl ?_
                refine g_bipush X (z := 12) dX0_goBy_41 (by decide) ?_
                refine g_imul X dX0_goBy_43 ?_
                refine g_iload X dX0_goBy_44 4 rfl ?_
                refine g_iadd X dX0_goBy_46 ?_
                refine g_iald X 2 0 rfl rfl (by omega) (by decide) dX0_goBy_47 (fun t47 e47 => ?_)
                have r47 := r_byAll_23 ((p0 * 12) + x4_23 : Int).toNat; rw [← e47] at r47
                refine g_istore X (lv' := [(5, vI t47), (0, .ref h), (1, vI p0), (2, vI x2_2), (3, vI t18), (4, vI x4_23)]) dX0_goBy_48 (by decide) rfl ?_
                have hb47 := hp2 (12 * p0.toNat + (x4_23).toNat) (by omega)
                have hc1 : (12 * x2_2 + x4_23).toNat / 12 = (x2_2).toNat ∧ (12 * x2_2 + x4_23).toNat % 12 = (x4_23).toNat := by omega
                have hF := fwS_e v_byAll p0.toNat (12 * x2_2 + x4_23).toNat
                rw [hc1.1, hc1.2] at hF
                have h47 : t47 = v_byAll (12 * p0.toNat + (x4_23).toNat) := by rw [e47, show (p0 * 12 + x4_23).toNat = 12 * p0.toNat + (x4_23).toNat by omega]; have h9 := w23_1 (12 * p0.toNat + (x4_23).toNat) (by omega); rcases (show ((12 * p0.toNat + (x4_23).toNat : Nat) : Int) < 12 * x2_2 + x4_23 ∨ 12 * x2_2 + x4_23 ≤ ((12 * p0.toNat + (x4_23).toNat : Nat) : Int) by omega) with h | h; (rw [h9.1 h]; exact fwS_row hp3 (by omega) (by omega)); exact h9.2 h
                refine g_iload X dX0_goBy_50 0 rfl ?_
                refine g_ldc X (z := 1000000) dX0_goBy_52 uw385 (by decide) ?_
                refine g_icmp_eq X (tgt := 87) dX0_goBy_54 (by decide) (by omega) (by omega) (fun c54 => ?_) (fun c54 => ?_)
                · have hv : byAll_23 (12 * x2_2 + x4_23).toNat = fwS v_byAll p0.toNat (12 * x2_2 + x4_23).toNat := by first | (rw [e86, show (x2_2 * 12 + x4_23).toNat = (12 * x2_2 + x4_23).toNat by omega, updZ_s]; omega) | (have h9 := (w23_1 (12 * x2_2 + x4_23).toNat (by omega)).2 (by omega); omega)
                  have ho : ∀ c : Nat, c ≠ (12 * x2_2 + x4_23).toNat → byAll_23 c = byAll_23 c := by first | exact fun _ _ => rfl | (intro c hc; rw [e86, updZ_n _ _ (by omega)])
                  refine g_iinc X (lv' := [(4, vI (x4_23 + 1)), (5, vI t47), (0, .ref h), (1, vI p0), (2, vI x2_2), (3, vI t18)]) dX0_goBy_87 5 rfl (by decide) rfl ?_
                  refine g_goto X (tgt := 23) dX0_goBy_90 (by decide) ?_
                  refine g_lv [2, 3, 4, 5, 0] rfl ?_
                  exact ih23 (x4_23 + 1) byAll_23 r_byAll_23 (by first | assumption | omega) (by intro c hc; first | exact ⟨fun h => (w2_1 c hc).1 (by omega), fun h => (w2_1 c hc).2 (by omega)⟩ | (refine ⟨fun h => ?_, fun h => ?_⟩; (rcases (show c = (12 * x2_2 + x4_23).toNat ∨ (c : Int) < 12 * x2_2 + x4_23 by omega) with g | g; (rw [g]; exact hv); (rw [ho c (by omega)]; exact (w23_1 c hc).1 g)); (rw [ho c (by omega)]; exact (w23_1 c hc).2 (by omega)))) (by omega)
                · refine g_iload_n X dX0_goBy_57 3 rfl ?_
                  refine g_bipush X (z := 12) dX0_goBy_58 (by decide) ?_
                  refine g_imul X dX0_goBy_60 ?_
                  refine g_iload X dX0_goBy_61 5 rfl ?_
                  refine g_iadd X dX0_goBy_63 ?_
                  refine g_istore X (lv' := [(6, vI ((x2_2 * 12) + x4_23)), (5, vI t47), (0, .ref h), (1, vI p0), (2, vI x2_2), (3, vI t18), (4, vI x4_23)]) dX0_goBy_64 (by decide) rfl ?_
                  refine g_aload_n X dX0_goBy_66 2 rfl ?_
                  refine gX0_get X 0 rfl 1 (by decide) uw210 rfl dX0_goBy_67 ?_
                  refine g_iload X dX0_goBy_70 0 rfl ?_
                  refine g_aload_n X dX0_goBy_72 2 rfl ?_
                  refine gX0_get X 0 rfl 1 (by decide) uw210 rfl dX0_goBy_73 ?_
                  refine g_iload X dX0_goBy_76 0 rfl ?_
                  refine g_iald X 2 0 rfl rfl (by omega) (by decide) dX0_goBy_78 (fun t78 e78 => ?_)
                  have r78 := r_byAll_23 ((x2_2 * 12) + x4_23 : Int).toNat; rw [← e78] at r78
                  have hb78 := hp2 (12 * x2_2 + x4_23).toNat (by omega)
                  have h78 : t78 = v_byAll (12 * x2_2 + x4_23).toNat := by rw [e78, show (((x2_2 * 12) + x4_23)).toNat = (12 * x2_2 + x4_23).toNat by omega]; exact (w23_1 _ (by omega)).2 (by omega)
                  refine g_iload_n X dX0_goBy_79 5 rfl ?_
                  refine g_iload X dX0_goBy_80 1 rfl ?_
                  refine g_iadd X dX0_goBy_82 ?_
                  refine g_mmin X uw397 uw398 uw111 uw399 ⟨by decide, Nat.le_of_ble_eq_true rfl⟩ ⟨Nat.zero_le _, Nat.zero_le _⟩ (by omega) (by omega) dX0_goBy_83 (fun t83 k83 => ?_)
                  refine g_iast X 2 0 rfl rfl (by omega) (by decide) dX0_goBy_86 (fun byAll_86 e86 => ?_)
                  have r_byAll_86 : RA (-1000000) 1000000 byAll_86 := by rw [e86]; exact RA_up r_byAll_23 (by omega)
                  refine g_ws (ws2 := (wX0 cI cB cJ h q v_canHold v_direct byAll_86 v_more)) rfl ?_
                  have hv : byAll_86 (12 * x2_2 + x4_23).toNat = fwS v_byAll p0.toNat (12 * x2_2 + x4_23).toNat := by first | (rw [e86, show (x2_2 * 12 + x4_23).toNat = (12 * x2_2 + x4_23).toNat by omega, updZ_s]; omega) | (have h9 := (w23_1 (12 * x2_2 + x4_23).toNat (by omega)).2 (by omega); omega)
                  have ho : ∀ c : Nat, c ≠ (12 * x2_2 + x4_23).toNat → byAll_86 c = byAll_23 c := by first | exact fun _ _ => rfl | (intro c hc; rw [e86, updZ_n _ _ (by omega)])
                  refine g_iinc X (lv' := [(4, vI (x4_23 + 1)), (6, vI ((x2_2 * 12) + x4_23)), (5, vI t47), (0, .ref h), (1, vI p0), (2, vI x2_2), (3, vI t18)]) dX0_goBy_87 6 rfl (by decide) rfl ?_
                  refine g_goto X (tgt := 23) dX0_goBy_90 (by decide) ?_
                  refine g_lv [3, 4, 5, 6, 0] rfl ?_
                  exact ih23 (x4_23 + 1) byAll_86 r_byAll_86 (by first | assumption | omega) (by intro c hc; first | exact ⟨fun h => (w2_1 c hc).1 (by omega), fun h => (w2_1 c hc).2 (by omega)⟩ | (refine ⟨fun h => ?_, fun h => ?_⟩; (rcases (show c = (12 * x2_2 + x4_23).toNat ∨ (c : Int) < 12 * x2_2 + x4_23 by omega) with g | g; (rw [g]; exact hv); (rw [ho c (by omega)]; exact (w23_1 c hc).1 g)); (rw [ho c (by omega)]; exact (w23_1 c hc).2 (by omega)))) (by omega)
        refine g_lv [2, 3, 4, 1, 0] rfl ?_
        exact L23 _ 0 byAll_2 r_byAll_2 (by first | assumption | omega) (by intro c hc; first | exact ⟨fun h => (w2_1 c hc).1 (by omega), fun h => (w2_1 c hc).2 (by omega)⟩ | (refine ⟨fun h => ?_, fun h => ?_⟩; (rcases (show c = (12 * x2_2 + x4_23).toNat ∨ (c : Int) < 12 * x2_2 + x4_23 by omega) with g | g; (rw [g]; exact hv); (rw [ho c (by omega)]; exact (w23_1 c hc).1 g)); (rw [ho c (by omega)]; exact (w23_1 c hc).2 (by omega)))) (Nat.lt_succ_self _)
  refine g_lv [1, 2, 0] rfl ?_
  exact L2 _ 0 v_byAll r_v_byAll (by first | assumption | omega) (by intro c hc; first | exact ⟨fun h => absurd h (by omega), fun _ => rfl⟩ | (have h9 := w23_1 c hc; refine ⟨fun h => ?_, fun h => h9.2 (by omega)⟩; rcases (show (c : Int) < 12 * x2_2 + x4_23 ∨ 12 * x2_2 + x4_23 ≤ (c : Int) by omega) with g | g; exact h9.1 g; (rw [h9.2 g]; have hF := fwS_e v_byAll p0.toNat c; rw [show c / 12 = (x2_2).toNat by omega] at hF; omega))) (Nat.lt_succ_self _)
set_option maxHeartbeats 600000 in
set_option maxRecDepth 100000 in
theorem c_X0_isNoneBelowItself (l : Launch) (D : va_G) (cI cB cJ : ClassId) (h : Nat) (q : Nat → Nat) {v_canHold : Int} {v_direct v_byAll v_more : Nat → Int} (r_v_byAll : RA (-1000000) 1000000 v_byAll) : CtI l yX0_isNoneBelowItself cX0_isNoneBelowItself 2 (some .boolean) ⟨0, 0, 0, 0⟩ D (TY cI cB cJ) (wX0 cI cB cJ h q v_canHold v_direct v_byAll v_more) [.ref h] (fun z ws' => (z = 0 ∨ z = 1) ∧ ((z = 1 ∧ ∀ t : Nat, t < 12 → 0 ≤ v_byAll (13 * t)) ∨ (z = 0 ∧ ngF v_byAll)) ∧ (ws' = (wX0 cI cB cJ h q v_canHold v_direct v_byAll v_more))) := by
  refine hdrZ (own := RX0) rfl (by decide +kernel) (Nat.le_of_ble_eq_true rfl) ?_
  intro p e s m args below meth c Q A X hQ
  refine g_lvE (lv2 := [(0, .ref h)]) rfl ?_
  refine g_iconst X dX0_isNoneBelowItself_0 ?_
  refine g_istore_n X (lv' := [(1, vI 0), (0, .ref h)]) dX0_isNoneBelowItself_1 (by decide) rfl ?_
  have L2 : ∀ (n : Nat) (x1_2 : Int), (0 ≤ x1_2 ∧ x1_2 ≤ 12) → (∀ t : Nat, (t : Int) < x1_2 → 0 ≤ v_byAll (13 * t)) → (12 - x1_2).toNat < n → GG p l e ⟨0, 0, 0, 0⟩ s m args below meth c 0 0 Q D A s.heap 2 (wX0 cI cB cJ h q v_canHold v_direct v_byAll v_more) 2 [(0, .ref h), (1, vI x1_2)] [] := by
    intro n
    induction n with
    | zero => intros; exfalso; omega
    | succ n ih2 =>
      intro x1_2 w2_0 w2_1 wm2
      refine g_iload_n X dX0_isNoneBelowItself_2 1 rfl ?_
      refine g_bipush X (z := 12) dX0_isNoneBelowItself_3 (by decide) ?_
      refine g_icmp_ge X (tgt := 30) dX0_isNoneBelowItself_5 (by decide) (by omega) (by omega) (fun c5 => ?_) (fun c5 => ?_)
      · refine g_iconst X dX0_isNoneBelowItself_30 ?_
        exact hQ _ _ _ _ dX0_isNoneBelowItself_31 ⟨by omega, ⟨(by first | exact Or.inl ⟨rfl, fun t ht => w2_1 t (by omega)⟩ | exact Or.inr ⟨rfl, ngF.i (t := (x1_2).toNat) (by omega) (by omega)⟩), rfl⟩⟩
      · refine g_aload_n X dX0_isNoneBelowItself_8 0 rfl ?_
        refine gX0_get X 0 rfl 1 (by decide) uw210 rfl dX0_isNoneBelowItself_9 ?_
        refine g_iload_n X dX0_isNoneBelowItself_12 1 rfl ?_
        refine g_bipush X (z := 12) dX0_isNoneBelowItself_13 (by decide) ?_
        refine g_imul X dX0_isNoneBelowItself_15 ?_
        refine g_iload_n X dX0_isNoneBelowItself_16 1 rfl ?_
        refine g_iadd X dX0_isNoneBelowItself_17 ?_
        refine g_iald X 2 0 rfl rfl (by omega) (by decide) dX0_isNoneBelowItself_18 (fun t18 e18 => ?_)
        have r18 := r_v_byAll ((x1_2 * 12) + x1_2 : Int).toNat; rw [← e18] at r18
        have h18 : t18 = v_byAll (13 * (x1_2).toNat) := by rw [e18]; congr 1; omega
        refine g_if_ge X (tgt := 24) dX0_isNoneBelowItself_19 (by decide) (by omega) (fun c19 => ?_) (fun c19 => ?_)
        · refine g_iinc X (lv' := [(1, vI (x1_2 + 1)), (0, .ref h)]) dX0_isNoneBelowItself_24 1 rfl (by decide) rfl ?_
          refine g_goto X (tgt := 2) dX0_isNoneBelowItself_27 (by decide) ?_
          refine g_lv [1, 0] rfl ?_
          exact ih2 (x1_2 + 1) (by first | assumption | omega) (by intro t ht; first | (exfalso; omega) | (rcases (show (t : Int) < x1_2 ∨ t = (x1_2).toNat by omega) with h | h; exact w2_1 t h; (rw [h]; omega))) (by omega)
        · refine g_iconst X dX0_isNoneBelowItself_22 ?_
          exact hQ _ _ _ _ dX0_isNoneBelowItself_23 ⟨by omega, ⟨(by first | exact Or.inl ⟨rfl, fun t ht => w2_1 t (by omega)⟩ | exact Or.inr ⟨rfl, ngF.i (t := (x1_2).toNat) (by omega) (by omega)⟩), rfl⟩⟩
  refine g_lv [1, 0] rfl ?_
  exact L2 _ 0 (by first | assumption | omega) (by intro t ht; first | (exfalso; omega) | (rcases (show (t : Int) < x1_2 ∨ t = (x1_2).toNat by omega) with h | h; exact w2_1 t h; (rw [h]; omega))) (Nat.lt_succ_self _)
set_option maxHeartbeats 600000 in
set_option maxRecDepth 100000 in
theorem c_X0_follow (l : Launch) (D : va_G) (cI cB cJ : ClassId) (h : Nat) (q : Nat → Nat) (h_cl : Nat) (q_cl : Nat → Nat) {v_canHold v_cl_size : Int} {v_direct v_byAll v_more v_cl_first v_cl_second v_cl_kind v_cl_number v_cl_group v_cl_over : Nat → Int} {p1 : Int} (kr_v_canHold : 0 ≤ v_canHold ∧ v_canHold ≤ 1) (r_v_direct : RA (-9999) 1000000 v_direct) (r_v_byAll : RA (-1000000) 1000000 v_byAll) (kr_v_cl_size : 0 ≤ v_cl_size ∧ v_cl_size ≤ 40) (r_v_cl_first : RA 0 11 v_cl_first) (r_v_cl_second : RA 0 11 v_cl_second) (r_v_cl_kind : RA 0 2 v_cl_kind) (r_v_cl_number : RA (-9999) 9999 v_cl_number) (hp0 : IR p1) (hp1 : ∀ j : Nat, (j : Int) < v_cl_size → v_cl_first j ≠ v_cl_second j) : CtV l yX0_follow cX0_follow 4 none ⟨4, 0, 0, 109⟩ D (TY cI cB cJ) ((wX0 cI cB cJ h q v_canHold v_direct v_byAll v_more) ++ (wX1 cI cB cJ h_cl q_cl v_cl_size v_cl_first v_cl_second v_cl_kind v_cl_number v_cl_group v_cl_over)) [.ref h, .ref h_cl, vI p1] (fun ws' => ∃ n_canHold : Int, ∃ n_direct : Nat → Int, ∃ n_byAll : Nat → Int, (0 ≤ n_canHold ∧ n_canHold ≤ 1) ∧ (RA (-9999) 1000000 n_direct) ∧ (RA (-1000000) 1000000 n_byAll) ∧ (∀ c : Nat, c < 144 → n_direct c = (toF v_cl_first v_cl_second v_cl_kind v_cl_number p1 v_cl_size.toNat) c) ∧ ((n_canHold = 1 ∧ okN (toF v_cl_first v_cl_second v_cl_kind v_cl_number p1 v_cl_size.toNat) 12 ∧ ∀ c : Nat, c < 144 → n_byAll c = fwN (toF v_cl_first v_cl_second v_cl_kind v_cl_number p1 v_cl_size.toNat) 12 c) ∨ (n_canHold = 0 ∧ ¬ okN (toF v_cl_first v_cl_second v_cl_kind v_cl_number p1 v_cl_size.toNat) 12 ∧ ngF n_byAll)) ∧ (TD (toF v_cl_first v_cl_second v_cl_kind v_cl_number p1 v_cl_size.toNat)) ∧ (ws' = ((wX0 cI cB cJ h q n_canHold n_direct n_byAll v_more) ++ (wX1 cI cB cJ h_cl q_cl v_cl_size v_cl_first v_cl_second v_cl_kind v_cl_number v_cl_group v_cl_over)))) := by
  refine hdrV (own := RX0) rfl (by decide +kernel) (Nat.le_of_ble_eq_true rfl) ?_
  intro p e s m args below meth c Q A X hQ
  refine g_lvE (lv2 := [(0, .ref h), (1, .ref h_cl), (2, vI p1)]) rfl ?_
  have hT : TD (toF v_cl_first v_cl_second v_cl_kind v_cl_number p1 v_cl_size.toNat) := toF_T p1 r_v_cl_first r_v_cl_second r_v_cl_number _ (fun j hj => hp1 j (by omega))
  refine g_aload_n X dX0_follow_0 0 rfl ?_
  refine g_aload_n X dX0_follow_1 1 rfl ?_
  refine g_iload_n X dX0_follow_2 2 rfl ?_
  refine g_callVV0 X (c_X0_tellAll l D cI cB cJ h q h_cl q_cl (p1 := p1) r_v_direct (by omega) r_v_cl_first r_v_cl_second r_v_cl_kind r_v_cl_number (by first | assumption | omega)) cv_X0_tellAll uw381 ⟨rfl, rfl, by decide, by decide⟩ 0 rfl rfl rfl rfl rfl (Nat.le_of_ble_eq_true rfl) ⟨Nat.zero_le _, Nat.zero_le _⟩ dX0_follow_3 (fun ws3 k3 => ?_)
  obtain ⟨direct_3, r_direct_3, kp0_3, rfl⟩ := k3
  refine g_aload_n X dX0_follow_6 0 rfl ?_
  refine gX0_get X 0 rfl 0 (by decide) uw208 rfl dX0_follow_7 ?_
  refine g_iconst X dX0_follow_10 ?_
  refine g_aload_n X dX0_follow_11 0 rfl ?_
  refine gX0_get X 0 rfl 1 (by decide) uw210 rfl dX0_follow_12 ?_
  refine g_iconst X dX0_follow_15 ?_
  refine g_aload_n X dX0_follow_16 0 rfl ?_
  refine gX0_get X 0 rfl 1 (by decide) uw210 rfl dX0_follow_17 ?_
  refine g_alen X 2 0 rfl rfl (z := 144) rfl dX0_follow_20 ?_
  refine g_acopy X 1 2 rfl rfl rfl uw400 uw402 uw401 uw112 (by omega) (by omega) (by omega) (by omega) (by omega) ⟨by decide, Nat.le_of_ble_eq_true rfl⟩ dX0_follow_21 (fun byAll_21 e21 => ?_)
  have r_byAll_21 : RA (-1000000) 1000000 byAll_21 := by rw [e21]; exact RA_cpy (RA_mono r_direct_3 (by decide) (by decide)) r_v_byAll
  refine g_ws (ws2 := ((wX0 cI cB cJ h q v_canHold direct_3 byAll_21 v_more) ++ (wX1 cI cB cJ h_cl q_cl v_cl_size v_cl_first v_cl_second v_cl_kind v_cl_number v_cl_group v_cl_over))) rfl ?_
  have hB0 : ∀ c : Nat, c < 144 → byAll_21 c = (toF v_cl_first v_cl_second v_cl_kind v_cl_number p1 v_cl_size.toNat) c := fun c hc => by rw [e21]; show (if (0 : Int).toNat ≤ c ∧ c < (0 : Int).toNat + (144 : Int).toNat then direct_3 ((0 : Int).toNat + (c - (0 : Int).toNat)) else _) = _; rw [if_pos ⟨Nat.zero_le c, by show c < 0 + 144; omega⟩, show (0 : Int).toNat + (c - (0 : Int).toNat) = c by show 0 + (c - 0) = c; omega]; exact kp0_3 c hc
  refine g_aload_n X dX0_follow_24 0 rfl ?_
  refine g_iconst X dX0_follow_25 ?_
  refine gX0_put X 0 rfl 3 (by decide) uw212 rfl (zI_bool (by omega)) (zI_bfit (by omega)) (Nat.le_of_ble_eq_true rfl) dX0_follow_26 (ws2 := ((wX0 cI cB cJ h q 1 direct_3 byAll_21 v_more) ++ (wX1 cI cB cJ h_cl q_cl v_cl_size v_cl_first v_cl_second v_cl_kind v_cl_number v_cl_group v_cl_over))) rfl ?_
  refine g_iconst X dX0_follow_29 ?_
  refine g_istore_n X (lv' := [(3, vI 0), (0, .ref h), (1, .ref h_cl), (2, vI p1)]) dX0_follow_30 (by decide) rfl ?_
  have L31 : ∀ (n : Nat) (x3_31 : Int) (canHold_31 : Int) (byAll_31 : Nat → Int), (0 ≤ canHold_31 ∧ canHold_31 ≤ 1) → (RA (-1000000) 1000000 byAll_31) → (0 ≤ x3_31 ∧ x3_31 ≤ 12) → ((canHold_31 = 1 ∧ okN (toF v_cl_first v_cl_second v_cl_kind v_cl_number p1 v_cl_size.toNat) (x3_31).toNat ∧ ∀ c : Nat, c < 144 → byAll_31 c = fwN (toF v_cl_first v_cl_second v_cl_kind v_cl_number p1 v_cl_size.toNat) (x3_31).toNat c) ∨ (canHold_31 = 0 ∧ ¬ okN (toF v_cl_first v_cl_second v_cl_kind v_cl_number p1 v_cl_size.toNat) 12 ∧ ngF byAll_31)) → (12 - x3_31).toNat < n → GG p l e ⟨4, 0, 0, 109⟩ s m args below meth c 0 0 Q D A s.heap 4 ((wX0 cI cB cJ h q canHold_31 direct_3 byAll_31 v_more) ++ (wX1 cI cB cJ h_cl q_cl v_cl_size v_cl_first v_cl_second v_cl_kind v_cl_number v_cl_group v_cl_over)) 31 [(0, .ref h), (3, vI x3_31)] [] := by
    intro n
    induction n with
    | zero => intros; exfalso; omega
    | succ n ih31 =>
      intro x3_31 canHold_31 byAll_31 kr_canHold_31 r_byAll_31 w31_0 w31_1 wm31
      refine g_iload_n X dX0_follow_31 1 rfl ?_
      refine g_bipush X (z := 12) dX0_follow_32 (by decide) ?_
      refine g_icmp_ge X (tgt := 63) dX0_follow_34 (by decide) (by omega) (by omega) (fun c34 => ?_) (fun c34 => ?_)
      · exact hQ _ _ _ dX0_follow_63 ⟨canHold_31, direct_3, byAll_31, (by omega), r_direct_3, r_byAll_31, (by first | assumption | omega), (by rcases w31_1 with ⟨h1, h2, h3⟩ | ⟨h1, h2⟩; (first | (exfalso; omega) | (have hx : (x3_31).toNat = 12 := (by omega); rw [hx] at h2 h3; exact Or.inl ⟨h1, h2, h3⟩)); exact Or.inr ⟨h1, h2⟩), (by first | assumption | omega), rfl⟩
      · refine g_aload_n X dX0_follow_37 0 rfl ?_
        refine gX0_get X 0 rfl 3 (by decide) uw212 rfl dX0_follow_38 ?_
        refine g_if_eq X (tgt := 63) dX0_follow_41 (by decide) (by omega) (fun c41 => ?_) (fun c41 => ?_)
        · exact hQ _ _ _ dX0_follow_63 ⟨canHold_31, direct_3, byAll_31, (by omega), r_direct_3, r_byAll_31, (by first | assumption | omega), (by rcases w31_1 with ⟨h1, h2, h3⟩ | ⟨h1, h2⟩; (first | (exfalso; omega) | (have hx : (x3_31).toNat = 12 := (by omega); rw [hx] at h2 h3; exact Or.inl ⟨h1, h2, h3⟩)); exact Or.inr ⟨h1, h2⟩), (by first | assumption | omega), rfl⟩
        · have hI := w31_1.resolve_right (fun h => by omega)
          have hBV : ∀ c : Nat, c < 144 → (-129987 ≤ byAll_31 c ∧ byAll_31 c ≤ 129987) ∨ byAll_31 c = 1000000 := fun c hc => by rw [hI.2.2 c hc]; exact okN.r hT.1 (by omega) hI.2.1 hc
          have hD0 : 0 ≤ byAll_31 (13 * (x3_31).toNat) := by rw [hI.2.2 _ (by omega)]; exact hI.2.1 _ (Nat.le_refl _) _ (by omega)
          refine g_aload_n X dX0_follow_44 0 rfl ?_
          refine g_iload_n X dX0_follow_45 1 rfl ?_
          refine g_callVVw X (c_X0_goBy l D cI cB cJ h q (p0 := x3_31) r_byAll_31 (by first | assumption | omega) (by first | assumption | omega) (by first | assumption | omega) (by first | assumption | omega)) [0, 1, 2, 3] rfl rfl rfl cv_X0_goBy uw403 ⟨rfl, rfl, by decide, by decide⟩ 0 rfl rfl rfl rfl rfl (Nat.le_of_ble_eq_true rfl) ⟨Nat.zero_le _, Nat.zero_le _⟩ dX0_follow_46 (fun ws46 k46 => ?_)
          obtain ⟨byAll_46, r_byAll_46, kp0_46, rfl⟩ := k46
          refine ⟨rfl, ?_⟩
          refine g_ws (ws2 := ((wX0 cI cB cJ h q canHold_31 direct_3 byAll_46 v_more) ++ (wX1 cI cB cJ h_cl q_cl v_cl_size v_cl_first v_cl_second v_cl_kind v_cl_number v_cl_group v_cl_over))) rfl ?_
          refine g_aload_n X dX0_follow_49 0 rfl ?_
          refine g_aload_n X dX0_follow_50 0 rfl ?_
          refine g_callVIw X (c_X0_isNoneBelowItself l D cI cB cJ h q  r_byAll_46) [0, 1, 2, 3] rfl rfl rfl cv_X0_isNoneBelowItself uw407 ⟨rfl, rfl, by decide, by decide⟩ 0 rfl rfl rfl rfl rfl (Nat.le_of_ble_eq_true rfl) ⟨Nat.zero_le _, Nat.zero_le _⟩ dX0_follow_51 (fun t51 ws51 k51 => ?_)
          obtain ⟨kb_51, ⟨kp0_51, rfl⟩⟩ := k51
          refine ⟨rfl, ?_⟩
          refine g_ws (ws2 := ((wX0 cI cB cJ h q canHold_31 direct_3 byAll_46 v_more) ++ (wX1 cI cB cJ h_cl q_cl v_cl_size v_cl_first v_cl_second v_cl_kind v_cl_number v_cl_group v_cl_over))) rfl ?_
          have hn : ∀ c : Nat, c < 144 → byAll_46 c = fwN (toF v_cl_first v_cl_second v_cl_kind v_cl_number p1 v_cl_size.toNat) (x3_31 + 1).toNat c := fun c hc => by rw [kp0_46 c hc, show (x3_31 + 1).toNat = (x3_31).toNat + 1 by omega]; exact fwS_c (by omega) hc hI.2.2
          refine gX0_put X 0 rfl 3 (by decide) uw212 rfl (zI_bool (by omega)) (zI_bfit (by omega)) (Nat.le_of_ble_eq_true rfl) dX0_follow_54 (ws2 := ((wX0 cI cB cJ h q t51 direct_3 byAll_46 v_more) ++ (wX1 cI cB cJ h_cl q_cl v_cl_size v_cl_first v_cl_second v_cl_kind v_cl_number v_cl_group v_cl_over))) rfl ?_
          refine g_iinc X (lv' := [(3, vI (x3_31 + 1)), (0, .ref h)]) dX0_follow_57 1 rfl (by decide) rfl ?_
          refine g_goto X (tgt := 31) dX0_follow_60 (by decide) ?_
          refine g_lv [1, 0] rfl ?_
          exact ih31 (x3_31 + 1) t51 byAll_46 (by omega) r_byAll_46 (by first | assumption | omega) (by first | exact Or.inl ⟨rfl, okN.zero hT, hB0⟩ | exact (kp0_51.elim (fun h => Or.inl ⟨h.1, (show (x3_31 + 1).toNat = (x3_31).toNat + 1 by omega) ▸ okN.succ hI.2.1 (fun t ht => by rw [← show (x3_31 + 1).toNat = (x3_31).toNat + 1 by omega, ← hn (13 * t) (by omega)]; exact h.2 t ht), hn⟩) (fun h => Or.inr ⟨h.1, okN.not (by omega) hn h.2, h.2⟩))) (by omega)
  refine g_lv [1, 0] rfl ?_
  exact L31 _ 0 1 byAll_21 (by omega) r_byAll_21 (by first | assumption | omega) (by first | exact Or.inl ⟨rfl, okN.zero hT, hB0⟩ | exact (kp0_51.elim (fun h => Or.inl ⟨h.1, (show (x3_31 + 1).toNat = (x3_31).toNat + 1 by omega) ▸ okN.succ hI.2.1 (fun t ht => by rw [← show (x3_31 + 1).toNat = (x3_31).toNat + 1 by omega, ← hn (13 * t) (by omega)]; exact h.2 t ht), hn⟩) (fun h => Or.inr ⟨h.1, okN.not (by omega) hn h.2, h.2⟩))) (Nat.lt_succ_self _)
set_option maxHeartbeats 600000 in
set_option maxRecDepth 100000 in
theorem c_X0_isLike (l : Launch) (D : va_G) (cI cB cJ : ClassId) (h : Nat) (q : Nat → Nat) (h_ot : Nat) (q_ot : Nat → Nat) {v_canHold v_ot_canHold : Int} {v_direct v_byAll v_more v_ot_direct v_ot_byAll v_ot_more : Nat → Int} (r_v_byAll : RA (-1000000) 1000000 v_byAll) (r_v_ot_byAll : RA (-1000000) 1000000 v_ot_byAll) : CtI l yX0_isLike cX0_isLike 3 (some .boolean) ⟨0, 0, 0, 0⟩ D (TY cI cB cJ) ((wX0 cI cB cJ h q v_canHold v_direct v_byAll v_more) ++ (wX0 cI cB cJ h_ot q_ot v_ot_canHold v_ot_direct v_ot_byAll v_ot_more)) [.ref h, .ref h_ot] (fun z ws' => (z = 0 ∨ z = 1) ∧ ((z = 1 ∧ ∀ c : Nat, c < 144 → v_byAll c = v_ot_byAll c) ∨ (z = 0 ∧ ¬ ∀ c : Nat, c < 144 → v_byAll c = v_ot_byAll c)) ∧ (ws' = ((wX0 cI cB cJ h q v_canHold v_direct v_byAll v_more) ++ (wX0 cI cB cJ h_ot q_ot v_ot_canHold v_ot_direct v_ot_byAll v_ot_more)))) := by
  refine hdrZ (own := RX0) rfl (by decide +kernel) (Nat.le_of_ble_eq_true rfl) ?_
  intro p e s m args below meth c Q A X hQ
  refine g_lvE (lv2 := [(0, .ref h), (1, .ref h_ot)]) rfl ?_
  refine g_iconst X dX0_isLike_0 ?_
  refine g_istore_n X (lv' := [(2, vI 0), (0, .ref h), (1, .ref h_ot)]) dX0_isLike_1 (by decide) rfl ?_
  have L2 : ∀ (n : Nat) (x2_2 : Int), (0 ≤ x2_2 ∧ x2_2 ≤ 144) → (∀ c : Nat, (c : Int) < x2_2 → v_byAll c = v_ot_byAll c) → (144 - x2_2).toNat < n → GG p l e ⟨0, 0, 0, 0⟩ s m args below meth c 0 0 Q D A s.heap 3 ((wX0 cI cB cJ h q v_canHold v_direct v_byAll v_more) ++ (wX0 cI cB cJ h_ot q_ot v_ot_canHold v_ot_direct v_ot_byAll v_ot_more)) 2 [(0, .ref h), (1, .ref h_ot), (2, vI x2_2)] [] := by
    intro n
    induction n with
    | zero => intros; exfalso; omega
    | succ n ih2 =>
      intro x2_2 w2_0 w2_1 wm2
      refine g_iload_n X dX0_isLike_2 2 rfl ?_
      refine g_aload_n X dX0_isLike_3 0 rfl ?_
      refine gX0_get X 0 rfl 1 (by decide) uw210 rfl dX0_isLike_4 ?_
      refine g_alen X 2 0 rfl rfl (z := 144) rfl dX0_isLike_7 ?_
      refine g_icmp_ge X (tgt := 34) dX0_isLike_8 (by decide) (by omega) (by omega) (fun c8 => ?_) (fun c8 => ?_)
      · refine g_iconst X dX0_isLike_34 ?_
        exact hQ _ _ _ _ dX0_isLike_35 ⟨by omega, ⟨(by first | exact Or.inl ⟨rfl, fun c hc => w2_1 c (by omega)⟩ | exact Or.inr ⟨rfl, fun h => by have h9 := h (x2_2).toNat (by omega); omega⟩), rfl⟩⟩
      · refine g_aload_n X dX0_isLike_11 0 rfl ?_
        refine gX0_get X 0 rfl 1 (by decide) uw210 rfl dX0_isLike_12 ?_
        refine g_iload_n X dX0_isLike_15 2 rfl ?_
        refine g_iald X 2 0 rfl rfl (by omega) (by decide) dX0_isLike_16 (fun t16 e16 => ?_)
        have r16 := r_v_byAll (x2_2 : Int).toNat; rw [← e16] at r16
        refine g_aload_n X dX0_isLike_17 1 rfl ?_
        refine gX0_get X 4 rfl 1 (by decide) uw210 rfl dX0_isLike_18 ?_
        refine g_iload_n X dX0_isLike_21 2 rfl ?_
        refine g_iald X 6 0 rfl rfl (by omega) (by decide) dX0_isLike_22 (fun t22 e22 => ?_)
        have r22 := r_v_ot_byAll (x2_2 : Int).toNat; rw [← e22] at r22
        refine g_icmp_eq X (tgt := 28) dX0_isLike_23 (by decide) (by omega) (by omega) (fun c23 => ?_) (fun c23 => ?_)
        · refine g_iinc X (lv' := [(2, vI (x2_2 + 1)), (0, .ref h), (1, .ref h_ot)]) dX0_isLike_28 2 rfl (by decide) rfl ?_
          refine g_goto X (tgt := 2) dX0_isLike_31 (by decide) ?_
          refine g_lv [1, 2, 0] rfl ?_
          exact ih2 (x2_2 + 1) (by first | assumption | omega) (by intro c hc; first | (exfalso; omega) | (rcases (show (c : Int) < x2_2 ∨ c = (x2_2).toNat by omega) with h | h; exact w2_1 c h; (rw [h]; omega))) (by omega)
        · refine g_iconst X dX0_isLike_26 ?_
          exact hQ _ _ _ _ dX0_isLike_27 ⟨by omega, ⟨(by first | exact Or.inl ⟨rfl, fun c hc => w2_1 c (by omega)⟩ | exact Or.inr ⟨rfl, fun h => by have h9 := h (x2_2).toNat (by omega); omega⟩), rfl⟩⟩
  refine g_lv [1, 2, 0] rfl ?_
  exact L2 _ 0 (by first | assumption | omega) (by intro c hc; first | (exfalso; omega) | (rcases (show (c : Int) < x2_2 ∨ c = (x2_2).toNat by omega) with h | h; exact w2_1 c h; (rw [h]; omega))) (Nat.lt_succ_self _)
set_option maxHeartbeats 600000 in
set_option maxRecDepth 100000 in
theorem c_X0_moreThan (l : Launch) (D : va_G) (cI cB cJ : ClassId) (h : Nat) (q : Nat → Nat) {v_canHold : Int} {v_direct v_byAll v_more : Nat → Int} {p0 : Int} (r_v_byAll : RA (-1000000) 1000000 v_byAll) (hp0 : IR p0) (hp1 : 0 ≤ p0 ∧ p0 ≤ 11) : CtI l yX0_moreThan cX0_moreThan 4 (some .int) ⟨1, 0, 0, 22⟩ D (TY cI cB cJ) (wX0 cI cB cJ h q v_canHold v_direct v_byAll v_more) [.ref h, vI p0] (fun z ws' => (0 ≤ z ∧ z ≤ 4095) ∧ (z = mtB v_byAll p0.toNat 12) ∧ (ws' = (wX0 cI cB cJ h q v_canHold v_direct v_byAll v_more))) := by
  refine hdrI (own := RX0) rfl (by decide +kernel) (Nat.le_of_ble_eq_true rfl) ?_
  intro p e s m args below meth c Q A X hQ
  refine g_lvE (lv2 := [(0, .ref h), (1, vI p0)]) rfl ?_
  refine g_iconst X dX0_moreThan_0 ?_
  refine g_istore_n X (lv' := [(2, vI 0), (0, .ref h), (1, vI p0)]) dX0_moreThan_1 (by decide) rfl ?_
  refine g_iconst X dX0_moreThan_2 ?_
  refine g_istore_n X (lv' := [(3, vI 0), (2, vI 0), (0, .ref h), (1, vI p0)]) dX0_moreThan_3 (by decide) rfl ?_
  have h0 : mtB v_byAll p0.toNat (0 : Int).toNat = 0 := rfl
  have L4 : ∀ (n : Nat) (x2_4 : Int) (x3_4 : Int), (0 ≤ x3_4 ∧ x3_4 ≤ 12) → (0 ≤ x2_4 ∧ x2_4 ≤ 4095) → (x2_4 = mtB v_byAll p0.toNat (x3_4).toNat) → (12 - x3_4).toNat < n → GG p l e ⟨1, 0, 0, 22⟩ s m args below meth c 0 0 Q D A s.heap 4 (wX0 cI cB cJ h q v_canHold v_direct v_byAll v_more) 4 [(0, .ref h), (1, vI p0), (2, vI x2_4), (3, vI x3_4)] [] := by
    intro n
    induction n with
    | zero => intros; exfalso; omega
    | succ n ih4 =>
      intro x2_4 x3_4 w4_0 w4_1 w4_2 wm4
      have hS := mtB_s v_byAll p0.toNat (x := x3_4) (by omega)
      refine g_iload_n X dX0_moreThan_4 3 rfl ?_
      refine g_bipush X (z := 12) dX0_moreThan_5 (by decide) ?_
      refine g_icmp_ge X (tgt := 31) dX0_moreThan_7 (by decide) (by omega) (by omega) (fun c7 => ?_) (fun c7 => ?_)
      · refine g_iload_n X dX0_moreThan_31 2 rfl ?_
        have hx : x3_4 = 12 := by omega
        have hF : x2_4 = mtB v_byAll p0.toNat 12 := by rw [w4_2, hx]; rfl
        exact hQ _ _ _ _ dX0_moreThan_32 ⟨(by first | assumption | omega), (by first | assumption | omega), rfl⟩
      · refine g_aload_n X dX0_moreThan_10 0 rfl ?_
        refine g_iload_n X dX0_moreThan_11 1 rfl ?_
        refine g_iload_n X dX0_moreThan_12 3 rfl ?_
        refine g_callVI0 X (c_X0_most l D cI cB cJ h q (p0 := p0) (p1 := x3_4) r_v_byAll (by first | assumption | omega) (by first | assumption | omega) (by first | assumption | omega) (by first | assumption | omega)) cv_X0_most uw793 ⟨rfl, rfl, by decide, by decide⟩ 0 rfl rfl rfl rfl rfl (Nat.le_of_ble_eq_true rfl) ⟨Nat.zero_le _, Nat.zero_le _⟩ dX0_moreThan_13 (fun t13 ws13 k13 => ?_)
        obtain ⟨kp0_13, kp1_13, rfl⟩ := k13
        refine g_if_ge X (tgt := 25) dX0_moreThan_16 (by decide) (by omega) (fun c16 => ?_) (fun c16 => ?_)
        · refine g_iinc X (lv' := [(3, vI (x3_4 + 1)), (0, .ref h), (1, vI p0), (2, vI x2_4)]) dX0_moreThan_25 3 rfl (by decide) rfl ?_
          refine g_goto X (tgt := 4) dX0_moreThan_28 (by decide) ?_
          refine g_lv [1, 2, 3, 0] rfl ?_
          exact ih4 x2_4 (x3_4 + 1) (by first | assumption | omega) (by first | assumption | omega) (by first | omega | (rw [e23, e22, w4_2]; omega)) (by omega)
        · refine g_iload_n X dX0_moreThan_19 2 rfl ?_
          refine g_iconst X dX0_moreThan_20 ?_
          refine g_iload_n X dX0_moreThan_21 3 rfl ?_
          refine g_ishl X dX0_moreThan_22 ?_
          refine g_nm (fun t22 e22 => ?_)
          have r22 := z_shl1_11 x3_4 (by omega); rw [← e22] at r22
          refine g_ior X dX0_moreThan_23 ?_
          refine g_nm (fun t23 e23 => ?_)
          have r23 := z_ior_4095 x2_4 t22 (by omega) (by omega); rw [← e23] at r23
          refine g_istore_n X (lv' := [(2, vI t23), (0, .ref h), (1, vI p0), (3, vI x3_4)]) dX0_moreThan_24 (by decide) rfl ?_
          refine g_iinc X (lv' := [(3, vI (x3_4 + 1)), (2, vI t23), (0, .ref h), (1, vI p0)]) dX0_moreThan_25 3 rfl (by decide) rfl ?_
          refine g_goto X (tgt := 4) dX0_moreThan_28 (by decide) ?_
          refine g_lv [2, 3, 1, 0] rfl ?_
          exact ih4 t23 (x3_4 + 1) (by first | assumption | omega) (by first | assumption | omega) (by first | omega | (rw [e23, e22, w4_2]; omega)) (by omega)
  refine g_lv [2, 3, 1, 0] rfl ?_
  exact L4 _ 0 0 (by first | assumption | omega) (by first | assumption | omega) (by first | omega | (rw [e23, e22, w4_2]; omega)) (Nat.lt_succ_self _)
set_option maxHeartbeats 600000 in
set_option maxRecDepth 100000 in
theorem c_X0_lessThan (l : Launch) (D : va_G) (cI cB cJ : ClassId) (h : Nat) (q : Nat → Nat) {v_canHold : Int} {v_direct v_byAll v_more : Nat → Int} {p0 : Int} (r_v_byAll : RA (-1000000) 1000000 v_byAll) (hp0 : IR p0) (hp1 : 0 ≤ p0 ∧ p0 ≤ 11) : CtI l yX0_lessThan cX0_lessThan 4 (some .int) ⟨1, 0, 0, 22⟩ D (TY cI cB cJ) (wX0 cI cB cJ h q v_canHold v_direct v_byAll v_more) [.ref h, vI p0] (fun z ws' => (0 ≤ z ∧ z ≤ 4095) ∧ (z = ltB v_byAll p0.toNat 12) ∧ (ws' = (wX0 cI cB cJ h q v_canHold v_direct v_byAll v_more))) := by
  refine hdrI (own := RX0) rfl (by decide +kernel) (Nat.le_of_ble_eq_true rfl) ?_
  intro p e s m args below meth c Q A X hQ
  refine g_lvE (lv2 := [(0, .ref h), (1, vI p0)]) rfl ?_
  refine g_iconst X dX0_lessThan_0 ?_
  refine g_istore_n X (lv' := [(2, vI 0), (0, .ref h), (1, vI p0)]) dX0_lessThan_1 (by decide) rfl ?_
  refine g_iconst X dX0_lessThan_2 ?_
  refine g_istore_n X (lv' := [(3, vI 0), (2, vI 0), (0, .ref h), (1, vI p0)]) dX0_lessThan_3 (by decide) rfl ?_
  have h0 : ltB v_byAll p0.toNat (0 : Int).toNat = 0 := rfl
  have L4 : ∀ (n : Nat) (x2_4 : Int) (x3_4 : Int), (0 ≤ x3_4 ∧ x3_4 ≤ 12) → (0 ≤ x2_4 ∧ x2_4 ≤ 4095) → (x2_4 = ltB v_byAll p0.toNat (x3_4).toNat) → (12 - x3_4).toNat < n → GG p l e ⟨1, 0, 0, 22⟩ s m args below meth c 0 0 Q D A s.heap 4 (wX0 cI cB cJ h q v_canHold v_direct v_byAll v_more) 4 [(0, .ref h), (1, vI p0), (2, vI x2_4), (3, vI x3_4)] [] := by
    intro n
    induction n with
    | zero => intros; exfalso; omega
    | succ n ih4 =>
      intro x2_4 x3_4 w4_0 w4_1 w4_2 wm4
      have hS := ltB_s v_byAll p0.toNat (x := x3_4) (by omega)
      refine g_iload_n X dX0_lessThan_4 3 rfl ?_
      refine g_bipush X (z := 12) dX0_lessThan_5 (by decide) ?_
      refine g_icmp_ge X (tgt := 31) dX0_lessThan_7 (by decide) (by omega) (by omega) (fun c7 => ?_) (fun c7 => ?_)
      · refine g_iload_n X dX0_lessThan_31 2 rfl ?_
        have hx : x3_4 = 12 := by omega
        have hF : x2_4 = ltB v_byAll p0.toNat 12 := by rw [w4_2, hx]; rfl
        exact hQ _ _ _ _ dX0_lessThan_32 ⟨(by first | assumption | omega), (by first | assumption | omega), rfl⟩
      · refine g_aload_n X dX0_lessThan_10 0 rfl ?_
        refine g_iload_n X dX0_lessThan_11 3 rfl ?_
        refine g_iload_n X dX0_lessThan_12 1 rfl ?_
        refine g_callVI0 X (c_X0_most l D cI cB cJ h q (p0 := x3_4) (p1 := p0) r_v_byAll (by first | assumption | omega) (by first | assumption | omega) (by first | assumption | omega) (by first | assumption | omega)) cv_X0_most uw793 ⟨rfl, rfl, by decide, by decide⟩ 0 rfl rfl rfl rfl rfl (Nat.le_of_ble_eq_true rfl) ⟨Nat.zero_le _, Nat.zero_le _⟩ dX0_lessThan_13 (fun t13 ws13 k13 => ?_)
        obtain ⟨kp0_13, kp1_13, rfl⟩ := k13
        refine g_if_ge X (tgt := 25) dX0_lessThan_16 (by decide) (by omega) (fun c16 => ?_) (fun c16 => ?_)
        · refine g_iinc X (lv' := [(3, vI (x3_4 + 1)), (0, .ref h), (1, vI p0), (2, vI x2_4)]) dX0_lessThan_25 3 rfl (by decide) rfl ?_
          refine g_goto X (tgt := 4) dX0_lessThan_28 (by decide) ?_
          refine g_lv [1, 2, 3, 0] rfl ?_
          exact ih4 x2_4 (x3_4 + 1) (by first | assumption | omega) (by first | assumption | omega) (by first | omega | (rw [e23, e22, w4_2]; omega)) (by omega)
        · refine g_iload_n X dX0_lessThan_19 2 rfl ?_
          refine g_iconst X dX0_lessThan_20 ?_
          refine g_iload_n X dX0_lessThan_21 3 rfl ?_
          refine g_ishl X dX0_lessThan_22 ?_
          refine g_nm (fun t22 e22 => ?_)
          have r22 := z_shl1_11 x3_4 (by omega); rw [← e22] at r22
          refine g_ior X dX0_lessThan_23 ?_
          refine g_nm (fun t23 e23 => ?_)
          have r23 := z_ior_4095 x2_4 t22 (by omega) (by omega); rw [← e23] at r23
          refine g_istore_n X (lv' := [(2, vI t23), (0, .ref h), (1, vI p0), (3, vI x3_4)]) dX0_lessThan_24 (by decide) rfl ?_
          refine g_iinc X (lv' := [(3, vI (x3_4 + 1)), (2, vI t23), (0, .ref h), (1, vI p0)]) dX0_lessThan_25 3 rfl (by decide) rfl ?_
          refine g_goto X (tgt := 4) dX0_lessThan_28 (by decide) ?_
          refine g_lv [2, 3, 1, 0] rfl ?_
          exact ih4 t23 (x3_4 + 1) (by first | assumption | omega) (by first | assumption | omega) (by first | omega | (rw [e23, e22, w4_2]; omega)) (by omega)
  refine g_lv [2, 3, 1, 0] rfl ?_
  exact L4 _ 0 0 (by first | assumption | omega) (by first | assumption | omega) (by first | omega | (rw [e23, e22, w4_2]; omega)) (Nat.lt_succ_self _)
set_option maxHeartbeats 600000 in
set_option maxRecDepth 100000 in
theorem c_X0_leastWeight (l : Launch) (D : va_G) (cI cB cJ : ClassId) (h : Nat) (q : Nat → Nat) {v_canHold : Int} {v_direct v_byAll v_more : Nat → Int} {p0 : Int} (r_v_byAll : RA (-1000000) 1000000 v_byAll) (hp0 : IR p0) (hp1 : 0 ≤ p0 ∧ p0 ≤ 11) : CtI l yX0_leastWeight cX0_leastWeight 4 (some .int) ⟨1, 0, 0, 40⟩ D (TY cI cB cJ) (wX0 cI cB cJ h q v_canHold v_direct v_byAll v_more) [.ref h, vI p0] (fun z ws' => (0 ≤ z ∧ z ≤ 1000000) ∧ (z = lwF v_byAll p0.toNat 12) ∧ (ws' = (wX0 cI cB cJ h q v_canHold v_direct v_byAll v_more))) := by
  refine hdrI (own := RX0) rfl (by decide +kernel) (Nat.le_of_ble_eq_true rfl) ?_
  intro p e s m args below meth c Q A X hQ
  refine g_lvE (lv2 := [(0, .ref h), (1, vI p0)]) rfl ?_
  refine g_iconst X dX0_leastWeight_0 ?_
  refine g_istore_n X (lv' := [(2, vI 0), (0, .ref h), (1, vI p0)]) dX0_leastWeight_1 (by decide) rfl ?_
  refine g_iconst X dX0_leastWeight_2 ?_
  refine g_istore_n X (lv' := [(3, vI 0), (2, vI 0), (0, .ref h), (1, vI p0)]) dX0_leastWeight_3 (by decide) rfl ?_
  have h0 : lwF v_byAll p0.toNat (0 : Int).toNat = 0 := rfl
  have L4 : ∀ (n : Nat) (x2_4 : Int) (x3_4 : Int), (0 ≤ x3_4 ∧ x3_4 ≤ 12) → (0 ≤ x2_4 ∧ x2_4 ≤ 1000000) → (x2_4 = lwF v_byAll p0.toNat (x3_4).toNat) → (12 - x3_4).toNat < n → GG p l e ⟨1, 0, 0, 40⟩ s m args below meth c 0 0 Q D A s.heap 4 (wX0 cI cB cJ h q v_canHold v_direct v_byAll v_more) 4 [(0, .ref h), (1, vI p0), (2, vI x2_4), (3, vI x3_4)] [] := by
    intro n
    induction n with
    | zero => intros; exfalso; omega
    | succ n ih4 =>
      intro x2_4 x3_4 w4_0 w4_1 w4_2 wm4
      have hS := lwF_s v_byAll p0.toNat (x := x3_4) (by omega)
      have hM := mx_e (lwF v_byAll p0.toNat (x3_4).toNat) (-v_byAll (12 * (x3_4).toNat + p0.toNat))
      have hb := r_v_byAll (12 * (x3_4).toNat + p0.toNat)
      refine g_iload_n X dX0_leastWeight_4 3 rfl ?_
      refine g_bipush X (z := 12) dX0_leastWeight_5 (by decide) ?_
      refine g_icmp_ge X (tgt := 28) dX0_leastWeight_7 (by decide) (by omega) (by omega) (fun c7 => ?_) (fun c7 => ?_)
      · refine g_iload_n X dX0_leastWeight_28 2 rfl ?_
        have hx : x3_4 = 12 := by omega
        have hF : x2_4 = lwF v_byAll p0.toNat 12 := by rw [w4_2, hx]; rfl
        exact hQ _ _ _ _ dX0_leastWeight_29 ⟨(by first | assumption | omega), (by first | assumption | omega), rfl⟩
      · refine g_iload_n X dX0_leastWeight_10 2 rfl ?_
        refine g_aload_n X dX0_leastWeight_11 0 rfl ?_
        refine g_iload_n X dX0_leastWeight_12 3 rfl ?_
        refine g_iload_n X dX0_leastWeight_13 1 rfl ?_
        refine g_callVI0 X (c_X0_most l D cI cB cJ h q (p0 := x3_4) (p1 := p0) r_v_byAll (by first | assumption | omega) (by first | assumption | omega) (by first | assumption | omega) (by first | assumption | omega)) cv_X0_most uw793 ⟨rfl, rfl, by decide, by decide⟩ 0 rfl rfl rfl rfl rfl (Nat.le_of_ble_eq_true rfl) ⟨Nat.zero_le _, Nat.zero_le _⟩ dX0_leastWeight_14 (fun t14 ws14 k14 => ?_)
        obtain ⟨kp0_14, kp1_14, rfl⟩ := k14
        refine g_ineg X dX0_leastWeight_17 ?_
        refine g_mmax X uw806 uw807 uw111 uw808 ⟨by decide, Nat.le_of_ble_eq_true rfl⟩ ⟨Nat.zero_le _, Nat.zero_le _⟩ (by omega) (by omega) dX0_leastWeight_18 (fun t18 k18 => ?_)
        refine g_istore_n X (lv' := [(2, vI t18), (0, .ref h), (1, vI p0), (3, vI x3_4)]) dX0_leastWeight_21 (by decide) rfl ?_
        refine g_iinc X (lv' := [(3, vI (x3_4 + 1)), (2, vI t18), (0, .ref h), (1, vI p0)]) dX0_leastWeight_22 3 rfl (by decide) rfl ?_
        refine g_goto X (tgt := 4) dX0_leastWeight_25 (by decide) ?_
        refine g_lv [2, 3, 1, 0] rfl ?_
        exact ih4 t18 (x3_4 + 1) (by first | assumption | omega) (by first | assumption | omega) (by first | assumption | omega) (by omega)
  refine g_lv [2, 3, 1, 0] rfl ?_
  exact L4 _ 0 0 (by first | assumption | omega) (by first | assumption | omega) (by first | assumption | omega) (Nat.lt_succ_self _)
set_option maxHeartbeats 600000 in
set_option maxRecDepth 100000 in
theorem c_X0_chainsFrom (l : Launch) (D : va_G) (cI cB cJ : ClassId) (h : Nat) (q : Nat → Nat) (r_lo : Nat) {v_canHold : Int} {v_direct v_byAll v_more v_lo : Nat → Int} (r_v_byAll : RA (-1000000) 1000000 v_byAll) (r_v_lo : RA (-2147483648) 2147483647 v_lo) : CtV l yX0_chainsFrom cX0_chainsFrom 5 none ⟨3, 0, 0, 86⟩ D (TY cI cB cJ) ((wX0 cI cB cJ h q v_canHold v_direct v_byAll v_more) ++ (wA cI 4096 r_lo v_lo)) [.ref h, .ref r_lo] (fun ws' => ∃ n_lo : Nat → Int, (RA (-2147483648) 2147483647 n_lo) ∧ (∀ a : Nat, a < 12 → n_lo a = chN v_byAll 1584 a) ∧ (ws' = ((wX0 cI cB cJ h q v_canHold v_direct v_byAll v_more) ++ (wA cI 4096 r_lo n_lo)))) := by
  refine hdrV (own := RX0) rfl (by decide +kernel) (Nat.le_of_ble_eq_true rfl) ?_
  intro p e s m args below meth c Q A X hQ
  refine g_lvE (lv2 := [(0, .ref h), (1, .ref r_lo)]) rfl ?_
  refine g_aload_n X dX0_chainsFrom_0 1 rfl ?_
  refine g_iconst X dX0_chainsFrom_1 ?_
  refine g_bipush X (z := 12) dX0_chainsFrom_2 (by decide) ?_
  refine g_iconst X dX0_chainsFrom_4 ?_
  refine g_callSVw X (c_J7_fill_fda19_4096 l D cI cB cJ r_lo (p1 := 0) (p2 := 12) (p3 := 1) r_v_lo (by first | assumption | omega) (by first | assumption | omega) (by first | assumption | omega) (by first | assumption | omega)) [4] rfl rfl rfl cv_J7_fill_fda19 uw826 ⟨rfl, rfl, by decide, by decide⟩ rfl rfl (Nat.le_of_ble_eq_true rfl) ⟨Nat.zero_le _, Nat.zero_le _⟩ dX0_chainsFrom_5 (fun ws5 k5 => ?_)
  obtain ⟨lo_5, r_lo_5, kp0_5, rfl⟩ := k5
  refine ⟨rfl, ?_⟩
  refine g_ws (ws2 := ((wX0 cI cB cJ h q v_canHold v_direct v_byAll v_more) ++ (wA cI 4096 r_lo lo_5))) rfl ?_
  refine g_iconst X dX0_chainsFrom_8 ?_
  refine g_istore_n X (lv' := [(2, vI 1), (0, .ref h), (1, .ref r_lo)]) dX0_chainsFrom_9 (by decide) rfl ?_
  have L10 : ∀ (n : Nat) (x2_10 : Int) (lo_10 : Nat → Int), (RA (-2147483648) 2147483647 lo_10) → (1 ≤ x2_10 ∧ x2_10 ≤ 12) → (∀ a : Nat, a < 12 → lo_10 a = chN v_byAll (144 * (x2_10 - 1)).toNat a) → (12 - x2_10).toNat < n → GG p l e ⟨3, 0, 0, 86⟩ s m args below meth c 0 0 Q D A s.heap 5 ((wX0 cI cB cJ h q v_canHold v_direct v_byAll v_more) ++ (wA cI 4096 r_lo lo_10)) 10 [(0, .ref h), (1, .ref r_lo), (2, vI x2_10)] [] := by
    intro n
    induction n with
    | zero => intros; exfalso; omega
    | succ n ih10 =>
      intro x2_10 lo_10 r_lo_10 w10_0 w10_1 wm10
      refine g_iload_n X dX0_chainsFrom_10 2 rfl ?_
      refine g_bipush X (z := 12) dX0_chainsFrom_11 (by decide) ?_
      refine g_icmp_ge X (tgt := 77) dX0_chainsFrom_13 (by decide) (by omega) (by omega) (fun c13 => ?_) (fun c13 => ?_)
      · exact hQ _ _ _ dX0_chainsFrom_77 ⟨lo_10, r_lo_10, (by have h9 := w10_1; rw [show (144 * (x2_10 - 1)).toNat = 1584 by omega] at h9; exact h9), rfl⟩
      · refine g_iconst X dX0_chainsFrom_16 ?_
        refine g_istore_n X (lv' := [(3, vI 0), (0, .ref h), (1, .ref r_lo), (2, vI x2_10)]) dX0_chainsFrom_17 (by decide) rfl ?_
        have L18 : ∀ (n : Nat) (x3_18 : Int) (lo_18 : Nat → Int), (RA (-2147483648) 2147483647 lo_18) → (0 ≤ x3_18 ∧ x3_18 ≤ 12) → (∀ a : Nat, a < 12 → lo_18 a = chN v_byAll (144 * (x2_10 - 1) + 12 * x3_18).toNat a) → (12 - x3_18).toNat < n → GG p l e ⟨3, 0, 0, 86⟩ s m args below meth c 0 0 Q D A s.heap 5 ((wX0 cI cB cJ h q v_canHold v_direct v_byAll v_more) ++ (wA cI 4096 r_lo lo_18)) 18 [(0, .ref h), (1, .ref r_lo), (2, vI x2_10), (3, vI x3_18)] [] := by
          intro n
          induction n with
          | zero => intros; exfalso; omega
          | succ n ih18 =>
            intro x3_18 lo_18 r_lo_18 w18_0 w18_1 wm18
            refine g_iload_n X dX0_chainsFrom_18 3 rfl ?_
            refine g_bipush X (z := 12) dX0_chainsFrom_19 (by decide) ?_
            refine g_icmp_ge X (tgt := 71) dX0_chainsFrom_21 (by decide) (by omega) (by omega) (fun c21 => ?_) (fun c21 => ?_)
            · refine g_iinc X (lv' := [(2, vI (x2_10 + 1)), (0, .ref h), (1, .ref r_lo), (3, vI x3_18)]) dX0_chainsFrom_71 2 rfl (by decide) rfl ?_
              refine g_goto X (tgt := 10) dX0_chainsFrom_74 (by decide) ?_
              refine g_lv [1, 2, 0] rfl ?_
              exact ih10 (x2_10 + 1) lo_18 r_lo_18 (by first | assumption | omega) (by first | (intro a ha; exact kp0_5 a (by omega) (by omega)) | (rw [show 144 * (x2_10 + 1 - 1) = 144 * (x2_10 - 1) + 12 * x3_18 by omega]; exact w18_1)) (by omega)
            · refine g_iconst X dX0_chainsFrom_24 ?_
              refine g_istore X (lv' := [(4, vI 0), (0, .ref h), (1, .ref r_lo), (2, vI x2_10), (3, vI x3_18)]) dX0_chainsFrom_25 (by decide) rfl ?_
              have L27 : ∀ (n : Nat) (x4_27 : Int) (lo_27 : Nat → Int), (RA (-2147483648) 2147483647 lo_27) → (0 ≤ x4_27 ∧ x4_27 ≤ 12) → (∀ a : Nat, a < 12 → lo_27 a = chN v_byAll (144 * (x2_10 - 1) + 12 * x3_18 + x4_27).toNat a) → (12 - x4_27).toNat < n → GG p l e ⟨3, 0, 0, 86⟩ s m args below meth c 0 0 Q D A s.heap 5 ((wX0 cI cB cJ h q v_canHold v_direct v_byAll v_more) ++ (wA cI 4096 r_lo lo_27)) 27 [(0, .ref h), (1, .ref r_lo), (2, vI x2_10), (3, vI x3_18), (4, vI x4_27)] [] := by
                intro n
                induction n with
                | zero => intros; exfalso; omega
                | succ n ih27 =>
                  intro x4_27 lo_27 r_lo_27 w27_0 w27_1 wm27
                  have hS := chN_s v_byAll (x := 144 * (x2_10 - 1) + 12 * x3_18 + x4_27) (by omega)
                  refine g_iload X dX0_chainsFrom_27 4 rfl ?_
                  refine g_bipush X (z := 12) dX0_chainsFrom_29 (by decide) ?_
                  refine g_icmp_ge X (tgt := 65) dX0_chainsFrom_31 (by decide) (by omega) (by omega) (fun c31 => ?_) (fun c31 => ?_)
                  · refine g_iinc X (lv' := [(3, vI (x3_18 + 1)), (0, .ref h), (1, .ref r_lo), (2, vI x2_10), (4, vI x4_27)]) dX0_chainsFrom_65 3 rfl (by decide) rfl ?_
                    refine g_goto X (tgt := 18) dX0_chainsFrom_68 (by decide) ?_
                    refine g_lv [1, 2, 3, 0] rfl ?_
                    exact ih18 (x3_18 + 1) lo_27 r_lo_27 (by first | assumption | omega) (by first | (rw [show 144 * (x2_10 - 1) + 12 * 0 = 144 * (x2_10 - 1) by omega]; exact w10_1) | (rw [show 144 * (x2_10 - 1) + 12 * (x3_18 + 1) = 144 * (x2_10 - 1) + 12 * x3_18 + x4_27 by omega]; exact w27_1)) (by omega)
                  · have hm : (144 * (x2_10 - 1) + 12 * x3_18 + x4_27).toNat % 144 = 12 * (x3_18).toNat + (x4_27).toNat := by omega
                    rw [hm] at hS
                    have hc : (12 * (x3_18).toNat + (x4_27).toNat) / 12 = (x3_18).toNat ∧ (12 * (x3_18).toNat + (x4_27).toNat) % 12 = (x4_27).toNat := by omega
                    refine g_aload_n X dX0_chainsFrom_34 0 rfl ?_
                    refine g_iload_n X dX0_chainsFrom_35 3 rfl ?_
                    refine g_iload X dX0_chainsFrom_36 4 rfl ?_
                    refine g_callVIw X (c_X0_most l D cI cB cJ h q (p0 := x3_18) (p1 := x4_27) r_v_byAll (by first | assumption | omega) (by first | assumption | omega) (by first | assumption | omega) (by first | assumption | omega)) [0, 1, 2, 3] rfl rfl rfl cv_X0_most uw793 ⟨rfl, rfl, by decide, by decide⟩ 0 rfl rfl rfl rfl rfl (Nat.le_of_ble_eq_true rfl) ⟨Nat.zero_le _, Nat.zero_le _⟩ dX0_chainsFrom_38 (fun t38 ws38 k38 => ?_)
                    obtain ⟨kp0_38, kp1_38, rfl⟩ := k38
                    refine ⟨rfl, ?_⟩
                    refine g_ws (ws2 := ((wX0 cI cB cJ h q v_canHold v_direct v_byAll v_more) ++ (wA cI 4096 r_lo lo_27))) rfl ?_
                    refine g_if_ge X (tgt := 59) dX0_chainsFrom_41 (by decide) (by omega) (fun c41 => ?_) (fun c41 => ?_)
                    · have hN : ∀ a : Nat, a < 12 → lo_27 a = chN v_byAll (144 * (x2_10 - 1) + 12 * x3_18 + x4_27 + 1).toNat a := by rw [hS]; first | exact ch_st w27_1 (by omega) (Or.inr ⟨by omega, e58, by rw [hc.1], by rw [hc.1, hc.2]; omega⟩) | exact ch_st (p := 0) (t := 0) w27_1 (by omega) (Or.inl ⟨by omega, rfl⟩)
                      refine g_iinc X (lv' := [(4, vI (x4_27 + 1)), (0, .ref h), (1, .ref r_lo), (2, vI x2_10), (3, vI x3_18)]) dX0_chainsFrom_59 4 rfl (by decide) rfl ?_
                      refine g_goto X (tgt := 27) dX0_chainsFrom_62 (by decide) ?_
                      refine g_lv [1, 2, 3, 4, 0] rfl ?_
                      exact ih27 (x4_27 + 1) lo_27 r_lo_27 (by first | assumption | omega) (by first | (rw [show 144 * (x2_10 - 1) + 12 * x3_18 + 0 = 144 * (x2_10 - 1) + 12 * x3_18 by omega]; exact w18_1) | (rw [show 144 * (x2_10 - 1) + 12 * x3_18 + (x4_27 + 1) = 144 * (x2_10 - 1) + 12 * x3_18 + x4_27 + 1 by omega]; exact hN)) (by omega)
                    · refine g_aload_n X dX0_chainsFrom_44 1 rfl ?_
                      refine g_iload_n X dX0_chainsFrom_45 3 rfl ?_
                      refine g_aload_n X dX0_chainsFrom_46 1 rfl ?_
                      refine g_iload_n X dX0_chainsFrom_47 3 rfl ?_
                      refine g_iald X 4 0 rfl rfl (by omega) (by decide) dX0_chainsFrom_48 (fun t48 e48 => ?_)
                      have r48 := r_lo_27 (x3_18 : Int).toNat; rw [← e48] at r48
                      have b48 := w27_1 (x3_18).toNat (by omega)
                      have g48 := (chN_r v_byAll (144 * (x2_10 - 1) + 12 * x3_18 + x4_27).toNat 0).2 (x3_18).toNat
                      have l48 := (chN_r v_byAll (144 * (x2_10 - 1) + 12 * x3_18 + x4_27).toNat (x3_18).toNat).1
                      refine g_aload_n X dX0_chainsFrom_49 1 rfl ?_
                      refine g_iload X dX0_chainsFrom_50 4 rfl ?_
                      refine g_iald X 4 0 rfl rfl (by omega) (by decide) dX0_chainsFrom_52 (fun t52 e52 => ?_)
                      have r52 := r_lo_27 (x4_27 : Int).toNat; rw [← e52] at r52
                      have b52 := w27_1 (x4_27).toNat (by omega)
                      have g52 := (chN_r v_byAll (144 * (x2_10 - 1) + 12 * x3_18 + x4_27).toNat 0).2 (x4_27).toNat
                      have l52 := (chN_r v_byAll (144 * (x2_10 - 1) + 12 * x3_18 + x4_27).toNat (x4_27).toNat).1
                      refine g_iconst X dX0_chainsFrom_53 ?_
                      refine g_iadd X dX0_chainsFrom_54 ?_
                      refine g_mmax X uw806 uw807 uw111 uw808 ⟨by decide, Nat.le_of_ble_eq_true rfl⟩ ⟨Nat.zero_le _, Nat.zero_le _⟩ (by omega) (by omega) dX0_chainsFrom_55 (fun t55 k55 => ?_)
                      refine g_iast X 4 0 rfl rfl (by omega) (by decide) dX0_chainsFrom_58 (fun lo_58 e58 => ?_)
                      have r_lo_58 : RA (-2147483648) 2147483647 lo_58 := by rw [e58]; exact RA_up r_lo_27 (by omega)
                      refine g_ws (ws2 := ((wX0 cI cB cJ h q v_canHold v_direct v_byAll v_more) ++ (wA cI 4096 r_lo lo_58))) rfl ?_
                      have hN : ∀ a : Nat, a < 12 → lo_58 a = chN v_byAll (144 * (x2_10 - 1) + 12 * x3_18 + x4_27 + 1).toNat a := by rw [hS]; first | exact ch_st w27_1 (by omega) (Or.inr ⟨by omega, e58, by rw [hc.1], by rw [hc.1, hc.2]; omega⟩) | exact ch_st (p := 0) (t := 0) w27_1 (by omega) (Or.inl ⟨by omega, rfl⟩)
                      refine g_iinc X (lv' := [(4, vI (x4_27 + 1)), (0, .ref h), (1, .ref r_lo), (2, vI x2_10), (3, vI x3_18)]) dX0_chainsFrom_59 4 rfl (by decide) rfl ?_
                      refine g_goto X (tgt := 27) dX0_chainsFrom_62 (by decide) ?_
                      refine g_lv [1, 2, 3, 4, 0] rfl ?_
                      exact ih27 (x4_27 + 1) lo_58 r_lo_58 (by first | assumption | omega) (by first | (rw [show 144 * (x2_10 - 1) + 12 * x3_18 + 0 = 144 * (x2_10 - 1) + 12 * x3_18 by omega]; exact w18_1) | (rw [show 144 * (x2_10 - 1) + 12 * x3_18 + (x4_27 + 1) = 144 * (x2_10 - 1) + 12 * x3_18 + x4_27 + 1 by omega]; exact hN)) (by omega)
              refine g_lv [1, 2, 3, 4, 0] rfl ?_
              exact L27 _ 0 lo_18 r_lo_18 (by first | assumption | omega) (by first | (rw [show 144 * (x2_10 - 1) + 12 * x3_18 + 0 = 144 * (x2_10 - 1) + 12 * x3_18 by omega]; exact w18_1) | (rw [show 144 * (x2_10 - 1) + 12 * x3_18 + (x4_27 + 1) = 144 * (x2_10 - 1) + 12 * x3_18 + x4_27 + 1 by omega]; exact hN)) (Nat.lt_succ_self _)
        refine g_lv [1, 2, 3, 0] rfl ?_
        exact L18 _ 0 lo_10 r_lo_10 (by first | assumption | omega) (by first | (rw [show 144 * (x2_10 - 1) + 12 * 0 = 144 * (x2_10 - 1) by omega]; exact w10_1) | (rw [show 144 * (x2_10 - 1) + 12 * (x3_18 + 1) = 144 * (x2_10 - 1) + 12 * x3_18 + x4_27 by omega]; exact w27_1)) (Nat.lt_succ_self _)
  refine g_lv [1, 2, 0] rfl ?_
  exact L10 _ 1 lo_5 r_lo_5 (by first | assumption | omega) (by first | (intro a ha; exact kp0_5 a (by omega) (by omega)) | (rw [show 144 * (x2_10 + 1 - 1) = 144 * (x2_10 - 1) + 12 * x3_18 by omega]; exact w18_1)) (Nat.lt_succ_self _)
set_option maxHeartbeats 600000 in
set_option maxRecDepth 100000 in
theorem c_X0_ordersByLast (l : Launch) (D : va_G) (cI cB cJ : ClassId) (h : Nat) (q : Nat → Nat) (r_or : Nat) {v_canHold : Int} {v_direct v_byAll v_more v_or : Nat → Int} {p0 : Int} (r_v_more : RA (-2147483648) 2147483647 v_more) (r_v_or : RA (-2147483648) 2147483647 v_or) (hp0 : IR p0) (hp1 : 1 ≤ p0 ∧ p0 ≤ 4095) (hp2 : ∀ a : Nat, a < 12 → 0 ≤ v_more a ∧ v_more a ≤ 4095) : CtI l yX0_ordersByLast cX0_ordersByLast 5 (some .int) ⟨1, 0, 0, 21⟩ D (TY cI cB cJ) ((wX0 cI cB cJ h q v_canHold v_direct v_byAll v_more) ++ (wA cI 4096 r_or v_or)) [.ref h, vI p0, .ref r_or] (fun z ws' => (IR z) ∧ (z = ocV (fun a => (v_more a).toNat) v_or p0.toNat 12) ∧ (ws' = ((wX0 cI cB cJ h q v_canHold v_direct v_byAll v_more) ++ (wA cI 4096 r_or v_or)))) := by
  refine hdrI (own := RX0) rfl (by decide +kernel) (Nat.le_of_ble_eq_true rfl) ?_
  intro p e s m args below meth c Q A X hQ
  refine g_lvE (lv2 := [(0, .ref h), (1, vI p0), (2, .ref r_or)]) rfl ?_
  refine g_iconst X dX0_ordersByLast_0 ?_
  refine g_istore_n X (lv' := [(3, vI 0), (0, .ref h), (1, vI p0), (2, .ref r_or)]) dX0_ordersByLast_1 (by decide) rfl ?_
  refine g_iconst X dX0_ordersByLast_2 ?_
  refine g_istore X (lv' := [(4, vI 0), (3, vI 0), (0, .ref h), (1, vI p0), (2, .ref r_or)]) dX0_ordersByLast_3 (by decide) rfl ?_
  have h0 : ocV (fun a => (v_more a).toNat) v_or p0.toNat (0 : Int).toNat = 0 := rfl
  have L5 : ∀ (n : Nat) (x3_5 : Int) (x4_5 : Int), (0 ≤ x4_5 ∧ x4_5 ≤ 12) → (IR x3_5) → (x3_5 = ocV (fun a => (v_more a).toNat) v_or p0.toNat (x4_5).toNat) → (12 - x4_5).toNat < n → GG p l e ⟨1, 0, 0, 21⟩ s m args below meth c 0 0 Q D A s.heap 5 ((wX0 cI cB cJ h q v_canHold v_direct v_byAll v_more) ++ (wA cI 4096 r_or v_or)) 5 [(0, .ref h), (1, vI p0), (2, .ref r_or), (3, vI x3_5), (4, vI x4_5)] [] := by
    intro n
    induction n with
    | zero => intros; exfalso; omega
    | succ n ih5 =>
      intro x3_5 x4_5 w5_0 w5_1 w5_2 wm5
      have hS := ocV_s (fun a => (v_more a).toNat) v_or p0.toNat (x := x4_5) (by omega)
      refine g_iload X dX0_ordersByLast_5 4 rfl ?_
      refine g_bipush X (z := 12) dX0_ordersByLast_7 (by decide) ?_
      refine g_icmp_ge X (tgt := 52) dX0_ordersByLast_9 (by decide) (by omega) (by omega) (fun c9 => ?_) (fun c9 => ?_)
      · refine g_iload_n X dX0_ordersByLast_52 3 rfl ?_
        have hx : x4_5 = 12 := by omega
        rw [hx] at w5_2
        exact hQ _ _ _ _ dX0_ordersByLast_53 ⟨(by first | assumption | omega), (by first | assumption | omega), rfl⟩
      · have hU := tb_U (s := p0) (k := x4_5) (by omega) (by omega)
        have hm := hp2 (x4_5).toNat (by omega)
        have hz := z_andN (n := (v_more (x4_5).toNat).toNat) (m := p0.toNat) (by omega) (by omega)
        rw [show (((v_more (x4_5).toNat).toNat : Nat) : Int) = v_more (x4_5).toNat by omega, show ((p0.toNat : Nat) : Int) = p0 by omega] at hz
        refine g_iload_n X dX0_ordersByLast_12 1 rfl ?_
        refine g_iload X dX0_ordersByLast_13 4 rfl ?_
        refine g_callSNIE X (c_X9_isIn l D cI cB cJ (p0 := p0) (p1 := x4_5) (by first | assumption | omega) (by first | assumption | omega)) cv_X9_isIn nw845 ⟨rfl, rfl, by decide, by decide⟩ rfl rfl (Nat.le_of_ble_eq_true rfl) ⟨Nat.zero_le _, Nat.zero_le _⟩ dX0_ordersByLast_15 (fun t15 ws15 k15 => ?_)
        obtain ⟨kb_15, ⟨kp0_15, rfl⟩⟩ := k15
        refine g_if_eq X (tgt := 46) dX0_ordersByLast_18 (by decide) (by omega) (fun c18 => ?_) (fun c18 => ?_)
        · have hN : x3_5 = ocV (fun a => (v_more a).toNat) v_or p0.toNat (x4_5 + 1).toNat := by first | (have hb1 := hU.mp (kp0_15.elim (fun h => h.2) (fun h => absurd h.1 (by omega))); have hc : (v_more (x4_5).toNat).toNat &&& p0.toNat = 0 := (by have h9 : t29 = z_iand (v_more (x4_5).toNat) p0 := (by rw [e29, e27]); omega); have hs := hS.resolve_right (fun h => h.1 ⟨hb1, hc⟩); rw [hs.2, ← w5_2, wz_of e44 r44, e43, show (t42).toNat = sbN p0.toNat (x4_5).toNat by rw [e42, e41, e39, z_sb (by omega) (by omega)]; omega]) | (have hs := hS.resolve_left (fun h => by have h8 := hU.mpr h.1.1; first | (have h9 : t29 = z_iand (v_more (x4_5).toNat) p0 := (by rw [e29, e27]); have h7 := h.1.2; omega) | (rcases kp0_15 with ⟨h6, _⟩ | ⟨_, h6⟩; omega; exact h8 h6)); rw [hs.2]; exact w5_2)
          refine g_iinc X (lv' := [(4, vI (x4_5 + 1)), (0, .ref h), (1, vI p0), (2, .ref r_or), (3, vI x3_5)]) dX0_ordersByLast_46 4 rfl (by decide) rfl ?_
          refine g_goto X (tgt := 5) dX0_ordersByLast_49 (by decide) ?_
          refine g_lv [1, 2, 3, 4, 0] rfl ?_
          exact ih5 x3_5 (x4_5 + 1) (by first | assumption | omega) (by first | assumption | omega) (by first | exact hN | (rw [h0])) (by omega)
        · refine g_aload_n X dX0_ordersByLast_21 0 rfl ?_
          refine gX0_get X 0 rfl 2 (by decide) uw211 rfl dX0_ordersByLast_22 ?_
          refine g_iload X dX0_ordersByLast_25 4 rfl ?_
          refine g_iald X 3 0 rfl rfl (by omega) (by decide) dX0_ordersByLast_27 (fun t27 e27 => ?_)
          have r27 := r_v_more (x4_5 : Int).toNat; rw [← e27] at r27
          refine g_iload_n X dX0_ordersByLast_28 1 rfl ?_
          refine g_iand X dX0_ordersByLast_29 ?_
          refine g_nm (fun t29 e29 => ?_)
          have r29 : IR t29 := by rw [e29]; exact z_ir _
          refine g_if_ne X (tgt := 46) dX0_ordersByLast_30 (by decide) (by omega) (fun c30 => ?_) (fun c30 => ?_)
          · have hN : x3_5 = ocV (fun a => (v_more a).toNat) v_or p0.toNat (x4_5 + 1).toNat := by first | (have hb1 := hU.mp (kp0_15.elim (fun h => h.2) (fun h => absurd h.1 (by omega))); have hc : (v_more (x4_5).toNat).toNat &&& p0.toNat = 0 := (by have h9 : t29 = z_iand (v_more (x4_5).toNat) p0 := (by rw [e29, e27]); omega); have hs := hS.resolve_right (fun h => h.1 ⟨hb1, hc⟩); rw [hs.2, ← w5_2, wz_of e44 r44, e43, show (t42).toNat = sbN p0.toNat (x4_5).toNat by rw [e42, e41, e39, z_sb (by omega) (by omega)]; omega]) | (have hs := hS.resolve_left (fun h => by have h8 := hU.mpr h.1.1; first | (have h9 : t29 = z_iand (v_more (x4_5).toNat) p0 := (by rw [e29, e27]); have h7 := h.1.2; omega) | (rcases kp0_15 with ⟨h6, _⟩ | ⟨_, h6⟩; omega; exact h8 h6)); rw [hs.2]; exact w5_2)
            refine g_iinc X (lv' := [(4, vI (x4_5 + 1)), (0, .ref h), (1, vI p0), (2, .ref r_or), (3, vI x3_5)]) dX0_ordersByLast_46 4 rfl (by decide) rfl ?_
            refine g_goto X (tgt := 5) dX0_ordersByLast_49 (by decide) ?_
            refine g_lv [1, 2, 3, 4, 0] rfl ?_
            exact ih5 x3_5 (x4_5 + 1) (by first | assumption | omega) (by first | assumption | omega) (by first | exact hN | (rw [h0])) (by omega)
          · refine g_iload_n X dX0_ordersByLast_33 3 rfl ?_
            refine g_aload_n X dX0_ordersByLast_34 2 rfl ?_
            refine g_iload_n X dX0_ordersByLast_35 1 rfl ?_
            refine g_iconst X dX0_ordersByLast_36 ?_
            refine g_iload X dX0_ordersByLast_37 4 rfl ?_
            refine g_ishl X dX0_ordersByLast_39 ?_
            refine g_nm (fun t39 e39 => ?_)
            have r39 : IR t39 := by rw [e39]; exact z_ir _
            refine g_iconst X dX0_ordersByLast_40 ?_
            refine g_ixor X dX0_ordersByLast_41 ?_
            refine g_nm (fun t41 e41 => ?_)
            have r41 : IR t41 := by rw [e41]; exact z_ir _
            refine g_iand X dX0_ordersByLast_42 ?_
            refine g_nm (fun t42 e42 => ?_)
            have r42 := z_iand_l p0 t41 (by omega) (by omega); rw [← e42] at r42
            refine g_iald X 4 0 rfl rfl (by omega) (by decide) dX0_ordersByLast_43 (fun t43 e43 => ?_)
            have r43 := r_v_or (t42 : Int).toNat; rw [← e43] at r43
            refine g_iadd X dX0_ordersByLast_44 ?_
            refine g_nr (fun t44 e44 r44 => ?_)
            refine g_istore_n X (lv' := [(3, vI t44), (0, .ref h), (1, vI p0), (2, .ref r_or), (4, vI x4_5)]) dX0_ordersByLast_45 (by decide) rfl ?_
            have hN : t44 = ocV (fun a => (v_more a).toNat) v_or p0.toNat (x4_5 + 1).toNat := by first | (have hb1 := hU.mp (kp0_15.elim (fun h => h.2) (fun h => absurd h.1 (by omega))); have hc : (v_more (x4_5).toNat).toNat &&& p0.toNat = 0 := (by have h9 : t29 = z_iand (v_more (x4_5).toNat) p0 := (by rw [e29, e27]); omega); have hs := hS.resolve_right (fun h => h.1 ⟨hb1, hc⟩); rw [hs.2, ← w5_2, wz_of e44 r44, e43, show (t42).toNat = sbN p0.toNat (x4_5).toNat by rw [e42, e41, e39, z_sb (by omega) (by omega)]; omega]) | (have hs := hS.resolve_left (fun h => by have h8 := hU.mpr h.1.1; first | (have h9 : t29 = z_iand (v_more (x4_5).toNat) p0 := (by rw [e29, e27]); have h7 := h.1.2; omega) | (rcases kp0_15 with ⟨h6, _⟩ | ⟨_, h6⟩; omega; exact h8 h6)); rw [hs.2]; exact w5_2)
            refine g_iinc X (lv' := [(4, vI (x4_5 + 1)), (3, vI t44), (0, .ref h), (1, vI p0), (2, .ref r_or)]) dX0_ordersByLast_46 4 rfl (by decide) rfl ?_
            refine g_goto X (tgt := 5) dX0_ordersByLast_49 (by decide) ?_
            refine g_lv [2, 3, 4, 1, 0] rfl ?_
            exact ih5 t44 (x4_5 + 1) (by first | assumption | omega) (by first | assumption | omega) (by first | exact hN | (rw [h0])) (by omega)
  refine g_lv [2, 3, 4, 1, 0] rfl ?_
  exact L5 _ 0 0 (by first | assumption | omega) (by first | assumption | omega) (by first | exact hN | (rw [h0])) (Nat.lt_succ_self _)
set_option maxHeartbeats 600000 in
set_option maxRecDepth 100000 in
theorem c_X0_ordersOf (l : Launch) (D : va_G) (cI cB cJ : ClassId) (h : Nat) (q : Nat → Nat) (r_or : Nat) {v_canHold : Int} {v_direct v_byAll v_more v_or : Nat → Int} {p0 : Int} (r_v_byAll : RA (-1000000) 1000000 v_byAll) (r_v_more : RA (-2147483648) 2147483647 v_more) (r_v_or : RA (-2147483648) 2147483647 v_or) (hp0 : IR p0) (hp1 : 0 ≤ p0 ∧ p0 ≤ 4095) : CtI l yX0_ordersOf cX0_ordersOf 4 (some .int) ⟨2, 0, 0, 45⟩ D (TY cI cB cJ) ((wX0 cI cB cJ h q v_canHold v_direct v_byAll v_more) ++ (wA cI 4096 r_or v_or)) [.ref h, vI p0, .ref r_or] (fun z ws' => ∃ n_more : Nat → Int, ∃ n_or : Nat → Int, (RA (-2147483648) 2147483647 n_more) ∧ (RA (-2147483648) 2147483647 n_or) ∧ (IR z) ∧ (z = ocF (upB v_byAll) p0.toNat p0.toNat) ∧ (ws' = ((wX0 cI cB cJ h q v_canHold v_direct v_byAll n_more) ++ (wA cI 4096 r_or n_or)))) := by
  refine hdrI (own := RX0) rfl (by decide +kernel) (Nat.le_of_ble_eq_true rfl) ?_
  intro p e s m args below meth c Q A X hQ
  refine g_lvE (lv2 := [(0, .ref h), (1, vI p0), (2, .ref r_or)]) rfl ?_
  refine g_iconst X dX0_ordersOf_0 ?_
  refine g_istore_n X (lv' := [(3, vI 0), (0, .ref h), (1, vI p0), (2, .ref r_or)]) dX0_ordersOf_1 (by decide) rfl ?_
  have L2 : ∀ (n : Nat) (x3_2 : Int) (more_2 : Nat → Int), (RA (-2147483648) 2147483647 more_2) → (0 ≤ x3_2 ∧ x3_2 ≤ 12) → (∀ a : Nat, (a : Int) < x3_2 → more_2 a = mtB v_byAll a 12) → (12 - x3_2).toNat < n → GG p l e ⟨2, 0, 0, 45⟩ s m args below meth c 0 0 Q D A s.heap 4 ((wX0 cI cB cJ h q v_canHold v_direct v_byAll more_2) ++ (wA cI 4096 r_or v_or)) 2 [(0, .ref h), (1, vI p0), (2, .ref r_or), (3, vI x3_2)] [] := by
    intro n
    induction n with
    | zero => intros; exfalso; omega
    | succ n ih2 =>
      intro x3_2 more_2 r_more_2 w2_0 w2_1 wm2
      refine g_iload_n X dX0_ordersOf_2 3 rfl ?_
      refine g_bipush X (z := 12) dX0_ordersOf_3 (by decide) ?_
      refine g_icmp_ge X (tgt := 25) dX0_ordersOf_5 (by decide) (by omega) (by omega) (fun c5 => ?_) (fun c5 => ?_)
      · have hMo : ∀ a : Nat, a < 12 → more_2 a = mtB v_byAll a 12 := fun a ha => w2_1 a (by omega)
        have hM12 : ∀ a : Nat, a < 12 → 0 ≤ more_2 a ∧ more_2 a ≤ 4095 := fun a ha => by rw [hMo a ha]; exact (mtB_h (f := v_byAll) ha 12 (Nat.le_refl 12)).1
        refine g_aload_n X dX0_ordersOf_25 2 rfl ?_
        refine g_iconst X dX0_ordersOf_26 ?_
        refine g_iconst X dX0_ordersOf_27 ?_
        refine g_iast X 4 0 rfl rfl (by omega) (by decide) dX0_ordersOf_28 (fun or_28 e28 => ?_)
        have r_or_28 : RA (-2147483648) 2147483647 or_28 := by rw [e28]; exact RA_up r_v_or (by omega)
        refine g_ws (ws2 := ((wX0 cI cB cJ h q v_canHold v_direct v_byAll more_2) ++ (wA cI 4096 r_or or_28))) rfl ?_
        refine g_iconst X dX0_ordersOf_29 ?_
        refine g_istore_n X (lv' := [(3, vI 1), (0, .ref h), (1, vI p0), (2, .ref r_or)]) dX0_ordersOf_30 (by decide) rfl ?_
        have L31 : ∀ (n : Nat) (x3_31 : Int) (or_31 : Nat → Int), (RA (-2147483648) 2147483647 or_31) → (1 ≤ x3_31 ∧ x3_31 ≤ p0 + 1) → (∀ j : Nat, (j : Int) < x3_31 → or_31 j = ocF (upB v_byAll) p0.toNat j) → (p0 + 1 - x3_31).toNat < n → GG p l e ⟨2, 0, 0, 45⟩ s m args below meth c 0 0 Q D A s.heap 4 ((wX0 cI cB cJ h q v_canHold v_direct v_byAll more_2) ++ (wA cI 4096 r_or or_31)) 31 [(0, .ref h), (1, vI p0), (2, .ref r_or), (3, vI x3_31)] [] := by
          intro n
          induction n with
          | zero => intros; exfalso; omega
          | succ n ih31 =>
            intro x3_31 or_31 r_or_31 w31_0 w31_1 wm31
            refine g_iload_n X dX0_ordersOf_31 3 rfl ?_
            refine g_iload_n X dX0_ordersOf_32 1 rfl ?_
            refine g_icmp_gt X (tgt := 63) dX0_ordersOf_33 (by decide) (by omega) (by omega) (fun c33 => ?_) (fun c33 => ?_)
            · refine g_aload_n X dX0_ordersOf_63 2 rfl ?_
              refine g_iload_n X dX0_ordersOf_64 1 rfl ?_
              refine g_iald X 4 0 rfl rfl (by omega) (by decide) dX0_ordersOf_65 (fun t65 e65 => ?_)
              have r65 := r_or_31 (p0 : Int).toNat; rw [← e65] at r65
              have hF : t65 = ocF (upB v_byAll) p0.toNat p0.toNat := by rw [e65]; exact w31_1 p0.toNat (by omega)
              exact hQ _ _ _ _ dX0_ordersOf_66 ⟨more_2, or_31, r_more_2, r_or_31, (by first | assumption | omega), (by first | assumption | omega), rfl⟩
            · refine g_aload_n X dX0_ordersOf_36 2 rfl ?_
              refine g_iload_n X dX0_ordersOf_37 3 rfl ?_
              refine g_iload_n X dX0_ordersOf_38 3 rfl ?_
              refine g_iload_n X dX0_ordersOf_39 1 rfl ?_
              refine g_iconst X dX0_ordersOf_40 ?_
              refine g_ixor X dX0_ordersOf_41 ?_
              refine g_nm (fun t41 e41 => ?_)
              have r41 : IR t41 := by rw [e41]; exact z_ir _
              refine g_iand X dX0_ordersOf_42 ?_
              refine g_nm (fun t42 e42 => ?_)
              have r42 : IR t42 := by rw [e42]; exact z_ir _
              have hz := z_andn (n := (x3_31).toNat) (m := p0.toNat) (by omega) (by omega)
              rw [show (((x3_31).toNat : Nat) : Int) = x3_31 by omega, show ((p0.toNat : Nat) : Int) = p0 by omega] at hz
              have h42 : t42 = (((x3_31).toNat &&& (4095 ^^^ p0.toNat) : Nat) : Int) := by rw [e42, e41]; exact hz
              have hE := ocF_e (up := upB v_byAll) (some := p0.toNat) (n := (x3_31).toNat) (by omega)
              rw [if_neg (by omega)] at hE
              refine g_if_ne X (tgt := 55) dX0_ordersOf_43 (by decide) (by omega) (fun c43 => ?_) (fun c43 => ?_)
              · refine g_iconst X dX0_ordersOf_55 ?_
                have hv : 0 = ocF (upB v_byAll) p0.toNat (x3_31).toNat := by first | (rw [hE, if_pos (by omega), kp1_49, ← ocV_c (T := or_31) (by omega) (fun j hj => w31_1 j (by omega)) 12 (Nat.le_refl 12)]; exact ocV_up (fun a ha => by show (more_2 a).toNat = (mtB v_byAll a 12).toNat; rw [hMo a ha])) | (rw [hE, if_neg (by omega)])
                refine g_iast X 4 0 rfl rfl (by omega) (by decide) dX0_ordersOf_56 (fun or_56 e56 => ?_)
                have r_or_56 : RA (-2147483648) 2147483647 or_56 := by rw [e56]; exact RA_up r_or_31 (by omega)
                refine g_ws (ws2 := ((wX0 cI cB cJ h q v_canHold v_direct v_byAll more_2) ++ (wA cI 4096 r_or or_56))) rfl ?_
                refine g_iinc X (lv' := [(3, vI (x3_31 + 1)), (0, .ref h), (1, vI p0), (2, .ref r_or)]) dX0_ordersOf_57 3 rfl (by decide) rfl ?_
                refine g_goto X (tgt := 31) dX0_ordersOf_60 (by decide) ?_
                refine g_lv [1, 2, 3, 0] rfl ?_
                exact ih31 (x3_31 + 1) or_56 r_or_56 (by first | assumption | omega) (by intro j hj; first | (have hj0 : j = 0 := (by omega); subst hj0; rw [e28, show (0 : Int).toNat = 0 from rfl, updZ_s, ocF_e (by decide), if_pos rfl]) | (rcases (show (j : Int) < x3_31 ∨ j = (x3_31).toNat by omega) with h | h; (rw [e56, updZ_n _ _ (by omega)]; exact w31_1 j h); (rw [e56, h, updZ_s]; exact hv))) (by omega)
              · refine g_aload_n X dX0_ordersOf_46 0 rfl ?_
                refine g_iload_n X dX0_ordersOf_47 3 rfl ?_
                refine g_aload_n X dX0_ordersOf_48 2 rfl ?_
                refine g_callVI0 X (c_X0_ordersByLast l D cI cB cJ h q r_or (p0 := x3_31) r_more_2 r_or_31 (by first | assumption | omega) (by first | assumption | omega) (by first | assumption | omega)) cv_X0_ordersByLast uw841 ⟨rfl, rfl, by decide, by decide⟩ 0 rfl rfl rfl rfl rfl (Nat.le_of_ble_eq_true rfl) ⟨Nat.zero_le _, Nat.zero_le _⟩ dX0_ordersOf_49 (fun t49 ws49 k49 => ?_)
                obtain ⟨kp0_49, kp1_49, rfl⟩ := k49
                refine g_goto X (tgt := 56) dX0_ordersOf_52 (by decide) ?_
                have hv : t49 = ocF (upB v_byAll) p0.toNat (x3_31).toNat := by first | (rw [hE, if_pos (by omega), kp1_49, ← ocV_c (T := or_31) (by omega) (fun j hj => w31_1 j (by omega)) 12 (Nat.le_refl 12)]; exact ocV_up (fun a ha => by show (more_2 a).toNat = (mtB v_byAll a 12).toNat; rw [hMo a ha])) | (rw [hE, if_neg (by omega)])
                refine g_iast X 4 0 rfl rfl (by omega) (by decide) dX0_ordersOf_56 (fun or_56 e56 => ?_)
                have r_or_56 : RA (-2147483648) 2147483647 or_56 := by rw [e56]; exact RA_up r_or_31 (by omega)
                refine g_ws (ws2 := ((wX0 cI cB cJ h q v_canHold v_direct v_byAll more_2) ++ (wA cI 4096 r_or or_56))) rfl ?_
                refine g_iinc X (lv' := [(3, vI (x3_31 + 1)), (0, .ref h), (1, vI p0), (2, .ref r_or)]) dX0_ordersOf_57 3 rfl (by decide) rfl ?_
                refine g_goto X (tgt := 31) dX0_ordersOf_60 (by decide) ?_
                refine g_lv [1, 2, 3, 0] rfl ?_
                exact ih31 (x3_31 + 1) or_56 r_or_56 (by first | assumption | omega) (by intro j hj; first | (have hj0 : j = 0 := (by omega); subst hj0; rw [e28, show (0 : Int).toNat = 0 from rfl, updZ_s, ocF_e (by decide), if_pos rfl]) | (rcases (show (j : Int) < x3_31 ∨ j = (x3_31).toNat by omega) with h | h; (rw [e56, updZ_n _ _ (by omega)]; exact w31_1 j h); (rw [e56, h, updZ_s]; exact hv))) (by omega)
        refine g_lv [1, 2, 3, 0] rfl ?_
        exact L31 _ 1 or_28 r_or_28 (by first | assumption | omega) (by intro j hj; first | (have hj0 : j = 0 := (by omega); subst hj0; rw [e28, show (0 : Int).toNat = 0 from rfl, updZ_s, ocF_e (by decide), if_pos rfl]) | (rcases (show (j : Int) < x3_31 ∨ j = (x3_31).toNat by omega) with h | h; (rw [e56, updZ_n _ _ (by omega)]; exact w31_1 j h); (rw [e56, h, updZ_s]; exact hv))) (Nat.lt_succ_self _)
      · refine g_aload_n X dX0_ordersOf_8 0 rfl ?_
        refine gX0_get X 0 rfl 2 (by decide) uw211 rfl dX0_ordersOf_9 ?_
        refine g_iload_n X dX0_ordersOf_12 3 rfl ?_
        refine g_aload_n X dX0_ordersOf_13 0 rfl ?_
        refine g_iload_n X dX0_ordersOf_14 3 rfl ?_
        refine g_callVIw X (c_X0_moreThan l D cI cB cJ h q (p0 := x3_2) r_v_byAll (by first | assumption | omega) (by first | assumption | omega)) [0, 1, 2, 3] rfl rfl rfl cv_X0_moreThan uw840 ⟨rfl, rfl, by decide, by decide⟩ 0 rfl rfl rfl rfl rfl (Nat.le_of_ble_eq_true rfl) ⟨Nat.zero_le _, Nat.zero_le _⟩ dX0_ordersOf_15 (fun t15 ws15 k15 => ?_)
        obtain ⟨kp0_15, kp1_15, rfl⟩ := k15
        refine ⟨rfl, ?_⟩
        refine g_ws (ws2 := ((wX0 cI cB cJ h q v_canHold v_direct v_byAll more_2) ++ (wA cI 4096 r_or v_or))) rfl ?_
        refine g_iast X 3 0 rfl rfl (by omega) (by decide) dX0_ordersOf_18 (fun more_18 e18 => ?_)
        have r_more_18 : RA (-2147483648) 2147483647 more_18 := by rw [e18]; exact RA_up r_more_2 (by omega)
        refine g_ws (ws2 := ((wX0 cI cB cJ h q v_canHold v_direct v_byAll more_18) ++ (wA cI 4096 r_or v_or))) rfl ?_
        refine g_iinc X (lv' := [(3, vI (x3_2 + 1)), (0, .ref h), (1, vI p0), (2, .ref r_or)]) dX0_ordersOf_19 3 rfl (by decide) rfl ?_
        refine g_goto X (tgt := 2) dX0_ordersOf_22 (by decide) ?_
        refine g_lv [1, 2, 3, 0] rfl ?_
        exact ih2 (x3_2 + 1) more_18 r_more_18 (by first | assumption | omega) (by intro a ha; first | (exfalso; omega) | (rcases (show (a : Int) < x3_2 ∨ a = (x3_2).toNat by omega) with h | h; (rw [e18, updZ_n _ _ (by omega)]; exact w2_1 a h); (rw [e18, h, updZ_s]; exact kp1_15))) (by omega)
  refine g_lv [1, 2, 3, 0] rfl ?_
  exact L2 _ 0 v_more r_v_more (by first | assumption | omega) (by intro a ha; first | (exfalso; omega) | (rcases (show (a : Int) < x3_2 ∨ a = (x3_2).toNat by omega) with h | h; (rw [e18, updZ_n _ _ (by omega)]; exact w2_1 a h); (rw [e18, h, updZ_s]; exact kp1_15))) (Nat.lt_succ_self _)
set_option maxHeartbeats 600000 in
set_option maxRecDepth 100000 in
theorem c_X0_fits (l : Launch) (D : va_G) (cI cB cJ : ClassId) (r_di : Nat) (r_we : Nat) {v_di v_we : Nat → Int} {p2 p3 : Int} (r_v_di : RA (-2147483648) 2147483647 v_di) (r_v_we : RA (-2147483648) 2147483647 v_we) (hp0 : IR p2) (hp1 : IR p3) (hp2 : 0 ≤ p3 ∧ p3 ≤ 11) : CtI l yX0_fits cX0_fits 6 (some .boolean) ⟨1, 0, 0, 21⟩ D (TY cI cB cJ) ((wA cI 144 r_di v_di) ++ (wA cI 4096 r_we v_we)) [.ref r_di, .ref r_we, vI p2, vI p3] (fun z ws' => (z = 0 ∨ z = 1) ∧ (ws' = ((wA cI 144 r_di v_di) ++ (wA cI 4096 r_we v_we)))) := by
  refine hdrZ (own := RX0) rfl (by decide +kernel) (Nat.le_of_ble_eq_true rfl) ?_
  intro p e s m args below meth c Q A X hQ
  refine g_lvE (lv2 := [(0, .ref r_di), (1, .ref r_we), (2, vI p2), (3, vI p3)]) rfl ?_
  refine g_iconst X dX0_fits_0 ?_
  refine g_istore X (lv' := [(4, vI 0), (0, .ref r_di), (1, .ref r_we), (2, vI p2), (3, vI p3)]) dX0_fits_1 (by decide) rfl ?_
  have L3 : ∀ (n : Nat) (x4_3 : Int), (0 ≤ x4_3 ∧ x4_3 ≤ 12) → (12 - x4_3).toNat < n → GG p l e ⟨1, 0, 0, 21⟩ s m args below meth c 0 0 Q D A s.heap 6 ((wA cI 144 r_di v_di) ++ (wA cI 4096 r_we v_we)) 3 [(0, .ref r_di), (1, .ref r_we), (2, vI p2), (3, vI p3), (4, vI x4_3)] [] := by
    intro n
    induction n with
    | zero => intros; exfalso; omega
    | succ n ih3 =>
      intro x4_3 w3_0 wm3
      refine g_iload X dX0_fits_3 4 rfl ?_
      refine g_bipush X (z := 12) dX0_fits_5 (by decide) ?_
      refine g_icmp_ge X (tgt := 66) dX0_fits_7 (by decide) (by omega) (by omega) (fun c7 => ?_) (fun c7 => ?_)
      · refine g_iconst X dX0_fits_66 ?_
        exact hQ _ _ _ _ dX0_fits_67 ⟨by omega, rfl⟩
      · refine g_iload_n X dX0_fits_10 2 rfl ?_
        refine g_iload X dX0_fits_11 4 rfl ?_
        refine g_callSNIE X (c_X9_isIn l D cI cB cJ (p0 := p2) (p1 := x4_3) (by first | assumption | omega) (by first | assumption | omega)) cv_X9_isIn nw845 ⟨rfl, rfl, by decide, by decide⟩ rfl rfl (Nat.le_of_ble_eq_true rfl) ⟨Nat.zero_le _, Nat.zero_le _⟩ dX0_fits_13 (fun t13 ws13 k13 => ?_)
        obtain ⟨kb_13, ⟨kp0_13, rfl⟩⟩ := k13
        refine g_if_eq X (tgt := 60) dX0_fits_16 (by decide) (by omega) (fun c16 => ?_) (fun c16 => ?_)
        · refine g_iinc X (lv' := [(4, vI (x4_3 + 1)), (0, .ref r_di), (1, .ref r_we), (2, vI p2), (3, vI p3)]) dX0_fits_60 4 rfl (by decide) rfl ?_
          refine g_goto X (tgt := 3) dX0_fits_63 (by decide) ?_
          refine g_lv [1, 2, 3, 4, 0] rfl ?_
          exact ih3 (x4_3 + 1) (by first | assumption | omega) (by omega)
        · refine g_aload_n X dX0_fits_19 1 rfl ?_
          refine g_iload_n X dX0_fits_20 3 rfl ?_
          refine g_iald X 1 0 rfl rfl (by omega) (by decide) dX0_fits_21 (fun t21 e21 => ?_)
          have r21 := r_v_we (p3 : Int).toNat; rw [← e21] at r21
          refine g_aload_n X dX0_fits_22 1 rfl ?_
          refine g_iload X dX0_fits_23 4 rfl ?_
          refine g_iald X 1 0 rfl rfl (by omega) (by decide) dX0_fits_25 (fun t25 e25 => ?_)
          have r25 := r_v_we (x4_3 : Int).toNat; rw [← e25] at r25
          refine g_isub X dX0_fits_26 ?_
          refine g_nr (fun t26 e26 r26 => ?_)
          refine g_istore X (lv' := [(5, vI t26), (0, .ref r_di), (1, .ref r_we), (2, vI p2), (3, vI p3), (4, vI x4_3)]) dX0_fits_27 (by decide) rfl ?_
          refine g_iload X dX0_fits_29 0 rfl ?_
          refine g_aload_n X dX0_fits_31 1 rfl ?_
          refine g_iload_n X dX0_fits_32 4 rfl ?_
          refine g_bipush X (z := 12) dX0_fits_33 (by decide) ?_
          refine g_imul X dX0_fits_35 ?_
          refine g_iload X dX0_fits_36 5 rfl ?_
          refine g_iadd X dX0_fits_38 ?_
          refine g_iald X 0 0 rfl rfl (by omega) (by decide) dX0_fits_39 (fun t39 e39 => ?_)
          have r39 := r_v_di ((p3 * 12) + x4_3 : Int).toNat; rw [← e39] at r39
          refine g_icmp_gt X (tgt := 58) dX0_fits_40 (by decide) (by omega) (by omega) (fun c40 => ?_) (fun c40 => ?_)
          · refine g_iconst X dX0_fits_58 ?_
            exact hQ _ _ _ _ dX0_fits_59 ⟨by omega, rfl⟩
          · refine g_iload X dX0_fits_43 0 rfl ?_
            refine g_ineg X dX0_fits_45 ?_
            refine g_nr (fun t45 e45 r45 => ?_)
            refine g_aload_n X dX0_fits_46 1 rfl ?_
            refine g_iload X dX0_fits_47 5 rfl ?_
            refine g_bipush X (z := 12) dX0_fits_49 (by decide) ?_
            refine g_imul X dX0_fits_51 ?_
            refine g_iload_n X dX0_fits_52 4 rfl ?_
            refine g_iadd X dX0_fits_53 ?_
            refine g_iald X 0 0 rfl rfl (by omega) (by decide) dX0_fits_54 (fun t54 e54 => ?_)
            have r54 := r_v_di ((x4_3 * 12) + p3 : Int).toNat; rw [← e54] at r54
            refine g_icmp_le X (tgt := 60) dX0_fits_55 (by decide) (by omega) (by omega) (fun c55 => ?_) (fun c55 => ?_)
            · refine g_iinc X (lv' := [(4, vI (x4_3 + 1)), (5, vI t26), (0, .ref r_di), (1, .ref r_we), (2, vI p2), (3, vI p3)]) dX0_fits_60 5 rfl (by decide) rfl ?_
              refine g_goto X (tgt := 3) dX0_fits_63 (by decide) ?_
              refine g_lv [2, 3, 4, 5, 0] rfl ?_
              exact ih3 (x4_3 + 1) (by first | assumption | omega) (by omega)
            · refine g_iconst X dX0_fits_58 ?_
              exact hQ _ _ _ _ dX0_fits_59 ⟨by omega, rfl⟩
  refine g_lv [1, 2, 3, 4, 0] rfl ?_
  exact L3 _ 0 (by first | assumption | omega) (Nat.lt_succ_self _)
