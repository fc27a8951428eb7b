set_option maxHeartbeats 600000 in
set_option maxRecDepth 100000 in
theorem c_X7_hasRoomFor (l : Launch) (D : va_G) (cI cB cJ : ClassId) (h : Nat) (q : Nat → Nat) {v_length v_end v_at v_fault v_faultAt : Int} {v_bytes v_taken : Nat → Int} {p0 : Int} (kr_v_length : 0 ≤ v_length ∧ v_length ≤ 260) (hp0 : IR p0) (hp1 : 0 ≤ p0 ∧ p0 ≤ 1000) : CtI l yX7_hasRoomFor cX7_hasRoomFor 2 (some .boolean) ⟨0, 0, 0, 0⟩ D (TY cI cB cJ) (wX7 cI cB cJ h q v_length v_end v_at v_fault v_faultAt v_bytes v_taken) [.ref h, vI p0] (fun z ws' => (z = 0 ∨ z = 1) ∧ ((z = 1 ∧ v_length + p0 ≤ 260) ∨ (z = 0 ∧ 260 < v_length + p0)) ∧ (ws' = (wX7 cI cB cJ h q v_length v_end v_at v_fault v_faultAt v_bytes v_taken))) := by
  refine hdrZ (own := RX7) rfl (by decide +kernel) (Nat.le_of_ble_eq_true rfl) ?_
  intro p e s m args below meth c Q A X hQ
  refine g_lvE (lv2 := [(0, .ref h), (1, vI p0)]) rfl ?_
  refine g_aload_n X dX7_hasRoomFor_0 0 rfl ?_
  refine gX7_get X 0 rfl 2 (by decide) uw135 rfl dX7_hasRoomFor_1 ?_
  refine g_iload_n X dX7_hasRoomFor_4 1 rfl ?_
  refine g_iadd X dX7_hasRoomFor_5 ?_
  refine g_sipush X (z := 260) dX7_hasRoomFor_6 (by decide) ?_
  refine g_icmp_gt X (tgt := 16) dX7_hasRoomFor_9 (by decide) (by omega) (by omega) (fun c9 => ?_) (fun c9 => ?_)
  · refine g_iconst X dX7_hasRoomFor_16 ?_
    exact hQ _ _ _ _ dX7_hasRoomFor_17 ⟨by omega, ⟨(by first | assumption | omega), rfl⟩⟩
  · refine g_iconst X dX7_hasRoomFor_12 ?_
    refine g_goto X (tgt := 17) dX7_hasRoomFor_13 (by decide) ?_
    exact hQ _ _ _ _ dX7_hasRoomFor_17 ⟨by omega, ⟨(by first | assumption | omega), rfl⟩⟩
set_option maxHeartbeats 600000 in
set_option maxRecDepth 100000 in
theorem c_X7_has (l : Launch) (D : va_G) (cI cB cJ : ClassId) (h : Nat) (q : Nat → Nat) {v_length v_end v_at v_fault v_faultAt : Int} {v_bytes v_taken : Nat → Int} {p0 p1 p2 : Int} (kr_v_length : 0 ≤ v_length ∧ v_length ≤ 260) (hp0 : IR p0) (hp1 : IR p1) (hp2 : IR p2) : CtI l yX7_has cX7_has 4 (some .boolean) ⟨1, 0, 0, 22⟩ D (TY cI cB cJ) (wX7 cI cB cJ h q v_length v_end v_at v_fault v_faultAt v_bytes v_taken) [.ref h, vI p0, vI p1, vI p2] (fun z ws' => (z = 0 ∨ z = 1) ∧ ((z = 1 ∧ p1 ≤ p0 ∧ p0 ≤ p2 ∧ p0 ≤ v_length) ∨ (z = 0 ∧ ¬ (p1 ≤ p0 ∧ p0 ≤ p2 ∧ p0 ≤ v_length))) ∧ (ws' = (wX7 cI cB cJ h q v_length v_end v_at v_fault v_faultAt v_bytes v_taken))) := by
  refine hdrZ (own := RX7) rfl (by decide +kernel) (Nat.le_of_ble_eq_true rfl) ?_
  intro p e s m args below meth c Q A X hQ
  refine g_lvE (lv2 := [(0, .ref h), (1, vI p0), (2, vI p1), (3, vI p2)]) rfl ?_
  refine g_iload_n X dX7_has_0 1 rfl ?_
  refine g_iload_n X dX7_has_1 2 rfl ?_
  refine g_iload_n X dX7_has_2 3 rfl ?_
  refine g_callSNIE X (c_X9_isFrom l D cI cB cJ (p0 := p0) (p1 := p1) (p2 := p2) (by first | assumption | omega) (by first | assumption | omega) (by first | assumption | omega)) cv_X9_isFrom nw477 ⟨rfl, rfl, by decide, by decide⟩ rfl rfl (Nat.le_of_ble_eq_true rfl) ⟨Nat.zero_le _, Nat.zero_le _⟩ dX7_has_3 (fun t3 ws3 k3 => ?_)
  obtain ⟨kb_3, ⟨kp0_3, rfl⟩⟩ := k3
  refine g_if_eq X (tgt := 21) dX7_has_6 (by decide) (by omega) (fun c6 => ?_) (fun c6 => ?_)
  · clear kb_3
    replace kp0_3 := (kp0_3.resolve_left (fun h => absurd h.1 (by omega))).2
    refine g_iconst X dX7_has_21 ?_
    exact hQ _ _ _ _ dX7_has_22 ⟨by omega, ⟨(by first | assumption | omega), rfl⟩⟩
  · replace kb_3 := kb_3.resolve_left (fun h => c6 h)
    replace kp0_3 := kp0_3.resolve_right (fun h => c6 h.1)
    refine g_iload_n X dX7_has_9 1 rfl ?_
    refine g_aload_n X dX7_has_10 0 rfl ?_
    refine gX7_get X 0 rfl 2 (by decide) uw135 rfl dX7_has_11 ?_
    refine g_icmp_gt X (tgt := 21) dX7_has_14 (by decide) (by omega) (by omega) (fun c14 => ?_) (fun c14 => ?_)
    · refine g_iconst X dX7_has_21 ?_
      exact hQ _ _ _ _ dX7_has_22 ⟨by omega, ⟨(by first | assumption | omega), rfl⟩⟩
    · refine g_iconst X dX7_has_17 ?_
      refine g_goto X (tgt := 22) dX7_has_18 (by decide) ?_
      exact hQ _ _ _ _ dX7_has_22 ⟨by omega, ⟨(by first | assumption | omega), rfl⟩⟩
set_option maxHeartbeats 600000 in
set_option maxRecDepth 100000 in
theorem c_X7_write (l : Launch) (D : va_G) (cI cB cJ : ClassId) (h : Nat) (q : Nat → Nat) {v_length v_end v_at v_fault v_faultAt : Int} {v_bytes v_taken : Nat → Int} {p0 : Int} (kr_v_length : 0 ≤ v_length ∧ v_length ≤ 260) (r_v_bytes : RA 0 255 v_bytes) (hp0 : IR p0) (hp1 : v_length ≤ 256) : CtV l yX7_write cX7_write 3 none ⟨0, 0, 0, 0⟩ D (TY cI cB cJ) (wX7 cI cB cJ h q v_length v_end v_at v_fault v_faultAt v_bytes v_taken) [.ref h, vI p0] (fun ws' => ∃ n_length : Int, ∃ n_bytes : Nat → Int, (0 ≤ n_length ∧ n_length ≤ 260) ∧ (RA 0 255 n_bytes) ∧ (n_length = v_length + 4) ∧ (n_bytes = wr v_bytes v_length.toNat p0 4) ∧ (ws' = (wX7 cI cB cJ h q n_length v_end v_at v_fault v_faultAt n_bytes v_taken))) := by
  refine hdrV (own := RX7) rfl (by decide +kernel) (Nat.le_of_ble_eq_true rfl) ?_
  intro p e s m args below meth c Q A X hQ
  refine g_lvE (lv2 := [(0, .ref h), (1, vI p0)]) rfl ?_
  refine g_bipush X (z := 24) dX7_write_0 (by decide) ?_
  refine g_istore_n X (lv' := [(2, vI 24), (0, .ref h), (1, vI p0)]) dX7_write_2 (by decide) rfl ?_
  have L3 : ∀ (n : Nat) (x2_3 : Int) (length_3 : Int) (bytes_3 : Nat → Int), (0 ≤ length_3 ∧ length_3 ≤ 260) → (RA 0 255 bytes_3) → (x2_3 = 24 - 8 * (length_3 - v_length)) → (v_length ≤ length_3 ∧ length_3 ≤ v_length + 4) → (bytes_3 = wr v_bytes v_length.toNat p0 (length_3 - v_length).toNat) → (x2_3 + 8).toNat < n → GG p l e ⟨0, 0, 0, 0⟩ s m args below meth c 0 0 Q D A s.heap 3 (wX7 cI cB cJ h q length_3 v_end v_at v_fault v_faultAt bytes_3 v_taken) 3 [(0, .ref h), (1, vI p0), (2, vI x2_3)] [] := by
    intro n
    induction n with
    | zero => intros; exfalso; omega
    | succ n ih3 =>
      intro x2_3 length_3 bytes_3 kr_length_3 r_bytes_3 w3_0 w3_1 w3_2 wm3
      refine g_iload_n X dX7_write_3 2 rfl ?_
      refine g_if_lt X (tgt := 49) dX7_write_4 (by decide) (by omega) (fun c4 => ?_) (fun c4 => ?_)
      · exact hQ _ _ _ dX7_write_49 ⟨length_3, bytes_3, (by omega), r_bytes_3, (by first | assumption | omega), (by rw [w3_2, show (length_3 - v_length).toNat = 4 by omega]), rfl⟩
      · refine g_aload_n X dX7_write_7 0 rfl ?_
        refine gX7_get X 0 rfl 2 (by decide) uw135 rfl dX7_write_8 ?_
        refine g_sipush X (z := 260) dX7_write_11 (by decide) ?_
        refine g_icmp_ge X (tgt := 49) dX7_write_14 (by decide) (by omega) (by omega) (fun c14 => ?_) (fun c14 => ?_)
        · exact hQ _ _ _ dX7_write_49 ⟨length_3, bytes_3, (by omega), r_bytes_3, (by first | assumption | omega), (by rw [w3_2, show (length_3 - v_length).toNat = 4 by omega]), rfl⟩
        · refine g_aload_n X dX7_write_17 0 rfl ?_
          refine gX7_get X 0 rfl 0 (by decide) uw133 rfl dX7_write_18 ?_
          refine g_aload_n X dX7_write_21 0 rfl ?_
          refine gX7_get X 0 rfl 2 (by decide) uw135 rfl dX7_write_22 ?_
          refine g_iload_n X dX7_write_25 1 rfl ?_
          refine g_iload_n X dX7_write_26 2 rfl ?_
          refine g_iushr X dX7_write_27 ?_
          refine g_nm (fun t27 e27 => ?_)
          have r27 : IR t27 := by rw [e27]; exact z_ir _
          refine g_sipush X (z := 255) dX7_write_28 (by decide) ?_
          refine g_iand X dX7_write_31 ?_
          refine g_nm (fun t31 e31 => ?_)
          have r31 := z_iand_r t27 255 (by omega) (by omega); rw [← e31] at r31
          refine g_iast X 1 0 rfl rfl (by omega) (by decide) dX7_write_32 (fun bytes_32 e32 => ?_)
          have r_bytes_32 : RA 0 255 bytes_32 := by rw [e32]; exact RA_up r_bytes_3 (by omega)
          refine g_ws (ws2 := (wX7 cI cB cJ h q length_3 v_end v_at v_fault v_faultAt bytes_32 v_taken)) rfl ?_
          refine g_aload_n X dX7_write_33 0 rfl ?_
          refine g_dup X rfl dX7_write_34 ?_
          refine gX7_get X 0 rfl 2 (by decide) uw135 rfl dX7_write_35 ?_
          refine g_iconst X dX7_write_38 ?_
          refine g_iadd X dX7_write_39 ?_
          refine gX7_put X 0 rfl 2 (by decide) uw135 rfl rfl rfl (Nat.le_of_ble_eq_true rfl) dX7_write_40 (ws2 := (wX7 cI cB cJ h q (length_3 + 1) v_end v_at v_fault v_faultAt bytes_32 v_taken)) rfl ?_
          refine g_iinc X (lv' := [(2, vI (x2_3 + (-8))), (0, .ref h), (1, vI p0)]) dX7_write_43 2 rfl (by decide) rfl ?_
          refine g_goto X (tgt := 3) dX7_write_46 (by decide) ?_
          refine g_lv [1, 2, 0] rfl ?_
          exact ih3 (x2_3 + (-8)) (length_3 + 1) bytes_32 (by omega) r_bytes_32 (by first | assumption | omega) (by first | assumption | omega) (by first | assumption | (rw [Int.sub_self]; rfl) | (rw [e32, w3_2]; exact wr_st (k := length_3 - v_length) (by omega) (by omega) (by omega) (by rw [e31, e27]; unfold bt; rw [show (24 : Int) - 8 * (((length_3 - v_length).toNat : Nat) : Int) = x2_3 by omega]))) (by omega)
  refine g_lv [1, 2, 0] rfl ?_
  exact L3 _ 24 v_length v_bytes (by omega) r_v_bytes (by first | assumption | omega) (by first | assumption | omega) (by first | assumption | (rw [Int.sub_self]; rfl) | (rw [e32, w3_2]; exact wr_st (k := length_3 - v_length) (by omega) (by omega) (by omega) (by rw [e31, e27]; unfold bt; rw [show (24 : Int) - 8 * (((length_3 - v_length).toNat : Nat) : Int) = x2_3 by omega]))) (Nat.lt_succ_self _)
set_option maxHeartbeats 600000 in
set_option maxRecDepth 100000 in
theorem c_X7_empty (l : Launch) (D : va_G) (cI cB cJ : ClassId) (h : Nat) (q : Nat → Nat) {v_length v_end v_at v_fault v_faultAt : Int} {v_bytes v_taken : Nat → Int} (kr_v_length : 0 ≤ v_length ∧ v_length ≤ 260) : CtV l yX7_empty cX7_empty 1 none ⟨0, 0, 0, 0⟩ D (TY cI cB cJ) (wX7 cI cB cJ h q v_length v_end v_at v_fault v_faultAt v_bytes v_taken) [.ref h] (fun ws' => ∃ n_length : Int, (0 ≤ n_length ∧ n_length ≤ 260) ∧ (n_length = 0) ∧ (ws' = (wX7 cI cB cJ h q n_length v_end v_at v_fault v_faultAt v_bytes v_taken))) := by
  refine hdrV (own := RX7) rfl (by decide +kernel) (Nat.le_of_ble_eq_true rfl) ?_
  intro p e s m args below meth c Q A X hQ
  refine g_lvE (lv2 := [(0, .ref h)]) rfl ?_
  refine g_aload_n X dX7_empty_0 0 rfl ?_
  refine g_iconst X dX7_empty_1 ?_
  refine gX7_put X 0 rfl 2 (by decide) uw135 rfl rfl rfl (Nat.le_of_ble_eq_true rfl) dX7_empty_2 (ws2 := (wX7 cI cB cJ h q 0 v_end v_at v_fault v_faultAt v_bytes v_taken)) rfl ?_
  exact hQ _ _ _ dX7_empty_5 ⟨0, (by omega), (by first | assumption | omega), rfl⟩
set_option maxHeartbeats 600000 in
set_option maxRecDepth 100000 in
theorem c_X7_isDigit (l : Launch) (D : va_G) (cI cB cJ : ClassId) {p0 : Int} (hp0 : IR p0) : CtI l yX7_isDigit cX7_isDigit 1 (some .boolean) ⟨0, 0, 0, 0⟩ D (TY cI cB cJ) [] [vI p0] (fun z ws' => (z = 0 ∨ z = 1) ∧ ((z = 1 ∧ 48 ≤ p0 ∧ p0 ≤ 57) ∨ (z = 0 ∧ ¬ (48 ≤ p0 ∧ p0 ≤ 57))) ∧ (ws' = [])) := by
  refine hdrZ (own := RX7) rfl (by decide +kernel) (Nat.le_of_ble_eq_true rfl) ?_
  intro p e s m args below meth c Q A X hQ
  refine g_lvE (lv2 := [(0, vI p0)]) rfl ?_
  refine g_iload_n X dX7_isDigit_0 0 rfl ?_
  refine g_bipush X (z := 48) dX7_isDigit_1 (by decide) ?_
  refine g_icmp_lt X (tgt := 16) dX7_isDigit_3 (by decide) (by omega) (by omega) (fun c3 => ?_) (fun c3 => ?_)
  · refine g_iconst X dX7_isDigit_16 ?_
    exact hQ _ _ _ _ dX7_isDigit_17 ⟨by omega, ⟨(by first | assumption | omega), rfl⟩⟩
  · refine g_iload_n X dX7_isDigit_6 0 rfl ?_
    refine g_bipush X (z := 57) dX7_isDigit_7 (by decide) ?_
    refine g_icmp_gt X (tgt := 16) dX7_isDigit_9 (by decide) (by omega) (by omega) (fun c9 => ?_) (fun c9 => ?_)
    · refine g_iconst X dX7_isDigit_16 ?_
      exact hQ _ _ _ _ dX7_isDigit_17 ⟨by omega, ⟨(by first | assumption | omega), rfl⟩⟩
    · refine g_iconst X dX7_isDigit_12 ?_
      refine g_goto X (tgt := 17) dX7_isDigit_13 (by decide) ?_
      exact hQ _ _ _ _ dX7_isDigit_17 ⟨by omega, ⟨(by first | assumption | omega), rfl⟩⟩
set_option maxHeartbeats 600000 in
set_option maxRecDepth 100000 in
theorem c_X7_take (l : Launch) (D : va_G) (cI cB cJ : ClassId) (h : Nat) (q : Nat → Nat) {v_length v_end v_at v_fault v_faultAt : Int} {v_bytes v_taken : Nat → Int} {p0 : Int} (kr_v_length : 0 ≤ v_length ∧ v_length ≤ 260) (r_v_bytes : RA 0 255 v_bytes) (r_v_taken : RA (-2147483648) 2147483647 v_taken) (hp0 : IR p0) (hp1 : p0 ≤ 20) : CtR l yX7_take cX7_take 3 (some (.array .int)) ⟨1, 0, 0, 20⟩ D (TY cI cB cJ) (wX7 cI cB cJ h q v_length v_end v_at v_fault v_faultAt v_bytes v_taken) [.ref h, vI p0] (fun z ws' => z = q 1 ∧ ∃ n_length : Int, ∃ n_taken : Nat → Int, (0 ≤ n_length ∧ n_length ≤ 260) ∧ (RA (-2147483648) 2147483647 n_taken) ∧ (∀ j : Nat, (j : Int) < p0 → 0 ≤ n_taken j ∧ n_taken j ≤ 255) ∧ (n_length = 0) ∧ (∀ j : Nat, (j : Int) < p0 → n_taken j = v_bytes j) ∧ (ws' = (wX7 cI cB cJ h q n_length v_end v_at v_fault v_faultAt v_bytes n_taken))) := by
  refine hdrR (own := RX7) rfl (by decide +kernel) (Nat.le_of_ble_eq_true rfl) ?_
  intro p e s m args below meth c Q A X hQ
  refine g_lvE (lv2 := [(0, .ref h), (1, vI p0)]) rfl ?_
  refine g_iconst X dX7_take_0 ?_
  refine g_istore_n X (lv' := [(2, vI 0), (0, .ref h), (1, vI p0)]) dX7_take_1 (by decide) rfl ?_
  have L2 : ∀ (n : Nat) (x2_2 : Int) (taken_2 : Nat → Int), (RA (-2147483648) 2147483647 taken_2) → (0 ≤ x2_2 ∧ x2_2 ≤ 20) → (∀ j : Nat, (j : Int) < x2_2 → 0 ≤ taken_2 j ∧ taken_2 j ≤ 255) → (∀ j : Nat, (j : Int) < x2_2 → taken_2 j = v_bytes j) → (20 - x2_2).toNat < n → GG p l e ⟨1, 0, 0, 20⟩ s m args below meth c 0 0 Q D A s.heap 3 (wX7 cI cB cJ h q v_length v_end v_at v_fault v_faultAt v_bytes taken_2) 2 [(0, .ref h), (1, vI p0), (2, vI x2_2)] [] := by
    intro n
    induction n with
    | zero => intros; exfalso; omega
    | succ n ih2 =>
      intro x2_2 taken_2 r_taken_2 w2_0 w2_1 w2_2 wm2
      refine g_iload_n X dX7_take_2 2 rfl ?_
      refine g_iload_n X dX7_take_3 1 rfl ?_
      refine g_icmp_ge X (tgt := 34) dX7_take_4 (by decide) (by omega) (by omega) (fun c4 => ?_) (fun c4 => ?_)
      · refine g_aload_n X dX7_take_34 0 rfl ?_
        refine g_callVV0 X (c_X7_empty l D cI cB cJ h q  (by omega)) cv_X7_empty uw873 ⟨rfl, rfl, by decide, by decide⟩ 0 rfl rfl rfl rfl rfl (Nat.le_of_ble_eq_true rfl) ⟨Nat.zero_le _, Nat.zero_le _⟩ dX7_take_35 (fun ws35 k35 => ?_)
        obtain ⟨length_35, kr_length_35, kp0_35, rfl⟩ := k35
        refine g_aload_n X dX7_take_38 0 rfl ?_
        refine gX7_get X 0 rfl 1 (by decide) uw134 rfl dX7_take_39 ?_
        exact hQ _ _ _ _ dX7_take_42 ⟨rfl, ⟨length_35, taken_2, (by omega), r_taken_2, (by intro j hj; exact w2_1 j (by omega)), (by first | assumption | omega), (by intro j hj; exact w2_2 j (by omega)), rfl⟩⟩
      · refine g_iload_n X dX7_take_7 2 rfl ?_
        refine g_aload_n X dX7_take_8 0 rfl ?_
        refine gX7_get X 0 rfl 1 (by decide) uw134 rfl dX7_take_9 ?_
        refine g_alen X 2 0 rfl rfl (z := 20) rfl dX7_take_12 ?_
        refine g_icmp_ge X (tgt := 34) dX7_take_13 (by decide) (by omega) (by omega) (fun c13 => ?_) (fun c13 => ?_)
        · refine g_aload_n X dX7_take_34 0 rfl ?_
          refine g_callVV0 X (c_X7_empty l D cI cB cJ h q  (by omega)) cv_X7_empty uw873 ⟨rfl, rfl, by decide, by decide⟩ 0 rfl rfl rfl rfl rfl (Nat.le_of_ble_eq_true rfl) ⟨Nat.zero_le _, Nat.zero_le _⟩ dX7_take_35 (fun ws35 k35 => ?_)
          obtain ⟨length_35, kr_length_35, kp0_35, rfl⟩ := k35
          refine g_aload_n X dX7_take_38 0 rfl ?_
          refine gX7_get X 0 rfl 1 (by decide) uw134 rfl dX7_take_39 ?_
          exact hQ _ _ _ _ dX7_take_42 ⟨rfl, ⟨length_35, taken_2, (by omega), r_taken_2, (by intro j hj; exact w2_1 j (by omega)), (by first | assumption | omega), (by intro j hj; exact w2_2 j (by omega)), rfl⟩⟩
        · refine g_aload_n X dX7_take_16 0 rfl ?_
          refine gX7_get X 0 rfl 1 (by decide) uw134 rfl dX7_take_17 ?_
          refine g_iload_n X dX7_take_20 2 rfl ?_
          refine g_aload_n X dX7_take_21 0 rfl ?_
          refine gX7_get X 0 rfl 0 (by decide) uw133 rfl dX7_take_22 ?_
          refine g_iload_n X dX7_take_25 2 rfl ?_
          refine g_iald X 1 0 rfl rfl (by omega) (by decide) dX7_take_26 (fun t26 e26 => ?_)
          have r26 := r_v_bytes (x2_2 : Int).toNat; rw [← e26] at r26
          refine g_iast X 2 0 rfl rfl (by omega) (by decide) dX7_take_27 (fun taken_27 e27 => ?_)
          have r_taken_27 : RA (-2147483648) 2147483647 taken_27 := by rw [e27]; exact RA_up r_taken_2 (by omega)
          refine g_ws (ws2 := (wX7 cI cB cJ h q v_length v_end v_at v_fault v_faultAt v_bytes taken_27)) rfl ?_
          refine g_iinc X (lv' := [(2, vI (x2_2 + 1)), (0, .ref h), (1, vI p0)]) dX7_take_28 2 rfl (by decide) rfl ?_
          refine g_goto X (tgt := 2) dX7_take_31 (by decide) ?_
          refine g_lv [1, 2, 0] rfl ?_
          exact ih2 (x2_2 + 1) taken_27 r_taken_27 (by first | assumption | omega) (by intro j hj; first | (exfalso; omega) | (rw [e27]; exact if hq : j = (x2_2).toNat then by (rw [hq, updZ_s]; omega) else by (rw [updZ_n _ _ hq]; exact w2_1 j (by omega)))) (by intro j hj; first | (exfalso; omega) | (rw [e27]; exact if hq : j = (x2_2).toNat then by (rw [hq, updZ_s]; exact e26) else by (rw [updZ_n _ _ hq]; exact w2_2 j (by omega)))) (by omega)
  refine g_lv [1, 2, 0] rfl ?_
  exact L2 _ 0 v_taken r_v_taken (by first | assumption | omega) (by intro j hj; first | (exfalso; omega) | (rw [e27]; exact if hq : j = (x2_2).toNat then by (rw [hq, updZ_s]; omega) else by (rw [updZ_n _ _ hq]; exact w2_1 j (by omega)))) (by intro j hj; first | (exfalso; omega) | (rw [e27]; exact if hq : j = (x2_2).toNat then by (rw [hq, updZ_s]; exact e26) else by (rw [updZ_n _ _ hq]; exact w2_2 j (by omega)))) (Nat.lt_succ_self _)
set_option maxHeartbeats 600000 in
set_option maxRecDepth 100000 in
theorem c_X7_takeDoubles (l : Launch) (D : va_G) (cI cB cJ : ClassId) (h : Nat) (q : Nat → Nat) {v_length v_end v_at v_fault v_faultAt : Int} {v_bytes v_taken : Nat → Int} {p0 : Int} (kr_v_length : 0 ≤ v_length ∧ v_length ≤ 260) (r_v_bytes : RA 0 255 v_bytes) (r_v_taken : RA (-2147483648) 2147483647 v_taken) (hp0 : IR p0) (hp1 : p0 ≤ 20) : CtR l yX7_takeDoubles cX7_takeDoubles 3 (some (.array .int)) ⟨1, 0, 0, 20⟩ D (TY cI cB cJ) (wX7 cI cB cJ h q v_length v_end v_at v_fault v_faultAt v_bytes v_taken) [.ref h, vI p0] (fun z ws' => z = q 1 ∧ ∃ n_length : Int, ∃ n_taken : Nat → Int, (0 ≤ n_length ∧ n_length ≤ 260) ∧ (RA (-2147483648) 2147483647 n_taken) ∧ (n_length = 0) ∧ (∀ j : Nat, (j : Int) < p0 → n_taken j = dbl v_bytes j) ∧ (ws' = (wX7 cI cB cJ h q n_length v_end v_at v_fault v_faultAt v_bytes n_taken))) := by
  refine hdrR (own := RX7) rfl (by decide +kernel) (Nat.le_of_ble_eq_true rfl) ?_
  intro p e s m args below meth c Q A X hQ
  refine g_lvE (lv2 := [(0, .ref h), (1, vI p0)]) rfl ?_
  refine g_iconst X dX7_takeDoubles_0 ?_
  refine g_istore_n X (lv' := [(2, vI 0), (0, .ref h), (1, vI p0)]) dX7_takeDoubles_1 (by decide) rfl ?_
  have L2 : ∀ (n : Nat) (x2_2 : Int) (taken_2 : Nat → Int), (RA (-2147483648) 2147483647 taken_2) → (0 ≤ x2_2 ∧ x2_2 ≤ 20) → (∀ j : Nat, (j : Int) < x2_2 → taken_2 j = dbl v_bytes j) → (20 - x2_2).toNat < n → GG p l e ⟨1, 0, 0, 20⟩ s m args below meth c 0 0 Q D A s.heap 3 (wX7 cI cB cJ h q v_length v_end v_at v_fault v_faultAt v_bytes taken_2) 2 [(0, .ref h), (1, vI p0), (2, vI x2_2)] [] := by
    intro n
    induction n with
    | zero => intros; exfalso; omega
    | succ n ih2 =>
      intro x2_2 taken_2 r_taken_2 w2_0 w2_1 wm2
      refine g_iload_n X dX7_takeDoubles_2 2 rfl ?_
      refine g_iload_n X dX7_takeDoubles_3 1 rfl ?_
      refine g_icmp_ge X (tgt := 50) dX7_takeDoubles_4 (by decide) (by omega) (by omega) (fun c4 => ?_) (fun c4 => ?_)
      · refine g_aload_n X dX7_takeDoubles_50 0 rfl ?_
        refine g_callVV0 X (c_X7_empty l D cI cB cJ h q  (by omega)) cv_X7_empty uw873 ⟨rfl, rfl, by decide, by decide⟩ 0 rfl rfl rfl rfl rfl (Nat.le_of_ble_eq_true rfl) ⟨Nat.zero_le _, Nat.zero_le _⟩ dX7_takeDoubles_51 (fun ws51 k51 => ?_)
        obtain ⟨length_51, kr_length_51, kp0_51, rfl⟩ := k51
        refine g_aload_n X dX7_takeDoubles_54 0 rfl ?_
        refine gX7_get X 0 rfl 1 (by decide) uw134 rfl dX7_takeDoubles_55 ?_
        exact hQ _ _ _ _ dX7_takeDoubles_58 ⟨rfl, ⟨length_51, taken_2, (by omega), r_taken_2, (by first | assumption | omega), (by intro j hj; exact w2_1 j (by omega)), rfl⟩⟩
      · refine g_iload_n X dX7_takeDoubles_7 2 rfl ?_
        refine g_aload_n X dX7_takeDoubles_8 0 rfl ?_
        refine gX7_get X 0 rfl 1 (by decide) uw134 rfl dX7_takeDoubles_9 ?_
        refine g_alen X 2 0 rfl rfl (z := 20) rfl dX7_takeDoubles_12 ?_
        refine g_icmp_ge X (tgt := 50) dX7_takeDoubles_13 (by decide) (by omega) (by omega) (fun c13 => ?_) (fun c13 => ?_)
        · refine g_aload_n X dX7_takeDoubles_50 0 rfl ?_
          refine g_callVV0 X (c_X7_empty l D cI cB cJ h q  (by omega)) cv_X7_empty uw873 ⟨rfl, rfl, by decide, by decide⟩ 0 rfl rfl rfl rfl rfl (Nat.le_of_ble_eq_true rfl) ⟨Nat.zero_le _, Nat.zero_le _⟩ dX7_takeDoubles_51 (fun ws51 k51 => ?_)
          obtain ⟨length_51, kr_length_51, kp0_51, rfl⟩ := k51
          refine g_aload_n X dX7_takeDoubles_54 0 rfl ?_
          refine gX7_get X 0 rfl 1 (by decide) uw134 rfl dX7_takeDoubles_55 ?_
          exact hQ _ _ _ _ dX7_takeDoubles_58 ⟨rfl, ⟨length_51, taken_2, (by omega), r_taken_2, (by first | assumption | omega), (by intro j hj; exact w2_1 j (by omega)), rfl⟩⟩
        · refine g_aload_n X dX7_takeDoubles_16 0 rfl ?_
          refine gX7_get X 0 rfl 1 (by decide) uw134 rfl dX7_takeDoubles_17 ?_
          refine g_iload_n X dX7_takeDoubles_20 2 rfl ?_
          refine g_aload_n X dX7_takeDoubles_21 0 rfl ?_
          refine gX7_get X 0 rfl 0 (by decide) uw133 rfl dX7_takeDoubles_22 ?_
          refine g_iconst X dX7_takeDoubles_25 ?_
          refine g_iload_n X dX7_takeDoubles_26 2 rfl ?_
          refine g_imul X dX7_takeDoubles_27 ?_
          refine g_iald X 1 0 rfl rfl (by omega) (by decide) dX7_takeDoubles_28 (fun t28 e28 => ?_)
          have r28 := r_v_bytes (2 * x2_2 : Int).toNat; rw [← e28] at r28
          refine g_bipush X (z := 8) dX7_takeDoubles_29 (by decide) ?_
          refine g_ishl X dX7_takeDoubles_31 ?_
          refine g_nm (fun t31 e31 => ?_)
          have r31 : IR t31 := by rw [e31]; exact z_ir _
          refine g_aload_n X dX7_takeDoubles_32 0 rfl ?_
          refine gX7_get X 0 rfl 0 (by decide) uw133 rfl dX7_takeDoubles_33 ?_
          refine g_iconst X dX7_takeDoubles_36 ?_
          refine g_iload_n X dX7_takeDoubles_37 2 rfl ?_
          refine g_imul X dX7_takeDoubles_38 ?_
          refine g_iconst X dX7_takeDoubles_39 ?_
          refine g_iadd X dX7_takeDoubles_40 ?_
          refine g_iald X 1 0 rfl rfl (by omega) (by decide) dX7_takeDoubles_41 (fun t41 e41 => ?_)
          have r41 := r_v_bytes ((2 * x2_2) + 1 : Int).toNat; rw [← e41] at r41
          refine g_ior X dX7_takeDoubles_42 ?_
          refine g_nm (fun t42 e42 => ?_)
          have r42 : IR t42 := by rw [e42]; exact z_ir _
          refine g_iast X 2 0 rfl rfl (by omega) (by decide) dX7_takeDoubles_43 (fun taken_43 e43 => ?_)
          have r_taken_43 : RA (-2147483648) 2147483647 taken_43 := by rw [e43]; exact RA_up r_taken_2 (by omega)
          refine g_ws (ws2 := (wX7 cI cB cJ h q v_length v_end v_at v_fault v_faultAt v_bytes taken_43)) rfl ?_
          refine g_iinc X (lv' := [(2, vI (x2_2 + 1)), (0, .ref h), (1, vI p0)]) dX7_takeDoubles_44 2 rfl (by decide) rfl ?_
          refine g_goto X (tgt := 2) dX7_takeDoubles_47 (by decide) ?_
          refine g_lv [1, 2, 0] rfl ?_
          exact ih2 (x2_2 + 1) taken_43 r_taken_43 (by first | assumption | omega) (by intro j hj; first | (exfalso; omega) | (rw [e43]; exact if hq : j = (x2_2).toNat then by (rw [hq, updZ_s, dbl_e (by omega), ← e28, ← e41, e42, e31]; exact z_dbl (by omega) (by omega)) else by (rw [updZ_n _ _ hq]; exact w2_1 j (by omega)))) (by omega)
  refine g_lv [1, 2, 0] rfl ?_
  exact L2 _ 0 v_taken r_v_taken (by first | assumption | omega) (by intro j hj; first | (exfalso; omega) | (rw [e43]; exact if hq : j = (x2_2).toNat then by (rw [hq, updZ_s, dbl_e (by omega), ← e28, ← e41, e42, e31]; exact z_dbl (by omega) (by omega)) else by (rw [updZ_n _ _ hq]; exact w2_1 j (by omega)))) (Nat.lt_succ_self _)
set_option maxHeartbeats 600000 in
set_option maxRecDepth 100000 in
theorem c_X7_begin (l : Launch) (D : va_G) (cI cB cJ : ClassId) (h : Nat) (q : Nat → Nat) {v_length v_end v_at v_fault v_faultAt : Int} {v_bytes v_taken : Nat → Int} {p0 : Int} (kr_v_length : 0 ≤ v_length ∧ v_length ≤ 260) (kr_v_end : 0 ≤ v_end ∧ v_end ≤ 260) (kr_v_at : 0 ≤ v_at ∧ v_at ≤ 260) (kr_v_fault : 0 ≤ v_fault ∧ v_fault ≤ 8) (kr_v_faultAt : 0 ≤ v_faultAt ∧ v_faultAt ≤ 260) (hp0 : IR p0) (hp1 : 0 ≤ p0 ∧ p0 ≤ 260) : CtV l yX7_begin cX7_begin 2 none ⟨1, 0, 0, 40⟩ D (TY cI cB cJ) (wX7 cI cB cJ h q v_length v_end v_at v_fault v_faultAt v_bytes v_taken) [.ref h, vI p0] (fun ws' => ∃ n_end : Int, ∃ n_at : Int, ∃ n_fault : Int, ∃ n_faultAt : Int, (0 ≤ n_end ∧ n_end ≤ 260) ∧ (0 ≤ n_at ∧ n_at ≤ 260) ∧ (0 ≤ n_fault ∧ n_fault ≤ 8) ∧ (0 ≤ n_faultAt ∧ n_faultAt ≤ 260) ∧ (n_at = 0) ∧ (n_fault = 0) ∧ (n_end ≤ p0) ∧ (n_faultAt = 0) ∧ (p0 ≤ v_length → n_end = p0) ∧ (ws' = (wX7 cI cB cJ h q v_length n_end n_at n_fault n_faultAt v_bytes v_taken))) := by
  refine hdrV (own := RX7) rfl (by decide +kernel) (Nat.le_of_ble_eq_true rfl) ?_
  intro p e s m args below meth c Q A X hQ
  refine g_lvE (lv2 := [(0, .ref h), (1, vI p0)]) rfl ?_
  refine g_aload_n X dX7_begin_0 0 rfl ?_
  refine g_iload_n X dX7_begin_1 1 rfl ?_
  refine g_aload_n X dX7_begin_2 0 rfl ?_
  refine gX7_get X 0 rfl 2 (by decide) uw135 rfl dX7_begin_3 ?_
  refine g_mmin X uw492 uw398 uw111 uw399 ⟨by decide, Nat.le_of_ble_eq_true rfl⟩ ⟨Nat.zero_le _, Nat.zero_le _⟩ (by omega) (by omega) dX7_begin_6 (fun t6 k6 => ?_)
  refine gX7_put X 0 rfl 3 (by decide) uw137 rfl rfl rfl (Nat.le_of_ble_eq_true rfl) dX7_begin_9 (ws2 := (wX7 cI cB cJ h q v_length t6 v_at v_fault v_faultAt v_bytes v_taken)) rfl ?_
  refine g_aload_n X dX7_begin_12 0 rfl ?_
  refine g_iconst X dX7_begin_13 ?_
  refine gX7_put X 0 rfl 4 (by decide) uw138 rfl rfl rfl (Nat.le_of_ble_eq_true rfl) dX7_begin_14 (ws2 := (wX7 cI cB cJ h q v_length t6 0 v_fault v_faultAt v_bytes v_taken)) rfl ?_
  refine g_aload_n X dX7_begin_17 0 rfl ?_
  refine g_iconst X dX7_begin_18 ?_
  refine gX7_put X 0 rfl 5 (by decide) uw142 rfl rfl rfl (Nat.le_of_ble_eq_true rfl) dX7_begin_19 (ws2 := (wX7 cI cB cJ h q v_length t6 0 0 v_faultAt v_bytes v_taken)) rfl ?_
  refine g_aload_n X dX7_begin_22 0 rfl ?_
  refine g_iconst X dX7_begin_23 ?_
  refine gX7_put X 0 rfl 6 (by decide) uw143 rfl rfl rfl (Nat.le_of_ble_eq_true rfl) dX7_begin_24 (ws2 := (wX7 cI cB cJ h q v_length t6 0 0 0 v_bytes v_taken)) rfl ?_
  exact hQ _ _ _ dX7_begin_27 ⟨t6, 0, 0, 0, (by omega), (by omega), (by omega), (by omega), (by first | assumption | omega), (by first | assumption | omega), (by first | assumption | omega), (by first | assumption | omega), (by first | assumption | omega), rfl⟩
set_option maxHeartbeats 600000 in
set_option maxRecDepth 100000 in
theorem c_X7_sign (l : Launch) (D : va_G) (cI cB cJ : ClassId) (h : Nat) (q : Nat → Nat) {v_length v_end v_at v_fault v_faultAt : Int} {v_bytes v_taken : Nat → Int} (kr_v_end : 0 ≤ v_end ∧ v_end ≤ 260) (kr_v_at : 0 ≤ v_at ∧ v_at ≤ 260) (kr_v_fault : 0 ≤ v_fault ∧ v_fault ≤ 8) (r_v_bytes : RA 0 255 v_bytes) : CtI l yX7_sign cX7_sign 1 (some .int) ⟨0, 0, 0, 0⟩ D (TY cI cB cJ) (wX7 cI cB cJ h q v_length v_end v_at v_fault v_faultAt v_bytes v_taken) [.ref h] (fun z ws' => (z = signZ v_fault v_at v_end v_bytes) ∧ (-1 ≤ z ∧ z ≤ 255) ∧ (0 ≤ z → v_fault = 0 ∧ v_at < v_end) ∧ (ws' = (wX7 cI cB cJ h q v_length v_end v_at v_fault v_faultAt v_bytes v_taken))) := by
  refine hdrI (own := RX7) rfl (by decide +kernel) (Nat.le_of_ble_eq_true rfl) ?_
  intro p e s m args below meth c Q A X hQ
  refine g_lvE (lv2 := [(0, .ref h)]) rfl ?_
  refine g_aload_n X dX7_sign_0 0 rfl ?_
  refine gX7_get X 0 rfl 5 (by decide) uw142 rfl dX7_sign_1 ?_
  refine g_if_ne X (tgt := 18) dX7_sign_4 (by decide) (by omega) (fun c4 => ?_) (fun c4 => ?_)
  · refine g_iconst X dX7_sign_18 ?_
    refine g_goto X (tgt := 31) dX7_sign_19 (by decide) ?_
    have hr : (-1) = signZ v_fault v_at v_end v_bytes := by unfold signZ; first | rw [if_pos (by omega)] | (rw [if_neg (by omega)]; simp only [e30])
    exact hQ _ _ _ _ dX7_sign_31 ⟨(by first | assumption | omega), (by first | assumption | omega), (by first | assumption | omega), rfl⟩
  · refine g_aload_n X dX7_sign_7 0 rfl ?_
    refine gX7_get X 0 rfl 4 (by decide) uw138 rfl dX7_sign_8 ?_
    refine g_aload_n X dX7_sign_11 0 rfl ?_
    refine gX7_get X 0 rfl 3 (by decide) uw137 rfl dX7_sign_12 ?_
    refine g_icmp_lt X (tgt := 22) dX7_sign_15 (by decide) (by omega) (by omega) (fun c15 => ?_) (fun c15 => ?_)
    · refine g_aload_n X dX7_sign_22 0 rfl ?_
      refine gX7_get X 0 rfl 0 (by decide) uw133 rfl dX7_sign_23 ?_
      refine g_aload_n X dX7_sign_26 0 rfl ?_
      refine gX7_get X 0 rfl 4 (by decide) uw138 rfl dX7_sign_27 ?_
      refine g_iald X 1 0 rfl rfl (by omega) (by decide) dX7_sign_30 (fun t30 e30 => ?_)
      have r30 := r_v_bytes (v_at : Int).toNat; rw [← e30] at r30
      have hr : t30 = signZ v_fault v_at v_end v_bytes := by unfold signZ; first | rw [if_pos (by omega)] | (rw [if_neg (by omega)]; simp only [e30])
      exact hQ _ _ _ _ dX7_sign_31 ⟨(by first | assumption | omega), (by first | assumption | omega), (by first | assumption | omega), rfl⟩
    · refine g_iconst X dX7_sign_18 ?_
      refine g_goto X (tgt := 31) dX7_sign_19 (by decide) ?_
      have hr : (-1) = signZ v_fault v_at v_end v_bytes := by unfold signZ; first | rw [if_pos (by omega)] | (rw [if_neg (by omega)]; simp only [e30])
      exact hQ _ _ _ _ dX7_sign_31 ⟨(by first | assumption | omega), (by first | assumption | omega), (by first | assumption | omega), rfl⟩
set_option maxHeartbeats 600000 in
set_option maxRecDepth 100000 in
theorem c_X7_isOver (l : Launch) (D : va_G) (cI cB cJ : ClassId) (h : Nat) (q : Nat → Nat) {v_length v_end v_at v_fault v_faultAt : Int} {v_bytes v_taken : Nat → Int} (kr_v_end : 0 ≤ v_end ∧ v_end ≤ 260) (kr_v_at : 0 ≤ v_at ∧ v_at ≤ 260) (kr_v_fault : 0 ≤ v_fault ∧ v_fault ≤ 8) : CtI l yX7_isOver cX7_isOver 1 (some .boolean) ⟨0, 0, 0, 0⟩ D (TY cI cB cJ) (wX7 cI cB cJ h q v_length v_end v_at v_fault v_faultAt v_bytes v_taken) [.ref h] (fun z ws' => (z = 0 ∨ z = 1) ∧ ((z = 1 ∧ (v_fault ≠ 0 ∨ v_end ≤ v_at)) ∨ (z = 0 ∧ v_fault = 0 ∧ v_at < v_end)) ∧ (ws' = (wX7 cI cB cJ h q v_length v_end v_at v_fault v_faultAt v_bytes v_taken))) := by
  refine hdrZ (own := RX7) rfl (by decide +kernel) (Nat.le_of_ble_eq_true rfl) ?_
  intro p e s m args below meth c Q A X hQ
  refine g_lvE (lv2 := [(0, .ref h)]) rfl ?_
  refine g_aload_n X dX7_isOver_0 0 rfl ?_
  refine gX7_get X 0 rfl 5 (by decide) uw142 rfl dX7_isOver_1 ?_
  refine g_if_ne X (tgt := 18) dX7_isOver_4 (by decide) (by omega) (fun c4 => ?_) (fun c4 => ?_)
  · refine g_iconst X dX7_isOver_18 ?_
    refine g_goto X (tgt := 23) dX7_isOver_19 (by decide) ?_
    exact hQ _ _ _ _ dX7_isOver_23 ⟨by omega, ⟨(by first | assumption | omega), rfl⟩⟩
  · refine g_aload_n X dX7_isOver_7 0 rfl ?_
    refine gX7_get X 0 rfl 4 (by decide) uw138 rfl dX7_isOver_8 ?_
    refine g_aload_n X dX7_isOver_11 0 rfl ?_
    refine gX7_get X 0 rfl 3 (by decide) uw137 rfl dX7_isOver_12 ?_
    refine g_icmp_lt X (tgt := 22) dX7_isOver_15 (by decide) (by omega) (by omega) (fun c15 => ?_) (fun c15 => ?_)
    · refine g_iconst X dX7_isOver_22 ?_
      exact hQ _ _ _ _ dX7_isOver_23 ⟨by omega, ⟨(by first | assumption | omega), rfl⟩⟩
    · refine g_iconst X dX7_isOver_18 ?_
      refine g_goto X (tgt := 23) dX7_isOver_19 (by decide) ?_
      exact hQ _ _ _ _ dX7_isOver_23 ⟨by omega, ⟨(by first | assumption | omega), rfl⟩⟩
set_option maxHeartbeats 600000 in
set_option maxRecDepth 100000 in
theorem c_X7_hasFailed (l : Launch) (D : va_G) (cI cB cJ : ClassId) (h : Nat) (q : Nat → Nat) {v_length v_end v_at v_fault v_faultAt : Int} {v_bytes v_taken : Nat → Int} (kr_v_fault : 0 ≤ v_fault ∧ v_fault ≤ 8) : CtI l yX7_hasFailed cX7_hasFailed 1 (some .boolean) ⟨0, 0, 0, 0⟩ D (TY cI cB cJ) (wX7 cI cB cJ h q v_length v_end v_at v_fault v_faultAt v_bytes v_taken) [.ref h] (fun z ws' => (z = 0 ∨ z = 1) ∧ ((z = 1 ∧ v_fault ≠ 0) ∨ (z = 0 ∧ v_fault = 0)) ∧ (ws' = (wX7 cI cB cJ h q v_length v_end v_at v_fault v_faultAt v_bytes v_taken))) := by
  refine hdrZ (own := RX7) rfl (by decide +kernel) (Nat.le_of_ble_eq_true rfl) ?_
  intro p e s m args below meth c Q A X hQ
  refine g_lvE (lv2 := [(0, .ref h)]) rfl ?_
  refine g_aload_n X dX7_hasFailed_0 0 rfl ?_
  refine gX7_get X 0 rfl 5 (by decide) uw142 rfl dX7_hasFailed_1 ?_
  refine g_if_eq X (tgt := 11) dX7_hasFailed_4 (by decide) (by omega) (fun c4 => ?_) (fun c4 => ?_)
  · refine g_iconst X dX7_hasFailed_11 ?_
    exact hQ _ _ _ _ dX7_hasFailed_12 ⟨by omega, ⟨(by first | assumption | omega), rfl⟩⟩
  · refine g_iconst X dX7_hasFailed_7 ?_
    refine g_goto X (tgt := 12) dX7_hasFailed_8 (by decide) ?_
    exact hQ _ _ _ _ dX7_hasFailed_12 ⟨by omega, ⟨(by first | assumption | omega), rfl⟩⟩
set_option maxHeartbeats 600000 in
set_option maxRecDepth 100000 in
theorem c_X7_step (l : Launch) (D : va_G) (cI cB cJ : ClassId) (h : Nat) (q : Nat → Nat) {v_length v_end v_at v_fault v_faultAt : Int} {v_bytes v_taken : Nat → Int} (kr_v_end : 0 ≤ v_end ∧ v_end ≤ 260) (kr_v_at : 0 ≤ v_at ∧ v_at ≤ 260) (kr_v_fault : 0 ≤ v_fault ∧ v_fault ≤ 8) (hp0 : v_at ≤ v_end) : CtV l yX7_step cX7_step 1 none ⟨0, 0, 0, 0⟩ D (TY cI cB cJ) (wX7 cI cB cJ h q v_length v_end v_at v_fault v_faultAt v_bytes v_taken) [.ref h] (fun ws' => ∃ n_at : Int, (0 ≤ n_at ∧ n_at ≤ 260) ∧ (n_at ≤ v_end) ∧ ((v_fault = 0 ∧ v_at < v_end ∧ n_at = v_at + 1) ∨ (n_at = v_at ∧ (v_fault ≠ 0 ∨ v_end ≤ v_at))) ∧ (ws' = (wX7 cI cB cJ h q v_length v_end n_at v_fault v_faultAt v_bytes v_taken))) := by
  refine hdrV (own := RX7) rfl (by decide +kernel) (Nat.le_of_ble_eq_true rfl) ?_
  intro p e s m args below meth c Q A X hQ
  refine g_lvE (lv2 := [(0, .ref h)]) rfl ?_
  refine g_aload_n X dX7_step_0 0 rfl ?_
  refine gX7_get X 0 rfl 5 (by decide) uw142 rfl dX7_step_1 ?_
  refine g_if_ne X (tgt := 28) dX7_step_4 (by decide) (by omega) (fun c4 => ?_) (fun c4 => ?_)
  · exact hQ _ _ _ dX7_step_28 ⟨v_at, (by omega), (by first | assumption | omega), (by first | assumption | omega), rfl⟩
  · refine g_aload_n X dX7_step_7 0 rfl ?_
    refine gX7_get X 0 rfl 4 (by decide) uw138 rfl dX7_step_8 ?_
    refine g_aload_n X dX7_step_11 0 rfl ?_
    refine gX7_get X 0 rfl 3 (by decide) uw137 rfl dX7_step_12 ?_
    refine g_icmp_ge X (tgt := 28) dX7_step_15 (by decide) (by omega) (by omega) (fun c15 => ?_) (fun c15 => ?_)
    · exact hQ _ _ _ dX7_step_28 ⟨v_at, (by omega), (by first | assumption | omega), (by first | assumption | omega), rfl⟩
    · refine g_aload_n X dX7_step_18 0 rfl ?_
      refine g_dup X rfl dX7_step_19 ?_
      refine gX7_get X 0 rfl 4 (by decide) uw138 rfl dX7_step_20 ?_
      refine g_iconst X dX7_step_23 ?_
      refine g_iadd X dX7_step_24 ?_
      refine gX7_put X 0 rfl 4 (by decide) uw138 rfl rfl rfl (Nat.le_of_ble_eq_true rfl) dX7_step_25 (ws2 := (wX7 cI cB cJ h q v_length v_end (v_at + 1) v_fault v_faultAt v_bytes v_taken)) rfl ?_
      exact hQ _ _ _ dX7_step_28 ⟨v_at + 1, (by omega), (by first | assumption | omega), (by first | assumption | omega), rfl⟩
set_option maxHeartbeats 600000 in
set_option maxRecDepth 100000 in
theorem c_X7_fail (l : Launch) (D : va_G) (cI cB cJ : ClassId) (h : Nat) (q : Nat → Nat) {v_length v_end v_at v_fault v_faultAt : Int} {v_bytes v_taken : Nat → Int} {p0 p1 : Int} (kr_v_fault : 0 ≤ v_fault ∧ v_fault ≤ 8) (kr_v_faultAt : 0 ≤ v_faultAt ∧ v_faultAt ≤ 260) (hp0 : IR p0) (hp1 : IR p1) (hp2 : 1 ≤ p0 ∧ p0 ≤ 8) (hp3 : 0 ≤ p1 ∧ p1 ≤ 260) : CtV l yX7_fail cX7_fail 3 none ⟨0, 0, 0, 0⟩ D (TY cI cB cJ) (wX7 cI cB cJ h q v_length v_end v_at v_fault v_faultAt v_bytes v_taken) [.ref h, vI p0, vI p1] (fun ws' => ∃ n_fault : Int, ∃ n_faultAt : Int, (0 ≤ n_fault ∧ n_fault ≤ 8) ∧ (0 ≤ n_faultAt ∧ n_faultAt ≤ 260) ∧ ((v_fault ≠ 0 ∧ n_fault = v_fault) ∨ (v_fault = 0 ∧ n_fault = p0)) ∧ (TG v_fault v_faultAt v_at n_fault n_faultAt v_at (-1000 * p0 - p1) v_at) ∧ (ws' = (wX7 cI cB cJ h q v_length v_end v_at n_fault n_faultAt v_bytes v_taken))) := by
  refine hdrV (own := RX7) rfl (by decide +kernel) (Nat.le_of_ble_eq_true rfl) ?_
  intro p e s m args below meth c Q A X hQ
  refine g_lvE (lv2 := [(0, .ref h), (1, vI p0), (2, vI p1)]) rfl ?_
  refine g_aload_n X dX7_fail_0 0 rfl ?_
  refine gX7_get X 0 rfl 5 (by decide) uw142 rfl dX7_fail_1 ?_
  refine g_if_ne X (tgt := 17) dX7_fail_4 (by decide) (by omega) (fun c4 => ?_) (fun c4 => ?_)
  · exact hQ _ _ _ dX7_fail_17 ⟨v_fault, v_faultAt, (by omega), (by omega), (by first | assumption | omega), (by exact TG.fl (by omega) (by omega) (by omega)), rfl⟩
  · refine g_aload_n X dX7_fail_7 0 rfl ?_
    refine g_iload_n X dX7_fail_8 1 rfl ?_
    refine gX7_put X 0 rfl 5 (by decide) uw142 rfl rfl rfl (Nat.le_of_ble_eq_true rfl) dX7_fail_9 (ws2 := (wX7 cI cB cJ h q v_length v_end v_at p0 v_faultAt v_bytes v_taken)) rfl ?_
    refine g_aload_n X dX7_fail_12 0 rfl ?_
    refine g_iload_n X dX7_fail_13 2 rfl ?_
    refine gX7_put X 0 rfl 6 (by decide) uw143 rfl rfl rfl (Nat.le_of_ble_eq_true rfl) dX7_fail_14 (ws2 := (wX7 cI cB cJ h q v_length v_end v_at p0 p1 v_bytes v_taken)) rfl ?_
    exact hQ _ _ _ dX7_fail_17 ⟨p0, p1, (by omega), (by omega), (by first | assumption | omega), (by exact TG.fl (by omega) (by omega) (by omega)), rfl⟩
set_option maxHeartbeats 600000 in
set_option maxRecDepth 100000 in
theorem c_X7_pass (l : Launch) (D : va_G) (cI cB cJ : ClassId) (h : Nat) (q : Nat → Nat) {v_length v_end v_at v_fault v_faultAt : Int} {v_bytes v_taken : Nat → Int} {p0 : Int} (kr_v_end : 0 ≤ v_end ∧ v_end ≤ 260) (kr_v_at : 0 ≤ v_at ∧ v_at ≤ 260) (kr_v_fault : 0 ≤ v_fault ∧ v_fault ≤ 8) (kr_v_faultAt : 0 ≤ v_faultAt ∧ v_faultAt ≤ 260) (r_v_bytes : RA 0 255 v_bytes) (hp0 : IR p0) (hp1 : v_at ≤ v_end) (hp2 : 0 ≤ p0) : CtV l yX7_pass cX7_pass 2 none ⟨1, 0, 0, 22⟩ D (TY cI cB cJ) (wX7 cI cB cJ h q v_length v_end v_at v_fault v_faultAt v_bytes v_taken) [.ref h, vI p0] (fun ws' => ∃ n_at : Int, ∃ n_fault : Int, ∃ n_faultAt : Int, (0 ≤ n_at ∧ n_at ≤ 260) ∧ (0 ≤ n_fault ∧ n_fault ≤ 8) ∧ (0 ≤ n_faultAt ∧ n_faultAt ≤ 260) ∧ (v_fault ≠ 0 → n_fault ≠ 0) ∧ (v_at ≤ n_at) ∧ (n_at ≤ v_end) ∧ (TG v_fault v_faultAt v_at n_fault n_faultAt n_at (psC (sgP v_end v_bytes) p0 v_at) (v_at + 1)) ∧ (ws' = (wX7 cI cB cJ h q v_length v_end n_at n_fault n_faultAt v_bytes v_taken))) := by
  refine hdrV (own := RX7) rfl (by decide +kernel) (Nat.le_of_ble_eq_true rfl) ?_
  intro p e s m args below meth c Q A X hQ
  refine g_lvE (lv2 := [(0, .ref h), (1, vI p0)]) rfl ?_
  refine g_aload_n X dX7_pass_0 0 rfl ?_
  refine g_callVI0 X (c_X7_sign l D cI cB cJ h q  (by omega) (by omega) (by omega) r_v_bytes) cv_X7_sign uw533 ⟨rfl, rfl, by decide, by decide⟩ 0 rfl rfl rfl rfl rfl (Nat.le_of_ble_eq_true rfl) ⟨Nat.zero_le _, Nat.zero_le _⟩ dX7_pass_1 (fun t1 ws1 k1 => ?_)
  obtain ⟨kp0_1, kp1_1, kp2_1, rfl⟩ := k1
  refine g_iload_n X dX7_pass_4 1 rfl ?_
  refine g_icmp_ne X (tgt := 15) dX7_pass_5 (by decide) (by omega) (by omega) (fun c5 => ?_) (fun c5 => ?_)
  · refine g_aload_n X dX7_pass_15 0 rfl ?_
    refine g_iconst X dX7_pass_16 ?_
    refine g_aload_n X dX7_pass_17 0 rfl ?_
    refine gX7_get X 0 rfl 4 (by decide) uw138 rfl dX7_pass_18 ?_
    refine g_callVV0 X (c_X7_fail l D cI cB cJ h q (p0 := 1) (p1 := v_at) (by omega) (by omega) (by first | assumption | omega) (by first | assumption | omega) (by first | assumption | omega) (by first | assumption | omega)) cv_X7_fail uw535 ⟨rfl, rfl, by decide, by decide⟩ 0 rfl rfl rfl rfl rfl (Nat.le_of_ble_eq_true rfl) ⟨Nat.zero_le _, Nat.zero_le _⟩ dX7_pass_21 (fun ws21 k21 => ?_)
    obtain ⟨fault_21, faultAt_21, kr_fault_21, kr_faultAt_21, kp0_21, kp1_21, rfl⟩ := k21
    have hT : TG v_fault v_faultAt v_at fault_21 faultAt_21 v_at (psC (sgP v_end v_bytes) p0 v_at) (v_at + 1) := by first | exact TG.ps_y (by omega) (by rw [← sgZ_0 (f := v_fault) (by omega)]; omega) (by omega) | exact TG.ps_n kp1_21 (by omega) (fun h => by rw [← sgZ_0 h]; omega)
    exact hQ _ _ _ dX7_pass_24 ⟨v_at, fault_21, faultAt_21, (by omega), (by omega), (by omega), (by first | assumption | omega), (by first | assumption | omega), (by first | assumption | omega), (by exact hT), rfl⟩
  · refine g_aload_n X dX7_pass_8 0 rfl ?_
    refine g_callVV0 X (c_X7_step l D cI cB cJ h q  (by omega) (by omega) (by omega) (by first | assumption | omega)) cv_X7_step uw534 ⟨rfl, rfl, by decide, by decide⟩ 0 rfl rfl rfl rfl rfl (Nat.le_of_ble_eq_true rfl) ⟨Nat.zero_le _, Nat.zero_le _⟩ dX7_pass_9 (fun ws9 k9 => ?_)
    obtain ⟨at_9, kr_at_9, kp0_9, kp1_9, rfl⟩ := k9
    refine g_goto X (tgt := 24) dX7_pass_12 (by decide) ?_
    have hT : TG v_fault v_faultAt v_at v_fault v_faultAt at_9 (psC (sgP v_end v_bytes) p0 v_at) (v_at + 1) := by first | exact TG.ps_y (by omega) (by rw [← sgZ_0 (f := v_fault) (by omega)]; omega) (by omega) | exact TG.ps_n kp1_21 (by omega) (fun h => by rw [← sgZ_0 h]; omega)
    exact hQ _ _ _ dX7_pass_24 ⟨at_9, v_fault, v_faultAt, (by omega), (by omega), (by omega), (by first | assumption | omega), (by first | assumption | omega), (by first | assumption | omega), (by exact hT), rfl⟩
set_option maxHeartbeats 600000 in
set_option maxRecDepth 100000 in
theorem c_X7_oneOf (l : Launch) (D : va_G) (cI cB cJ : ClassId) (h : Nat) (q : Nat → Nat) {v_length v_end v_at v_fault v_faultAt : Int} {v_bytes v_taken : Nat → Int} {p0 p1 : Int} (kr_v_end : 0 ≤ v_end ∧ v_end ≤ 260) (kr_v_at : 0 ≤ v_at ∧ v_at ≤ 260) (kr_v_fault : 0 ≤ v_fault ∧ v_fault ≤ 8) (kr_v_faultAt : 0 ≤ v_faultAt ∧ v_faultAt ≤ 260) (r_v_bytes : RA 0 255 v_bytes) (hp0 : IR p0) (hp1 : IR p1) (hp2 : v_at ≤ v_end) (hp3 : 0 ≤ p0 ∧ p0 ≤ 255) (hp4 : 1 ≤ p1 ∧ p1 ≤ 100) : CtI l yX7_oneOf cX7_oneOf 4 (some .int) ⟨1, 0, 0, 22⟩ D (TY cI cB cJ) (wX7 cI cB cJ h q v_length v_end v_at v_fault v_faultAt v_bytes v_taken) [.ref h, vI p0, vI p1] (fun z ws' => ∃ n_at : Int, ∃ n_fault : Int, ∃ n_faultAt : Int, (0 ≤ n_at ∧ n_at ≤ 260) ∧ (0 ≤ n_fault ∧ n_fault ≤ 8) ∧ (0 ≤ n_faultAt ∧ n_faultAt ≤ 260) ∧ (v_fault ≠ 0 → n_fault ≠ 0) ∧ (n_fault = 0 → 0 ≤ z) ∧ (-1 ≤ z ∧ z < p1) ∧ (v_at ≤ n_at) ∧ (n_at ≤ v_end) ∧ (TG v_fault v_faultAt v_at n_fault n_faultAt n_at (oneC (sgP v_end v_bytes) p0 p1 v_at) (v_at + 1)) ∧ (n_fault = 0 → v_fault = 0 ∧ z = sgP v_end v_bytes v_at - p0) ∧ (ws' = (wX7 cI cB cJ h q v_length v_end n_at n_fault n_faultAt v_bytes v_taken))) := by
  refine hdrI (own := RX7) rfl (by decide +kernel) (Nat.le_of_ble_eq_true rfl) ?_
  intro p e s m args below meth c Q A X hQ
  refine g_lvE (lv2 := [(0, .ref h), (1, vI p0), (2, vI p1)]) rfl ?_
  refine g_aload_n X dX7_oneOf_0 0 rfl ?_
  refine g_callVI0 X (c_X7_sign l D cI cB cJ h q  (by omega) (by omega) (by omega) r_v_bytes) cv_X7_sign uw533 ⟨rfl, rfl, by decide, by decide⟩ 0 rfl rfl rfl rfl rfl (Nat.le_of_ble_eq_true rfl) ⟨Nat.zero_le _, Nat.zero_le _⟩ dX7_oneOf_1 (fun t1 ws1 k1 => ?_)
  obtain ⟨kp0_1, kp1_1, kp2_1, rfl⟩ := k1
  refine g_iload_n X dX7_oneOf_4 1 rfl ?_
  refine g_isub X dX7_oneOf_5 ?_
  refine g_istore_n X (lv' := [(3, vI (t1 - p0)), (0, .ref h), (1, vI p0), (2, vI p1)]) dX7_oneOf_6 (by decide) rfl ?_
  refine g_iload_n X dX7_oneOf_7 0 rfl ?_
  refine g_iconst X dX7_oneOf_8 ?_
  refine g_iload_n X dX7_oneOf_9 3 rfl ?_
  refine g_iconst X dX7_oneOf_10 ?_
  refine g_isub X dX7_oneOf_11 ?_
  refine g_callSNIE X (c_X9_isFrom l D cI cB cJ (p0 := t1 - p0) (p1 := 0) (p2 := p1 - 1) (by first | assumption | omega) (by first | assumption | omega) (by first | assumption | omega)) cv_X9_isFrom nw477 ⟨rfl, rfl, by decide, by decide⟩ rfl rfl (Nat.le_of_ble_eq_true rfl) ⟨Nat.zero_le _, Nat.zero_le _⟩ dX7_oneOf_12 (fun t12 ws12 k12 => ?_)
  obtain ⟨kb_12, ⟨kp0_12, rfl⟩⟩ := k12
  refine g_if_ne X (tgt := 29) dX7_oneOf_15 (by decide) (by omega) (fun c15 => ?_) (fun c15 => ?_)
  · replace kb_12 := kb_12.resolve_left (fun h => c15 h)
    replace kp0_12 := kp0_12.resolve_right (fun h => c15 h.1)
    refine g_aload_n X dX7_oneOf_29 1 rfl ?_
    refine g_callVV0 X (c_X7_step l D cI cB cJ h q  (by omega) (by omega) (by omega) (by first | assumption | omega)) cv_X7_step uw534 ⟨rfl, rfl, by decide, by decide⟩ 0 rfl rfl rfl rfl rfl (Nat.le_of_ble_eq_true rfl) ⟨Nat.zero_le _, Nat.zero_le _⟩ dX7_oneOf_30 (fun ws30 k30 => ?_)
    obtain ⟨at_30, kr_at_30, kp0_30, kp1_30, rfl⟩ := k30
    have hY : v_fault = 0 ∧ signZ v_fault v_at v_end v_bytes = sgP v_end v_bytes v_at := ⟨by omega, sgZ_0 (by omega)⟩
    refine g_iload_n X dX7_oneOf_33 0 rfl ?_
    exact hQ _ _ _ _ dX7_oneOf_34 ⟨at_30, v_fault, v_faultAt, (by omega), (by omega), (by omega), (by first | assumption | omega), (by first | assumption | omega), (by first | assumption | omega), (by first | assumption | omega), (by first | assumption | omega), (by first | exact TG.one_n kp1_24 (by omega) hN | exact TG.one_y hY.1 (by rw [← hY.2]; omega) (by omega)), (by first | exact fun h => ⟨hY.1, by rw [← hY.2]; omega⟩ | exact fun h => absurd (TG.at0 kp1_24 h).2.1 (by omega)), rfl⟩
  · clear kb_12
    replace kp0_12 := (kp0_12.resolve_left (fun h => absurd h.1 (by omega))).2
    have hN : v_fault = 0 → ¬ (p0 ≤ sgP v_end v_bytes v_at ∧ sgP v_end v_bytes v_at < p0 + p1) := fun h => by rw [← sgZ_0 h]; omega
    refine g_aload_n X dX7_oneOf_18 1 rfl ?_
    refine g_iconst X dX7_oneOf_19 ?_
    refine g_aload_n X dX7_oneOf_20 1 rfl ?_
    refine gX7_get X 0 rfl 4 (by decide) uw138 rfl dX7_oneOf_21 ?_
    refine g_callVV0 X (c_X7_fail l D cI cB cJ h q (p0 := 1) (p1 := v_at) (by omega) (by omega) (by first | assumption | omega) (by first | assumption | omega) (by first | assumption | omega) (by first | assumption | omega)) cv_X7_fail uw535 ⟨rfl, rfl, by decide, by decide⟩ 0 rfl rfl rfl rfl rfl (Nat.le_of_ble_eq_true rfl) ⟨Nat.zero_le _, Nat.zero_le _⟩ dX7_oneOf_24 (fun ws24 k24 => ?_)
    obtain ⟨fault_24, faultAt_24, kr_fault_24, kr_faultAt_24, kp0_24, kp1_24, rfl⟩ := k24
    refine g_iconst X dX7_oneOf_27 ?_
    exact hQ _ _ _ _ dX7_oneOf_28 ⟨v_at, fault_24, faultAt_24, (by omega), (by omega), (by omega), (by first | assumption | omega), (by first | assumption | omega), (by first | assumption | omega), (by first | assumption | omega), (by first | assumption | omega), (by first | exact TG.one_n kp1_24 (by omega) hN | exact TG.one_y hY.1 (by rw [← hY.2]; omega) (by omega)), (by first | exact fun h => ⟨hY.1, by rw [← hY.2]; omega⟩ | exact fun h => absurd (TG.at0 kp1_24 h).2.1 (by omega)), rfl⟩
set_option maxHeartbeats 600000 in
set_option maxRecDepth 100000 in
theorem c_X7_number (l : Launch) (D : va_G) (cI cB cJ : ClassId) (h : Nat) (q : Nat → Nat) {v_length v_end v_at v_fault v_faultAt : Int} {v_bytes v_taken : Nat → Int} {p0 : Int} (kr_v_end : 0 ≤ v_end ∧ v_end ≤ 260) (kr_v_at : 0 ≤ v_at ∧ v_at ≤ 260) (kr_v_fault : 0 ≤ v_fault ∧ v_fault ≤ 8) (kr_v_faultAt : 0 ≤ v_faultAt ∧ v_faultAt ≤ 260) (r_v_bytes : RA 0 255 v_bytes) (hp0 : IR p0) (hp1 : p0 = 4 ∨ p0 = 5) (hp2 : v_at ≤ v_end) : CtI l yX7_number cX7_number 4 (some .int) ⟨1, 0, 0, 22⟩ D (TY cI cB cJ) (wX7 cI cB cJ h q v_length v_end v_at v_fault v_faultAt v_bytes v_taken) [.ref h, vI p0] (fun z ws' => ∃ n_at : Int, ∃ n_fault : Int, ∃ n_faultAt : Int, (0 ≤ n_at ∧ n_at ≤ 260) ∧ (0 ≤ n_fault ∧ n_fault ≤ 8) ∧ (0 ≤ n_faultAt ∧ n_faultAt ≤ 260) ∧ (0 ≤ z ∧ z ≤ 99999) ∧ (p0 = 4 → z ≤ 9999) ∧ (v_fault ≠ 0 → n_fault ≠ 0) ∧ (v_at ≤ n_at) ∧ (48 ≤ signZ v_fault v_at v_end v_bytes ∧ signZ v_fault v_at v_end v_bytes ≤ 57 → v_at < n_at) ∧ (n_at ≤ v_end) ∧ (TG v_fault v_faultAt v_at n_fault n_faultAt n_at (aC (sgP v_end v_bytes) p0.toNat v_at) (aQ (sgP v_end v_bytes) p0.toNat v_at)) ∧ (n_fault = 0 → v_fault = 0 ∧ z = aV (sgP v_end v_bytes) p0.toNat v_at) ∧ (ws' = (wX7 cI cB cJ h q v_length v_end n_at n_fault n_faultAt v_bytes v_taken))) := by
  refine hdrI (own := RX7) rfl (by decide +kernel) (Nat.le_of_ble_eq_true rfl) ?_
  intro p e s m args below meth c Q A X hQ
  refine g_lvE (lv2 := [(0, .ref h), (1, vI p0)]) rfl ?_
  refine g_iconst X dX7_number_0 ?_
  refine g_istore_n X (lv' := [(2, vI 0), (0, .ref h), (1, vI p0)]) dX7_number_1 (by decide) rfl ?_
  refine g_aload_n X dX7_number_2 1 rfl ?_
  refine g_callVI0 X (c_X7_sign l D cI cB cJ h q  (by omega) (by omega) (by omega) r_v_bytes) cv_X7_sign uw533 ⟨rfl, rfl, by decide, by decide⟩ 0 rfl rfl rfl rfl rfl (Nat.le_of_ble_eq_true rfl) ⟨Nat.zero_le _, Nat.zero_le _⟩ dX7_number_3 (fun t3 ws3 k3 => ?_)
  obtain ⟨kp0_3, kp1_3, kp2_3, rfl⟩ := k3
  refine g_callSIE X (c_X7_isDigit l D cI cB cJ (p0 := t3) (by first | assumption | omega)) cv_X7_isDigit uw543 ⟨rfl, rfl, by decide, by decide⟩ rfl rfl (Nat.le_of_ble_eq_true rfl) ⟨Nat.zero_le _, Nat.zero_le _⟩ dX7_number_6 (fun t6 ws6 k6 => ?_)
  obtain ⟨kb_6, ⟨kp0_6, rfl⟩⟩ := k6
  refine g_if_ne X (tgt := 21) dX7_number_9 (by decide) (by omega) (fun c9 => ?_) (fun c9 => ?_)
  · replace kb_6 := kb_6.resolve_left (fun h => c9 h)
    replace kp0_6 := kp0_6.resolve_right (fun h => c9 h.1)
    refine g_iconst X dX7_number_21 ?_
    refine g_istore_n X (lv' := [(3, vI 0), (2, vI 0), (0, .ref h), (1, vI p0)]) dX7_number_22 (by decide) rfl ?_
    have L23 : ∀ (n : Nat) (x2_23 : Int) (x3_23 : Int) (at_23 : Int) (fault_23 : Int) (faultAt_23 : Int), (0 ≤ at_23 ∧ at_23 ≤ 260) → (0 ≤ fault_23 ∧ fault_23 ≤ 8) → (0 ≤ faultAt_23 ∧ faultAt_23 ≤ 260) → (NBd p0 x3_23 x2_23) → (v_fault ≠ 0 → fault_23 ≠ 0) → (v_at ≤ at_23) → (at_23 ≤ v_end) → (48 ≤ signZ v_fault v_at v_end v_bytes ∧ signZ v_fault v_at v_end v_bytes ≤ 57 → v_at < at_23 ∨ (x3_23 = 0 ∧ fault_23 = v_fault ∧ at_23 = v_at)) → (NI (sgP v_end v_bytes) p0 v_fault v_faultAt v_at x3_23 x2_23 fault_23 faultAt_23 at_23) → (p0 + 1 - x3_23).toNat < n → GG p l e ⟨1, 0, 0, 22⟩ s m args below meth c 0 0 Q D A s.heap 4 (wX7 cI cB cJ h q v_length v_end at_23 fault_23 faultAt_23 v_bytes v_taken) 23 [(0, .ref h), (1, vI p0), (2, vI x2_23), (3, vI x3_23)] [] := by
      intro n
      induction n with
      | zero => intros; exfalso; omega
      | succ n ih23 =>
        intro x2_23 x3_23 at_23 fault_23 faultAt_23 kr_at_23 kr_fault_23 kr_faultAt_23 w23_0 w23_1 w23_2 w23_3 w23_4 w23_5 wm23
        have hN := NBd.r w23_0
        refine g_iload_n X dX7_number_23 3 rfl ?_
        refine g_iload_n X dX7_number_24 1 rfl ?_
        refine g_icmp_gt X (tgt := 78) dX7_number_25 (by decide) (by omega) (by omega) (fun c25 => ?_) (fun c25 => ?_)
        · refine g_iload_n X dX7_number_78 2 rfl ?_
          have hE := NI.out w23_5 (fun h1 h2 => by rw [← sgZ_0 h1]; omega)
          exact hQ _ _ _ _ dX7_number_79 ⟨at_23, fault_23, faultAt_23, (by omega), (by omega), (by omega), (by first | assumption | omega), (by first | assumption | omega), (by first | assumption | omega), (by first | assumption | omega), (by intro hd; rcases w23_4 hd with h4 | ⟨h5, h6, h7⟩; exact h4; exfalso; first | omega | (rw [h6, h7] at kp0_29; omega)), (by first | assumption | omega), (by exact hE.1), (by exact hE.2), rfl⟩
        · refine g_aload_n X dX7_number_28 0 rfl ?_
          refine g_callVI0 X (c_X7_sign l D cI cB cJ h q  (by omega) (by omega) (by omega) r_v_bytes) cv_X7_sign uw533 ⟨rfl, rfl, by decide, by decide⟩ 0 rfl rfl rfl rfl rfl (Nat.le_of_ble_eq_true rfl) ⟨Nat.zero_le _, Nat.zero_le _⟩ dX7_number_29 (fun t29 ws29 k29 => ?_)
          obtain ⟨kp0_29, kp1_29, kp2_29, rfl⟩ := k29
          refine g_callSIE X (c_X7_isDigit l D cI cB cJ (p0 := t29) (by first | assumption | omega)) cv_X7_isDigit uw543 ⟨rfl, rfl, by decide, by decide⟩ rfl rfl (Nat.le_of_ble_eq_true rfl) ⟨Nat.zero_le _, Nat.zero_le _⟩ dX7_number_32 (fun t32 ws32 k32 => ?_)
          obtain ⟨kb_32, ⟨kp0_32, rfl⟩⟩ := k32
          refine g_if_eq X (tgt := 78) dX7_number_35 (by decide) (by omega) (fun c35 => ?_) (fun c35 => ?_)
          · clear kb_32
            replace kp0_32 := (kp0_32.resolve_left (fun h => absurd h.1 (by omega))).2
            refine g_iload_n X dX7_number_78 2 rfl ?_
            have hE := NI.out w23_5 (fun h1 h2 => by rw [← sgZ_0 h1]; omega)
            exact hQ _ _ _ _ dX7_number_79 ⟨at_23, fault_23, faultAt_23, (by omega), (by omega), (by omega), (by first | assumption | omega), (by first | assumption | omega), (by first | assumption | omega), (by first | assumption | omega), (by intro hd; rcases w23_4 hd with h4 | ⟨h5, h6, h7⟩; exact h4; exfalso; first | omega | (rw [h6, h7] at kp0_29; omega)), (by first | assumption | omega), (by exact hE.1), (by exact hE.2), rfl⟩
          · replace kb_32 := kb_32.resolve_left (fun h => c35 h)
            replace kp0_32 := kp0_32.resolve_right (fun h => c35 h.1)
            refine g_iload_n X dX7_number_38 3 rfl ?_
            refine g_iload_n X dX7_number_39 1 rfl ?_
            refine g_icmp_ne X (tgt := 55) dX7_number_40 (by decide) (by omega) (by omega) (fun c40 => ?_) (fun c40 => ?_)
            · refine g_iload_n X dX7_number_55 2 rfl ?_
              refine g_bipush X (z := 10) dX7_number_56 (by decide) ?_
              refine g_imul X dX7_number_58 ?_
              refine g_aload_n X dX7_number_59 0 rfl ?_
              refine g_callVI0 X (c_X7_sign l D cI cB cJ h q  (by omega) (by omega) (by omega) r_v_bytes) cv_X7_sign uw533 ⟨rfl, rfl, by decide, by decide⟩ 0 rfl rfl rfl rfl rfl (Nat.le_of_ble_eq_true rfl) ⟨Nat.zero_le _, Nat.zero_le _⟩ dX7_number_60 (fun t60 ws60 k60 => ?_)
              obtain ⟨kp0_60, kp1_60, kp2_60, rfl⟩ := k60
              refine g_iadd X dX7_number_63 ?_
              refine g_bipush X (z := 48) dX7_number_64 (by decide) ?_
              refine g_isub X dX7_number_66 ?_
              refine g_istore_n X (lv' := [(2, vI (((x2_23 * 10) + t60) - 48)), (0, .ref h), (1, vI p0), (3, vI x3_23)]) dX7_number_67 (by decide) rfl ?_
              refine g_aload_n X dX7_number_68 1 rfl ?_
              refine g_callVV0 X (c_X7_step l D cI cB cJ h q  (by omega) (by omega) (by omega) (by first | assumption | omega)) cv_X7_step uw534 ⟨rfl, rfl, by decide, by decide⟩ 0 rfl rfl rfl rfl rfl (Nat.le_of_ble_eq_true rfl) ⟨Nat.zero_le _, Nat.zero_le _⟩ dX7_number_69 (fun ws69 k69 => ?_)
              obtain ⟨at_69, kr_at_69, kp0_69, kp1_69, rfl⟩ := k69
              try (replace kp1_69 := kp1_69.resolve_right (fun h => by omega))
              refine g_iinc X (lv' := [(3, vI (x3_23 + 1)), (2, vI (((x2_23 * 10) + t60) - 48)), (0, .ref h), (1, vI p0)]) dX7_number_72 3 rfl (by decide) rfl ?_
              refine g_goto X (tgt := 23) dX7_number_75 (by decide) ?_
              refine g_lv [2, 3, 1, 0] rfl ?_
              exact ih23 (((x2_23 * 10) + t60) - 48) (x3_23 + 1) at_69 fault_23 faultAt_23 (by omega) (by omega) (by omega) (by first | exact NBd.step w23_0 (by omega) (by omega) | exact NBd.last w23_0 (by omega) | exact NBd.ini _ (by omega)) (by first | assumption | omega) (by first | assumption | omega) (by first | assumption | omega) (by intro hd; first | (exfalso; omega) | (left; omega) | (rcases w23_4 hd with h4 | h4; (left; omega); (exfalso; omega)) | (right; exact ⟨rfl, rfl, rfl⟩)) (by first | exact NI.ini_n kp1_18 (by omega) hN | exact NI.ini_y (by omega) rfl rfl (fun h => by rw [← sgZ_0 h]; omega) | exact NI.step w23_5 (by omega) (by omega) (by rw [← sgZ_0 (f := fault_23) (by omega)]; omega) rfl (by omega) (by rw [← sgZ_0 (f := fault_23) (by omega)]; omega) | exact NI.last w23_5 (by omega) (by omega) (by rw [← sgZ_0 (f := fault_23) (by omega)]; omega) (by omega) (by rcases kp1_49.2 (by omega) with ⟨g1, g2, g3⟩ | ⟨g1, g2, g3⟩ <;> omega) (by omega)) (by omega)
            · refine g_aload_n X dX7_number_43 0 rfl ?_
              refine g_iconst X dX7_number_44 ?_
              refine g_aload_n X dX7_number_45 0 rfl ?_
              refine gX7_get X 0 rfl 4 (by decide) uw138 rfl dX7_number_46 ?_
              refine g_callVV0 X (c_X7_fail l D cI cB cJ h q (p0 := 2) (p1 := at_23) (by omega) (by omega) (by first | assumption | omega) (by first | assumption | omega) (by first | assumption | omega) (by first | assumption | omega)) cv_X7_fail uw535 ⟨rfl, rfl, by decide, by decide⟩ 0 rfl rfl rfl rfl rfl (Nat.le_of_ble_eq_true rfl) ⟨Nat.zero_le _, Nat.zero_le _⟩ dX7_number_49 (fun ws49 k49 => ?_)
              obtain ⟨fault_49, faultAt_49, kr_fault_49, kr_faultAt_49, kp0_49, kp1_49, rfl⟩ := k49
              refine g_goto X (tgt := 72) dX7_number_52 (by decide) ?_
              try (replace kp1_69 := kp1_69.resolve_right (fun h => by omega))
              refine g_iinc X (lv' := [(3, vI (x3_23 + 1)), (0, .ref h), (1, vI p0), (2, vI x2_23)]) dX7_number_72 3 rfl (by decide) rfl ?_
              refine g_goto X (tgt := 23) dX7_number_75 (by decide) ?_
              refine g_lv [1, 2, 3, 0] rfl ?_
              exact ih23 x2_23 (x3_23 + 1) at_23 fault_49 faultAt_49 (by omega) (by omega) (by omega) (by first | exact NBd.step w23_0 (by omega) (by omega) | exact NBd.last w23_0 (by omega) | exact NBd.ini _ (by omega)) (by first | assumption | omega) (by first | assumption | omega) (by first | assumption | omega) (by intro hd; first | (exfalso; omega) | (left; omega) | (rcases w23_4 hd with h4 | h4; (left; omega); (exfalso; omega)) | (right; exact ⟨rfl, rfl, rfl⟩)) (by first | exact NI.ini_n kp1_18 (by omega) hN | exact NI.ini_y (by omega) rfl rfl (fun h => by rw [← sgZ_0 h]; omega) | exact NI.step w23_5 (by omega) (by omega) (by rw [← sgZ_0 (f := fault_23) (by omega)]; omega) rfl (by omega) (by rw [← sgZ_0 (f := fault_23) (by omega)]; omega) | exact NI.last w23_5 (by omega) (by omega) (by rw [← sgZ_0 (f := fault_23) (by omega)]; omega) (by omega) (by rcases kp1_49.2 (by omega) with ⟨g1, g2, g3⟩ | ⟨g1, g2, g3⟩ <;> omega) (by omega)) (by omega)
    refine g_lv [2, 3, 1, 0] rfl ?_
    exact L23 _ 0 0 v_at v_fault v_faultAt (by omega) (by omega) (by omega) (by first | exact NBd.step w23_0 (by omega) (by omega) | exact NBd.last w23_0 (by omega) | exact NBd.ini _ (by omega)) (by first | assumption | omega) (by first | assumption | omega) (by first | assumption | omega) (by intro hd; first | (exfalso; omega) | (left; omega) | (rcases w23_4 hd with h4 | h4; (left; omega); (exfalso; omega)) | (right; exact ⟨rfl, rfl, rfl⟩)) (by first | exact NI.ini_n kp1_18 (by omega) hN | exact NI.ini_y (by omega) rfl rfl (fun h => by rw [← sgZ_0 h]; omega) | exact NI.step w23_5 (by omega) (by omega) (by rw [← sgZ_0 (f := fault_23) (by omega)]; omega) rfl (by omega) (by rw [← sgZ_0 (f := fault_23) (by omega)]; omega) | exact NI.last w23_5 (by omega) (by omega) (by rw [← sgZ_0 (f := fault_23) (by omega)]; omega) (by omega) (by rcases kp1_49.2 (by omega) with ⟨g1, g2, g3⟩ | ⟨g1, g2, g3⟩ <;> omega) (by omega)) (Nat.lt_succ_self _)
  · clear kb_6
    replace kp0_6 := (kp0_6.resolve_left (fun h => absurd h.1 (by omega))).2
    have hN : v_fault = 0 → ¬ (48 ≤ sgP v_end v_bytes v_at ∧ sgP v_end v_bytes v_at ≤ 57) := fun h => by rw [← sgZ_0 h]; omega
    refine g_aload_n X dX7_number_12 1 rfl ?_
    refine g_iconst X dX7_number_13 ?_
    refine g_aload_n X dX7_number_14 1 rfl ?_
    refine gX7_get X 0 rfl 4 (by decide) uw138 rfl dX7_number_15 ?_
    refine g_callVV0 X (c_X7_fail l D cI cB cJ h q (p0 := 1) (p1 := v_at) (by omega) (by omega) (by first | assumption | omega) (by first | assumption | omega) (by first | assumption | omega) (by first | assumption | omega)) cv_X7_fail uw535 ⟨rfl, rfl, by decide, by decide⟩ 0 rfl rfl rfl rfl rfl (Nat.le_of_ble_eq_true rfl) ⟨Nat.zero_le _, Nat.zero_le _⟩ dX7_number_18 (fun ws18 k18 => ?_)
    obtain ⟨fault_18, faultAt_18, kr_fault_18, kr_faultAt_18, kp0_18, kp1_18, rfl⟩ := k18
    refine g_iconst X dX7_number_21 ?_
    refine g_istore_n X (lv' := [(3, vI 0), (2, vI 0), (0, .ref h), (1, vI p0)]) dX7_number_22 (by decide) rfl ?_
    have L23 : ∀ (n : Nat) (x2_23 : Int) (x3_23 : Int) (at_23 : Int) (fault_23 : Int) (faultAt_23 : Int), (0 ≤ at_23 ∧ at_23 ≤ 260) → (0 ≤ fault_23 ∧ fault_23 ≤ 8) → (0 ≤ faultAt_23 ∧ faultAt_23 ≤ 260) → (NBd p0 x3_23 x2_23) → (v_fault ≠ 0 → fault_23 ≠ 0) → (v_at ≤ at_23) → (at_23 ≤ v_end) → (48 ≤ signZ v_fault v_at v_end v_bytes ∧ signZ v_fault v_at v_end v_bytes ≤ 57 → v_at < at_23 ∨ (x3_23 = 0 ∧ fault_23 = v_fault ∧ at_23 = v_at)) → (NI (sgP v_end v_bytes) p0 v_fault v_faultAt v_at x3_23 x2_23 fault_23 faultAt_23 at_23) → (p0 + 1 - x3_23).toNat < n → GG p l e ⟨1, 0, 0, 22⟩ s m args below meth c 0 0 Q D A s.heap 4 (wX7 cI cB cJ h q v_length v_end at_23 fault_23 faultAt_23 v_bytes v_taken) 23 [(0, .ref h), (1, vI p0), (2, vI x2_23), (3, vI x3_23)] [] := by
      intro n
      induction n with
      | zero => intros; exfalso; omega
      | succ n ih23 =>
        intro x2_23 x3_23 at_23 fault_23 faultAt_23 kr_at_23 kr_fault_23 kr_faultAt_23 w23_0 w23_1 w23_2 w23_3 w23_4 w23_5 wm23
        have hN := NBd.r w23_0
        refine g_iload_n X dX7_number_23 3 rfl ?_
        refine g_iload_n X dX7_number_24 1 rfl ?_
        refine g_icmp_gt X (tgt := 78) dX7_number_25 (by decide) (by omega) (by omega) (fun c25 => ?_) (fun c25 => ?_)
        · refine g_iload_n X dX7_number_78 2 rfl ?_
          have hE := NI.out w23_5 (fun h1 h2 => by rw [← sgZ_0 h1]; omega)
          exact hQ _ _ _ _ dX7_number_79 ⟨at_23, fault_23, faultAt_23, (by omega), (by omega), (by omega), (by first | assumption | omega), (by first | assumption | omega), (by first | assumption | omega), (by first | assumption | omega), (by intro hd; rcases w23_4 hd with h4 | ⟨h5, h6, h7⟩; exact h4; exfalso; first | omega | (rw [h6, h7] at kp0_29; omega)), (by first | assumption | omega), (by exact hE.1), (by exact hE.2), rfl⟩
        · refine g_aload_n X dX7_number_28 0 rfl ?_
          refine g_callVI0 X (c_X7_sign l D cI cB cJ h q  (by omega) (by omega) (by omega) r_v_bytes) cv_X7_sign uw533 ⟨rfl, rfl, by decide, by decide⟩ 0 rfl rfl rfl rfl rfl (Nat.le_of_ble_eq_true rfl) ⟨Nat.zero_le _, Nat.zero_le _⟩ dX7_number_29 (fun t29 ws29 k29 => ?_)
          obtain ⟨kp0_29, kp1_29, kp2_29, rfl⟩ := k29
          refine g_callSIE X (c_X7_isDigit l D cI cB cJ (p0 := t29) (by first | assumption | omega)) cv_X7_isDigit uw543 ⟨rfl, rfl, by decide, by decide⟩ rfl rfl (Nat.le_of_ble_eq_true rfl) ⟨Nat.zero_le _, Nat.zero_le _⟩ dX7_number_32 (fun t32 ws32 k32 => ?_)
          obtain ⟨kb_32, ⟨kp0_32, rfl⟩⟩ := k32
          refine g_if_eq X (tgt := 78) dX7_number_35 (by decide) (by omega) (fun c35 => ?_) (fun c35 => ?_)
          · clear kb_32
            replace kp0_32 := (kp0_32.resolve_left (fun h => absurd h.1 (by omega))).2
            refine g_iload_n X dX7_number_78 2 rfl ?_
            have hE := NI.out w23_5 (fun h1 h2 => by rw [← sgZ_0 h1]; omega)
            exact hQ _ _ _ _ dX7_number_79 ⟨at_23, fault_23, faultAt_23, (by omega), (by omega), (by omega), (by first | assumption | omega), (by first | assumption | omega), (by first | assumption | omega), (by first | assumption | omega), (by intro hd; rcases w23_4 hd with h4 | ⟨h5, h6, h7⟩; exact h4; exfalso; first | omega | (rw [h6, h7] at kp0_29; omega)), (by first | assumption | omega), (by exact hE.1), (by exact hE.2), rfl⟩
          · replace kb_32 := kb_32.resolve_left (fun h => c35 h)
            replace kp0_32 := kp0_32.resolve_right (fun h => c35 h.1)
            refine g_iload_n X dX7_number_38 3 rfl ?_
            refine g_iload_n X dX7_number_39 1 rfl ?_
            refine g_icmp_ne X (tgt := 55) dX7_number_40 (by decide) (by omega) (by omega) (fun c40 => ?_) (fun c40 => ?_)
            · refine g_iload_n X dX7_number_55 2 rfl ?_
              refine g_bipush X (z := 10) dX7_number_56 (by decide) ?_
              refine g_imul X dX7_number_58 ?_
              refine g_aload_n X dX7_number_59 0 rfl ?_
              refine g_callVI0 X (c_X7_sign l D cI cB cJ h q  (by omega) (by omega) (by omega) r_v_bytes) cv_X7_sign uw533 ⟨rfl, rfl, by decide, by decide⟩ 0 rfl rfl rfl rfl rfl (Nat.le_of_ble_eq_true rfl) ⟨Nat.zero_le _, Nat.zero_le _⟩ dX7_number_60 (fun t60 ws60 k60 => ?_)
              obtain ⟨kp0_60, kp1_60, kp2_60, rfl⟩ := k60
              refine g_iadd X dX7_number_63 ?_
              refine g_bipush X (z := 48) dX7_number_64 (by decide) ?_
              refine g_isub X dX7_number_66 ?_
              refine g_istore_n X (lv' := [(2, vI (((x2_23 * 10) + t60) - 48)), (0, .ref h), (1, vI p0), (3, vI x3_23)]) dX7_number_67 (by decide) rfl ?_
              refine g_aload_n X dX7_number_68 1 rfl ?_
              refine g_callVV0 X (c_X7_step l D cI cB cJ h q  (by omega) (by omega) (by omega) (by first | assumption | omega)) cv_X7_step uw534 ⟨rfl, rfl, by decide, by decide⟩ 0 rfl rfl rfl rfl rfl (Nat.le_of_ble_eq_true rfl) ⟨Nat.zero_le _, Nat.zero_le _⟩ dX7_number_69 (fun ws69 k69 => ?_)
              obtain ⟨at_69, kr_at_69, kp0_69, kp1_69, rfl⟩ := k69
              try (replace kp1_69 := kp1_69.resolve_right (fun h => by omega))
              refine g_iinc X (lv' := [(3, vI (x3_23 + 1)), (2, vI (((x2_23 * 10) + t60) - 48)), (0, .ref h), (1, vI p0)]) dX7_number_72 3 rfl (by decide) rfl ?_
              refine g_goto X (tgt := 23) dX7_number_75 (by decide) ?_
              refine g_lv [2, 3, 1, 0] rfl ?_
              exact ih23 (((x2_23 * 10) + t60) - 48) (x3_23 + 1) at_69 fault_23 faultAt_23 (by omega) (by omega) (by omega) (by first | exact NBd.step w23_0 (by omega) (by omega) | exact NBd.last w23_0 (by omega) | exact NBd.ini _ (by omega)) (by first | assumption | omega) (by first | assumption | omega) (by first | assumption | omega) (by intro hd; first | (exfalso; omega) | (left; omega) | (rcases w23_4 hd with h4 | h4; (left; omega); (exfalso; omega)) | (right; exact ⟨rfl, rfl, rfl⟩)) (by first | exact NI.ini_n kp1_18 (by omega) hN | exact NI.ini_y (by omega) rfl rfl (fun h => by rw [← sgZ_0 h]; omega) | exact NI.step w23_5 (by omega) (by omega) (by rw [← sgZ_0 (f := fault_23) (by omega)]; omega) rfl (by omega) (by rw [← sgZ_0 (f := fault_23) (by omega)]; omega) | exact NI.last w23_5 (by omega) (by omega) (by rw [← sgZ_0 (f := fault_23) (by omega)]; omega) (by omega) (by rcases kp1_49.2 (by omega) with ⟨g1, g2, g3⟩ | ⟨g1, g2, g3⟩ <;> omega) (by omega)) (by omega)
            · refine g_aload_n X dX7_number_43 0 rfl ?_
              refine g_iconst X dX7_number_44 ?_
              refine g_aload_n X dX7_number_45 0 rfl ?_
              refine gX7_get X 0 rfl 4 (by decide) uw138 rfl dX7_number_46 ?_
              refine g_callVV0 X (c_X7_fail l D cI cB cJ h q (p0 := 2) (p1 := at_23) (by omega) (by omega) (by first | assumption | omega) (by first | assumption | omega) (by first | assumption | omega) (by first | assumption | omega)) cv_X7_fail uw535 ⟨rfl, rfl, by decide, by decide⟩ 0 rfl rfl rfl rfl rfl (Nat.le_of_ble_eq_true rfl) ⟨Nat.zero_le _, Nat.zero_le _⟩ dX7_number_49 (fun ws49 k49 => ?_)
              obtain ⟨fault_49, faultAt_49, kr_fault_49, kr_faultAt_49, kp0_49, kp1_49, rfl⟩ := k49
              refine g_goto X (tgt := 72) dX7_number_52 (by decide) ?_
              try (replace kp1_69 := kp1_69.resolve_right (fun h => by omega))
              refine g_iinc X (lv' := [(3, vI (x3_23 + 1)), (0, .ref h), (1, vI p0), (2, vI x2_23)]) dX7_number_72 3 rfl (by decide) rfl ?_
              refine g_goto X (tgt := 23) dX7_number_75 (by decide) ?_
              refine g_lv [1, 2, 3, 0] rfl ?_
              exact ih23 x2_23 (x3_23 + 1) at_23 fault_49 faultAt_49 (by omega) (by omega) (by omega) (by first | exact NBd.step w23_0 (by omega) (by omega) | exact NBd.last w23_0 (by omega) | exact NBd.ini _ (by omega)) (by first | assumption | omega) (by first | assumption | omega) (by first | assumption | omega) (by intro hd; first | (exfalso; omega) | (left; omega) | (rcases w23_4 hd with h4 | h4; (left; omega); (exfalso; omega)) | (right; exact ⟨rfl, rfl, rfl⟩)) (by first | exact NI.ini_n kp1_18 (by omega) hN | exact NI.ini_y (by omega) rfl rfl (fun h => by rw [← sgZ_0 h]; omega) | exact NI.step w23_5 (by omega) (by omega) (by rw [← sgZ_0 (f := fault_23) (by omega)]; omega) rfl (by omega) (by rw [← sgZ_0 (f := fault_23) (by omega)]; omega) | exact NI.last w23_5 (by omega) (by omega) (by rw [← sgZ_0 (f := fault_23) (by omega)]; omega) (by omega) (by rcases kp1_49.2 (by omega) with ⟨g1, g2, g3⟩ | ⟨g1, g2, g3⟩ <;> omega) (by omega)) (by omega)
    refine g_lv [2, 3, 1, 0] rfl ?_
    exact L23 _ 0 0 v_at fault_18 faultAt_18 (by omega) (by omega) (by omega) (by first | exact NBd.step w23_0 (by omega) (by omega) | exact NBd.last w23_0 (by omega) | exact NBd.ini _ (by omega)) (by first | assumption | omega) (by first | assumption | omega) (by first | assumption | omega) (by intro hd; first | (exfalso; omega) | (left; omega) | (rcases w23_4 hd with h4 | h4; (left; omega); (exfalso; omega)) | (right; exact ⟨rfl, rfl, rfl⟩)) (by first | exact NI.ini_n kp1_18 (by omega) hN | exact NI.ini_y (by omega) rfl rfl (fun h => by rw [← sgZ_0 h]; omega) | exact NI.step w23_5 (by omega) (by omega) (by rw [← sgZ_0 (f := fault_23) (by omega)]; omega) rfl (by omega) (by rw [← sgZ_0 (f := fault_23) (by omega)]; omega) | exact NI.last w23_5 (by omega) (by omega) (by rw [← sgZ_0 (f := fault_23) (by omega)]; omega) (by omega) (by rcases kp1_49.2 (by omega) with ⟨g1, g2, g3⟩ | ⟨g1, g2, g3⟩ <;> omega) (by omega)) (Nat.lt_succ_self _)
set_option maxHeartbeats 600000 in
set_option maxRecDepth 100000 in
theorem c_X7_answer (l : Launch) (D : va_G) (cI cB cJ : ClassId) (h : Nat) (q : Nat → Nat) {v_length v_end v_at v_fault v_faultAt : Int} {v_bytes v_taken : Nat → Int} {p0 : Int} (kr_v_fault : 0 ≤ v_fault ∧ v_fault ≤ 8) (kr_v_faultAt : 0 ≤ v_faultAt ∧ v_faultAt ≤ 260) (hp0 : IR p0) : CtI l yX7_answer cX7_answer 2 (some .int) ⟨1, 0, 0, 20⟩ D (TY cI cB cJ) (wX7 cI cB cJ h q v_length v_end v_at v_fault v_faultAt v_bytes v_taken) [.ref h, vI p0] (fun z ws' => ((v_fault = 0 ∧ z = p0) ∨ (v_fault ≠ 0 ∧ z = -1000 * v_fault - v_faultAt)) ∧ (ws' = (wX7 cI cB cJ h q v_length v_end v_at v_fault v_faultAt v_bytes v_taken))) := by
  refine hdrI (own := RX7) rfl (by decide +kernel) (Nat.le_of_ble_eq_true rfl) ?_
  intro p e s m args below meth c Q A X hQ
  refine g_lvE (lv2 := [(0, .ref h), (1, vI p0)]) rfl ?_
  refine g_aload_n X dX7_answer_0 0 rfl ?_
  refine g_callVI0 X (c_X7_hasFailed l D cI cB cJ h q  (by omega)) cv_X7_hasFailed uw624 ⟨rfl, rfl, by decide, by decide⟩ 0 rfl rfl rfl rfl rfl (Nat.le_of_ble_eq_true rfl) ⟨Nat.zero_le _, Nat.zero_le _⟩ dX7_answer_1 (fun t1 ws1 k1 => ?_)
  obtain ⟨kb_1, ⟨kp0_1, rfl⟩⟩ := k1
  refine g_if_eq X (tgt := 23) dX7_answer_4 (by decide) (by omega) (fun c4 => ?_) (fun c4 => ?_)
  · clear kb_1
    replace kp0_1 := (kp0_1.resolve_left (fun h => absurd h.1 (by omega))).2
    refine g_iload_n X dX7_answer_23 1 rfl ?_
    exact hQ _ _ _ _ dX7_answer_24 ⟨(by first | assumption | omega), rfl⟩
  · replace kb_1 := kb_1.resolve_left (fun h => c4 h)
    replace kp0_1 := kp0_1.resolve_right (fun h => c4 h.1)
    refine g_sipush X (z := (-1000)) dX7_answer_7 (by decide) ?_
    refine g_aload_n X dX7_answer_10 0 rfl ?_
    refine gX7_get X 0 rfl 5 (by decide) uw142 rfl dX7_answer_11 ?_
    refine g_imul X dX7_answer_14 ?_
    refine g_aload_n X dX7_answer_15 0 rfl ?_
    refine gX7_get X 0 rfl 6 (by decide) uw143 rfl dX7_answer_16 ?_
    refine g_isub X dX7_answer_19 ?_
    refine g_goto X (tgt := 24) dX7_answer_20 (by decide) ?_
    exact hQ _ _ _ _ dX7_answer_24 ⟨(by first | assumption | omega), rfl⟩
