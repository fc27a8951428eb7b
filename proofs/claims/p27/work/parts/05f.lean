set_option maxHeartbeats 600000 in
set_option maxRecDepth 100000 in
theorem c_X2_clear (l : Launch) (D : va_G) (cI cB cJ : ClassId) (h : Nat) (q : Nat → Nat) {v_size v_length v_height : Int} {v_letter v_valueAt v_testAt v_endAt v_sign v_beside v_seen v_stack : Nat → Int} (kr_v_size : 0 ≤ v_size ∧ v_size ≤ 16) (kr_v_length : 0 ≤ v_length ∧ v_length ≤ 256) : CtV l yX2_clear cX2_clear 1 none ⟨0, 0, 0, 0⟩ D (TY cI cB cJ) (wX2 cI cB cJ h q v_size v_length v_height v_letter v_valueAt v_testAt v_endAt v_sign v_beside v_seen v_stack) [.ref h] (fun ws' => ∃ n_size : Int, ∃ n_length : Int, (0 ≤ n_size ∧ n_size ≤ 16) ∧ (0 ≤ n_length ∧ n_length ≤ 256) ∧ (n_size = 0) ∧ (n_length = 0) ∧ (ws' = (wX2 cI cB cJ h q n_size n_length v_height v_letter v_valueAt v_testAt v_endAt v_sign v_beside v_seen v_stack))) := by
  refine hdrV (own := RX2) rfl (by decide +kernel) (Nat.le_of_ble_eq_true rfl) ?_
  intro p e s m args below meth c Q A X hQ
  refine g_lvE (lv2 := [(0, .ref h)]) rfl ?_
  refine g_aload_n X dX2_clear_0 0 rfl ?_
  refine g_iconst X dX2_clear_1 ?_
  refine gX2_put X 0 rfl 0 (by decide) uw266 rfl rfl rfl (Nat.le_of_ble_eq_true rfl) dX2_clear_2 (ws2 := (wX2 cI cB cJ h q 0 v_length v_height v_letter v_valueAt v_testAt v_endAt v_sign v_beside v_seen v_stack)) rfl ?_
  refine g_aload_n X dX2_clear_5 0 rfl ?_
  refine g_iconst X dX2_clear_6 ?_
  refine gX2_put X 0 rfl 5 (by decide) uw273 rfl rfl rfl (Nat.le_of_ble_eq_true rfl) dX2_clear_7 (ws2 := (wX2 cI cB cJ h q 0 0 v_height v_letter v_valueAt v_testAt v_endAt v_sign v_beside v_seen v_stack)) rfl ?_
  exact hQ _ _ _ dX2_clear_10 ⟨0, 0, (by omega), (by omega), (by first | assumption | omega), (by first | assumption | omega), rfl⟩
set_option maxHeartbeats 600000 in
set_option maxRecDepth 100000 in
theorem c_X2_add (l : Launch) (D : va_G) (cI cB cJ : ClassId) (h : Nat) (q : Nat → Nat) {v_size v_length v_height : Int} {v_letter v_valueAt v_testAt v_endAt v_sign v_beside v_seen v_stack : Nat → Int} {p0 p1 : Int} (kr_v_length : 0 ≤ v_length ∧ v_length ≤ 256) (r_v_sign : RA (-2147483648) 2147483647 v_sign) (r_v_beside : RA 0 99999 v_beside) (hp0 : IR p0) (hp1 : IR p1) (hp2 : 0 ≤ p1 ∧ p1 ≤ 99999) (hp3 : v_length ≤ 250) : CtI l yX2_add cX2_add 3 (some .int) ⟨0, 0, 0, 0⟩ D (TY cI cB cJ) (wX2 cI cB cJ h q v_size v_length v_height v_letter v_valueAt v_testAt v_endAt v_sign v_beside v_seen v_stack) [.ref h, vI p0, vI p1] (fun z ws' => ∃ n_length : Int, ∃ n_sign : Nat → Int, ∃ n_beside : Nat → Int, (0 ≤ n_length ∧ n_length ≤ 256) ∧ (RA (-2147483648) 2147483647 n_sign) ∧ (RA 0 99999 n_beside) ∧ (n_length = v_length + 1) ∧ (z = v_length) ∧ (n_sign = updZ v_sign v_length.toNat p0) ∧ (n_beside = updZ v_beside v_length.toNat p1) ∧ (ws' = (wX2 cI cB cJ h q v_size n_length v_height v_letter v_valueAt v_testAt v_endAt n_sign n_beside v_seen v_stack))) := by
  refine hdrI (own := RX2) rfl (by decide +kernel) (Nat.le_of_ble_eq_true rfl) ?_
  intro p e s m args below meth c Q A X hQ
  refine g_lvE (lv2 := [(0, .ref h), (1, vI p0), (2, vI p1)]) rfl ?_
  refine g_aload_n X dX2_add_0 0 rfl ?_
  refine gX2_get X 0 rfl 5 (by decide) uw273 rfl dX2_add_1 ?_
  refine g_aload_n X dX2_add_4 0 rfl ?_
  refine gX2_get X 0 rfl 6 (by decide) uw275 rfl dX2_add_5 ?_
  refine g_alen X 5 0 rfl rfl (z := 256) rfl dX2_add_8 ?_
  refine g_icmp_ge X (tgt := 42) dX2_add_9 (by decide) (by omega) (by omega) (fun c9 => ?_) (fun c9 => ?_)
  · refine g_aload_n X dX2_add_42 0 rfl ?_
    refine gX2_get X 0 rfl 5 (by decide) uw273 rfl dX2_add_43 ?_
    refine g_iconst X dX2_add_46 ?_
    refine g_isub X dX2_add_47 ?_
    exact hQ _ _ _ _ dX2_add_48 ⟨v_length, v_sign, v_beside, (by omega), r_v_sign, r_v_beside, (by first | assumption | omega), (by first | assumption | omega), (by first | assumption | omega), (by first | assumption | omega), rfl⟩
  · refine g_aload_n X dX2_add_12 0 rfl ?_
    refine gX2_get X 0 rfl 6 (by decide) uw275 rfl dX2_add_13 ?_
    refine g_aload_n X dX2_add_16 0 rfl ?_
    refine gX2_get X 0 rfl 5 (by decide) uw273 rfl dX2_add_17 ?_
    refine g_iload_n X dX2_add_20 1 rfl ?_
    refine g_iast X 5 0 rfl rfl (by omega) (by decide) dX2_add_21 (fun sign_21 e21 => ?_)
    have r_sign_21 : RA (-2147483648) 2147483647 sign_21 := by rw [e21]; exact RA_up r_v_sign (by omega)
    refine g_ws (ws2 := (wX2 cI cB cJ h q v_size v_length v_height v_letter v_valueAt v_testAt v_endAt sign_21 v_beside v_seen v_stack)) rfl ?_
    refine g_aload_n X dX2_add_22 0 rfl ?_
    refine gX2_get X 0 rfl 7 (by decide) uw276 rfl dX2_add_23 ?_
    refine g_aload_n X dX2_add_26 0 rfl ?_
    refine gX2_get X 0 rfl 5 (by decide) uw273 rfl dX2_add_27 ?_
    refine g_iload_n X dX2_add_30 2 rfl ?_
    refine g_iast X 6 0 rfl rfl (by omega) (by decide) dX2_add_31 (fun beside_31 e31 => ?_)
    have r_beside_31 : RA 0 99999 beside_31 := by rw [e31]; exact RA_up r_v_beside (by omega)
    refine g_ws (ws2 := (wX2 cI cB cJ h q v_size v_length v_height v_letter v_valueAt v_testAt v_endAt sign_21 beside_31 v_seen v_stack)) rfl ?_
    refine g_aload_n X dX2_add_32 0 rfl ?_
    refine g_dup X rfl dX2_add_33 ?_
    refine gX2_get X 0 rfl 5 (by decide) uw273 rfl dX2_add_34 ?_
    refine g_iconst X dX2_add_37 ?_
    refine g_iadd X dX2_add_38 ?_
    refine gX2_put X 0 rfl 5 (by decide) uw273 rfl rfl rfl (Nat.le_of_ble_eq_true rfl) dX2_add_39 (ws2 := (wX2 cI cB cJ h q v_size (v_length + 1) v_height v_letter v_valueAt v_testAt v_endAt sign_21 beside_31 v_seen v_stack)) rfl ?_
    refine g_aload_n X dX2_add_42 0 rfl ?_
    refine gX2_get X 0 rfl 5 (by decide) uw273 rfl dX2_add_43 ?_
    refine g_iconst X dX2_add_46 ?_
    refine g_isub X dX2_add_47 ?_
    exact hQ _ _ _ _ dX2_add_48 ⟨v_length + 1, sign_21, beside_31, (by omega), r_sign_21, r_beside_31, (by first | assumption | omega), (by first | assumption | omega), (by first | assumption | omega), (by first | assumption | omega), rfl⟩
set_option maxHeartbeats 600000 in
set_option maxRecDepth 100000 in
theorem c_X2_goOnHere (l : Launch) (D : va_G) (cI cB cJ : ClassId) (h : Nat) (q : Nat → Nat) {v_size v_length v_height : Int} {v_letter v_valueAt v_testAt v_endAt v_sign v_beside v_seen v_stack : Nat → Int} {p0 : Int} (kr_v_length : 0 ≤ v_length ∧ v_length ≤ 256) (r_v_beside : RA 0 99999 v_beside) (hp0 : IR p0) (hp1 : 0 ≤ p0 ∧ p0 < v_length) : CtV l yX2_goOnHere cX2_goOnHere 2 none ⟨1, 0, 0, 22⟩ D (TY cI cB cJ) (wX2 cI cB cJ h q v_size v_length v_height v_letter v_valueAt v_testAt v_endAt v_sign v_beside v_seen v_stack) [.ref h, vI p0] (fun ws' => ∃ n_beside : Nat → Int, (RA 0 99999 n_beside) ∧ (n_beside = updZ v_beside p0.toNat v_length) ∧ (ws' = (wX2 cI cB cJ h q v_size v_length v_height v_letter v_valueAt v_testAt v_endAt v_sign n_beside v_seen v_stack))) := by
  refine hdrV (own := RX2) rfl (by decide +kernel) (Nat.le_of_ble_eq_true rfl) ?_
  intro p e s m args below meth c Q A X hQ
  refine g_lvE (lv2 := [(0, .ref h), (1, vI p0)]) rfl ?_
  refine g_iload_n X dX2_goOnHere_0 1 rfl ?_
  refine g_iconst X dX2_goOnHere_1 ?_
  refine g_aload_n X dX2_goOnHere_2 0 rfl ?_
  refine gX2_get X 0 rfl 5 (by decide) uw273 rfl dX2_goOnHere_3 ?_
  refine g_iconst X dX2_goOnHere_6 ?_
  refine g_isub X dX2_goOnHere_7 ?_
  refine g_callSNIE X (c_X9_isFrom l D cI cB cJ (p0 := p0) (p1 := 0) (p2 := v_length - 1) (by first | assumption | omega) (by first | assumption | omega) (by first | assumption | omega)) cv_X9_isFrom nw611 ⟨rfl, rfl, by decide, by decide⟩ rfl rfl (Nat.le_of_ble_eq_true rfl) ⟨Nat.zero_le _, Nat.zero_le _⟩ dX2_goOnHere_8 (fun t8 ws8 k8 => ?_)
  obtain ⟨kb_8, ⟨kp0_8, rfl⟩⟩ := k8
  refine g_if_eq X (tgt := 24) dX2_goOnHere_11 (by decide) (by omega) (fun c11 => ?_) (fun c11 => ?_)
  · exact hQ _ _ _ dX2_goOnHere_24 ⟨v_beside, r_v_beside, (by first | assumption | omega), rfl⟩
  · refine g_aload_n X dX2_goOnHere_14 0 rfl ?_
    refine gX2_get X 0 rfl 7 (by decide) uw276 rfl dX2_goOnHere_15 ?_
    refine g_iload_n X dX2_goOnHere_18 1 rfl ?_
    refine g_aload_n X dX2_goOnHere_19 0 rfl ?_
    refine gX2_get X 0 rfl 5 (by decide) uw273 rfl dX2_goOnHere_20 ?_
    refine g_iast X 6 0 rfl rfl (by omega) (by decide) dX2_goOnHere_23 (fun beside_23 e23 => ?_)
    have r_beside_23 : RA 0 99999 beside_23 := by rw [e23]; exact RA_up r_v_beside (by omega)
    refine g_ws (ws2 := (wX2 cI cB cJ h q v_size v_length v_height v_letter v_valueAt v_testAt v_endAt v_sign beside_23 v_seen v_stack)) rfl ?_
    exact hQ _ _ _ dX2_goOnHere_24 ⟨beside_23, r_beside_23, (by first | assumption | omega), rfl⟩
set_option maxHeartbeats 600000 in
set_option maxRecDepth 100000 in
theorem c_X2_addRule (l : Launch) (D : va_G) (cI cB cJ : ClassId) (h : Nat) (q : Nat → Nat) {v_size v_length v_height : Int} {v_letter v_valueAt v_testAt v_endAt v_sign v_beside v_seen v_stack : Nat → Int} {p0 p1 p2 : Int} (kr_v_size : 0 ≤ v_size ∧ v_size ≤ 16) (kr_v_length : 0 ≤ v_length ∧ v_length ≤ 256) (r_v_letter : RA (-2147483648) 2147483647 v_letter) (r_v_valueAt : RA 0 256 v_valueAt) (r_v_testAt : RA 0 256 v_testAt) (r_v_endAt : RA 0 256 v_endAt) (hp0 : IR p0) (hp1 : IR p1) (hp2 : IR p2) (hp3 : 0 ≤ p1 ∧ p1 ≤ 256) (hp4 : 0 ≤ p2 ∧ p2 ≤ 256) : CtV l yX2_addRule cX2_addRule 4 none ⟨0, 0, 0, 0⟩ D (TY cI cB cJ) (wX2 cI cB cJ h q v_size v_length v_height v_letter v_valueAt v_testAt v_endAt v_sign v_beside v_seen v_stack) [.ref h, vI p0, vI p1, vI p2] (fun ws' => ∃ n_size : Int, ∃ n_letter : Nat → Int, ∃ n_valueAt : Nat → Int, ∃ n_testAt : Nat → Int, ∃ n_endAt : Nat → Int, (0 ≤ n_size ∧ n_size ≤ 16) ∧ (RA (-2147483648) 2147483647 n_letter) ∧ (RA 0 256 n_valueAt) ∧ (RA 0 256 n_testAt) ∧ (RA 0 256 n_endAt) ∧ (ws' = (wX2 cI cB cJ h q n_size v_length v_height n_letter n_valueAt n_testAt n_endAt v_sign v_beside v_seen v_stack))) := by
  refine hdrV (own := RX2) rfl (by decide +kernel) (Nat.le_of_ble_eq_true rfl) ?_
  intro p e s m args below meth c Q A X hQ
  refine g_lvE (lv2 := [(0, .ref h), (1, vI p0), (2, vI p1), (3, vI p2)]) rfl ?_
  refine g_aload_n X dX2_addRule_0 0 rfl ?_
  refine gX2_get X 0 rfl 0 (by decide) uw266 rfl dX2_addRule_1 ?_
  refine g_bipush X (z := 16) dX2_addRule_4 (by decide) ?_
  refine g_icmp_ge X (tgt := 62) dX2_addRule_6 (by decide) (by omega) (by omega) (fun c6 => ?_) (fun c6 => ?_)
  · exact hQ _ _ _ dX2_addRule_62 ⟨v_size, v_letter, v_valueAt, v_testAt, v_endAt, (by omega), r_v_letter, r_v_valueAt, r_v_testAt, r_v_endAt, rfl⟩
  · refine g_aload_n X dX2_addRule_9 0 rfl ?_
    refine gX2_get X 0 rfl 1 (by decide) uw269 rfl dX2_addRule_10 ?_
    refine g_aload_n X dX2_addRule_13 0 rfl ?_
    refine gX2_get X 0 rfl 0 (by decide) uw266 rfl dX2_addRule_14 ?_
    refine g_iload_n X dX2_addRule_17 1 rfl ?_
    refine g_iast X 1 0 rfl rfl (by omega) (by decide) dX2_addRule_18 (fun letter_18 e18 => ?_)
    have r_letter_18 : RA (-2147483648) 2147483647 letter_18 := by rw [e18]; exact RA_up r_v_letter (by omega)
    refine g_ws (ws2 := (wX2 cI cB cJ h q v_size v_length v_height letter_18 v_valueAt v_testAt v_endAt v_sign v_beside v_seen v_stack)) rfl ?_
    refine g_aload_n X dX2_addRule_19 0 rfl ?_
    refine gX2_get X 0 rfl 2 (by decide) uw270 rfl dX2_addRule_20 ?_
    refine g_aload_n X dX2_addRule_23 0 rfl ?_
    refine gX2_get X 0 rfl 0 (by decide) uw266 rfl dX2_addRule_24 ?_
    refine g_iload_n X dX2_addRule_27 2 rfl ?_
    refine g_iast X 2 0 rfl rfl (by omega) (by decide) dX2_addRule_28 (fun valueAt_28 e28 => ?_)
    have r_valueAt_28 : RA 0 256 valueAt_28 := by rw [e28]; exact RA_up r_v_valueAt (by omega)
    refine g_ws (ws2 := (wX2 cI cB cJ h q v_size v_length v_height letter_18 valueAt_28 v_testAt v_endAt v_sign v_beside v_seen v_stack)) rfl ?_
    refine g_aload_n X dX2_addRule_29 0 rfl ?_
    refine gX2_get X 0 rfl 3 (by decide) uw271 rfl dX2_addRule_30 ?_
    refine g_aload_n X dX2_addRule_33 0 rfl ?_
    refine gX2_get X 0 rfl 0 (by decide) uw266 rfl dX2_addRule_34 ?_
    refine g_iload_n X dX2_addRule_37 3 rfl ?_
    refine g_iast X 3 0 rfl rfl (by omega) (by decide) dX2_addRule_38 (fun testAt_38 e38 => ?_)
    have r_testAt_38 : RA 0 256 testAt_38 := by rw [e38]; exact RA_up r_v_testAt (by omega)
    refine g_ws (ws2 := (wX2 cI cB cJ h q v_size v_length v_height letter_18 valueAt_28 testAt_38 v_endAt v_sign v_beside v_seen v_stack)) rfl ?_
    refine g_aload_n X dX2_addRule_39 0 rfl ?_
    refine gX2_get X 0 rfl 4 (by decide) uw272 rfl dX2_addRule_40 ?_
    refine g_aload_n X dX2_addRule_43 0 rfl ?_
    refine gX2_get X 0 rfl 0 (by decide) uw266 rfl dX2_addRule_44 ?_
    refine g_aload_n X dX2_addRule_47 0 rfl ?_
    refine gX2_get X 0 rfl 5 (by decide) uw273 rfl dX2_addRule_48 ?_
    refine g_iast X 4 0 rfl rfl (by omega) (by decide) dX2_addRule_51 (fun endAt_51 e51 => ?_)
    have r_endAt_51 : RA 0 256 endAt_51 := by rw [e51]; exact RA_up r_v_endAt (by omega)
    refine g_ws (ws2 := (wX2 cI cB cJ h q v_size v_length v_height letter_18 valueAt_28 testAt_38 endAt_51 v_sign v_beside v_seen v_stack)) rfl ?_
    refine g_aload_n X dX2_addRule_52 0 rfl ?_
    refine g_dup X rfl dX2_addRule_53 ?_
    refine gX2_get X 0 rfl 0 (by decide) uw266 rfl dX2_addRule_54 ?_
    refine g_iconst X dX2_addRule_57 ?_
    refine g_iadd X dX2_addRule_58 ?_
    refine gX2_put X 0 rfl 0 (by decide) uw266 rfl rfl rfl (Nat.le_of_ble_eq_true rfl) dX2_addRule_59 (ws2 := (wX2 cI cB cJ h q (v_size + 1) v_length v_height letter_18 valueAt_28 testAt_38 endAt_51 v_sign v_beside v_seen v_stack)) rfl ?_
    exact hQ _ _ _ dX2_addRule_62 ⟨v_size + 1, letter_18, valueAt_28, testAt_38, endAt_51, (by omega), r_letter_18, r_valueAt_28, r_testAt_38, r_endAt_51, rfl⟩
set_option maxHeartbeats 600000 in
set_option maxRecDepth 100000 in
theorem c_X2_look (l : Launch) (D : va_G) (cI cB cJ : ClassId) (h : Nat) (q : Nat → Nat) (h_mk : Nat) (q_mk : Nat → Nat) {v_size v_length v_height v_mk_told v_mk_day v_mk_x v_mk_sales v_mk_timesSoldOut v_mk_soldOutToday : Int} {v_letter v_valueAt v_testAt v_endAt v_sign v_beside v_seen v_stack v_mk_upper v_mk_lower v_mk_money v_mk_soldOut : Nat → Int} {p1 p2 : Int} (r_v_seen : RA (-2147483648) 2147483647 v_seen) (kr_v_mk_day : 0 ≤ v_mk_day ∧ v_mk_day ≤ 9999) (r_v_mk_upper : RA (-2147483648) 2147483647 v_mk_upper) (r_v_mk_lower : RA (-2147483648) 2147483647 v_mk_lower) (r_v_mk_money : RA (-2147483648) 2147483647 v_mk_money) (r_v_mk_soldOut : RA (-2147483648) 2147483647 v_mk_soldOut) (hp0 : IR p1) (hp1 : IR p2) (hp2 : 0 ≤ p1 ∧ p1 ≤ 7) : CtV l yX2_look cX2_look 4 none ⟨2, 0, 0, 44⟩ D (TY cI cB cJ) ((wX2 cI cB cJ h q v_size v_length v_height v_letter v_valueAt v_testAt v_endAt v_sign v_beside v_seen v_stack) ++ (wX4 cI cB cJ h_mk q_mk v_mk_told v_mk_day v_mk_x v_mk_sales v_mk_timesSoldOut v_mk_soldOutToday v_mk_upper v_mk_lower v_mk_money v_mk_soldOut)) [.ref h, .ref h_mk, vI p1, vI p2] (fun ws' => ∃ n_seen : Nat → Int, (RA (-2147483648) 2147483647 n_seen) ∧ (ws' = ((wX2 cI cB cJ h q v_size v_length v_height v_letter v_valueAt v_testAt v_endAt v_sign v_beside n_seen v_stack) ++ (wX4 cI cB cJ h_mk q_mk v_mk_told v_mk_day v_mk_x v_mk_sales v_mk_timesSoldOut v_mk_soldOutToday v_mk_upper v_mk_lower v_mk_money v_mk_soldOut)))) := by
  refine hdrV (own := RX2) rfl (by decide +kernel) (Nat.le_of_ble_eq_true rfl) ?_
  intro p e s m args below meth c Q A X hQ
  refine g_lvE (lv2 := [(0, .ref h), (1, .ref h_mk), (2, vI p1), (3, vI p2)]) rfl ?_
  refine g_aload_n X dX2_look_0 0 rfl ?_
  refine gX2_get X 0 rfl 8 (by decide) uw277 rfl dX2_look_1 ?_
  refine g_iconst X dX2_look_4 ?_
  refine g_iload_n X dX2_look_5 2 rfl ?_
  refine g_iast X 7 0 rfl rfl (by omega) (by decide) dX2_look_6 (fun seen_6 e6 => ?_)
  have r_seen_6 : RA (-2147483648) 2147483647 seen_6 := by rw [e6]; exact RA_up r_v_seen (by omega)
  refine g_ws (ws2 := ((wX2 cI cB cJ h q v_size v_length v_height v_letter v_valueAt v_testAt v_endAt v_sign v_beside seen_6 v_stack) ++ (wX4 cI cB cJ h_mk q_mk v_mk_told v_mk_day v_mk_x v_mk_sales v_mk_timesSoldOut v_mk_soldOutToday v_mk_upper v_mk_lower v_mk_money v_mk_soldOut))) rfl ?_
  refine g_aload_n X dX2_look_7 0 rfl ?_
  refine gX2_get X 0 rfl 8 (by decide) uw277 rfl dX2_look_8 ?_
  refine g_iconst X dX2_look_11 ?_
  refine g_aload_n X dX2_look_12 1 rfl ?_
  refine gN_get X (T := TX4) 9 rfl rfl inU_X4 1 (by decide) nw313 rfl rfl dX2_look_13 ?_
  refine g_iload_n X dX2_look_16 2 rfl ?_
  refine g_iald X 10 0 rfl rfl (by omega) (by decide) dX2_look_17 (fun t17 e17 => ?_)
  have r17 := r_v_mk_upper (p1 : Int).toNat; rw [← e17] at r17
  refine g_iast X 7 0 rfl rfl (by omega) (by decide) dX2_look_18 (fun seen_18 e18 => ?_)
  have r_seen_18 : RA (-2147483648) 2147483647 seen_18 := by rw [e18]; exact RA_up r_seen_6 (by omega)
  refine g_ws (ws2 := ((wX2 cI cB cJ h q v_size v_length v_height v_letter v_valueAt v_testAt v_endAt v_sign v_beside seen_18 v_stack) ++ (wX4 cI cB cJ h_mk q_mk v_mk_told v_mk_day v_mk_x v_mk_sales v_mk_timesSoldOut v_mk_soldOutToday v_mk_upper v_mk_lower v_mk_money v_mk_soldOut))) rfl ?_
  refine g_aload_n X dX2_look_19 0 rfl ?_
  refine gX2_get X 0 rfl 8 (by decide) uw277 rfl dX2_look_20 ?_
  refine g_iconst X dX2_look_23 ?_
  refine g_aload_n X dX2_look_24 1 rfl ?_
  refine gN_get X (T := TX4) 9 rfl rfl inU_X4 2 (by decide) nw316 rfl rfl dX2_look_25 ?_
  refine g_iload_n X dX2_look_28 2 rfl ?_
  refine g_iald X 11 0 rfl rfl (by omega) (by decide) dX2_look_29 (fun t29 e29 => ?_)
  have r29 := r_v_mk_lower (p1 : Int).toNat; rw [← e29] at r29
  refine g_iast X 7 0 rfl rfl (by omega) (by decide) dX2_look_30 (fun seen_30 e30 => ?_)
  have r_seen_30 : RA (-2147483648) 2147483647 seen_30 := by rw [e30]; exact RA_up r_seen_18 (by omega)
  refine g_ws (ws2 := ((wX2 cI cB cJ h q v_size v_length v_height v_letter v_valueAt v_testAt v_endAt v_sign v_beside seen_30 v_stack) ++ (wX4 cI cB cJ h_mk q_mk v_mk_told v_mk_day v_mk_x v_mk_sales v_mk_timesSoldOut v_mk_soldOutToday v_mk_upper v_mk_lower v_mk_money v_mk_soldOut))) rfl ?_
  refine g_aload_n X dX2_look_31 0 rfl ?_
  refine gX2_get X 0 rfl 8 (by decide) uw277 rfl dX2_look_32 ?_
  refine g_iconst X dX2_look_35 ?_
  refine g_aload_n X dX2_look_36 1 rfl ?_
  refine g_iload_n X dX2_look_37 2 rfl ?_
  refine g_callVIw X (c_X4_between l D cI cB cJ h_mk q_mk (p0 := p1) r_v_mk_upper r_v_mk_lower (by first | assumption | omega) (by first | assumption | omega)) [9, 10, 11, 12, 13] rfl rfl rfl cv_X4_between uw1065 ⟨rfl, rfl, by decide, by decide⟩ 0 rfl rfl rfl rfl rfl (Nat.le_of_ble_eq_true rfl) ⟨Nat.zero_le _, Nat.zero_le _⟩ dX2_look_38 (fun t38 ws38 k38 => ?_)
  obtain ⟨kp0_38, rfl⟩ := k38
  refine ⟨rfl, ?_⟩
  refine g_ws (ws2 := ((wX2 cI cB cJ h q v_size v_length v_height v_letter v_valueAt v_testAt v_endAt v_sign v_beside seen_30 v_stack) ++ (wX4 cI cB cJ h_mk q_mk v_mk_told v_mk_day v_mk_x v_mk_sales v_mk_timesSoldOut v_mk_soldOutToday v_mk_upper v_mk_lower v_mk_money v_mk_soldOut))) rfl ?_
  refine g_iast X 7 0 rfl rfl (by omega) (by decide) dX2_look_41 (fun seen_41 e41 => ?_)
  have r_seen_41 : RA (-2147483648) 2147483647 seen_41 := by rw [e41]; exact RA_up r_seen_30 (by omega)
  refine g_ws (ws2 := ((wX2 cI cB cJ h q v_size v_length v_height v_letter v_valueAt v_testAt v_endAt v_sign v_beside seen_41 v_stack) ++ (wX4 cI cB cJ h_mk q_mk v_mk_told v_mk_day v_mk_x v_mk_sales v_mk_timesSoldOut v_mk_soldOutToday v_mk_upper v_mk_lower v_mk_money v_mk_soldOut))) rfl ?_
  refine g_aload_n X dX2_look_42 0 rfl ?_
  refine gX2_get X 0 rfl 8 (by decide) uw277 rfl dX2_look_43 ?_
  refine g_iconst X dX2_look_46 ?_
  refine g_aload_n X dX2_look_47 1 rfl ?_
  refine gN_get X (T := TX4) 9 rfl rfl inU_X4 3 (by decide) nw319 rfl rfl dX2_look_48 ?_
  refine g_iload_n X dX2_look_51 2 rfl ?_
  refine g_iald X 12 0 rfl rfl (by omega) (by decide) dX2_look_52 (fun t52 e52 => ?_)
  have r52 := r_v_mk_money (p1 : Int).toNat; rw [← e52] at r52
  refine g_bipush X (z := 100) dX2_look_53 (by decide) ?_
  refine g_idivT X dX2_look_55 (by omega) (by omega) ?_
  refine g_nr (fun t55 e55 r55 => ?_)
  refine g_iast X 7 0 rfl rfl (by omega) (by decide) dX2_look_56 (fun seen_56 e56 => ?_)
  have r_seen_56 : RA (-2147483648) 2147483647 seen_56 := by rw [e56]; exact RA_up r_seen_41 (by omega)
  refine g_ws (ws2 := ((wX2 cI cB cJ h q v_size v_length v_height v_letter v_valueAt v_testAt v_endAt v_sign v_beside seen_56 v_stack) ++ (wX4 cI cB cJ h_mk q_mk v_mk_told v_mk_day v_mk_x v_mk_sales v_mk_timesSoldOut v_mk_soldOutToday v_mk_upper v_mk_lower v_mk_money v_mk_soldOut))) rfl ?_
  refine g_aload_n X dX2_look_57 0 rfl ?_
  refine gX2_get X 0 rfl 8 (by decide) uw277 rfl dX2_look_58 ?_
  refine g_iconst X dX2_look_61 ?_
  refine g_aload_n X dX2_look_62 1 rfl ?_
  refine gN_get X (T := TX4) 9 rfl rfl inU_X4 4 (by decide) nw322 rfl rfl dX2_look_63 ?_
  refine g_iload_n X dX2_look_66 2 rfl ?_
  refine g_iald X 13 0 rfl rfl (by omega) (by decide) dX2_look_67 (fun t67 e67 => ?_)
  have r67 := r_v_mk_soldOut (p1 : Int).toNat; rw [← e67] at r67
  refine g_iast X 7 0 rfl rfl (by omega) (by decide) dX2_look_68 (fun seen_68 e68 => ?_)
  have r_seen_68 : RA (-2147483648) 2147483647 seen_68 := by rw [e68]; exact RA_up r_seen_56 (by omega)
  refine g_ws (ws2 := ((wX2 cI cB cJ h q v_size v_length v_height v_letter v_valueAt v_testAt v_endAt v_sign v_beside seen_68 v_stack) ++ (wX4 cI cB cJ h_mk q_mk v_mk_told v_mk_day v_mk_x v_mk_sales v_mk_timesSoldOut v_mk_soldOutToday v_mk_upper v_mk_lower v_mk_money v_mk_soldOut))) rfl ?_
  refine g_aload_n X dX2_look_69 0 rfl ?_
  refine gX2_get X 0 rfl 8 (by decide) uw277 rfl dX2_look_70 ?_
  refine g_bipush X (z := 6) dX2_look_73 (by decide) ?_
  refine g_aload_n X dX2_look_75 1 rfl ?_
  refine g_iload_n X dX2_look_76 2 rfl ?_
  refine g_callVIw X (c_X4_othersWithMore l D cI cB cJ h_mk q_mk (p0 := p1) r_v_mk_upper r_v_mk_lower (by first | assumption | omega) (by first | assumption | omega)) [9, 10, 11, 12, 13] rfl rfl rfl cv_X4_othersWithMore uw1069 ⟨rfl, rfl, by decide, by decide⟩ 0 rfl rfl rfl rfl rfl (Nat.le_of_ble_eq_true rfl) ⟨Nat.zero_le _, Nat.zero_le _⟩ dX2_look_77 (fun t77 ws77 k77 => ?_)
  obtain ⟨kp0_77, rfl⟩ := k77
  refine ⟨rfl, ?_⟩
  refine g_ws (ws2 := ((wX2 cI cB cJ h q v_size v_length v_height v_letter v_valueAt v_testAt v_endAt v_sign v_beside seen_68 v_stack) ++ (wX4 cI cB cJ h_mk q_mk v_mk_told v_mk_day v_mk_x v_mk_sales v_mk_timesSoldOut v_mk_soldOutToday v_mk_upper v_mk_lower v_mk_money v_mk_soldOut))) rfl ?_
  refine g_iast X 7 0 rfl rfl (by omega) (by decide) dX2_look_80 (fun seen_80 e80 => ?_)
  have r_seen_80 : RA (-2147483648) 2147483647 seen_80 := by rw [e80]; exact RA_up r_seen_68 (by omega)
  refine g_ws (ws2 := ((wX2 cI cB cJ h q v_size v_length v_height v_letter v_valueAt v_testAt v_endAt v_sign v_beside seen_80 v_stack) ++ (wX4 cI cB cJ h_mk q_mk v_mk_told v_mk_day v_mk_x v_mk_sales v_mk_timesSoldOut v_mk_soldOutToday v_mk_upper v_mk_lower v_mk_money v_mk_soldOut))) rfl ?_
  refine g_aload_n X dX2_look_81 0 rfl ?_
  refine gX2_get X 0 rfl 8 (by decide) uw277 rfl dX2_look_82 ?_
  refine g_bipush X (z := 7) dX2_look_85 (by decide) ?_
  refine g_aload_n X dX2_look_87 1 rfl ?_
  refine gN_get X (T := TX4) 9 rfl rfl inU_X4 5 (by decide) nw325 rfl rfl dX2_look_88 ?_
  refine g_bipush X (z := 100) dX2_look_91 (by decide) ?_
  refine g_irem X dX2_look_93 (by omega) (by omega) ?_
  refine g_nm (fun t93 e93 => ?_)
  have r93 : 0 ≤ t93 ∧ ((0 : Int) < 100 → t93 < 100) := by rw [e93]; exact ⟨Int.emod_nonneg _ (by omega), fun h => Int.emod_lt_of_pos _ h⟩
  refine g_iast X 7 0 rfl rfl (by omega) (by decide) dX2_look_94 (fun seen_94 e94 => ?_)
  have r_seen_94 : RA (-2147483648) 2147483647 seen_94 := by rw [e94]; exact RA_up r_seen_80 (by omega)
  refine g_ws (ws2 := ((wX2 cI cB cJ h q v_size v_length v_height v_letter v_valueAt v_testAt v_endAt v_sign v_beside seen_94 v_stack) ++ (wX4 cI cB cJ h_mk q_mk v_mk_told v_mk_day v_mk_x v_mk_sales v_mk_timesSoldOut v_mk_soldOutToday v_mk_upper v_mk_lower v_mk_money v_mk_soldOut))) rfl ?_
  refine g_aload_n X dX2_look_95 0 rfl ?_
  refine gX2_get X 0 rfl 8 (by decide) uw277 rfl dX2_look_96 ?_
  refine g_bipush X (z := 8) dX2_look_99 (by decide) ?_
  refine g_iload_n X dX2_look_101 3 rfl ?_
  refine g_iast X 7 0 rfl rfl (by omega) (by decide) dX2_look_102 (fun seen_102 e102 => ?_)
  have r_seen_102 : RA (-2147483648) 2147483647 seen_102 := by rw [e102]; exact RA_up r_seen_94 (by omega)
  refine g_ws (ws2 := ((wX2 cI cB cJ h q v_size v_length v_height v_letter v_valueAt v_testAt v_endAt v_sign v_beside seen_102 v_stack) ++ (wX4 cI cB cJ h_mk q_mk v_mk_told v_mk_day v_mk_x v_mk_sales v_mk_timesSoldOut v_mk_soldOutToday v_mk_upper v_mk_lower v_mk_money v_mk_soldOut))) rfl ?_
  exact hQ _ _ _ dX2_look_103 ⟨seen_102, r_seen_102, rfl⟩
set_option maxHeartbeats 600000 in
set_option maxRecDepth 100000 in
theorem c_X2_push (l : Launch) (D : va_G) (cI cB cJ : ClassId) (h : Nat) (q : Nat → Nat) {v_size v_length v_height : Int} {v_letter v_valueAt v_testAt v_endAt v_sign v_beside v_seen v_stack : Nat → Int} {p0 : Int} (kr_v_height : 0 ≤ v_height ∧ v_height ≤ 64) (r_v_stack : RA (-2147483648) 2147483647 v_stack) (hp0 : IR p0) : CtV l yX2_push cX2_push 2 none ⟨0, 0, 0, 0⟩ D (TY cI cB cJ) (wX2 cI cB cJ h q v_size v_length v_height v_letter v_valueAt v_testAt v_endAt v_sign v_beside v_seen v_stack) [.ref h, vI p0] (fun ws' => ∃ n_height : Int, ∃ n_stack : Nat → Int, (0 ≤ n_height ∧ n_height ≤ 64) ∧ (RA (-2147483648) 2147483647 n_stack) ∧ (ws' = (wX2 cI cB cJ h q v_size v_length n_height v_letter v_valueAt v_testAt v_endAt v_sign v_beside v_seen n_stack))) := by
  refine hdrV (own := RX2) rfl (by decide +kernel) (Nat.le_of_ble_eq_true rfl) ?_
  intro p e s m args below meth c Q A X hQ
  refine g_lvE (lv2 := [(0, .ref h), (1, vI p0)]) rfl ?_
  refine g_aload_n X dX2_push_0 0 rfl ?_
  refine gX2_get X 0 rfl 10 (by decide) uw279 rfl dX2_push_1 ?_
  refine g_aload_n X dX2_push_4 0 rfl ?_
  refine gX2_get X 0 rfl 9 (by decide) uw278 rfl dX2_push_5 ?_
  refine g_alen X 8 0 rfl rfl (z := 64) rfl dX2_push_8 ?_
  refine g_icmp_ge X (tgt := 32) dX2_push_9 (by decide) (by omega) (by omega) (fun c9 => ?_) (fun c9 => ?_)
  · exact hQ _ _ _ dX2_push_32 ⟨v_height, v_stack, (by omega), r_v_stack, rfl⟩
  · refine g_aload_n X dX2_push_12 0 rfl ?_
    refine gX2_get X 0 rfl 9 (by decide) uw278 rfl dX2_push_13 ?_
    refine g_aload_n X dX2_push_16 0 rfl ?_
    refine gX2_get X 0 rfl 10 (by decide) uw279 rfl dX2_push_17 ?_
    refine g_iload_n X dX2_push_20 1 rfl ?_
    refine g_iast X 8 0 rfl rfl (by omega) (by decide) dX2_push_21 (fun stack_21 e21 => ?_)
    have r_stack_21 : RA (-2147483648) 2147483647 stack_21 := by rw [e21]; exact RA_up r_v_stack (by omega)
    refine g_ws (ws2 := (wX2 cI cB cJ h q v_size v_length v_height v_letter v_valueAt v_testAt v_endAt v_sign v_beside v_seen stack_21)) rfl ?_
    refine g_aload_n X dX2_push_22 0 rfl ?_
    refine g_dup X rfl dX2_push_23 ?_
    refine gX2_get X 0 rfl 10 (by decide) uw279 rfl dX2_push_24 ?_
    refine g_iconst X dX2_push_27 ?_
    refine g_iadd X dX2_push_28 ?_
    refine gX2_put X 0 rfl 10 (by decide) uw279 rfl rfl rfl (Nat.le_of_ble_eq_true rfl) dX2_push_29 (ws2 := (wX2 cI cB cJ h q v_size v_length (v_height + 1) v_letter v_valueAt v_testAt v_endAt v_sign v_beside v_seen stack_21)) rfl ?_
    exact hQ _ _ _ dX2_push_32 ⟨v_height + 1, stack_21, (by omega), r_stack_21, rfl⟩
set_option maxHeartbeats 600000 in
set_option maxRecDepth 100000 in
theorem c_X2_pop (l : Launch) (D : va_G) (cI cB cJ : ClassId) (h : Nat) (q : Nat → Nat) {v_size v_length v_height : Int} {v_letter v_valueAt v_testAt v_endAt v_sign v_beside v_seen v_stack : Nat → Int} (kr_v_height : 0 ≤ v_height ∧ v_height ≤ 64) (r_v_stack : RA (-2147483648) 2147483647 v_stack) : CtI l yX2_pop cX2_pop 1 (some .int) ⟨0, 0, 0, 0⟩ D (TY cI cB cJ) (wX2 cI cB cJ h q v_size v_length v_height v_letter v_valueAt v_testAt v_endAt v_sign v_beside v_seen v_stack) [.ref h] (fun z ws' => ∃ n_height : Int, (0 ≤ n_height ∧ n_height ≤ 64) ∧ (IR z) ∧ (ws' = (wX2 cI cB cJ h q v_size v_length n_height v_letter v_valueAt v_testAt v_endAt v_sign v_beside v_seen v_stack))) := by
  refine hdrI (own := RX2) rfl (by decide +kernel) (Nat.le_of_ble_eq_true rfl) ?_
  intro p e s m args below meth c Q A X hQ
  refine g_lvE (lv2 := [(0, .ref h)]) rfl ?_
  refine g_aload_n X dX2_pop_0 0 rfl ?_
  refine gX2_get X 0 rfl 10 (by decide) uw279 rfl dX2_pop_1 ?_
  refine g_if_ne X (tgt := 9) dX2_pop_4 (by decide) (by omega) (fun c4 => ?_) (fun c4 => ?_)
  · refine g_aload_n X dX2_pop_9 0 rfl ?_
    refine g_dup X rfl dX2_pop_10 ?_
    refine gX2_get X 0 rfl 10 (by decide) uw279 rfl dX2_pop_11 ?_
    refine g_iconst X dX2_pop_14 ?_
    refine g_isub X dX2_pop_15 ?_
    refine gX2_put X 0 rfl 10 (by decide) uw279 rfl rfl rfl (Nat.le_of_ble_eq_true rfl) dX2_pop_16 (ws2 := (wX2 cI cB cJ h q v_size v_length (v_height - 1) v_letter v_valueAt v_testAt v_endAt v_sign v_beside v_seen v_stack)) rfl ?_
    refine g_aload_n X dX2_pop_19 0 rfl ?_
    refine gX2_get X 0 rfl 9 (by decide) uw278 rfl dX2_pop_20 ?_
    refine g_aload_n X dX2_pop_23 0 rfl ?_
    refine gX2_get X 0 rfl 10 (by decide) uw279 rfl dX2_pop_24 ?_
    refine g_iald X 8 0 rfl rfl (by omega) (by decide) dX2_pop_27 (fun t27 e27 => ?_)
    have r27 := r_v_stack (v_height - 1 : Int).toNat; rw [← e27] at r27
    exact hQ _ _ _ _ dX2_pop_28 ⟨v_height - 1, (by omega), (by omega), rfl⟩
  · refine g_iconst X dX2_pop_7 ?_
    exact hQ _ _ _ _ dX2_pop_8 ⟨v_height, (by omega), (by omega), rfl⟩
set_option maxHeartbeats 600000 in
set_option maxRecDepth 100000 in
theorem c_X2_reckon (l : Launch) (D : va_G) (cI cB cJ : ClassId) {p0 p1 p2 : Int} (hp0 : IR p0) (hp1 : IR p1) (hp2 : IR p2) : CtI l yX2_reckon cX2_reckon 3 (some .int) ⟨0, 0, 0, 0⟩ D (TY cI cB cJ) [] [vI p0, vI p1, vI p2] (fun z ws' => (IR z) ∧ (ws' = [])) := by
  refine hdrI (own := RX2) rfl (by decide +kernel) (Nat.le_of_ble_eq_true rfl) ?_
  intro p e s m args below meth c Q A X hQ
  refine g_lvE (lv2 := [(0, vI p0), (1, vI p1), (2, vI p2)]) rfl ?_
  refine g_iload_n X dX2_reckon_0 0 rfl ?_
  refine g_nm (fun sw1 es1 => ?_)
  rcases (show sw1 = 37 ∨ sw1 = 42 ∨ sw1 = 43 ∨ sw1 = 45 ∨ sw1 = 47 ∨ sw1 = 60 ∨ sw1 = 62 ∨ (sw1 ≠ 37 ∧ sw1 ≠ 42 ∧ sw1 ≠ 43 ∧ sw1 ≠ 45 ∧ sw1 ≠ 47 ∧ sw1 ≠ 60 ∧ sw1 ≠ 62) by omega) with hs1 | hs1 | hs1 | hs1 | hs1 | hs1 | hs1 | hs1
  · rw [hs1]
    refine g_look X (off := 91) (tgt := 92) dX2_reckon_1 (by decide) (by omega) rfl (by decide) ?_
    refine g_iload_n X dX2_reckon_92 2 rfl ?_
    refine g_if_ne X (tgt := 100) dX2_reckon_93 (by decide) (by omega) (fun c93 => ?_) (fun c93 => ?_)
    · refine g_iload_n X dX2_reckon_100 1 rfl ?_
      refine g_iload_n X dX2_reckon_101 2 rfl ?_
      refine g_iremT X dX2_reckon_102 (by omega) (by omega) ?_
      refine g_nr (fun t102 e102 r102 => ?_)
      exact hQ _ _ _ _ dX2_reckon_103 ⟨(by omega), rfl⟩
    · refine g_iconst X dX2_reckon_96 ?_
      refine g_goto X (tgt := 103) dX2_reckon_97 (by decide) ?_
      exact hQ _ _ _ _ dX2_reckon_103 ⟨(by omega), rfl⟩
  · rw [hs1]
    refine g_look X (off := 75) (tgt := 76) dX2_reckon_1 (by decide) (by omega) rfl (by decide) ?_
    refine g_iload_n X dX2_reckon_76 1 rfl ?_
    refine g_iload_n X dX2_reckon_77 2 rfl ?_
    refine g_imul X dX2_reckon_78 ?_
    refine g_nr (fun t78 e78 r78 => ?_)
    exact hQ _ _ _ _ dX2_reckon_79 ⟨(by omega), rfl⟩
  · rw [hs1]
    refine g_look X (off := 67) (tgt := 68) dX2_reckon_1 (by decide) (by omega) rfl (by decide) ?_
    refine g_iload_n X dX2_reckon_68 1 rfl ?_
    refine g_iload_n X dX2_reckon_69 2 rfl ?_
    refine g_iadd X dX2_reckon_70 ?_
    refine g_nr (fun t70 e70 r70 => ?_)
    exact hQ _ _ _ _ dX2_reckon_71 ⟨(by omega), rfl⟩
  · rw [hs1]
    refine g_look X (off := 71) (tgt := 72) dX2_reckon_1 (by decide) (by omega) rfl (by decide) ?_
    refine g_iload_n X dX2_reckon_72 1 rfl ?_
    refine g_iload_n X dX2_reckon_73 2 rfl ?_
    refine g_isub X dX2_reckon_74 ?_
    refine g_nr (fun t74 e74 r74 => ?_)
    exact hQ _ _ _ _ dX2_reckon_75 ⟨(by omega), rfl⟩
  · rw [hs1]
    refine g_look X (off := 79) (tgt := 80) dX2_reckon_1 (by decide) (by omega) rfl (by decide) ?_
    refine g_iload_n X dX2_reckon_80 2 rfl ?_
    refine g_if_ne X (tgt := 88) dX2_reckon_81 (by decide) (by omega) (fun c81 => ?_) (fun c81 => ?_)
    · refine g_iload_n X dX2_reckon_88 1 rfl ?_
      refine g_iload_n X dX2_reckon_89 2 rfl ?_
      refine g_idivT X dX2_reckon_90 (by omega) (by omega) ?_
      refine g_nr (fun t90 e90 r90 => ?_)
      exact hQ _ _ _ _ dX2_reckon_91 ⟨(by omega), rfl⟩
    · refine g_iconst X dX2_reckon_84 ?_
      refine g_goto X (tgt := 91) dX2_reckon_85 (by decide) ?_
      exact hQ _ _ _ _ dX2_reckon_91 ⟨(by omega), rfl⟩
  · rw [hs1]
    refine g_look X (off := 103) (tgt := 104) dX2_reckon_1 (by decide) (by omega) rfl (by decide) ?_
    refine g_iload_n X dX2_reckon_104 1 rfl ?_
    refine g_iload_n X dX2_reckon_105 2 rfl ?_
    refine g_icmp_ge X (tgt := 113) dX2_reckon_106 (by decide) (by omega) (by omega) (fun c106 => ?_) (fun c106 => ?_)
    · refine g_iconst X dX2_reckon_113 ?_
      exact hQ _ _ _ _ dX2_reckon_114 ⟨(by omega), rfl⟩
    · refine g_iconst X dX2_reckon_109 ?_
      refine g_goto X (tgt := 114) dX2_reckon_110 (by decide) ?_
      exact hQ _ _ _ _ dX2_reckon_114 ⟨(by omega), rfl⟩
  · rw [hs1]
    refine g_look X (off := 114) (tgt := 115) dX2_reckon_1 (by decide) (by omega) rfl (by decide) ?_
    refine g_iload_n X dX2_reckon_115 1 rfl ?_
    refine g_iload_n X dX2_reckon_116 2 rfl ?_
    refine g_icmp_le X (tgt := 124) dX2_reckon_117 (by decide) (by omega) (by omega) (fun c117 => ?_) (fun c117 => ?_)
    · refine g_iconst X dX2_reckon_124 ?_
      exact hQ _ _ _ _ dX2_reckon_125 ⟨(by omega), rfl⟩
    · refine g_iconst X dX2_reckon_120 ?_
      refine g_goto X (tgt := 125) dX2_reckon_121 (by decide) ?_
      exact hQ _ _ _ _ dX2_reckon_125 ⟨(by omega), rfl⟩
  · refine g_look X (off := 125) (tgt := 126) dX2_reckon_1 (by decide) (by omega) (by show Op.lookupswitch.offset [(37, 91), (42, 75), (43, 67), (45, 71), (47, 79), (60, 103), (62, 114)] 125 sw1 = 125; rw [Op.lookupswitch.offset_cons, if_neg (by omega), Op.lookupswitch.offset_cons, if_neg (by omega), Op.lookupswitch.offset_cons, if_neg (by omega), Op.lookupswitch.offset_cons, if_neg (by omega), Op.lookupswitch.offset_cons, if_neg (by omega), Op.lookupswitch.offset_cons, if_neg (by omega), Op.lookupswitch.offset_cons, if_neg (by omega)]; rfl) (by decide) ?_
    refine g_iload_n X dX2_reckon_126 1 rfl ?_
    refine g_iload_n X dX2_reckon_127 2 rfl ?_
    refine g_icmp_ne X (tgt := 135) dX2_reckon_128 (by decide) (by omega) (by omega) (fun c128 => ?_) (fun c128 => ?_)
    · refine g_iconst X dX2_reckon_135 ?_
      exact hQ _ _ _ _ dX2_reckon_136 ⟨(by omega), rfl⟩
    · refine g_iconst X dX2_reckon_131 ?_
      refine g_goto X (tgt := 136) dX2_reckon_132 (by decide) ?_
      exact hQ _ _ _ _ dX2_reckon_136 ⟨(by omega), rfl⟩
set_option maxHeartbeats 600000 in
set_option maxRecDepth 100000 in
theorem c_X2_run (l : Launch) (D : va_G) (cI cB cJ : ClassId) (h : Nat) (q : Nat → Nat) {v_size v_length v_height : Int} {v_letter v_valueAt v_testAt v_endAt v_sign v_beside v_seen v_stack : Nat → Int} {p0 p1 : Int} (kr_v_height : 0 ≤ v_height ∧ v_height ≤ 64) (r_v_sign : RA (-2147483648) 2147483647 v_sign) (r_v_beside : RA 0 99999 v_beside) (r_v_seen : RA (-2147483648) 2147483647 v_seen) (r_v_stack : RA (-2147483648) 2147483647 v_stack) (hp0 : IR p0) (hp1 : IR p1) (hp2 : 0 ≤ p0 ∧ p0 ≤ 256) (hp3 : p1 ≤ 256) (hp4 : LInv v_sign v_beside) : CtI l yX2_run cX2_run 6 (some .int) ⟨1, 0, 0, 40⟩ D (TY cI cB cJ) (wX2 cI cB cJ h q v_size v_length v_height v_letter v_valueAt v_testAt v_endAt v_sign v_beside v_seen v_stack) [.ref h, vI p0, vI p1] (fun z ws' => ∃ n_height : Int, ∃ n_stack : Nat → Int, (0 ≤ n_height ∧ n_height ≤ 64) ∧ (RA (-2147483648) 2147483647 n_stack) ∧ (IR z) ∧ (ws' = (wX2 cI cB cJ h q v_size v_length n_height v_letter v_valueAt v_testAt v_endAt v_sign v_beside v_seen n_stack))) := by
  refine hdrI (own := RX2) rfl (by decide +kernel) (Nat.le_of_ble_eq_true rfl) ?_
  intro p e s m args below meth c Q A X hQ
  refine g_lvE (lv2 := [(0, .ref h), (1, vI p0), (2, vI p1)]) rfl ?_
  refine g_aload_n X dX2_run_0 0 rfl ?_
  refine g_iconst X dX2_run_1 ?_
  refine gX2_put X 0 rfl 10 (by decide) uw279 rfl rfl rfl (Nat.le_of_ble_eq_true rfl) dX2_run_2 (ws2 := (wX2 cI cB cJ h q v_size v_length 0 v_letter v_valueAt v_testAt v_endAt v_sign v_beside v_seen v_stack)) rfl ?_
  refine g_iload_n X dX2_run_5 1 rfl ?_
  refine g_istore_n X (lv' := [(3, vI p0), (0, .ref h), (1, vI p0), (2, vI p1)]) dX2_run_6 (by decide) rfl ?_
  have L7 : ∀ (n : Nat) (x3_7 : Int) (height_7 : Int) (stack_7 : Nat → Int), (0 ≤ height_7 ∧ height_7 ≤ 64) → (RA (-2147483648) 2147483647 stack_7) → (0 ≤ x3_7 ∧ x3_7 ≤ 100000) → (p1 - x3_7).toNat < n → GG p l e ⟨1, 0, 0, 40⟩ s m args below meth c 0 0 Q D A s.heap 6 (wX2 cI cB cJ h q v_size v_length height_7 v_letter v_valueAt v_testAt v_endAt v_sign v_beside v_seen stack_7) 7 [(0, .ref h), (2, vI p1), (3, vI x3_7)] [] := by
    intro n
    induction n with
    | zero => intros; exfalso; omega
    | succ n ih7 =>
      intro x3_7 height_7 stack_7 kr_height_7 r_stack_7 w7_0 wm7
      refine g_iload_n X dX2_run_7 2 rfl ?_
      refine g_iload_n X dX2_run_8 1 rfl ?_
      refine g_icmp_ge X (tgt := 210) dX2_run_9 (by decide) (by omega) (by omega) (fun c9 => ?_) (fun c9 => ?_)
      · refine g_aload_n X dX2_run_210 0 rfl ?_
        refine g_callVI0 X (c_X2_pop l D cI cB cJ h q  (by omega) r_stack_7) cv_X2_pop uw1085 ⟨rfl, rfl, by decide, by decide⟩ 0 rfl rfl rfl rfl rfl (Nat.le_of_ble_eq_true rfl) ⟨Nat.zero_le _, Nat.zero_le _⟩ dX2_run_211 (fun t211 ws211 k211 => ?_)
        obtain ⟨height_211, kr_height_211, kp0_211, rfl⟩ := k211
        exact hQ _ _ _ _ dX2_run_214 ⟨height_211, stack_7, (by omega), r_stack_7, (by omega), rfl⟩
      · refine g_aload_n X dX2_run_12 0 rfl ?_
        refine gX2_get X 0 rfl 6 (by decide) uw275 rfl dX2_run_13 ?_
        refine g_iload_n X dX2_run_16 2 rfl ?_
        refine g_iald X 5 0 rfl rfl (by omega) (by decide) dX2_run_17 (fun t17 e17 => ?_)
        have r17 := r_v_sign (x3_7 : Int).toNat; rw [← e17] at r17
        refine g_istore X (lv' := [(4, vI t17), (0, .ref h), (2, vI p1), (3, vI x3_7)]) dX2_run_18 (by decide) rfl ?_
        refine g_iload X dX2_run_20 0 rfl ?_
        refine g_callSIE X (c_X2_isPushed l D cI cB cJ (p0 := t17) (by first | assumption | omega)) cv_X2_isPushed uw1082 ⟨rfl, rfl, by decide, by decide⟩ rfl rfl (Nat.le_of_ble_eq_true rfl) ⟨Nat.zero_le _, Nat.zero_le _⟩ dX2_run_22 (fun t22 ws22 k22 => ?_)
        obtain ⟨kb_22, ⟨kp0_22, rfl⟩⟩ := k22
        refine g_if_eq X (tgt := 32) dX2_run_25 (by decide) (by omega) (fun c25 => ?_) (fun c25 => ?_)
        · refine g_aload_n X dX2_run_32 1 rfl ?_
          refine g_callVI0 X (c_X2_pop l D cI cB cJ h q  (by omega) r_stack_7) cv_X2_pop uw1085 ⟨rfl, rfl, by decide, by decide⟩ 0 rfl rfl rfl rfl rfl (Nat.le_of_ble_eq_true rfl) ⟨Nat.zero_le _, Nat.zero_le _⟩ dX2_run_33 (fun t33 ws33 k33 => ?_)
          obtain ⟨height_33, kr_height_33, kp0_33, rfl⟩ := k33
          refine g_istore X (lv' := [(5, vI t33), (4, vI t17), (0, .ref h), (2, vI p1), (3, vI x3_7)]) dX2_run_36 (by decide) rfl ?_
          refine g_iload X dX2_run_38 1 rfl ?_
          refine g_bipush X (z := 48) dX2_run_40 (by decide) ?_
          refine g_icmp_ne X (tgt := 58) dX2_run_42 (by decide) (by omega) (by omega) (fun c42 => ?_) (fun c42 => ?_)
          · refine g_iload X dX2_run_58 1 rfl ?_
            refine g_bipush X (z := 97) dX2_run_60 (by decide) ?_
            refine g_icmp_ne X (tgt := 83) dX2_run_62 (by decide) (by omega) (by omega) (fun c62 => ?_) (fun c62 => ?_)
            · refine g_iload X dX2_run_83 1 rfl ?_
              refine g_bipush X (z := 33) dX2_run_85 (by decide) ?_
              refine g_icmp_ne X (tgt := 107) dX2_run_87 (by decide) (by omega) (by omega) (fun c87 => ?_) (fun c87 => ?_)
              · refine g_iload X dX2_run_107 1 rfl ?_
                refine g_bipush X (z := 38) dX2_run_109 (by decide) ?_
                refine g_icmp_eq X (tgt := 121) dX2_run_111 (by decide) (by omega) (by omega) (fun c111 => ?_) (fun c111 => ?_)
                · refine g_iload X dX2_run_121 0 rfl ?_
                  refine g_if_eq X (tgt := 130) dX2_run_123 (by decide) (by omega) (fun c123 => ?_) (fun c123 => ?_)
                  · refine g_iconst X dX2_run_130 ?_
                    refine g_iload X dX2_run_131 1 rfl ?_
                    refine g_bipush X (z := 124) dX2_run_133 (by decide) ?_
                    refine g_icmp_ne X (tgt := 142) dX2_run_135 (by decide) (by omega) (by omega) (fun c135 => ?_) (fun c135 => ?_)
                    · refine g_iconst X dX2_run_142 ?_
                      refine g_icmp_ne X (tgt := 204) dX2_run_143 (by decide) (by omega) (by omega) (fun c143 => ?_) (fun c143 => ?_)
                      · refine g_iinc X (lv' := [(3, vI (x3_7 + 1)), (5, vI t33), (4, vI t17), (0, .ref h), (2, vI p1)]) dX2_run_204 4 rfl (by decide) rfl ?_
                        refine g_goto X (tgt := 7) dX2_run_207 (by decide) ?_
                        refine g_lv [3, 4, 0] rfl ?_
                        exact ih7 (x3_7 + 1) height_33 stack_7 (by omega) r_stack_7 (by first | assumption | omega) (by omega)
                      · refine g_aload_n X dX2_run_146 2 rfl ?_
                        refine g_iload X dX2_run_147 0 rfl ?_
                        refine g_callVV0 X (c_X2_push l D cI cB cJ h q (p0 := t33) (by omega) r_stack_7 (by first | assumption | omega)) cv_X2_push uw1089 ⟨rfl, rfl, by decide, by decide⟩ 0 rfl rfl rfl rfl rfl (Nat.le_of_ble_eq_true rfl) ⟨Nat.zero_le _, Nat.zero_le _⟩ dX2_run_149 (fun ws149 k149 => ?_)
                        obtain ⟨height_149, stack_149, kr_height_149, r_stack_149, rfl⟩ := k149
                        refine g_iload_n X dX2_run_152 4 rfl ?_
                        refine g_aload_n X dX2_run_153 2 rfl ?_
                        refine gX2_get X 0 rfl 7 (by decide) uw276 rfl dX2_run_154 ?_
                        refine g_iload_n X dX2_run_157 4 rfl ?_
                        refine g_iald X 6 0 rfl rfl (by omega) (by decide) dX2_run_158 (fun t158 e158 => ?_)
                        have r158 := r_v_beside (x3_7 : Int).toNat; rw [← e158] at r158
                        refine g_iconst X dX2_run_159 ?_
                        refine g_isub X dX2_run_160 ?_
                        refine g_mmax X uw1093 uw807 uw111 uw808 ⟨by decide, Nat.le_of_ble_eq_true rfl⟩ ⟨Nat.zero_le _, Nat.zero_le _⟩ (by omega) (by omega) dX2_run_161 (fun t161 k161 => ?_)
                        refine g_istore_n X (lv' := [(3, vI t161), (5, vI t33), (4, vI t17), (0, .ref h), (2, vI p1)]) dX2_run_164 (by decide) rfl ?_
                        refine g_goto X (tgt := 204) dX2_run_165 (by decide) ?_
                        refine g_iinc X (lv' := [(3, vI (t161 + 1)), (5, vI t33), (4, vI t17), (0, .ref h), (2, vI p1)]) dX2_run_204 0 rfl (by decide) rfl ?_
                        refine g_goto X (tgt := 7) dX2_run_207 (by decide) ?_
                        refine g_lv [3, 4, 0] rfl ?_
                        exact ih7 (t161 + 1) height_149 stack_149 (by omega) r_stack_149 (by first | assumption | omega) (by omega)
                    · refine g_iconst X dX2_run_138 ?_
                      refine g_goto X (tgt := 143) dX2_run_139 (by decide) ?_
                      refine g_icmp_ne X (tgt := 204) dX2_run_143 (by decide) (by omega) (by omega) (fun c143 => ?_) (fun c143 => ?_)
                      · refine g_iinc X (lv' := [(3, vI (x3_7 + 1)), (5, vI t33), (4, vI t17), (0, .ref h), (2, vI p1)]) dX2_run_204 4 rfl (by decide) rfl ?_
                        refine g_goto X (tgt := 7) dX2_run_207 (by decide) ?_
                        refine g_lv [3, 4, 0] rfl ?_
                        exact ih7 (x3_7 + 1) height_33 stack_7 (by omega) r_stack_7 (by first | assumption | omega) (by omega)
                      · refine g_aload_n X dX2_run_146 2 rfl ?_
                        refine g_iload X dX2_run_147 0 rfl ?_
                        refine g_callVV0 X (c_X2_push l D cI cB cJ h q (p0 := t33) (by omega) r_stack_7 (by first | assumption | omega)) cv_X2_push uw1089 ⟨rfl, rfl, by decide, by decide⟩ 0 rfl rfl rfl rfl rfl (Nat.le_of_ble_eq_true rfl) ⟨Nat.zero_le _, Nat.zero_le _⟩ dX2_run_149 (fun ws149 k149 => ?_)
                        obtain ⟨height_149, stack_149, kr_height_149, r_stack_149, rfl⟩ := k149
                        refine g_iload_n X dX2_run_152 4 rfl ?_
                        refine g_aload_n X dX2_run_153 2 rfl ?_
                        refine gX2_get X 0 rfl 7 (by decide) uw276 rfl dX2_run_154 ?_
                        refine g_iload_n X dX2_run_157 4 rfl ?_
                        refine g_iald X 6 0 rfl rfl (by omega) (by decide) dX2_run_158 (fun t158 e158 => ?_)
                        have r158 := r_v_beside (x3_7 : Int).toNat; rw [← e158] at r158
                        refine g_iconst X dX2_run_159 ?_
                        refine g_isub X dX2_run_160 ?_
                        refine g_mmax X uw1093 uw807 uw111 uw808 ⟨by decide, Nat.le_of_ble_eq_true rfl⟩ ⟨Nat.zero_le _, Nat.zero_le _⟩ (by omega) (by omega) dX2_run_161 (fun t161 k161 => ?_)
                        refine g_istore_n X (lv' := [(3, vI t161), (5, vI t33), (4, vI t17), (0, .ref h), (2, vI p1)]) dX2_run_164 (by decide) rfl ?_
                        refine g_goto X (tgt := 204) dX2_run_165 (by decide) ?_
                        refine g_iinc X (lv' := [(3, vI (t161 + 1)), (5, vI t33), (4, vI t17), (0, .ref h), (2, vI p1)]) dX2_run_204 0 rfl (by decide) rfl ?_
                        refine g_goto X (tgt := 7) dX2_run_207 (by decide) ?_
                        refine g_lv [3, 4, 0] rfl ?_
                        exact ih7 (t161 + 1) height_149 stack_149 (by omega) r_stack_149 (by first | assumption | omega) (by omega)
                  · refine g_iconst X dX2_run_126 ?_
                    refine g_goto X (tgt := 131) dX2_run_127 (by decide) ?_
                    refine g_iload X dX2_run_131 1 rfl ?_
                    refine g_bipush X (z := 124) dX2_run_133 (by decide) ?_
                    refine g_icmp_ne X (tgt := 142) dX2_run_135 (by decide) (by omega) (by omega) (fun c135 => ?_) (fun c135 => ?_)
                    · refine g_iconst X dX2_run_142 ?_
                      refine g_icmp_ne X (tgt := 204) dX2_run_143 (by decide) (by omega) (by omega) (fun c143 => ?_) (fun c143 => ?_)
                      · refine g_iinc X (lv' := [(3, vI (x3_7 + 1)), (5, vI t33), (4, vI t17), (0, .ref h), (2, vI p1)]) dX2_run_204 4 rfl (by decide) rfl ?_
                        refine g_goto X (tgt := 7) dX2_run_207 (by decide) ?_
                        refine g_lv [3, 4, 0] rfl ?_
                        exact ih7 (x3_7 + 1) height_33 stack_7 (by omega) r_stack_7 (by first | assumption | omega) (by omega)
                      · refine g_aload_n X dX2_run_146 2 rfl ?_
                        refine g_iload X dX2_run_147 0 rfl ?_
                        refine g_callVV0 X (c_X2_push l D cI cB cJ h q (p0 := t33) (by omega) r_stack_7 (by first | assumption | omega)) cv_X2_push uw1089 ⟨rfl, rfl, by decide, by decide⟩ 0 rfl rfl rfl rfl rfl (Nat.le_of_ble_eq_true rfl) ⟨Nat.zero_le _, Nat.zero_le _⟩ dX2_run_149 (fun ws149 k149 => ?_)
                        obtain ⟨height_149, stack_149, kr_height_149, r_stack_149, rfl⟩ := k149
                        refine g_iload_n X dX2_run_152 4 rfl ?_
                        refine g_aload_n X dX2_run_153 2 rfl ?_
                        refine gX2_get X 0 rfl 7 (by decide) uw276 rfl dX2_run_154 ?_
                        refine g_iload_n X dX2_run_157 4 rfl ?_
                        refine g_iald X 6 0 rfl rfl (by omega) (by decide) dX2_run_158 (fun t158 e158 => ?_)
                        have r158 := r_v_beside (x3_7 : Int).toNat; rw [← e158] at r158
                        refine g_iconst X dX2_run_159 ?_
                        refine g_isub X dX2_run_160 ?_
                        refine g_mmax X uw1093 uw807 uw111 uw808 ⟨by decide, Nat.le_of_ble_eq_true rfl⟩ ⟨Nat.zero_le _, Nat.zero_le _⟩ (by omega) (by omega) dX2_run_161 (fun t161 k161 => ?_)
                        refine g_istore_n X (lv' := [(3, vI t161), (5, vI t33), (4, vI t17), (0, .ref h), (2, vI p1)]) dX2_run_164 (by decide) rfl ?_
                        refine g_goto X (tgt := 204) dX2_run_165 (by decide) ?_
                        refine g_iinc X (lv' := [(3, vI (t161 + 1)), (5, vI t33), (4, vI t17), (0, .ref h), (2, vI p1)]) dX2_run_204 0 rfl (by decide) rfl ?_
                        refine g_goto X (tgt := 7) dX2_run_207 (by decide) ?_
                        refine g_lv [3, 4, 0] rfl ?_
                        exact ih7 (t161 + 1) height_149 stack_149 (by omega) r_stack_149 (by first | assumption | omega) (by omega)
                    · refine g_iconst X dX2_run_138 ?_
                      refine g_goto X (tgt := 143) dX2_run_139 (by decide) ?_
                      refine g_icmp_ne X (tgt := 204) dX2_run_143 (by decide) (by omega) (by omega) (fun c143 => ?_) (fun c143 => ?_)
                      · refine g_iinc X (lv' := [(3, vI (x3_7 + 1)), (5, vI t33), (4, vI t17), (0, .ref h), (2, vI p1)]) dX2_run_204 4 rfl (by decide) rfl ?_
                        refine g_goto X (tgt := 7) dX2_run_207 (by decide) ?_
                        refine g_lv [3, 4, 0] rfl ?_
                        exact ih7 (x3_7 + 1) height_33 stack_7 (by omega) r_stack_7 (by first | assumption | omega) (by omega)
                      · refine g_aload_n X dX2_run_146 2 rfl ?_
                        refine g_iload X dX2_run_147 0 rfl ?_
                        refine g_callVV0 X (c_X2_push l D cI cB cJ h q (p0 := t33) (by omega) r_stack_7 (by first | assumption | omega)) cv_X2_push uw1089 ⟨rfl, rfl, by decide, by decide⟩ 0 rfl rfl rfl rfl rfl (Nat.le_of_ble_eq_true rfl) ⟨Nat.zero_le _, Nat.zero_le _⟩ dX2_run_149 (fun ws149 k149 => ?_)
                        obtain ⟨height_149, stack_149, kr_height_149, r_stack_149, rfl⟩ := k149
                        refine g_iload_n X dX2_run_152 4 rfl ?_
                        refine g_aload_n X dX2_run_153 2 rfl ?_
                        refine gX2_get X 0 rfl 7 (by decide) uw276 rfl dX2_run_154 ?_
                        refine g_iload_n X dX2_run_157 4 rfl ?_
                        refine g_iald X 6 0 rfl rfl (by omega) (by decide) dX2_run_158 (fun t158 e158 => ?_)
                        have r158 := r_v_beside (x3_7 : Int).toNat; rw [← e158] at r158
                        refine g_iconst X dX2_run_159 ?_
                        refine g_isub X dX2_run_160 ?_
                        refine g_mmax X uw1093 uw807 uw111 uw808 ⟨by decide, Nat.le_of_ble_eq_true rfl⟩ ⟨Nat.zero_le _, Nat.zero_le _⟩ (by omega) (by omega) dX2_run_161 (fun t161 k161 => ?_)
                        refine g_istore_n X (lv' := [(3, vI t161), (5, vI t33), (4, vI t17), (0, .ref h), (2, vI p1)]) dX2_run_164 (by decide) rfl ?_
                        refine g_goto X (tgt := 204) dX2_run_165 (by decide) ?_
                        refine g_iinc X (lv' := [(3, vI (t161 + 1)), (5, vI t33), (4, vI t17), (0, .ref h), (2, vI p1)]) dX2_run_204 0 rfl (by decide) rfl ?_
                        refine g_goto X (tgt := 7) dX2_run_207 (by decide) ?_
                        refine g_lv [3, 4, 0] rfl ?_
                        exact ih7 (t161 + 1) height_149 stack_149 (by omega) r_stack_149 (by first | assumption | omega) (by omega)
                · refine g_iload X dX2_run_114 1 rfl ?_
                  refine g_bipush X (z := 124) dX2_run_116 (by decide) ?_
                  refine g_icmp_ne X (tgt := 168) dX2_run_118 (by decide) (by omega) (by omega) (fun c118 => ?_) (fun c118 => ?_)
                  · refine g_iload X dX2_run_168 0 rfl ?_
                    refine g_if_ne X (tgt := 189) dX2_run_170 (by decide) (by omega) (fun c170 => ?_) (fun c170 => ?_)
                    · refine g_aload_n X dX2_run_189 2 rfl ?_
                      refine g_iload X dX2_run_190 1 rfl ?_
                      refine g_aload_n X dX2_run_192 2 rfl ?_
                      refine g_callVI0 X (c_X2_pop l D cI cB cJ h q  (by omega) r_stack_7) cv_X2_pop uw1085 ⟨rfl, rfl, by decide, by decide⟩ 0 rfl rfl rfl rfl rfl (Nat.le_of_ble_eq_true rfl) ⟨Nat.zero_le _, Nat.zero_le _⟩ dX2_run_193 (fun t193 ws193 k193 => ?_)
                      obtain ⟨height_193, kr_height_193, kp0_193, rfl⟩ := k193
                      refine g_iload X dX2_run_196 0 rfl ?_
                      refine g_callSIE X (c_X2_reckon l D cI cB cJ (p0 := t17) (p1 := t193) (p2 := t33) (by first | assumption | omega) (by first | assumption | omega) (by first | assumption | omega)) cv_X2_reckon uw1094 ⟨rfl, rfl, by decide, by decide⟩ rfl rfl (Nat.le_of_ble_eq_true rfl) ⟨Nat.zero_le _, Nat.zero_le _⟩ dX2_run_198 (fun t198 ws198 k198 => ?_)
                      obtain ⟨kp0_198, rfl⟩ := k198
                      refine g_callVV0 X (c_X2_push l D cI cB cJ h q (p0 := t198) (by omega) r_stack_7 (by first | assumption | omega)) cv_X2_push uw1089 ⟨rfl, rfl, by decide, by decide⟩ 0 rfl rfl rfl rfl rfl (Nat.le_of_ble_eq_true rfl) ⟨Nat.zero_le _, Nat.zero_le _⟩ dX2_run_201 (fun ws201 k201 => ?_)
                      obtain ⟨height_201, stack_201, kr_height_201, r_stack_201, rfl⟩ := k201
                      refine g_iinc X (lv' := [(3, vI (x3_7 + 1)), (5, vI t33), (4, vI t17), (0, .ref h), (2, vI p1)]) dX2_run_204 4 rfl (by decide) rfl ?_
                      refine g_goto X (tgt := 7) dX2_run_207 (by decide) ?_
                      refine g_lv [3, 4, 0] rfl ?_
                      exact ih7 (x3_7 + 1) height_201 stack_201 (by omega) r_stack_201 (by first | assumption | omega) (by omega)
                    · refine g_iload X dX2_run_173 1 rfl ?_
                      refine g_bipush X (z := 47) dX2_run_175 (by decide) ?_
                      refine g_icmp_eq X (tgt := 187) dX2_run_177 (by decide) (by omega) (by omega) (fun c177 => ?_) (fun c177 => ?_)
                      · refine g_iconst X dX2_run_187 ?_
                        exact hQ _ _ _ _ dX2_run_188 ⟨height_33, stack_7, (by omega), r_stack_7, (by omega), rfl⟩
                      · refine g_iload X dX2_run_180 1 rfl ?_
                        refine g_bipush X (z := 37) dX2_run_182 (by decide) ?_
                        refine g_icmp_ne X (tgt := 189) dX2_run_184 (by decide) (by omega) (by omega) (fun c184 => ?_) (fun c184 => ?_)
                        · refine g_aload_n X dX2_run_189 2 rfl ?_
                          refine g_iload X dX2_run_190 1 rfl ?_
                          refine g_aload_n X dX2_run_192 2 rfl ?_
                          refine g_callVI0 X (c_X2_pop l D cI cB cJ h q  (by omega) r_stack_7) cv_X2_pop uw1085 ⟨rfl, rfl, by decide, by decide⟩ 0 rfl rfl rfl rfl rfl (Nat.le_of_ble_eq_true rfl) ⟨Nat.zero_le _, Nat.zero_le _⟩ dX2_run_193 (fun t193 ws193 k193 => ?_)
                          obtain ⟨height_193, kr_height_193, kp0_193, rfl⟩ := k193
                          refine g_iload X dX2_run_196 0 rfl ?_
                          refine g_callSIE X (c_X2_reckon l D cI cB cJ (p0 := t17) (p1 := t193) (p2 := t33) (by first | assumption | omega) (by first | assumption | omega) (by first | assumption | omega)) cv_X2_reckon uw1094 ⟨rfl, rfl, by decide, by decide⟩ rfl rfl (Nat.le_of_ble_eq_true rfl) ⟨Nat.zero_le _, Nat.zero_le _⟩ dX2_run_198 (fun t198 ws198 k198 => ?_)
                          obtain ⟨kp0_198, rfl⟩ := k198
                          refine g_callVV0 X (c_X2_push l D cI cB cJ h q (p0 := t198) (by omega) r_stack_7 (by first | assumption | omega)) cv_X2_push uw1089 ⟨rfl, rfl, by decide, by decide⟩ 0 rfl rfl rfl rfl rfl (Nat.le_of_ble_eq_true rfl) ⟨Nat.zero_le _, Nat.zero_le _⟩ dX2_run_201 (fun ws201 k201 => ?_)
                          obtain ⟨height_201, stack_201, kr_height_201, r_stack_201, rfl⟩ := k201
                          refine g_iinc X (lv' := [(3, vI (x3_7 + 1)), (5, vI t33), (4, vI t17), (0, .ref h), (2, vI p1)]) dX2_run_204 4 rfl (by decide) rfl ?_
                          refine g_goto X (tgt := 7) dX2_run_207 (by decide) ?_
                          refine g_lv [3, 4, 0] rfl ?_
                          exact ih7 (x3_7 + 1) height_201 stack_201 (by omega) r_stack_201 (by first | assumption | omega) (by omega)
                        · refine g_iconst X dX2_run_187 ?_
                          exact hQ _ _ _ _ dX2_run_188 ⟨height_33, stack_7, (by omega), r_stack_7, (by omega), rfl⟩
                  · refine g_iload X dX2_run_121 0 rfl ?_
                    refine g_if_eq X (tgt := 130) dX2_run_123 (by decide) (by omega) (fun c123 => ?_) (fun c123 => ?_)
                    · refine g_iconst X dX2_run_130 ?_
                      refine g_iload X dX2_run_131 1 rfl ?_
                      refine g_bipush X (z := 124) dX2_run_133 (by decide) ?_
                      refine g_icmp_ne X (tgt := 142) dX2_run_135 (by decide) (by omega) (by omega) (fun c135 => ?_) (fun c135 => ?_)
                      · refine g_iconst X dX2_run_142 ?_
                        refine g_icmp_ne X (tgt := 204) dX2_run_143 (by decide) (by omega) (by omega) (fun c143 => ?_) (fun c143 => ?_)
                        · refine g_iinc X (lv' := [(3, vI (x3_7 + 1)), (5, vI t33), (4, vI t17), (0, .ref h), (2, vI p1)]) dX2_run_204 4 rfl (by decide) rfl ?_
                          refine g_goto X (tgt := 7) dX2_run_207 (by decide) ?_
                          refine g_lv [3, 4, 0] rfl ?_
                          exact ih7 (x3_7 + 1) height_33 stack_7 (by omega) r_stack_7 (by first | assumption | omega) (by omega)
                        · refine g_aload_n X dX2_run_146 2 rfl ?_
                          refine g_iload X dX2_run_147 0 rfl ?_
                          refine g_callVV0 X (c_X2_push l D cI cB cJ h q (p0 := t33) (by omega) r_stack_7 (by first | assumption | omega)) cv_X2_push uw1089 ⟨rfl, rfl, by decide, by decide⟩ 0 rfl rfl rfl rfl rfl (Nat.le_of_ble_eq_true rfl) ⟨Nat.zero_le _, Nat.zero_le _⟩ dX2_run_149 (fun ws149 k149 => ?_)
                          obtain ⟨height_149, stack_149, kr_height_149, r_stack_149, rfl⟩ := k149
                          refine g_iload_n X dX2_run_152 4 rfl ?_
                          refine g_aload_n X dX2_run_153 2 rfl ?_
                          refine gX2_get X 0 rfl 7 (by decide) uw276 rfl dX2_run_154 ?_
                          refine g_iload_n X dX2_run_157 4 rfl ?_
                          refine g_iald X 6 0 rfl rfl (by omega) (by decide) dX2_run_158 (fun t158 e158 => ?_)
                          have r158 := r_v_beside (x3_7 : Int).toNat; rw [← e158] at r158
                          refine g_iconst X dX2_run_159 ?_
                          refine g_isub X dX2_run_160 ?_
                          refine g_mmax X uw1093 uw807 uw111 uw808 ⟨by decide, Nat.le_of_ble_eq_true rfl⟩ ⟨Nat.zero_le _, Nat.zero_le _⟩ (by omega) (by omega) dX2_run_161 (fun t161 k161 => ?_)
                          refine g_istore_n X (lv' := [(3, vI t161), (5, vI t33), (4, vI t17), (0, .ref h), (2, vI p1)]) dX2_run_164 (by decide) rfl ?_
                          refine g_goto X (tgt := 204) dX2_run_165 (by decide) ?_
                          refine g_iinc X (lv' := [(3, vI (t161 + 1)), (5, vI t33), (4, vI t17), (0, .ref h), (2, vI p1)]) dX2_run_204 0 rfl (by decide) rfl ?_
                          refine g_goto X (tgt := 7) dX2_run_207 (by decide) ?_
                          refine g_lv [3, 4, 0] rfl ?_
                          exact ih7 (t161 + 1) height_149 stack_149 (by omega) r_stack_149 (by first | assumption | omega) (by omega)
                      · refine g_iconst X dX2_run_138 ?_
                        refine g_goto X (tgt := 143) dX2_run_139 (by decide) ?_
                        refine g_icmp_ne X (tgt := 204) dX2_run_143 (by decide) (by omega) (by omega) (fun c143 => ?_) (fun c143 => ?_)
                        · refine g_iinc X (lv' := [(3, vI (x3_7 + 1)), (5, vI t33), (4, vI t17), (0, .ref h), (2, vI p1)]) dX2_run_204 4 rfl (by decide) rfl ?_
                          refine g_goto X (tgt := 7) dX2_run_207 (by decide) ?_
                          refine g_lv [3, 4, 0] rfl ?_
                          exact ih7 (x3_7 + 1) height_33 stack_7 (by omega) r_stack_7 (by first | assumption | omega) (by omega)
                        · refine g_aload_n X dX2_run_146 2 rfl ?_
                          refine g_iload X dX2_run_147 0 rfl ?_
                          refine g_callVV0 X (c_X2_push l D cI cB cJ h q (p0 := t33) (by omega) r_stack_7 (by first | assumption | omega)) cv_X2_push uw1089 ⟨rfl, rfl, by decide, by decide⟩ 0 rfl rfl rfl rfl rfl (Nat.le_of_ble_eq_true rfl) ⟨Nat.zero_le _, Nat.zero_le _⟩ dX2_run_149 (fun ws149 k149 => ?_)
                          obtain ⟨height_149, stack_149, kr_height_149, r_stack_149, rfl⟩ := k149
                          refine g_iload_n X dX2_run_152 4 rfl ?_
                          refine g_aload_n X dX2_run_153 2 rfl ?_
                          refine gX2_get X 0 rfl 7 (by decide) uw276 rfl dX2_run_154 ?_
                          refine g_iload_n X dX2_run_157 4 rfl ?_
                          refine g_iald X 6 0 rfl rfl (by omega) (by decide) dX2_run_158 (fun t158 e158 => ?_)
                          have r158 := r_v_beside (x3_7 : Int).toNat; rw [← e158] at r158
                          refine g_iconst X dX2_run_159 ?_
                          refine g_isub X dX2_run_160 ?_
                          refine g_mmax X uw1093 uw807 uw111 uw808 ⟨by decide, Nat.le_of_ble_eq_true rfl⟩ ⟨Nat.zero_le _, Nat.zero_le _⟩ (by omega) (by omega) dX2_run_161 (fun t161 k161 => ?_)
                          refine g_istore_n X (lv' := [(3, vI t161), (5, vI t33), (4, vI t17), (0, .ref h), (2, vI p1)]) dX2_run_164 (by decide) rfl ?_
                          refine g_goto X (tgt := 204) dX2_run_165 (by decide) ?_
                          refine g_iinc X (lv' := [(3, vI (t161 + 1)), (5, vI t33), (4, vI t17), (0, .ref h), (2, vI p1)]) dX2_run_204 0 rfl (by decide) rfl ?_
                          refine g_goto X (tgt := 7) dX2_run_207 (by decide) ?_
                          refine g_lv [3, 4, 0] rfl ?_
                          exact ih7 (t161 + 1) height_149 stack_149 (by omega) r_stack_149 (by first | assumption | omega) (by omega)
                    · refine g_iconst X dX2_run_126 ?_
                      refine g_goto X (tgt := 131) dX2_run_127 (by decide) ?_
                      refine g_iload X dX2_run_131 1 rfl ?_
                      refine g_bipush X (z := 124) dX2_run_133 (by decide) ?_
                      refine g_icmp_ne X (tgt := 142) dX2_run_135 (by decide) (by omega) (by omega) (fun c135 => ?_) (fun c135 => ?_)
                      · refine g_iconst X dX2_run_142 ?_
                        refine g_icmp_ne X (tgt := 204) dX2_run_143 (by decide) (by omega) (by omega) (fun c143 => ?_) (fun c143 => ?_)
                        · refine g_iinc X (lv' := [(3, vI (x3_7 + 1)), (5, vI t33), (4, vI t17), (0, .ref h), (2, vI p1)]) dX2_run_204 4 rfl (by decide) rfl ?_
                          refine g_goto X (tgt := 7) dX2_run_207 (by decide) ?_
                          refine g_lv [3, 4, 0] rfl ?_
                          exact ih7 (x3_7 + 1) height_33 stack_7 (by omega) r_stack_7 (by first | assumption | omega) (by omega)
                        · refine g_aload_n X dX2_run_146 2 rfl ?_
                          refine g_iload X dX2_run_147 0 rfl ?_
                          refine g_callVV0 X (c_X2_push l D cI cB cJ h q (p0 := t33) (by omega) r_stack_7 (by first | assumption | omega)) cv_X2_push uw1089 ⟨rfl, rfl, by decide, by decide⟩ 0 rfl rfl rfl rfl rfl (Nat.le_of_ble_eq_true rfl) ⟨Nat.zero_le _, Nat.zero_le _⟩ dX2_run_149 (fun ws149 k149 => ?_)
                          obtain ⟨height_149, stack_149, kr_height_149, r_stack_149, rfl⟩ := k149
                          refine g_iload_n X dX2_run_152 4 rfl ?_
                          refine g_aload_n X dX2_run_153 2 rfl ?_
                          refine gX2_get X 0 rfl 7 (by decide) uw276 rfl dX2_run_154 ?_
                          refine g_iload_n X dX2_run_157 4 rfl ?_
                          refine g_iald X 6 0 rfl rfl (by omega) (by decide) dX2_run_158 (fun t158 e158 => ?_)
                          have r158 := r_v_beside (x3_7 : Int).toNat; rw [← e158] at r158
                          refine g_iconst X dX2_run_159 ?_
                          refine g_isub X dX2_run_160 ?_
                          refine g_mmax X uw1093 uw807 uw111 uw808 ⟨by decide, Nat.le_of_ble_eq_true rfl⟩ ⟨Nat.zero_le _, Nat.zero_le _⟩ (by omega) (by omega) dX2_run_161 (fun t161 k161 => ?_)
                          refine g_istore_n X (lv' := [(3, vI t161), (5, vI t33), (4, vI t17), (0, .ref h), (2, vI p1)]) dX2_run_164 (by decide) rfl ?_
                          refine g_goto X (tgt := 204) dX2_run_165 (by decide) ?_
                          refine g_iinc X (lv' := [(3, vI (t161 + 1)), (5, vI t33), (4, vI t17), (0, .ref h), (2, vI p1)]) dX2_run_204 0 rfl (by decide) rfl ?_
                          refine g_goto X (tgt := 7) dX2_run_207 (by decide) ?_
                          refine g_lv [3, 4, 0] rfl ?_
                          exact ih7 (t161 + 1) height_149 stack_149 (by omega) r_stack_149 (by first | assumption | omega) (by omega)
                      · refine g_iconst X dX2_run_138 ?_
                        refine g_goto X (tgt := 143) dX2_run_139 (by decide) ?_
                        refine g_icmp_ne X (tgt := 204) dX2_run_143 (by decide) (by omega) (by omega) (fun c143 => ?_) (fun c143 => ?_)
                        · refine g_iinc X (lv' := [(3, vI (x3_7 + 1)), (5, vI t33), (4, vI t17), (0, .ref h), (2, vI p1)]) dX2_run_204 4 rfl (by decide) rfl ?_
                          refine g_goto X (tgt := 7) dX2_run_207 (by decide) ?_
                          refine g_lv [3, 4, 0] rfl ?_
                          exact ih7 (x3_7 + 1) height_33 stack_7 (by omega) r_stack_7 (by first | assumption | omega) (by omega)
                        · refine g_aload_n X dX2_run_146 2 rfl ?_
                          refine g_iload X dX2_run_147 0 rfl ?_
                          refine g_callVV0 X (c_X2_push l D cI cB cJ h q (p0 := t33) (by omega) r_stack_7 (by first | assumption | omega)) cv_X2_push uw1089 ⟨rfl, rfl, by decide, by decide⟩ 0 rfl rfl rfl rfl rfl (Nat.le_of_ble_eq_true rfl) ⟨Nat.zero_le _, Nat.zero_le _⟩ dX2_run_149 (fun ws149 k149 => ?_)
                          obtain ⟨height_149, stack_149, kr_height_149, r_stack_149, rfl⟩ := k149
                          refine g_iload_n X dX2_run_152 4 rfl ?_
                          refine g_aload_n X dX2_run_153 2 rfl ?_
                          refine gX2_get X 0 rfl 7 (by decide) uw276 rfl dX2_run_154 ?_
                          refine g_iload_n X dX2_run_157 4 rfl ?_
                          refine g_iald X 6 0 rfl rfl (by omega) (by decide) dX2_run_158 (fun t158 e158 => ?_)
                          have r158 := r_v_beside (x3_7 : Int).toNat; rw [← e158] at r158
                          refine g_iconst X dX2_run_159 ?_
                          refine g_isub X dX2_run_160 ?_
                          refine g_mmax X uw1093 uw807 uw111 uw808 ⟨by decide, Nat.le_of_ble_eq_true rfl⟩ ⟨Nat.zero_le _, Nat.zero_le _⟩ (by omega) (by omega) dX2_run_161 (fun t161 k161 => ?_)
                          refine g_istore_n X (lv' := [(3, vI t161), (5, vI t33), (4, vI t17), (0, .ref h), (2, vI p1)]) dX2_run_164 (by decide) rfl ?_
                          refine g_goto X (tgt := 204) dX2_run_165 (by decide) ?_
                          refine g_iinc X (lv' := [(3, vI (t161 + 1)), (5, vI t33), (4, vI t17), (0, .ref h), (2, vI p1)]) dX2_run_204 0 rfl (by decide) rfl ?_
                          refine g_goto X (tgt := 7) dX2_run_207 (by decide) ?_
                          refine g_lv [3, 4, 0] rfl ?_
                          exact ih7 (t161 + 1) height_149 stack_149 (by omega) r_stack_149 (by first | assumption | omega) (by omega)
              · refine g_aload_n X dX2_run_90 2 rfl ?_
                refine g_iload X dX2_run_91 0 rfl ?_
                refine g_if_ne X (tgt := 100) dX2_run_93 (by decide) (by omega) (fun c93 => ?_) (fun c93 => ?_)
                · refine g_iconst X dX2_run_100 ?_
                  refine g_callVV0 X (c_X2_push l D cI cB cJ h q (p0 := 0) (by omega) r_stack_7 (by first | assumption | omega)) cv_X2_push uw1089 ⟨rfl, rfl, by decide, by decide⟩ 0 rfl rfl rfl rfl rfl (Nat.le_of_ble_eq_true rfl) ⟨Nat.zero_le _, Nat.zero_le _⟩ dX2_run_101 (fun ws101 k101 => ?_)
                  obtain ⟨height_101, stack_101, kr_height_101, r_stack_101, rfl⟩ := k101
                  refine g_goto X (tgt := 204) dX2_run_104 (by decide) ?_
                  refine g_iinc X (lv' := [(3, vI (x3_7 + 1)), (5, vI t33), (4, vI t17), (0, .ref h), (2, vI p1)]) dX2_run_204 4 rfl (by decide) rfl ?_
                  refine g_goto X (tgt := 7) dX2_run_207 (by decide) ?_
                  refine g_lv [3, 4, 0] rfl ?_
                  exact ih7 (x3_7 + 1) height_101 stack_101 (by omega) r_stack_101 (by first | assumption | omega) (by omega)
                · refine g_iconst X dX2_run_96 ?_
                  refine g_goto X (tgt := 101) dX2_run_97 (by decide) ?_
                  refine g_callVV0 X (c_X2_push l D cI cB cJ h q (p0 := 1) (by omega) r_stack_7 (by first | assumption | omega)) cv_X2_push uw1089 ⟨rfl, rfl, by decide, by decide⟩ 0 rfl rfl rfl rfl rfl (Nat.le_of_ble_eq_true rfl) ⟨Nat.zero_le _, Nat.zero_le _⟩ dX2_run_101 (fun ws101 k101 => ?_)
                  obtain ⟨height_101, stack_101, kr_height_101, r_stack_101, rfl⟩ := k101
                  refine g_goto X (tgt := 204) dX2_run_104 (by decide) ?_
                  refine g_iinc X (lv' := [(3, vI (x3_7 + 1)), (5, vI t33), (4, vI t17), (0, .ref h), (2, vI p1)]) dX2_run_204 4 rfl (by decide) rfl ?_
                  refine g_goto X (tgt := 7) dX2_run_207 (by decide) ?_
                  refine g_lv [3, 4, 0] rfl ?_
                  exact ih7 (x3_7 + 1) height_101 stack_101 (by omega) r_stack_101 (by first | assumption | omega) (by omega)
            · refine g_aload_n X dX2_run_65 2 rfl ?_
              refine g_aload_n X dX2_run_66 2 rfl ?_
              refine gX2_get X 0 rfl 8 (by decide) uw277 rfl dX2_run_67 ?_
              refine g_aload_n X dX2_run_70 2 rfl ?_
              refine gX2_get X 0 rfl 7 (by decide) uw276 rfl dX2_run_71 ?_
              refine g_iload_n X dX2_run_74 4 rfl ?_
              refine g_iald X 6 0 rfl rfl (by omega) (by decide) dX2_run_75 (fun t75 e75 => ?_)
              have r75 := r_v_beside (x3_7 : Int).toNat; rw [← e75] at r75
              have hL := hp4 (x3_7).toNat
              refine g_iald X 7 0 rfl rfl (by omega) (by decide) dX2_run_76 (fun t76 e76 => ?_)
              have r76 := r_v_seen (t75 : Int).toNat; rw [← e76] at r76
              refine g_callVV0 X (c_X2_push l D cI cB cJ h q (p0 := t76) (by omega) r_stack_7 (by first | assumption | omega)) cv_X2_push uw1089 ⟨rfl, rfl, by decide, by decide⟩ 0 rfl rfl rfl rfl rfl (Nat.le_of_ble_eq_true rfl) ⟨Nat.zero_le _, Nat.zero_le _⟩ dX2_run_77 (fun ws77 k77 => ?_)
              obtain ⟨height_77, stack_77, kr_height_77, r_stack_77, rfl⟩ := k77
              refine g_goto X (tgt := 204) dX2_run_80 (by decide) ?_
              refine g_iinc X (lv' := [(3, vI (x3_7 + 1)), (5, vI t33), (4, vI t17), (0, .ref h), (2, vI p1)]) dX2_run_204 4 rfl (by decide) rfl ?_
              refine g_goto X (tgt := 7) dX2_run_207 (by decide) ?_
              refine g_lv [3, 4, 0] rfl ?_
              exact ih7 (x3_7 + 1) height_77 stack_77 (by omega) r_stack_77 (by first | assumption | omega) (by omega)
          · refine g_aload_n X dX2_run_45 2 rfl ?_
            refine g_aload_n X dX2_run_46 2 rfl ?_
            refine gX2_get X 0 rfl 7 (by decide) uw276 rfl dX2_run_47 ?_
            refine g_iload_n X dX2_run_50 4 rfl ?_
            refine g_iald X 6 0 rfl rfl (by omega) (by decide) dX2_run_51 (fun t51 e51 => ?_)
            have r51 := r_v_beside (x3_7 : Int).toNat; rw [← e51] at r51
            refine g_callVV0 X (c_X2_push l D cI cB cJ h q (p0 := t51) (by omega) r_stack_7 (by first | assumption | omega)) cv_X2_push uw1089 ⟨rfl, rfl, by decide, by decide⟩ 0 rfl rfl rfl rfl rfl (Nat.le_of_ble_eq_true rfl) ⟨Nat.zero_le _, Nat.zero_le _⟩ dX2_run_52 (fun ws52 k52 => ?_)
            obtain ⟨height_52, stack_52, kr_height_52, r_stack_52, rfl⟩ := k52
            refine g_goto X (tgt := 204) dX2_run_55 (by decide) ?_
            refine g_iinc X (lv' := [(3, vI (x3_7 + 1)), (5, vI t33), (4, vI t17), (0, .ref h), (2, vI p1)]) dX2_run_204 4 rfl (by decide) rfl ?_
            refine g_goto X (tgt := 7) dX2_run_207 (by decide) ?_
            refine g_lv [3, 4, 0] rfl ?_
            exact ih7 (x3_7 + 1) height_52 stack_52 (by omega) r_stack_52 (by first | assumption | omega) (by omega)
        · refine g_iconst X dX2_run_28 ?_
          refine g_goto X (tgt := 36) dX2_run_29 (by decide) ?_
          refine g_istore X (lv' := [(5, vI 0), (4, vI t17), (0, .ref h), (2, vI p1), (3, vI x3_7)]) dX2_run_36 (by decide) rfl ?_
          refine g_iload X dX2_run_38 1 rfl ?_
          refine g_bipush X (z := 48) dX2_run_40 (by decide) ?_
          refine g_icmp_ne X (tgt := 58) dX2_run_42 (by decide) (by omega) (by omega) (fun c42 => ?_) (fun c42 => ?_)
          · refine g_iload X dX2_run_58 1 rfl ?_
            refine g_bipush X (z := 97) dX2_run_60 (by decide) ?_
            refine g_icmp_ne X (tgt := 83) dX2_run_62 (by decide) (by omega) (by omega) (fun c62 => ?_) (fun c62 => ?_)
            · refine g_iload X dX2_run_83 1 rfl ?_
              refine g_bipush X (z := 33) dX2_run_85 (by decide) ?_
              refine g_icmp_ne X (tgt := 107) dX2_run_87 (by decide) (by omega) (by omega) (fun c87 => ?_) (fun c87 => ?_)
              · refine g_iload X dX2_run_107 1 rfl ?_
                refine g_bipush X (z := 38) dX2_run_109 (by decide) ?_
                refine g_icmp_eq X (tgt := 121) dX2_run_111 (by decide) (by omega) (by omega) (fun c111 => ?_) (fun c111 => ?_)
                · refine g_iload X dX2_run_121 0 rfl ?_
                  refine g_if_eq X (tgt := 130) dX2_run_123 (by decide) (by omega) (fun c123 => ?_) (fun c123 => ?_)
                  · refine g_iconst X dX2_run_130 ?_
                    refine g_iload X dX2_run_131 1 rfl ?_
                    refine g_bipush X (z := 124) dX2_run_133 (by decide) ?_
                    refine g_icmp_ne X (tgt := 142) dX2_run_135 (by decide) (by omega) (by omega) (fun c135 => ?_) (fun c135 => ?_)
                    · refine g_iconst X dX2_run_142 ?_
                      refine g_icmp_ne X (tgt := 204) dX2_run_143 (by decide) (by omega) (by omega) (fun c143 => ?_) (fun c143 => ?_)
                      · refine g_iinc X (lv' := [(3, vI (x3_7 + 1)), (5, vI 0), (4, vI t17), (0, .ref h), (2, vI p1)]) dX2_run_204 4 rfl (by decide) rfl ?_
                        refine g_goto X (tgt := 7) dX2_run_207 (by decide) ?_
                        refine g_lv [3, 4, 0] rfl ?_
                        exact ih7 (x3_7 + 1) height_7 stack_7 (by omega) r_stack_7 (by first | assumption | omega) (by omega)
                      · refine g_aload_n X dX2_run_146 2 rfl ?_
                        refine g_iload X dX2_run_147 0 rfl ?_
                        refine g_callVV0 X (c_X2_push l D cI cB cJ h q (p0 := 0) (by omega) r_stack_7 (by first | assumption | omega)) cv_X2_push uw1089 ⟨rfl, rfl, by decide, by decide⟩ 0 rfl rfl rfl rfl rfl (Nat.le_of_ble_eq_true rfl) ⟨Nat.zero_le _, Nat.zero_le _⟩ dX2_run_149 (fun ws149 k149 => ?_)
                        obtain ⟨height_149, stack_149, kr_height_149, r_stack_149, rfl⟩ := k149
                        refine g_iload_n X dX2_run_152 4 rfl ?_
                        refine g_aload_n X dX2_run_153 2 rfl ?_
                        refine gX2_get X 0 rfl 7 (by decide) uw276 rfl dX2_run_154 ?_
                        refine g_iload_n X dX2_run_157 4 rfl ?_
                        refine g_iald X 6 0 rfl rfl (by omega) (by decide) dX2_run_158 (fun t158 e158 => ?_)
                        have r158 := r_v_beside (x3_7 : Int).toNat; rw [← e158] at r158
                        refine g_iconst X dX2_run_159 ?_
                        refine g_isub X dX2_run_160 ?_
                        refine g_mmax X uw1093 uw807 uw111 uw808 ⟨by decide, Nat.le_of_ble_eq_true rfl⟩ ⟨Nat.zero_le _, Nat.zero_le _⟩ (by omega) (by omega) dX2_run_161 (fun t161 k161 => ?_)
                        refine g_istore_n X (lv' := [(3, vI t161), (5, vI 0), (4, vI t17), (0, .ref h), (2, vI p1)]) dX2_run_164 (by decide) rfl ?_
                        refine g_goto X (tgt := 204) dX2_run_165 (by decide) ?_
                        refine g_iinc X (lv' := [(3, vI (t161 + 1)), (5, vI 0), (4, vI t17), (0, .ref h), (2, vI p1)]) dX2_run_204 0 rfl (by decide) rfl ?_
                        refine g_goto X (tgt := 7) dX2_run_207 (by decide) ?_
                        refine g_lv [3, 4, 0] rfl ?_
                        exact ih7 (t161 + 1) height_149 stack_149 (by omega) r_stack_149 (by first | assumption | omega) (by omega)
                    · refine g_iconst X dX2_run_138 ?_
                      refine g_goto X (tgt := 143) dX2_run_139 (by decide) ?_
                      refine g_icmp_ne X (tgt := 204) dX2_run_143 (by decide) (by omega) (by omega) (fun c143 => ?_) (fun c143 => ?_)
                      · refine g_iinc X (lv' := [(3, vI (x3_7 + 1)), (5, vI 0), (4, vI t17), (0, .ref h), (2, vI p1)]) dX2_run_204 4 rfl (by decide) rfl ?_
                        refine g_goto X (tgt := 7) dX2_run_207 (by decide) ?_
                        refine g_lv [3, 4, 0] rfl ?_
                        exact ih7 (x3_7 + 1) height_7 stack_7 (by omega) r_stack_7 (by first | assumption | omega) (by omega)
                      · refine g_aload_n X dX2_run_146 2 rfl ?_
                        refine g_iload X dX2_run_147 0 rfl ?_
                        refine g_callVV0 X (c_X2_push l D cI cB cJ h q (p0 := 0) (by omega) r_stack_7 (by first | assumption | omega)) cv_X2_push uw1089 ⟨rfl, rfl, by decide, by decide⟩ 0 rfl rfl rfl rfl rfl (Nat.le_of_ble_eq_true rfl) ⟨Nat.zero_le _, Nat.zero_le _⟩ dX2_run_149 (fun ws149 k149 => ?_)
                        obtain ⟨height_149, stack_149, kr_height_149, r_stack_149, rfl⟩ := k149
                        refine g_iload_n X dX2_run_152 4 rfl ?_
                        refine g_aload_n X dX2_run_153 2 rfl ?_
                        refine gX2_get X 0 rfl 7 (by decide) uw276 rfl dX2_run_154 ?_
                        refine g_iload_n X dX2_run_157 4 rfl ?_
                        refine g_iald X 6 0 rfl rfl (by omega) (by decide) dX2_run_158 (fun t158 e158 => ?_)
                        have r158 := r_v_beside (x3_7 : Int).toNat; rw [← e158] at r158
                        refine g_iconst X dX2_run_159 ?_
                        refine g_isub X dX2_run_160 ?_
                        refine g_mmax X uw1093 uw807 uw111 uw808 ⟨by decide, Nat.le_of_ble_eq_true rfl⟩ ⟨Nat.zero_le _, Nat.zero_le _⟩ (by omega) (by omega) dX2_run_161 (fun t161 k161 => ?_)
                        refine g_istore_n X (lv' := [(3, vI t161), (5, vI 0), (4, vI t17), (0, .ref h), (2, vI p1)]) dX2_run_164 (by decide) rfl ?_
                        refine g_goto X (tgt := 204) dX2_run_165 (by decide) ?_
                        refine g_iinc X (lv' := [(3, vI (t161 + 1)), (5, vI 0), (4, vI t17), (0, .ref h), (2, vI p1)]) dX2_run_204 0 rfl (by decide) rfl ?_
                        refine g_goto X (tgt := 7) dX2_run_207 (by decide) ?_
                        refine g_lv [3, 4, 0] rfl ?_
                        exact ih7 (t161 + 1) height_149 stack_149 (by omega) r_stack_149 (by first | assumption | omega) (by omega)
                  · refine g_iconst X dX2_run_126 ?_
                    refine g_goto X (tgt := 131) dX2_run_127 (by decide) ?_
                    refine g_iload X dX2_run_131 1 rfl ?_
                    refine g_bipush X (z := 124) dX2_run_133 (by decide) ?_
                    refine g_icmp_ne X (tgt := 142) dX2_run_135 (by decide) (by omega) (by omega) (fun c135 => ?_) (fun c135 => ?_)
                    · refine g_iconst X dX2_run_142 ?_
                      refine g_icmp_ne X (tgt := 204) dX2_run_143 (by decide) (by omega) (by omega) (fun c143 => ?_) (fun c143 => ?_)
                      · refine g_iinc X (lv' := [(3, vI (x3_7 + 1)), (5, vI 0), (4, vI t17), (0, .ref h), (2, vI p1)]) dX2_run_204 4 rfl (by decide) rfl ?_
                        refine g_goto X (tgt := 7) dX2_run_207 (by decide) ?_
                        refine g_lv [3, 4, 0] rfl ?_
                        exact ih7 (x3_7 + 1) height_7 stack_7 (by omega) r_stack_7 (by first | assumption | omega) (by omega)
                      · refine g_aload_n X dX2_run_146 2 rfl ?_
                        refine g_iload X dX2_run_147 0 rfl ?_
                        refine g_callVV0 X (c_X2_push l D cI cB cJ h q (p0 := 0) (by omega) r_stack_7 (by first | assumption | omega)) cv_X2_push uw1089 ⟨rfl, rfl, by decide, by decide⟩ 0 rfl rfl rfl rfl rfl (Nat.le_of_ble_eq_true rfl) ⟨Nat.zero_le _, Nat.zero_le _⟩ dX2_run_149 (fun ws149 k149 => ?_)
                        obtain ⟨height_149, stack_149, kr_height_149, r_stack_149, rfl⟩ := k149
                        refine g_iload_n X dX2_run_152 4 rfl ?_
                        refine g_aload_n X dX2_run_153 2 rfl ?_
                        refine gX2_get X 0 rfl 7 (by decide) uw276 rfl dX2_run_154 ?_
                        refine g_iload_n X dX2_run_157 4 rfl ?_
                        refine g_iald X 6 0 rfl rfl (by omega) (by decide) dX2_run_158 (fun t158 e158 => ?_)
                        have r158 := r_v_beside (x3_7 : Int).toNat; rw [← e158] at r158
                        refine g_iconst X dX2_run_159 ?_
                        refine g_isub X dX2_run_160 ?_
                        refine g_mmax X uw1093 uw807 uw111 uw808 ⟨by decide, Nat.le_of_ble_eq_true rfl⟩ ⟨Nat.zero_le _, Nat.zero_le _⟩ (by omega) (by omega) dX2_run_161 (fun t161 k161 => ?_)
                        refine g_istore_n X (lv' := [(3, vI t161), (5, vI 0), (4, vI t17), (0, .ref h), (2, vI p1)]) dX2_run_164 (by decide) rfl ?_
                        refine g_goto X (tgt := 204) dX2_run_165 (by decide) ?_
                        refine g_iinc X (lv' := [(3, vI (t161 + 1)), (5, vI 0), (4, vI t17), (0, .ref h), (2, vI p1)]) dX2_run_204 0 rfl (by decide) rfl ?_
                        refine g_goto X (tgt := 7) dX2_run_207 (by decide) ?_
                        refine g_lv [3, 4, 0] rfl ?_
                        exact ih7 (t161 + 1) height_149 stack_149 (by omega) r_stack_149 (by first | assumption | omega) (by omega)
                    · refine g_iconst X dX2_run_138 ?_
                      refine g_goto X (tgt := 143) dX2_run_139 (by decide) ?_
                      refine g_icmp_ne X (tgt := 204) dX2_run_143 (by decide) (by omega) (by omega) (fun c143 => ?_) (fun c143 => ?_)
                      · refine g_iinc X (lv' := [(3, vI (x3_7 + 1)), (5, vI 0), (4, vI t17), (0, .ref h), (2, vI p1)]) dX2_run_204 4 rfl (by decide) rfl ?_
                        refine g_goto X (tgt := 7) dX2_run_207 (by decide) ?_
                        refine g_lv [3, 4, 0] rfl ?_
                        exact ih7 (x3_7 + 1) height_7 stack_7 (by omega) r_stack_7 (by first | assumption | omega) (by omega)
                      · refine g_aload_n X dX2_run_146 2 rfl ?_
                        refine g_iload X dX2_run_147 0 rfl ?_
                        refine g_callVV0 X (c_X2_push l D cI cB cJ h q (p0 := 0) (by omega) r_stack_7 (by first | assumption | omega)) cv_X2_push uw1089 ⟨rfl, rfl, by decide, by decide⟩ 0 rfl rfl rfl rfl rfl (Nat.le_of_ble_eq_true rfl) ⟨Nat.zero_le _, Nat.zero_le _⟩ dX2_run_149 (fun ws149 k149 => ?_)
                        obtain ⟨height_149, stack_149, kr_height_149, r_stack_149, rfl⟩ := k149
                        refine g_iload_n X dX2_run_152 4 rfl ?_
                        refine g_aload_n X dX2_run_153 2 rfl ?_
                        refine gX2_get X 0 rfl 7 (by decide) uw276 rfl dX2_run_154 ?_
                        refine g_iload_n X dX2_run_157 4 rfl ?_
                        refine g_iald X 6 0 rfl rfl (by omega) (by decide) dX2_run_158 (fun t158 e158 => ?_)
                        have r158 := r_v_beside (x3_7 : Int).toNat; rw [← e158] at r158
                        refine g_iconst X dX2_run_159 ?_
                        refine g_isub X dX2_run_160 ?_
                        refine g_mmax X uw1093 uw807 uw111 uw808 ⟨by decide, Nat.le_of_ble_eq_true rfl⟩ ⟨Nat.zero_le _, Nat.zero_le _⟩ (by omega) (by omega) dX2_run_161 (fun t161 k161 => ?_)
                        refine g_istore_n X (lv' := [(3, vI t161), (5, vI 0), (4, vI t17), (0, .ref h), (2, vI p1)]) dX2_run_164 (by decide) rfl ?_
                        refine g_goto X (tgt := 204) dX2_run_165 (by decide) ?_
                        refine g_iinc X (lv' := [(3, vI (t161 + 1)), (5, vI 0), (4, vI t17), (0, .ref h), (2, vI p1)]) dX2_run_204 0 rfl (by decide) rfl ?_
                        refine g_goto X (tgt := 7) dX2_run_207 (by decide) ?_
                        refine g_lv [3, 4, 0] rfl ?_
                        exact ih7 (t161 + 1) height_149 stack_149 (by omega) r_stack_149 (by first | assumption | omega) (by omega)
                · refine g_iload X dX2_run_114 1 rfl ?_
                  refine g_bipush X (z := 124) dX2_run_116 (by decide) ?_
                  refine g_icmp_ne X (tgt := 168) dX2_run_118 (by decide) (by omega) (by omega) (fun c118 => ?_) (fun c118 => ?_)
                  · refine g_iload X dX2_run_168 0 rfl ?_
                    refine g_if_ne X (tgt := 189) dX2_run_170 (by decide) (by omega) (fun c170 => ?_) (fun c170 => ?_)
                    · refine g_aload_n X dX2_run_189 2 rfl ?_
                      refine g_iload X dX2_run_190 1 rfl ?_
                      refine g_aload_n X dX2_run_192 2 rfl ?_
                      refine g_callVI0 X (c_X2_pop l D cI cB cJ h q  (by omega) r_stack_7) cv_X2_pop uw1085 ⟨rfl, rfl, by decide, by decide⟩ 0 rfl rfl rfl rfl rfl (Nat.le_of_ble_eq_true rfl) ⟨Nat.zero_le _, Nat.zero_le _⟩ dX2_run_193 (fun t193 ws193 k193 => ?_)
                      obtain ⟨height_193, kr_height_193, kp0_193, rfl⟩ := k193
                      refine g_iload X dX2_run_196 0 rfl ?_
                      refine g_callSIE X (c_X2_reckon l D cI cB cJ (p0 := t17) (p1 := t193) (p2 := 0) (by first | assumption | omega) (by first | assumption | omega) (by first | assumption | omega)) cv_X2_reckon uw1094 ⟨rfl, rfl, by decide, by decide⟩ rfl rfl (Nat.le_of_ble_eq_true rfl) ⟨Nat.zero_le _, Nat.zero_le _⟩ dX2_run_198 (fun t198 ws198 k198 => ?_)
                      obtain ⟨kp0_198, rfl⟩ := k198
                      refine g_callVV0 X (c_X2_push l D cI cB cJ h q (p0 := t198) (by omega) r_stack_7 (by first | assumption | omega)) cv_X2_push uw1089 ⟨rfl, rfl, by decide, by decide⟩ 0 rfl rfl rfl rfl rfl (Nat.le_of_ble_eq_true rfl) ⟨Nat.zero_le _, Nat.zero_le _⟩ dX2_run_201 (fun ws201 k201 => ?_)
                      obtain ⟨height_201, stack_201, kr_height_201, r_stack_201, rfl⟩ := k201
                      refine g_iinc X (lv' := [(3, vI (x3_7 + 1)), (5, vI 0), (4, vI t17), (0, .ref h), (2, vI p1)]) dX2_run_204 4 rfl (by decide) rfl ?_
                      refine g_goto X (tgt := 7) dX2_run_207 (by decide) ?_
                      refine g_lv [3, 4, 0] rfl ?_
                      exact ih7 (x3_7 + 1) height_201 stack_201 (by omega) r_stack_201 (by first | assumption | omega) (by omega)
                    · refine g_iload X dX2_run_173 1 rfl ?_
                      refine g_bipush X (z := 47) dX2_run_175 (by decide) ?_
                      refine g_icmp_eq X (tgt := 187) dX2_run_177 (by decide) (by omega) (by omega) (fun c177 => ?_) (fun c177 => ?_)
                      · refine g_iconst X dX2_run_187 ?_
                        exact hQ _ _ _ _ dX2_run_188 ⟨height_7, stack_7, (by omega), r_stack_7, (by omega), rfl⟩
                      · refine g_iload X dX2_run_180 1 rfl ?_
                        refine g_bipush X (z := 37) dX2_run_182 (by decide) ?_
                        refine g_icmp_ne X (tgt := 189) dX2_run_184 (by decide) (by omega) (by omega) (fun c184 => ?_) (fun c184 => ?_)
                        · refine g_aload_n X dX2_run_189 2 rfl ?_
                          refine g_iload X dX2_run_190 1 rfl ?_
                          refine g_aload_n X dX2_run_192 2 rfl ?_
                          refine g_callVI0 X (c_X2_pop l D cI cB cJ h q  (by omega) r_stack_7) cv_X2_pop uw1085 ⟨rfl, rfl, by decide, by decide⟩ 0 rfl rfl rfl rfl rfl (Nat.le_of_ble_eq_true rfl) ⟨Nat.zero_le _, Nat.zero_le _⟩ dX2_run_193 (fun t193 ws193 k193 => ?_)
                          obtain ⟨height_193, kr_height_193, kp0_193, rfl⟩ := k193
                          refine g_iload X dX2_run_196 0 rfl ?_
                          refine g_callSIE X (c_X2_reckon l D cI cB cJ (p0 := t17) (p1 := t193) (p2 := 0) (by first | assumption | omega) (by first | assumption | omega) (by first | assumption | omega)) cv_X2_reckon uw1094 ⟨rfl, rfl, by decide, by decide⟩ rfl rfl (Nat.le_of_ble_eq_true rfl) ⟨Nat.zero_le _, Nat.zero_le _⟩ dX2_run_198 (fun t198 ws198 k198 => ?_)
                          obtain ⟨kp0_198, rfl⟩ := k198
                          refine g_callVV0 X (c_X2_push l D cI cB cJ h q (p0 := t198) (by omega) r_stack_7 (by first | assumption | omega)) cv_X2_push uw1089 ⟨rfl, rfl, by decide, by decide⟩ 0 rfl rfl rfl rfl rfl (Nat.le_of_ble_eq_true rfl) ⟨Nat.zero_le _, Nat.zero_le _⟩ dX2_run_201 (fun ws201 k201 => ?_)
                          obtain ⟨height_201, stack_201, kr_height_201, r_stack_201, rfl⟩ := k201
                          refine g_iinc X (lv' := [(3, vI (x3_7 + 1)), (5, vI 0), (4, vI t17), (0, .ref h), (2, vI p1)]) dX2_run_204 4 rfl (by decide) rfl ?_
                          refine g_goto X (tgt := 7) dX2_run_207 (by decide) ?_
                          refine g_lv [3, 4, 0] rfl ?_
                          exact ih7 (x3_7 + 1) height_201 stack_201 (by omega) r_stack_201 (by first | assumption | omega) (by omega)
                        · refine g_iconst X dX2_run_187 ?_
                          exact hQ _ _ _ _ dX2_run_188 ⟨height_7, stack_7, (by omega), r_stack_7, (by omega), rfl⟩
                  · refine g_iload X dX2_run_121 0 rfl ?_
                    refine g_if_eq X (tgt := 130) dX2_run_123 (by decide) (by omega) (fun c123 => ?_) (fun c123 => ?_)
                    · refine g_iconst X dX2_run_130 ?_
                      refine g_iload X dX2_run_131 1 rfl ?_
                      refine g_bipush X (z := 124) dX2_run_133 (by decide) ?_
                      refine g_icmp_ne X (tgt := 142) dX2_run_135 (by decide) (by omega) (by omega) (fun c135 => ?_) (fun c135 => ?_)
                      · refine g_iconst X dX2_run_142 ?_
                        refine g_icmp_ne X (tgt := 204) dX2_run_143 (by decide) (by omega) (by omega) (fun c143 => ?_) (fun c143 => ?_)
                        · refine g_iinc X (lv' := [(3, vI (x3_7 + 1)), (5, vI 0), (4, vI t17), (0, .ref h), (2, vI p1)]) dX2_run_204 4 rfl (by decide) rfl ?_
                          refine g_goto X (tgt := 7) dX2_run_207 (by decide) ?_
                          refine g_lv [3, 4, 0] rfl ?_
                          exact ih7 (x3_7 + 1) height_7 stack_7 (by omega) r_stack_7 (by first | assumption | omega) (by omega)
                        · refine g_aload_n X dX2_run_146 2 rfl ?_
                          refine g_iload X dX2_run_147 0 rfl ?_
                          refine g_callVV0 X (c_X2_push l D cI cB cJ h q (p0 := 0) (by omega) r_stack_7 (by first | assumption | omega)) cv_X2_push uw1089 ⟨rfl, rfl, by decide, by decide⟩ 0 rfl rfl rfl rfl rfl (Nat.le_of_ble_eq_true rfl) ⟨Nat.zero_le _, Nat.zero_le _⟩ dX2_run_149 (fun ws149 k149 => ?_)
                          obtain ⟨height_149, stack_149, kr_height_149, r_stack_149, rfl⟩ := k149
                          refine g_iload_n X dX2_run_152 4 rfl ?_
                          refine g_aload_n X dX2_run_153 2 rfl ?_
                          refine gX2_get X 0 rfl 7 (by decide) uw276 rfl dX2_run_154 ?_
                          refine g_iload_n X dX2_run_157 4 rfl ?_
                          refine g_iald X 6 0 rfl rfl (by omega) (by decide) dX2_run_158 (fun t158 e158 => ?_)
                          have r158 := r_v_beside (x3_7 : Int).toNat; rw [← e158] at r158
                          refine g_iconst X dX2_run_159 ?_
                          refine g_isub X dX2_run_160 ?_
                          refine g_mmax X uw1093 uw807 uw111 uw808 ⟨by decide, Nat.le_of_ble_eq_true rfl⟩ ⟨Nat.zero_le _, Nat.zero_le _⟩ (by omega) (by omega) dX2_run_161 (fun t161 k161 => ?_)
                          refine g_istore_n X (lv' := [(3, vI t161), (5, vI 0), (4, vI t17), (0, .ref h), (2, vI p1)]) dX2_run_164 (by decide) rfl ?_
                          refine g_goto X (tgt := 204) dX2_run_165 (by decide) ?_
                          refine g_iinc X (lv' := [(3, vI (t161 + 1)), (5, vI 0), (4, vI t17), (0, .ref h), (2, vI p1)]) dX2_run_204 0 rfl (by decide) rfl ?_
                          refine g_goto X (tgt := 7) dX2_run_207 (by decide) ?_
                          refine g_lv [3, 4, 0] rfl ?_
                          exact ih7 (t161 + 1) height_149 stack_149 (by omega) r_stack_149 (by first | assumption | omega) (by omega)
                      · refine g_iconst X dX2_run_138 ?_
                        refine g_goto X (tgt := 143) dX2_run_139 (by decide) ?_
                        refine g_icmp_ne X (tgt := 204) dX2_run_143 (by decide) (by omega) (by omega) (fun c143 => ?_) (fun c143 => ?_)
                        · refine g_iinc X (lv' := [(3, vI (x3_7 + 1)), (5, vI 0), (4, vI t17), (0, .ref h), (2, vI p1)]) dX2_run_204 4 rfl (by decide) rfl ?_
                          refine g_goto X (tgt := 7) dX2_run_207 (by decide) ?_
                          refine g_lv [3, 4, 0] rfl ?_
                          exact ih7 (x3_7 + 1) height_7 stack_7 (by omega) r_stack_7 (by first | assumption | omega) (by omega)
                        · refine g_aload_n X dX2_run_146 2 rfl ?_
                          refine g_iload X dX2_run_147 0 rfl ?_
                          refine g_callVV0 X (c_X2_push l D cI cB cJ h q (p0 := 0) (by omega) r_stack_7 (by first | assumption | omega)) cv_X2_push uw1089 ⟨rfl, rfl, by decide, by decide⟩ 0 rfl rfl rfl rfl rfl (Nat.le_of_ble_eq_true rfl) ⟨Nat.zero_le _, Nat.zero_le _⟩ dX2_run_149 (fun ws149 k149 => ?_)
                          obtain ⟨height_149, stack_149, kr_height_149, r_stack_149, rfl⟩ := k149
                          refine g_iload_n X dX2_run_152 4 rfl ?_
                          refine g_aload_n X dX2_run_153 2 rfl ?_
                          refine gX2_get X 0 rfl 7 (by decide) uw276 rfl dX2_run_154 ?_
                          refine g_iload_n X dX2_run_157 4 rfl ?_
                          refine g_iald X 6 0 rfl rfl (by omega) (by decide) dX2_run_158 (fun t158 e158 => ?_)
                          have r158 := r_v_beside (x3_7 : Int).toNat; rw [← e158] at r158
                          refine g_iconst X dX2_run_159 ?_
                          refine g_isub X dX2_run_160 ?_
                          refine g_mmax X uw1093 uw807 uw111 uw808 ⟨by decide, Nat.le_of_ble_eq_true rfl⟩ ⟨Nat.zero_le _, Nat.zero_le _⟩ (by omega) (by omega) dX2_run_161 (fun t161 k161 => ?_)
                          refine g_istore_n X (lv' := [(3, vI t161), (5, vI 0), (4, vI t17), (0, .ref h), (2, vI p1)]) dX2_run_164 (by decide) rfl ?_
                          refine g_goto X (tgt := 204) dX2_run_165 (by decide) ?_
                          refine g_iinc X (lv' := [(3, vI (t161 + 1)), (5, vI 0), (4, vI t17), (0, .ref h), (2, vI p1)]) dX2_run_204 0 rfl (by decide) rfl ?_
                          refine g_goto X (tgt := 7) dX2_run_207 (by decide) ?_
                          refine g_lv [3, 4, 0] rfl ?_
                          exact ih7 (t161 + 1) height_149 stack_149 (by omega) r_stack_149 (by first | assumption | omega) (by omega)
                    · refine g_iconst X dX2_run_126 ?_
                      refine g_goto X (tgt := 131) dX2_run_127 (by decide) ?_
                      refine g_iload X dX2_run_131 1 rfl ?_
                      refine g_bipush X (z := 124) dX2_run_133 (by decide) ?_
                      refine g_icmp_ne X (tgt := 142) dX2_run_135 (by decide) (by omega) (by omega) (fun c135 => ?_) (fun c135 => ?_)
                      · refine g_iconst X dX2_run_142 ?_
                        refine g_icmp_ne X (tgt := 204) dX2_run_143 (by decide) (by omega) (by omega) (fun c143 => ?_) (fun c143 => ?_)
                        · refine g_iinc X (lv' := [(3, vI (x3_7 + 1)), (5, vI 0), (4, vI t17), (0, .ref h), (2, vI p1)]) dX2_run_204 4 rfl (by decide) rfl ?_
                          refine g_goto X (tgt := 7) dX2_run_207 (by decide) ?_
                          refine g_lv [3, 4, 0] rfl ?_
                          exact ih7 (x3_7 + 1) height_7 stack_7 (by omega) r_stack_7 (by first | assumption | omega) (by omega)
                        · refine g_aload_n X dX2_run_146 2 rfl ?_
                          refine g_iload X dX2_run_147 0 rfl ?_
                          refine g_callVV0 X (c_X2_push l D cI cB cJ h q (p0 := 0) (by omega) r_stack_7 (by first | assumption | omega)) cv_X2_push uw1089 ⟨rfl, rfl, by decide, by decide⟩ 0 rfl rfl rfl rfl rfl (Nat.le_of_ble_eq_true rfl) ⟨Nat.zero_le _, Nat.zero_le _⟩ dX2_run_149 (fun ws149 k149 => ?_)
                          obtain ⟨height_149, stack_149, kr_height_149, r_stack_149, rfl⟩ := k149
                          refine g_iload_n X dX2_run_152 4 rfl ?_
                          refine g_aload_n X dX2_run_153 2 rfl ?_
                          refine gX2_get X 0 rfl 7 (by decide) uw276 rfl dX2_run_154 ?_
                          refine g_iload_n X dX2_run_157 4 rfl ?_
                          refine g_iald X 6 0 rfl rfl (by omega) (by decide) dX2_run_158 (fun t158 e158 => ?_)
                          have r158 := r_v_beside (x3_7 : Int).toNat; rw [← e158] at r158
                          refine g_iconst X dX2_run_159 ?_
                          refine g_isub X dX2_run_160 ?_
                          refine g_mmax X uw1093 uw807 uw111 uw808 ⟨by decide, Nat.le_of_ble_eq_true rfl⟩ ⟨Nat.zero_le _, Nat.zero_le _⟩ (by omega) (by omega) dX2_run_161 (fun t161 k161 => ?_)
                          refine g_istore_n X (lv' := [(3, vI t161), (5, vI 0), (4, vI t17), (0, .ref h), (2, vI p1)]) dX2_run_164 (by decide) rfl ?_
                          refine g_goto X (tgt := 204) dX2_run_165 (by decide) ?_
                          refine g_iinc X (lv' := [(3, vI (t161 + 1)), (5, vI 0), (4, vI t17), (0, .ref h), (2, vI p1)]) dX2_run_204 0 rfl (by decide) rfl ?_
                          refine g_goto X (tgt := 7) dX2_run_207 (by decide) ?_
                          refine g_lv [3, 4, 0] rfl ?_
                          exact ih7 (t161 + 1) height_149 stack_149 (by omega) r_stack_149 (by first | assumption | omega) (by omega)
                      · refine g_iconst X dX2_run_138 ?_
                        refine g_goto X (tgt := 143) dX2_run_139 (by decide) ?_
                        refine g_icmp_ne X (tgt := 204) dX2_run_143 (by decide) (by omega) (by omega) (fun c143 => ?_) (fun c143 => ?_)
                        · refine g_iinc X (lv' := [(3, vI (x3_7 + 1)), (5, vI 0), (4, vI t17), (0, .ref h), (2, vI p1)]) dX2_run_204 4 rfl (by decide) rfl ?_
                          refine g_goto X (tgt := 7) dX2_run_207 (by decide) ?_
                          refine g_lv [3, 4, 0] rfl ?_
                          exact ih7 (x3_7 + 1) height_7 stack_7 (by omega) r_stack_7 (by first | assumption | omega) (by omega)
                        · refine g_aload_n X dX2_run_146 2 rfl ?_
                          refine g_iload X dX2_run_147 0 rfl ?_
                          refine g_callVV0 X (c_X2_push l D cI cB cJ h q (p0 := 0) (by omega) r_stack_7 (by first | assumption | omega)) cv_X2_push uw1089 ⟨rfl, rfl, by decide, by decide⟩ 0 rfl rfl rfl rfl rfl (Nat.le_of_ble_eq_true rfl) ⟨Nat.zero_le _, Nat.zero_le _⟩ dX2_run_149 (fun ws149 k149 => ?_)
                          obtain ⟨height_149, stack_149, kr_height_149, r_stack_149, rfl⟩ := k149
                          refine g_iload_n X dX2_run_152 4 rfl ?_
                          refine g_aload_n X dX2_run_153 2 rfl ?_
                          refine gX2_get X 0 rfl 7 (by decide) uw276 rfl dX2_run_154 ?_
                          refine g_iload_n X dX2_run_157 4 rfl ?_
                          refine g_iald X 6 0 rfl rfl (by omega) (by decide) dX2_run_158 (fun t158 e158 => ?_)
                          have r158 := r_v_beside (x3_7 : Int).toNat; rw [← e158] at r158
                          refine g_iconst X dX2_run_159 ?_
                          refine g_isub X dX2_run_160 ?_
                          refine g_mmax X uw1093 uw807 uw111 uw808 ⟨by decide, Nat.le_of_ble_eq_true rfl⟩ ⟨Nat.zero_le _, Nat.zero_le _⟩ (by omega) (by omega) dX2_run_161 (fun t161 k161 => ?_)
                          refine g_istore_n X (lv' := [(3, vI t161), (5, vI 0), (4, vI t17), (0, .ref h), (2, vI p1)]) dX2_run_164 (by decide) rfl ?_
                          refine g_goto X (tgt := 204) dX2_run_165 (by decide) ?_
                          refine g_iinc X (lv' := [(3, vI (t161 + 1)), (5, vI 0), (4, vI t17), (0, .ref h), (2, vI p1)]) dX2_run_204 0 rfl (by decide) rfl ?_
                          refine g_goto X (tgt := 7) dX2_run_207 (by decide) ?_
                          refine g_lv [3, 4, 0] rfl ?_
                          exact ih7 (t161 + 1) height_149 stack_149 (by omega) r_stack_149 (by first | assumption | omega) (by omega)
              · refine g_aload_n X dX2_run_90 2 rfl ?_
                refine g_iload X dX2_run_91 0 rfl ?_
                refine g_if_ne X (tgt := 100) dX2_run_93 (by decide) (by omega) (fun c93 => ?_) (fun c93 => ?_)
                · refine g_iconst X dX2_run_100 ?_
                  refine g_callVV0 X (c_X2_push l D cI cB cJ h q (p0 := 0) (by omega) r_stack_7 (by first | assumption | omega)) cv_X2_push uw1089 ⟨rfl, rfl, by decide, by decide⟩ 0 rfl rfl rfl rfl rfl (Nat.le_of_ble_eq_true rfl) ⟨Nat.zero_le _, Nat.zero_le _⟩ dX2_run_101 (fun ws101 k101 => ?_)
                  obtain ⟨height_101, stack_101, kr_height_101, r_stack_101, rfl⟩ := k101
                  refine g_goto X (tgt := 204) dX2_run_104 (by decide) ?_
                  refine g_iinc X (lv' := [(3, vI (x3_7 + 1)), (5, vI 0), (4, vI t17), (0, .ref h), (2, vI p1)]) dX2_run_204 4 rfl (by decide) rfl ?_
                  refine g_goto X (tgt := 7) dX2_run_207 (by decide) ?_
                  refine g_lv [3, 4, 0] rfl ?_
                  exact ih7 (x3_7 + 1) height_101 stack_101 (by omega) r_stack_101 (by first | assumption | omega) (by omega)
                · refine g_iconst X dX2_run_96 ?_
                  refine g_goto X (tgt := 101) dX2_run_97 (by decide) ?_
                  refine g_callVV0 X (c_X2_push l D cI cB cJ h q (p0 := 1) (by omega) r_stack_7 (by first | assumption | omega)) cv_X2_push uw1089 ⟨rfl, rfl, by decide, by decide⟩ 0 rfl rfl rfl rfl rfl (Nat.le_of_ble_eq_true rfl) ⟨Nat.zero_le _, Nat.zero_le _⟩ dX2_run_101 (fun ws101 k101 => ?_)
                  obtain ⟨height_101, stack_101, kr_height_101, r_stack_101, rfl⟩ := k101
                  refine g_goto X (tgt := 204) dX2_run_104 (by decide) ?_
                  refine g_iinc X (lv' := [(3, vI (x3_7 + 1)), (5, vI 0), (4, vI t17), (0, .ref h), (2, vI p1)]) dX2_run_204 4 rfl (by decide) rfl ?_
                  refine g_goto X (tgt := 7) dX2_run_207 (by decide) ?_
                  refine g_lv [3, 4, 0] rfl ?_
                  exact ih7 (x3_7 + 1) height_101 stack_101 (by omega) r_stack_101 (by first | assumption | omega) (by omega)
            · refine g_aload_n X dX2_run_65 2 rfl ?_
              refine g_aload_n X dX2_run_66 2 rfl ?_
              refine gX2_get X 0 rfl 8 (by decide) uw277 rfl dX2_run_67 ?_
              refine g_aload_n X dX2_run_70 2 rfl ?_
              refine gX2_get X 0 rfl 7 (by decide) uw276 rfl dX2_run_71 ?_
              refine g_iload_n X dX2_run_74 4 rfl ?_
              refine g_iald X 6 0 rfl rfl (by omega) (by decide) dX2_run_75 (fun t75 e75 => ?_)
              have r75 := r_v_beside (x3_7 : Int).toNat; rw [← e75] at r75
              have hL := hp4 (x3_7).toNat
              refine g_iald X 7 0 rfl rfl (by omega) (by decide) dX2_run_76 (fun t76 e76 => ?_)
              have r76 := r_v_seen (t75 : Int).toNat; rw [← e76] at r76
              refine g_callVV0 X (c_X2_push l D cI cB cJ h q (p0 := t76) (by omega) r_stack_7 (by first | assumption | omega)) cv_X2_push uw1089 ⟨rfl, rfl, by decide, by decide⟩ 0 rfl rfl rfl rfl rfl (Nat.le_of_ble_eq_true rfl) ⟨Nat.zero_le _, Nat.zero_le _⟩ dX2_run_77 (fun ws77 k77 => ?_)
              obtain ⟨height_77, stack_77, kr_height_77, r_stack_77, rfl⟩ := k77
              refine g_goto X (tgt := 204) dX2_run_80 (by decide) ?_
              refine g_iinc X (lv' := [(3, vI (x3_7 + 1)), (5, vI 0), (4, vI t17), (0, .ref h), (2, vI p1)]) dX2_run_204 4 rfl (by decide) rfl ?_
              refine g_goto X (tgt := 7) dX2_run_207 (by decide) ?_
              refine g_lv [3, 4, 0] rfl ?_
              exact ih7 (x3_7 + 1) height_77 stack_77 (by omega) r_stack_77 (by first | assumption | omega) (by omega)
          · refine g_aload_n X dX2_run_45 2 rfl ?_
            refine g_aload_n X dX2_run_46 2 rfl ?_
            refine gX2_get X 0 rfl 7 (by decide) uw276 rfl dX2_run_47 ?_
            refine g_iload_n X dX2_run_50 4 rfl ?_
            refine g_iald X 6 0 rfl rfl (by omega) (by decide) dX2_run_51 (fun t51 e51 => ?_)
            have r51 := r_v_beside (x3_7 : Int).toNat; rw [← e51] at r51
            refine g_callVV0 X (c_X2_push l D cI cB cJ h q (p0 := t51) (by omega) r_stack_7 (by first | assumption | omega)) cv_X2_push uw1089 ⟨rfl, rfl, by decide, by decide⟩ 0 rfl rfl rfl rfl rfl (Nat.le_of_ble_eq_true rfl) ⟨Nat.zero_le _, Nat.zero_le _⟩ dX2_run_52 (fun ws52 k52 => ?_)
            obtain ⟨height_52, stack_52, kr_height_52, r_stack_52, rfl⟩ := k52
            refine g_goto X (tgt := 204) dX2_run_55 (by decide) ?_
            refine g_iinc X (lv' := [(3, vI (x3_7 + 1)), (5, vI 0), (4, vI t17), (0, .ref h), (2, vI p1)]) dX2_run_204 4 rfl (by decide) rfl ?_
            refine g_goto X (tgt := 7) dX2_run_207 (by decide) ?_
            refine g_lv [3, 4, 0] rfl ?_
            exact ih7 (x3_7 + 1) height_52 stack_52 (by omega) r_stack_52 (by first | assumption | omega) (by omega)
  refine g_lv [1, 3, 0] rfl ?_
  exact L7 _ p0 0 v_stack (by omega) r_v_stack (by first | assumption | omega) (Nat.lt_succ_self _)
set_option maxHeartbeats 600000 in
set_option maxRecDepth 100000 in
theorem c_X2_shuts (l : Launch) (D : va_G) (cI cB cJ : ClassId) (h : Nat) (q : Nat → Nat) {v_size v_length v_height : Int} {v_letter v_valueAt v_testAt v_endAt v_sign v_beside v_seen v_stack : Nat → Int} (kr_v_size : 0 ≤ v_size ∧ v_size ≤ 16) (kr_v_height : 0 ≤ v_height ∧ v_height ≤ 64) (r_v_letter : RA (-2147483648) 2147483647 v_letter) (r_v_testAt : RA 0 256 v_testAt) (r_v_endAt : RA 0 256 v_endAt) (r_v_sign : RA (-2147483648) 2147483647 v_sign) (r_v_beside : RA 0 99999 v_beside) (r_v_seen : RA (-2147483648) 2147483647 v_seen) (r_v_stack : RA (-2147483648) 2147483647 v_stack) (hp0 : LInv v_sign v_beside) : CtI l yX2_shuts cX2_shuts 2 (some .boolean) ⟨2, 0, 0, 65⟩ D (TY cI cB cJ) (wX2 cI cB cJ h q v_size v_length v_height v_letter v_valueAt v_testAt v_endAt v_sign v_beside v_seen v_stack) [.ref h] (fun z ws' => (z = 0 ∨ z = 1) ∧ ∃ n_height : Int, ∃ n_stack : Nat → Int, (0 ≤ n_height ∧ n_height ≤ 64) ∧ (RA (-2147483648) 2147483647 n_stack) ∧ (ws' = (wX2 cI cB cJ h q v_size v_length n_height v_letter v_valueAt v_testAt v_endAt v_sign v_beside v_seen n_stack))) := by
  refine hdrZ (own := RX2) rfl (by decide +kernel) (Nat.le_of_ble_eq_true rfl) ?_
  intro p e s m args below meth c Q A X hQ
  refine g_lvE (lv2 := [(0, .ref h)]) rfl ?_
  refine g_iconst X dX2_shuts_0 ?_
  refine g_istore_n X (lv' := [(1, vI 0), (0, .ref h)]) dX2_shuts_1 (by decide) rfl ?_
  have L2 : ∀ (n : Nat) (x1_2 : Int) (height_2 : Int) (stack_2 : Nat → Int), (0 ≤ height_2 ∧ height_2 ≤ 64) → (RA (-2147483648) 2147483647 stack_2) → (0 ≤ x1_2 ∧ x1_2 ≤ v_size) → (v_size - x1_2).toNat < n → GG p l e ⟨2, 0, 0, 65⟩ s m args below meth c 0 0 Q D A s.heap 2 (wX2 cI cB cJ h q v_size v_length height_2 v_letter v_valueAt v_testAt v_endAt v_sign v_beside v_seen stack_2) 2 [(0, .ref h), (1, vI x1_2)] [] := by
    intro n
    induction n with
    | zero => intros; exfalso; omega
    | succ n ih2 =>
      intro x1_2 height_2 stack_2 kr_height_2 r_stack_2 w2_0 wm2
      refine g_iload_n X dX2_shuts_2 1 rfl ?_
      refine g_aload_n X dX2_shuts_3 0 rfl ?_
      refine gX2_get X 0 rfl 0 (by decide) uw266 rfl dX2_shuts_4 ?_
      refine g_icmp_ge X (tgt := 48) dX2_shuts_7 (by decide) (by omega) (by omega) (fun c7 => ?_) (fun c7 => ?_)
      · refine g_iconst X dX2_shuts_48 ?_
        exact hQ _ _ _ _ dX2_shuts_49 ⟨by omega, ⟨height_2, stack_2, (by omega), r_stack_2, rfl⟩⟩
      · refine g_aload_n X dX2_shuts_10 0 rfl ?_
        refine gX2_get X 0 rfl 1 (by decide) uw269 rfl dX2_shuts_11 ?_
        refine g_iload_n X dX2_shuts_14 1 rfl ?_
        refine g_iald X 1 0 rfl rfl (by omega) (by decide) dX2_shuts_15 (fun t15 e15 => ?_)
        have r15 := r_v_letter (x1_2 : Int).toNat; rw [← e15] at r15
        refine g_bipush X (z := 120) dX2_shuts_16 (by decide) ?_
        refine g_icmp_ne X (tgt := 42) dX2_shuts_18 (by decide) (by omega) (by omega) (fun c18 => ?_) (fun c18 => ?_)
        · refine g_iinc X (lv' := [(1, vI (x1_2 + 1)), (0, .ref h)]) dX2_shuts_42 1 rfl (by decide) rfl ?_
          refine g_goto X (tgt := 2) dX2_shuts_45 (by decide) ?_
          refine g_lv [1, 0] rfl ?_
          exact ih2 (x1_2 + 1) height_2 stack_2 (by omega) r_stack_2 (by first | assumption | omega) (by omega)
        · refine g_aload_n X dX2_shuts_21 0 rfl ?_
          refine g_aload_n X dX2_shuts_22 0 rfl ?_
          refine gX2_get X 0 rfl 3 (by decide) uw271 rfl dX2_shuts_23 ?_
          refine g_iload_n X dX2_shuts_26 1 rfl ?_
          refine g_iald X 3 0 rfl rfl (by omega) (by decide) dX2_shuts_27 (fun t27 e27 => ?_)
          have r27 := r_v_testAt (x1_2 : Int).toNat; rw [← e27] at r27
          refine g_aload_n X dX2_shuts_28 0 rfl ?_
          refine gX2_get X 0 rfl 4 (by decide) uw272 rfl dX2_shuts_29 ?_
          refine g_iload_n X dX2_shuts_32 1 rfl ?_
          refine g_iald X 4 0 rfl rfl (by omega) (by decide) dX2_shuts_33 (fun t33 e33 => ?_)
          have r33 := r_v_endAt (x1_2 : Int).toNat; rw [← e33] at r33
          refine g_callVI0 X (c_X2_run l D cI cB cJ h q (p0 := t27) (p1 := t33) (by omega) r_v_sign r_v_beside r_v_seen r_stack_2 (by first | assumption | omega) (by first | assumption | omega) (by first | assumption | omega) (by first | assumption | omega) (by first | assumption | omega)) cv_X2_run uw1078 ⟨rfl, rfl, by decide, by decide⟩ 0 rfl rfl rfl rfl rfl (Nat.le_of_ble_eq_true rfl) ⟨Nat.zero_le _, Nat.zero_le _⟩ dX2_shuts_34 (fun t34 ws34 k34 => ?_)
          obtain ⟨height_34, stack_34, kr_height_34, r_stack_34, kp0_34, rfl⟩ := k34
          refine g_if_eq X (tgt := 42) dX2_shuts_37 (by decide) (by omega) (fun c37 => ?_) (fun c37 => ?_)
          · refine g_iinc X (lv' := [(1, vI (x1_2 + 1)), (0, .ref h)]) dX2_shuts_42 1 rfl (by decide) rfl ?_
            refine g_goto X (tgt := 2) dX2_shuts_45 (by decide) ?_
            refine g_lv [1, 0] rfl ?_
            exact ih2 (x1_2 + 1) height_34 stack_34 (by omega) r_stack_34 (by first | assumption | omega) (by omega)
          · refine g_iconst X dX2_shuts_40 ?_
            exact hQ _ _ _ _ dX2_shuts_41 ⟨by omega, ⟨height_34, stack_34, (by omega), r_stack_34, rfl⟩⟩
  refine g_lv [1, 0] rfl ?_
  exact L2 _ 0 v_height v_stack (by omega) r_v_stack (by first | assumption | omega) (Nat.lt_succ_self _)
set_option maxHeartbeats 600000 in
set_option maxRecDepth 100000 in
theorem c_X2_ask (l : Launch) (D : va_G) (cI cB cJ : ClassId) (h : Nat) (q : Nat → Nat) {v_size v_length v_height : Int} {v_letter v_valueAt v_testAt v_endAt v_sign v_beside v_seen v_stack : Nat → Int} {p0 p1 p2 : Int} (kr_v_size : 0 ≤ v_size ∧ v_size ≤ 16) (kr_v_height : 0 ≤ v_height ∧ v_height ≤ 64) (r_v_letter : RA (-2147483648) 2147483647 v_letter) (r_v_valueAt : RA 0 256 v_valueAt) (r_v_testAt : RA 0 256 v_testAt) (r_v_endAt : RA 0 256 v_endAt) (r_v_sign : RA (-2147483648) 2147483647 v_sign) (r_v_beside : RA 0 99999 v_beside) (r_v_seen : RA (-2147483648) 2147483647 v_seen) (r_v_stack : RA (-2147483648) 2147483647 v_stack) (hp0 : IR p0) (hp1 : IR p1) (hp2 : IR p2) (hp3 : LInv v_sign v_beside) : CtI l yX2_ask cX2_ask 5 (some .int) ⟨2, 0, 0, 65⟩ D (TY cI cB cJ) (wX2 cI cB cJ h q v_size v_length v_height v_letter v_valueAt v_testAt v_endAt v_sign v_beside v_seen v_stack) [.ref h, vI p0, vI p1, vI p2] (fun z ws' => ∃ n_height : Int, ∃ n_stack : Nat → Int, (0 ≤ n_height ∧ n_height ≤ 64) ∧ (RA (-2147483648) 2147483647 n_stack) ∧ (IR z) ∧ (ws' = (wX2 cI cB cJ h q v_size v_length n_height v_letter v_valueAt v_testAt v_endAt v_sign v_beside v_seen n_stack))) := by
  refine hdrI (own := RX2) rfl (by decide +kernel) (Nat.le_of_ble_eq_true rfl) ?_
  intro p e s m args below meth c Q A X hQ
  refine g_lvE (lv2 := [(0, .ref h), (1, vI p0), (2, vI p1), (3, vI p2)]) rfl ?_
  refine g_iconst X dX2_ask_0 ?_
  refine g_istore X (lv' := [(4, vI 0), (0, .ref h), (1, vI p0), (2, vI p1), (3, vI p2)]) dX2_ask_1 (by decide) rfl ?_
  have L3 : ∀ (n : Nat) (x4_3 : Int) (height_3 : Int) (stack_3 : Nat → Int), (0 ≤ height_3 ∧ height_3 ≤ 64) → (RA (-2147483648) 2147483647 stack_3) → (0 ≤ x4_3 ∧ x4_3 ≤ v_size) → (v_size - x4_3).toNat < n → GG p l e ⟨2, 0, 0, 65⟩ s m args below meth c 0 0 Q D A s.heap 5 (wX2 cI cB cJ h q v_size v_length height_3 v_letter v_valueAt v_testAt v_endAt v_sign v_beside v_seen stack_3) 3 [(0, .ref h), (1, vI p0), (2, vI p1), (3, vI p2), (4, vI x4_3)] [] := by
    intro n
    induction n with
    | zero => intros; exfalso; omega
    | succ n ih3 =>
      intro x4_3 height_3 stack_3 kr_height_3 r_stack_3 w3_0 wm3
      refine g_iload X dX2_ask_3 4 rfl ?_
      refine g_aload_n X dX2_ask_5 0 rfl ?_
      refine gX2_get X 0 rfl 0 (by decide) uw266 rfl dX2_ask_6 ?_
      refine g_icmp_ge X (tgt := 77) dX2_ask_9 (by decide) (by omega) (by omega) (fun c9 => ?_) (fun c9 => ?_)
      · refine g_iload_n X dX2_ask_77 3 rfl ?_
        exact hQ _ _ _ _ dX2_ask_78 ⟨height_3, stack_3, (by omega), r_stack_3, (by omega), rfl⟩
      · refine g_aload_n X dX2_ask_12 0 rfl ?_
        refine gX2_get X 0 rfl 1 (by decide) uw269 rfl dX2_ask_13 ?_
        refine g_iload X dX2_ask_16 4 rfl ?_
        refine g_iald X 1 0 rfl rfl (by omega) (by decide) dX2_ask_18 (fun t18 e18 => ?_)
        have r18 := r_v_letter (x4_3 : Int).toNat; rw [← e18] at r18
        refine g_iload_n X dX2_ask_19 1 rfl ?_
        refine g_icmp_ne X (tgt := 71) dX2_ask_20 (by decide) (by omega) (by omega) (fun c20 => ?_) (fun c20 => ?_)
        · refine g_iinc X (lv' := [(4, vI (x4_3 + 1)), (0, .ref h), (1, vI p0), (2, vI p1), (3, vI p2)]) dX2_ask_71 4 rfl (by decide) rfl ?_
          refine g_goto X (tgt := 3) dX2_ask_74 (by decide) ?_
          refine g_lv [1, 2, 3, 4, 0] rfl ?_
          exact ih3 (x4_3 + 1) height_3 stack_3 (by omega) r_stack_3 (by first | assumption | omega) (by omega)
        · refine g_aload_n X dX2_ask_23 0 rfl ?_
          refine g_aload_n X dX2_ask_24 0 rfl ?_
          refine gX2_get X 0 rfl 3 (by decide) uw271 rfl dX2_ask_25 ?_
          refine g_iload X dX2_ask_28 4 rfl ?_
          refine g_iald X 3 0 rfl rfl (by omega) (by decide) dX2_ask_30 (fun t30 e30 => ?_)
          have r30 := r_v_testAt (x4_3 : Int).toNat; rw [← e30] at r30
          refine g_aload_n X dX2_ask_31 0 rfl ?_
          refine gX2_get X 0 rfl 4 (by decide) uw272 rfl dX2_ask_32 ?_
          refine g_iload X dX2_ask_35 4 rfl ?_
          refine g_iald X 4 0 rfl rfl (by omega) (by decide) dX2_ask_37 (fun t37 e37 => ?_)
          have r37 := r_v_endAt (x4_3 : Int).toNat; rw [← e37] at r37
          refine g_callVI0 X (c_X2_run l D cI cB cJ h q (p0 := t30) (p1 := t37) (by omega) r_v_sign r_v_beside r_v_seen r_stack_3 (by first | assumption | omega) (by first | assumption | omega) (by first | assumption | omega) (by first | assumption | omega) (by first | assumption | omega)) cv_X2_run uw1078 ⟨rfl, rfl, by decide, by decide⟩ 0 rfl rfl rfl rfl rfl (Nat.le_of_ble_eq_true rfl) ⟨Nat.zero_le _, Nat.zero_le _⟩ dX2_ask_38 (fun t38 ws38 k38 => ?_)
          obtain ⟨height_38, stack_38, kr_height_38, r_stack_38, kp0_38, rfl⟩ := k38
          refine g_if_eq X (tgt := 71) dX2_ask_41 (by decide) (by omega) (fun c41 => ?_) (fun c41 => ?_)
          · refine g_iinc X (lv' := [(4, vI (x4_3 + 1)), (0, .ref h), (1, vI p0), (2, vI p1), (3, vI p2)]) dX2_ask_71 4 rfl (by decide) rfl ?_
            refine g_goto X (tgt := 3) dX2_ask_74 (by decide) ?_
            refine g_lv [1, 2, 3, 4, 0] rfl ?_
            exact ih3 (x4_3 + 1) height_38 stack_38 (by omega) r_stack_38 (by first | assumption | omega) (by omega)
          · refine g_iconst X dX2_ask_44 ?_
            refine g_iload_n X dX2_ask_45 2 rfl ?_
            refine g_aload_n X dX2_ask_46 0 rfl ?_
            refine g_aload_n X dX2_ask_47 0 rfl ?_
            refine gX2_get X 0 rfl 2 (by decide) uw270 rfl dX2_ask_48 ?_
            refine g_iload X dX2_ask_51 4 rfl ?_
            refine g_iald X 2 0 rfl rfl (by omega) (by decide) dX2_ask_53 (fun t53 e53 => ?_)
            have r53 := r_v_valueAt (x4_3 : Int).toNat; rw [← e53] at r53
            refine g_aload_n X dX2_ask_54 0 rfl ?_
            refine gX2_get X 0 rfl 3 (by decide) uw271 rfl dX2_ask_55 ?_
            refine g_iload X dX2_ask_58 4 rfl ?_
            refine g_iald X 3 0 rfl rfl (by omega) (by decide) dX2_ask_60 (fun t60 e60 => ?_)
            have r60 := r_v_testAt (x4_3 : Int).toNat; rw [← e60] at r60
            refine g_callVI0 X (c_X2_run l D cI cB cJ h q (p0 := t53) (p1 := t60) (by omega) r_v_sign r_v_beside r_v_seen r_stack_38 (by first | assumption | omega) (by first | assumption | omega) (by first | assumption | omega) (by first | assumption | omega) (by first | assumption | omega)) cv_X2_run uw1078 ⟨rfl, rfl, by decide, by decide⟩ 0 rfl rfl rfl rfl rfl (Nat.le_of_ble_eq_true rfl) ⟨Nat.zero_le _, Nat.zero_le _⟩ dX2_ask_61 (fun t61 ws61 k61 => ?_)
            obtain ⟨height_61, stack_61, kr_height_61, r_stack_61, kp0_61, rfl⟩ := k61
            refine g_mmin X uw1101 uw398 uw111 uw399 ⟨by decide, Nat.le_of_ble_eq_true rfl⟩ ⟨Nat.zero_le _, Nat.zero_le _⟩ (by omega) (by omega) dX2_ask_64 (fun t64 k64 => ?_)
            refine g_mmax X uw1093 uw807 uw111 uw808 ⟨by decide, Nat.le_of_ble_eq_true rfl⟩ ⟨Nat.zero_le _, Nat.zero_le _⟩ (by omega) (by omega) dX2_ask_67 (fun t67 k67 => ?_)
            exact hQ _ _ _ _ dX2_ask_70 ⟨height_61, stack_61, (by omega), r_stack_61, (by omega), rfl⟩
  refine g_lv [1, 2, 3, 4, 0] rfl ?_
  exact L3 _ 0 v_height v_stack (by omega) r_v_stack (by first | assumption | omega) (Nat.lt_succ_self _)
set_option maxHeartbeats 600000 in
set_option maxRecDepth 100000 in
theorem c_X4_sellOut (l : Launch) (D : va_G) (cI cB cJ : ClassId) (h : Nat) (q : Nat → Nat) (h_lw : Nat) (q_lw : Nat → Nat) {v_told v_day v_x v_sales v_timesSoldOut v_soldOutToday v_lw_size v_lw_length v_lw_height : Int} {v_upper v_lower v_money v_soldOut v_lw_letter v_lw_valueAt v_lw_testAt v_lw_endAt v_lw_sign v_lw_beside v_lw_seen v_lw_stack : Nat → Int} {p0 p2 : Int} (kr_v_day : 0 ≤ v_day ∧ v_day ≤ 9999) (kr_v_timesSoldOut : (-2147483648) ≤ v_timesSoldOut ∧ v_timesSoldOut ≤ 2147483647) (kr_v_soldOutToday : (-2147483648) ≤ v_soldOutToday ∧ v_soldOutToday ≤ 2147483647) (r_v_upper : RA (-2147483648) 2147483647 v_upper) (r_v_lower : RA (-2147483648) 2147483647 v_lower) (r_v_money : RA (-2147483648) 2147483647 v_money) (r_v_soldOut : RA (-2147483648) 2147483647 v_soldOut) (kr_v_lw_size : 0 ≤ v_lw_size ∧ v_lw_size ≤ 16) (kr_v_lw_height : 0 ≤ v_lw_height ∧ v_lw_height ≤ 64) (r_v_lw_letter : RA (-2147483648) 2147483647 v_lw_letter) (r_v_lw_valueAt : RA 0 256 v_lw_valueAt) (r_v_lw_testAt : RA 0 256 v_lw_testAt) (r_v_lw_endAt : RA 0 256 v_lw_endAt) (r_v_lw_sign : RA (-2147483648) 2147483647 v_lw_sign) (r_v_lw_beside : RA 0 99999 v_lw_beside) (r_v_lw_seen : RA (-2147483648) 2147483647 v_lw_seen) (r_v_lw_stack : RA (-2147483648) 2147483647 v_lw_stack) (hp0 : IR p0) (hp1 : IR p2) (hp2 : 0 ≤ p0 ∧ p0 ≤ 7) (hp3 : LInv v_lw_sign v_lw_beside) : CtV l yX4_sellOut cX4_sellOut 4 none ⟨3, 0, 0, 89⟩ D (TY cI cB cJ) ((wX4 cI cB cJ h q v_told v_day v_x v_sales v_timesSoldOut v_soldOutToday v_upper v_lower v_money v_soldOut) ++ (wX2 cI cB cJ h_lw q_lw v_lw_size v_lw_length v_lw_height v_lw_letter v_lw_valueAt v_lw_testAt v_lw_endAt v_lw_sign v_lw_beside v_lw_seen v_lw_stack)) [.ref h, vI p0, .ref h_lw, vI p2] (fun ws' => ∃ n_timesSoldOut : Int, ∃ n_soldOutToday : Int, ∃ n_upper : Nat → Int, ∃ n_soldOut : Nat → Int, ∃ n_lw_height : Int, ∃ n_lw_seen : Nat → Int, ∃ n_lw_stack : Nat → Int, ((-2147483648) ≤ n_timesSoldOut ∧ n_timesSoldOut ≤ 2147483647) ∧ ((-2147483648) ≤ n_soldOutToday ∧ n_soldOutToday ≤ 2147483647) ∧ (RA (-2147483648) 2147483647 n_upper) ∧ (RA (-2147483648) 2147483647 n_soldOut) ∧ (0 ≤ n_lw_height ∧ n_lw_height ≤ 64) ∧ (RA (-2147483648) 2147483647 n_lw_seen) ∧ (RA (-2147483648) 2147483647 n_lw_stack) ∧ (ws' = ((wX4 cI cB cJ h q v_told v_day v_x v_sales n_timesSoldOut n_soldOutToday n_upper v_lower v_money n_soldOut) ++ (wX2 cI cB cJ h_lw q_lw v_lw_size v_lw_length n_lw_height v_lw_letter v_lw_valueAt v_lw_testAt v_lw_endAt v_lw_sign v_lw_beside n_lw_seen n_lw_stack)))) := by
  refine hdrV (own := RX4) rfl (by decide +kernel) (Nat.le_of_ble_eq_true rfl) ?_
  intro p e s m args below meth c Q A X hQ
  refine g_lvE (lv2 := [(0, .ref h), (1, vI p0), (2, .ref h_lw), (3, vI p2)]) rfl ?_
  refine g_aload_n X dX4_sellOut_0 0 rfl ?_
  refine gX4_get X 0 rfl 4 (by decide) uw321 rfl dX4_sellOut_1 ?_
  refine g_iload_n X dX4_sellOut_4 1 rfl ?_
  refine g_sipush X (z := 9999) dX4_sellOut_5 (by decide) ?_
  refine g_aload_n X dX4_sellOut_8 0 rfl ?_
  refine gX4_get X 0 rfl 4 (by decide) uw321 rfl dX4_sellOut_9 ?_
  refine g_iload_n X dX4_sellOut_12 1 rfl ?_
  refine g_iald X 4 0 rfl rfl (by omega) (by decide) dX4_sellOut_13 (fun t13 e13 => ?_)
  have r13 := r_v_soldOut (p0 : Int).toNat; rw [← e13] at r13
  refine g_iconst X dX4_sellOut_14 ?_
  refine g_iadd X dX4_sellOut_15 ?_
  refine g_nr (fun t15 e15 r15 => ?_)
  refine g_mmin X uw1102 uw398 uw111 uw399 ⟨by decide, Nat.le_of_ble_eq_true rfl⟩ ⟨Nat.zero_le _, Nat.zero_le _⟩ (by omega) (by omega) dX4_sellOut_16 (fun t16 k16 => ?_)
  refine g_iast X 4 0 rfl rfl (by omega) (by decide) dX4_sellOut_19 (fun soldOut_19 e19 => ?_)
  have r_soldOut_19 : RA (-2147483648) 2147483647 soldOut_19 := by rw [e19]; exact RA_up r_v_soldOut (by omega)
  refine g_ws (ws2 := ((wX4 cI cB cJ h q v_told v_day v_x v_sales v_timesSoldOut v_soldOutToday v_upper v_lower v_money soldOut_19) ++ (wX2 cI cB cJ h_lw q_lw v_lw_size v_lw_length v_lw_height v_lw_letter v_lw_valueAt v_lw_testAt v_lw_endAt v_lw_sign v_lw_beside v_lw_seen v_lw_stack))) rfl ?_
  refine g_aload_n X dX4_sellOut_20 0 rfl ?_
  refine g_dup X rfl dX4_sellOut_21 ?_
  refine gX4_get X 0 rfl 8 (by decide) uw331 rfl dX4_sellOut_22 ?_
  refine g_iconst X dX4_sellOut_25 ?_
  refine g_iadd X dX4_sellOut_26 ?_
  refine g_nr (fun t26 e26 r26 => ?_)
  refine gX4_put X 0 rfl 8 (by decide) uw331 rfl rfl rfl (Nat.le_of_ble_eq_true rfl) dX4_sellOut_27 (ws2 := ((wX4 cI cB cJ h q v_told v_day v_x v_sales t26 v_soldOutToday v_upper v_lower v_money soldOut_19) ++ (wX2 cI cB cJ h_lw q_lw v_lw_size v_lw_length v_lw_height v_lw_letter v_lw_valueAt v_lw_testAt v_lw_endAt v_lw_sign v_lw_beside v_lw_seen v_lw_stack))) rfl ?_
  refine g_aload_n X dX4_sellOut_30 0 rfl ?_
  refine g_dup X rfl dX4_sellOut_31 ?_
  refine gX4_get X 0 rfl 9 (by decide) uw333 rfl dX4_sellOut_32 ?_
  refine g_iconst X dX4_sellOut_35 ?_
  refine g_iload_n X dX4_sellOut_36 1 rfl ?_
  refine g_ishl X dX4_sellOut_37 ?_
  refine g_nm (fun t37 e37 => ?_)
  have r37 : IR t37 := by rw [e37]; exact z_ir _
  refine g_ior X dX4_sellOut_38 ?_
  refine g_nm (fun t38 e38 => ?_)
  have r38 : IR t38 := by rw [e38]; exact z_ir _
  refine gX4_put X 0 rfl 9 (by decide) uw333 rfl rfl rfl (Nat.le_of_ble_eq_true rfl) dX4_sellOut_39 (ws2 := ((wX4 cI cB cJ h q v_told v_day v_x v_sales t26 t38 v_upper v_lower v_money soldOut_19) ++ (wX2 cI cB cJ h_lw q_lw v_lw_size v_lw_length v_lw_height v_lw_letter v_lw_valueAt v_lw_testAt v_lw_endAt v_lw_sign v_lw_beside v_lw_seen v_lw_stack))) rfl ?_
  refine g_aload_n X dX4_sellOut_42 2 rfl ?_
  refine g_aload_n X dX4_sellOut_43 0 rfl ?_
  refine g_iload_n X dX4_sellOut_44 1 rfl ?_
  refine g_iload_n X dX4_sellOut_45 3 rfl ?_
  refine g_callVVw X (c_X2_look l D cI cB cJ h_lw q_lw h q (p1 := p0) (p2 := p2) r_v_lw_seen (by omega) r_v_upper r_v_lower r_v_money r_soldOut_19 (by first | assumption | omega) (by first | assumption | omega) (by first | assumption | omega)) [5, 6, 7, 8, 9, 10, 11, 12, 13, 0, 1, 2, 3, 4] rfl rfl rfl cv_X2_look uw1061 ⟨rfl, rfl, by decide, by decide⟩ 0 rfl rfl rfl rfl rfl (Nat.le_of_ble_eq_true rfl) ⟨Nat.zero_le _, Nat.zero_le _⟩ dX4_sellOut_46 (fun ws46 k46 => ?_)
  obtain ⟨lw_seen_46, r_lw_seen_46, rfl⟩ := k46
  refine ⟨rfl, ?_⟩
  refine g_ws (ws2 := ((wX4 cI cB cJ h q v_told v_day v_x v_sales t26 t38 v_upper v_lower v_money soldOut_19) ++ (wX2 cI cB cJ h_lw q_lw v_lw_size v_lw_length v_lw_height v_lw_letter v_lw_valueAt v_lw_testAt v_lw_endAt v_lw_sign v_lw_beside lw_seen_46 v_lw_stack))) rfl ?_
  refine g_aload_n X dX4_sellOut_49 0 rfl ?_
  refine gX4_get X 0 rfl 1 (by decide) uw312 rfl dX4_sellOut_50 ?_
  refine g_iload_n X dX4_sellOut_53 1 rfl ?_
  refine g_sipush X (z := 9999) dX4_sellOut_54 (by decide) ?_
  refine g_aload_n X dX4_sellOut_57 0 rfl ?_
  refine gX4_get X 0 rfl 1 (by decide) uw312 rfl dX4_sellOut_58 ?_
  refine g_iload_n X dX4_sellOut_61 1 rfl ?_
  refine g_iald X 1 0 rfl rfl (by omega) (by decide) dX4_sellOut_62 (fun t62 e62 => ?_)
  have r62 := r_v_upper (p0 : Int).toNat; rw [← e62] at r62
  refine g_aload_n X dX4_sellOut_63 2 rfl ?_
  refine g_bipush X (z := 114) dX4_sellOut_64 (by decide) ?_
  refine g_sipush X (z := 999) dX4_sellOut_66 (by decide) ?_
  refine g_iconst X dX4_sellOut_69 ?_
  refine g_callVIw X (c_X2_ask l D cI cB cJ h_lw q_lw (p0 := 114) (p1 := 999) (p2 := 0) (by omega) (by omega) r_v_lw_letter r_v_lw_valueAt r_v_lw_testAt r_v_lw_endAt r_v_lw_sign r_v_lw_beside r_lw_seen_46 r_v_lw_stack (by first | assumption | omega) (by first | assumption | omega) (by first | assumption | omega) (by first | assumption | omega)) [5, 6, 7, 8, 9, 10, 11, 12, 13] rfl rfl rfl cv_X2_ask uw1097 ⟨rfl, rfl, by decide, by decide⟩ 0 rfl rfl rfl rfl rfl (Nat.le_of_ble_eq_true rfl) ⟨Nat.zero_le _, Nat.zero_le _⟩ dX4_sellOut_70 (fun t70 ws70 k70 => ?_)
  obtain ⟨lw_height_70, lw_stack_70, kr_lw_height_70, r_lw_stack_70, kp0_70, rfl⟩ := k70
  refine ⟨rfl, ?_⟩
  refine g_ws (ws2 := ((wX4 cI cB cJ h q v_told v_day v_x v_sales t26 t38 v_upper v_lower v_money soldOut_19) ++ (wX2 cI cB cJ h_lw q_lw v_lw_size v_lw_length lw_height_70 v_lw_letter v_lw_valueAt v_lw_testAt v_lw_endAt v_lw_sign v_lw_beside lw_seen_46 lw_stack_70))) rfl ?_
  refine g_iadd X dX4_sellOut_73 ?_
  refine g_nr (fun t73 e73 r73 => ?_)
  refine g_mmin X uw1102 uw398 uw111 uw399 ⟨by decide, Nat.le_of_ble_eq_true rfl⟩ ⟨Nat.zero_le _, Nat.zero_le _⟩ (by omega) (by omega) dX4_sellOut_74 (fun t74 k74 => ?_)
  refine g_iast X 1 0 rfl rfl (by omega) (by decide) dX4_sellOut_77 (fun upper_77 e77 => ?_)
  have r_upper_77 : RA (-2147483648) 2147483647 upper_77 := by rw [e77]; exact RA_up r_v_upper (by omega)
  refine g_ws (ws2 := ((wX4 cI cB cJ h q v_told v_day v_x v_sales t26 t38 upper_77 v_lower v_money soldOut_19) ++ (wX2 cI cB cJ h_lw q_lw v_lw_size v_lw_length lw_height_70 v_lw_letter v_lw_valueAt v_lw_testAt v_lw_endAt v_lw_sign v_lw_beside lw_seen_46 lw_stack_70))) rfl ?_
  exact hQ _ _ _ dX4_sellOut_78 ⟨t26, t38, upper_77, soldOut_19, lw_height_70, lw_seen_46, lw_stack_70, (by omega), (by omega), r_upper_77, r_soldOut_19, (by omega), r_lw_seen_46, r_lw_stack_70, rfl⟩
set_option maxHeartbeats 600000 in
set_option maxRecDepth 100000 in
theorem c_X4_open (l : Launch) (D : va_G) (cI cB cJ : ClassId) (h : Nat) (q : Nat → Nat) (h_lw : Nat) (q_lw : Nat → Nat) {v_told v_day v_x v_sales v_timesSoldOut v_soldOutToday v_lw_size v_lw_length v_lw_height : Int} {v_upper v_lower v_money v_soldOut v_lw_letter v_lw_valueAt v_lw_testAt v_lw_endAt v_lw_sign v_lw_beside v_lw_seen v_lw_stack : Nat → Int} {p0 p2 : Int} (kr_v_day : 0 ≤ v_day ∧ v_day ≤ 9999) (kr_v_sales : (-2147483648) ≤ v_sales ∧ v_sales ≤ 2147483647) (kr_v_timesSoldOut : (-2147483648) ≤ v_timesSoldOut ∧ v_timesSoldOut ≤ 2147483647) (kr_v_soldOutToday : (-2147483648) ≤ v_soldOutToday ∧ v_soldOutToday ≤ 2147483647) (r_v_upper : RA (-2147483648) 2147483647 v_upper) (r_v_lower : RA (-2147483648) 2147483647 v_lower) (r_v_money : RA (-2147483648) 2147483647 v_money) (r_v_soldOut : RA (-2147483648) 2147483647 v_soldOut) (kr_v_lw_size : 0 ≤ v_lw_size ∧ v_lw_size ≤ 16) (kr_v_lw_height : 0 ≤ v_lw_height ∧ v_lw_height ≤ 64) (r_v_lw_letter : RA (-2147483648) 2147483647 v_lw_letter) (r_v_lw_valueAt : RA 0 256 v_lw_valueAt) (r_v_lw_testAt : RA 0 256 v_lw_testAt) (r_v_lw_endAt : RA 0 256 v_lw_endAt) (r_v_lw_sign : RA (-2147483648) 2147483647 v_lw_sign) (r_v_lw_beside : RA 0 99999 v_lw_beside) (r_v_lw_seen : RA (-2147483648) 2147483647 v_lw_seen) (r_v_lw_stack : RA (-2147483648) 2147483647 v_lw_stack) (hp0 : IR p0) (hp1 : IR p2) (hp2 : 0 ≤ p0 ∧ p0 ≤ 7) (hp3 : LInv v_lw_sign v_lw_beside) : CtV l yX4_open cX4_open 7 none ⟨4, 0, 0, 112⟩ D (TY cI cB cJ) ((wX4 cI cB cJ h q v_told v_day v_x v_sales v_timesSoldOut v_soldOutToday v_upper v_lower v_money v_soldOut) ++ (wX2 cI cB cJ h_lw q_lw v_lw_size v_lw_length v_lw_height v_lw_letter v_lw_valueAt v_lw_testAt v_lw_endAt v_lw_sign v_lw_beside v_lw_seen v_lw_stack)) [.ref h, vI p0, .ref h_lw, vI p2] (fun ws' => ∃ n_sales : Int, ∃ n_timesSoldOut : Int, ∃ n_soldOutToday : Int, ∃ n_upper : Nat → Int, ∃ n_money : Nat → Int, ∃ n_soldOut : Nat → Int, ∃ n_lw_height : Int, ∃ n_lw_seen : Nat → Int, ∃ n_lw_stack : Nat → Int, ((-2147483648) ≤ n_sales ∧ n_sales ≤ 2147483647) ∧ ((-2147483648) ≤ n_timesSoldOut ∧ n_timesSoldOut ≤ 2147483647) ∧ ((-2147483648) ≤ n_soldOutToday ∧ n_soldOutToday ≤ 2147483647) ∧ (RA (-2147483648) 2147483647 n_upper) ∧ (RA (-2147483648) 2147483647 n_money) ∧ (RA (-2147483648) 2147483647 n_soldOut) ∧ (0 ≤ n_lw_height ∧ n_lw_height ≤ 64) ∧ (RA (-2147483648) 2147483647 n_lw_seen) ∧ (RA (-2147483648) 2147483647 n_lw_stack) ∧ (ws' = ((wX4 cI cB cJ h q v_told v_day v_x n_sales n_timesSoldOut n_soldOutToday n_upper v_lower n_money n_soldOut) ++ (wX2 cI cB cJ h_lw q_lw v_lw_size v_lw_length n_lw_height v_lw_letter v_lw_valueAt v_lw_testAt v_lw_endAt v_lw_sign v_lw_beside n_lw_seen n_lw_stack)))) := by
  refine hdrV (own := RX4) rfl (by decide +kernel) (Nat.le_of_ble_eq_true rfl) ?_
  intro p e s m args below meth c Q A X hQ
  refine g_lvE (lv2 := [(0, .ref h), (1, vI p0), (2, .ref h_lw), (3, vI p2)]) rfl ?_
  refine g_aload_n X dX4_open_0 2 rfl ?_
  refine g_aload_n X dX4_open_1 0 rfl ?_
  refine g_iload_n X dX4_open_2 1 rfl ?_
  refine g_iload_n X dX4_open_3 3 rfl ?_
  refine g_callVVw X (c_X2_look l D cI cB cJ h_lw q_lw h q (p1 := p0) (p2 := p2) r_v_lw_seen (by omega) r_v_upper r_v_lower r_v_money r_v_soldOut (by first | assumption | omega) (by first | assumption | omega) (by first | assumption | omega)) [5, 6, 7, 8, 9, 10, 11, 12, 13, 0, 1, 2, 3, 4] rfl rfl rfl cv_X2_look uw1061 ⟨rfl, rfl, by decide, by decide⟩ 0 rfl rfl rfl rfl rfl (Nat.le_of_ble_eq_true rfl) ⟨Nat.zero_le _, Nat.zero_le _⟩ dX4_open_4 (fun ws4 k4 => ?_)
  obtain ⟨lw_seen_4, r_lw_seen_4, rfl⟩ := k4
  refine ⟨rfl, ?_⟩
  refine g_ws (ws2 := ((wX4 cI cB cJ h q v_told v_day v_x v_sales v_timesSoldOut v_soldOutToday v_upper v_lower v_money v_soldOut) ++ (wX2 cI cB cJ h_lw q_lw v_lw_size v_lw_length v_lw_height v_lw_letter v_lw_valueAt v_lw_testAt v_lw_endAt v_lw_sign v_lw_beside lw_seen_4 v_lw_stack))) rfl ?_
  refine g_aload_n X dX4_open_7 2 rfl ?_
  refine g_callVIw X (c_X2_shuts l D cI cB cJ h_lw q_lw  (by omega) (by omega) r_v_lw_letter r_v_lw_testAt r_v_lw_endAt r_v_lw_sign r_v_lw_beside r_lw_seen_4 r_v_lw_stack (by first | assumption | omega)) [5, 6, 7, 8, 9, 10, 11, 12, 13] rfl rfl rfl cv_X2_shuts uw1074 ⟨rfl, rfl, by decide, by decide⟩ 0 rfl rfl rfl rfl rfl (Nat.le_of_ble_eq_true rfl) ⟨Nat.zero_le _, Nat.zero_le _⟩ dX4_open_8 (fun t8 ws8 k8 => ?_)
  obtain ⟨kb_8, ⟨lw_height_8, lw_stack_8, kr_lw_height_8, r_lw_stack_8, rfl⟩⟩ := k8
  refine ⟨rfl, ?_⟩
  refine g_ws (ws2 := ((wX4 cI cB cJ h q v_told v_day v_x v_sales v_timesSoldOut v_soldOutToday v_upper v_lower v_money v_soldOut) ++ (wX2 cI cB cJ h_lw q_lw v_lw_size v_lw_length lw_height_8 v_lw_letter v_lw_valueAt v_lw_testAt v_lw_endAt v_lw_sign v_lw_beside lw_seen_4 lw_stack_8))) rfl ?_
  refine g_if_eq X (tgt := 15) dX4_open_11 (by decide) (by omega) (fun c11 => ?_) (fun c11 => ?_)
  · refine g_aload_n X dX4_open_15 0 rfl ?_
    refine g_iload_n X dX4_open_16 1 rfl ?_
    refine g_callVIw X (c_X4_between l D cI cB cJ h q (p0 := p0) r_v_upper r_v_lower (by first | assumption | omega) (by first | assumption | omega)) [0, 1, 2, 3, 4] rfl rfl rfl cv_X4_between uw1073 ⟨rfl, rfl, by decide, by decide⟩ 0 rfl rfl rfl rfl rfl (Nat.le_of_ble_eq_true rfl) ⟨Nat.zero_le _, Nat.zero_le _⟩ dX4_open_17 (fun t17 ws17 k17 => ?_)
    obtain ⟨kp0_17, rfl⟩ := k17
    refine ⟨rfl, ?_⟩
    refine g_ws (ws2 := ((wX4 cI cB cJ h q v_told v_day v_x v_sales v_timesSoldOut v_soldOutToday v_upper v_lower v_money v_soldOut) ++ (wX2 cI cB cJ h_lw q_lw v_lw_size v_lw_length lw_height_8 v_lw_letter v_lw_valueAt v_lw_testAt v_lw_endAt v_lw_sign v_lw_beside lw_seen_4 lw_stack_8))) rfl ?_
    refine g_istore X (lv' := [(4, vI t17), (0, .ref h), (1, vI p0), (2, .ref h_lw), (3, vI p2)]) dX4_open_20 (by decide) rfl ?_
    refine g_iload X dX4_open_22 0 rfl ?_
    refine g_aload_n X dX4_open_24 3 rfl ?_
    refine g_bipush X (z := 118) dX4_open_25 (by decide) ?_
    refine g_sipush X (z := 999) dX4_open_27 (by decide) ?_
    refine g_iconst X dX4_open_30 ?_
    refine g_callVIw X (c_X2_ask l D cI cB cJ h_lw q_lw (p0 := 118) (p1 := 999) (p2 := 5) (by omega) (by omega) r_v_lw_letter r_v_lw_valueAt r_v_lw_testAt r_v_lw_endAt r_v_lw_sign r_v_lw_beside r_lw_seen_4 r_lw_stack_8 (by first | assumption | omega) (by first | assumption | omega) (by first | assumption | omega) (by first | assumption | omega)) [5, 6, 7, 8, 9, 10, 11, 12, 13] rfl rfl rfl cv_X2_ask uw1097 ⟨rfl, rfl, by decide, by decide⟩ 0 rfl rfl rfl rfl rfl (Nat.le_of_ble_eq_true rfl) ⟨Nat.zero_le _, Nat.zero_le _⟩ dX4_open_31 (fun t31 ws31 k31 => ?_)
    obtain ⟨lw_height_31, lw_stack_31, kr_lw_height_31, r_lw_stack_31, kp0_31, rfl⟩ := k31
    refine ⟨rfl, ?_⟩
    refine g_ws (ws2 := ((wX4 cI cB cJ h q v_told v_day v_x v_sales v_timesSoldOut v_soldOutToday v_upper v_lower v_money v_soldOut) ++ (wX2 cI cB cJ h_lw q_lw v_lw_size v_lw_length lw_height_31 v_lw_letter v_lw_valueAt v_lw_testAt v_lw_endAt v_lw_sign v_lw_beside lw_seen_4 lw_stack_31))) rfl ?_
    refine g_mmin X uw1102 uw398 uw111 uw399 ⟨by decide, Nat.le_of_ble_eq_true rfl⟩ ⟨Nat.zero_le _, Nat.zero_le _⟩ (by omega) (by omega) dX4_open_34 (fun t34 k34 => ?_)
    refine g_istore X (lv' := [(5, vI t34), (4, vI t17), (0, .ref h), (1, vI p0), (2, .ref h_lw), (3, vI p2)]) dX4_open_37 (by decide) rfl ?_
    refine g_aload_n X dX4_open_39 4 rfl ?_
    refine g_bipush X (z := 121) dX4_open_40 (by decide) ?_
    refine g_bipush X (z := 99) dX4_open_42 (by decide) ?_
    refine g_iconst X dX4_open_44 ?_
    refine g_callVIw X (c_X2_ask l D cI cB cJ h_lw q_lw (p0 := 121) (p1 := 99) (p2 := 1) (by omega) (by omega) r_v_lw_letter r_v_lw_valueAt r_v_lw_testAt r_v_lw_endAt r_v_lw_sign r_v_lw_beside r_lw_seen_4 r_lw_stack_31 (by first | assumption | omega) (by first | assumption | omega) (by first | assumption | omega) (by first | assumption | omega)) [5, 6, 7, 8, 9, 10, 11, 12, 13] rfl rfl rfl cv_X2_ask uw1097 ⟨rfl, rfl, by decide, by decide⟩ 0 rfl rfl rfl rfl rfl (Nat.le_of_ble_eq_true rfl) ⟨Nat.zero_le _, Nat.zero_le _⟩ dX4_open_45 (fun t45 ws45 k45 => ?_)
    obtain ⟨lw_height_45, lw_stack_45, kr_lw_height_45, r_lw_stack_45, kp0_45, rfl⟩ := k45
    refine ⟨rfl, ?_⟩
    refine g_ws (ws2 := ((wX4 cI cB cJ h q v_told v_day v_x v_sales v_timesSoldOut v_soldOutToday v_upper v_lower v_money v_soldOut) ++ (wX2 cI cB cJ h_lw q_lw v_lw_size v_lw_length lw_height_45 v_lw_letter v_lw_valueAt v_lw_testAt v_lw_endAt v_lw_sign v_lw_beside lw_seen_4 lw_stack_45))) rfl ?_
    refine g_istore X (lv' := [(6, vI t45), (5, vI t34), (4, vI t17), (0, .ref h), (1, vI p0), (2, .ref h_lw), (3, vI p2)]) dX4_open_48 (by decide) rfl ?_
    refine g_aload_n X dX4_open_50 3 rfl ?_
    refine gX4_get X 0 rfl 1 (by decide) uw312 rfl dX4_open_51 ?_
    refine g_iload_n X dX4_open_54 4 rfl ?_
    refine g_dup2 X rfl rfl dX4_open_55 ?_
    refine g_iald X 1 0 rfl rfl (by omega) (by decide) dX4_open_56 (fun t56 e56 => ?_)
    have r56 := r_v_upper (p0 : Int).toNat; rw [← e56] at r56
    refine g_iload X dX4_open_57 1 rfl ?_
    refine g_isub X dX4_open_59 ?_
    refine g_nr (fun t59 e59 r59 => ?_)
    refine g_iast X 1 0 rfl rfl (by omega) (by decide) dX4_open_60 (fun upper_60 e60 => ?_)
    have r_upper_60 : RA (-2147483648) 2147483647 upper_60 := by rw [e60]; exact RA_up r_v_upper (by omega)
    refine g_ws (ws2 := ((wX4 cI cB cJ h q v_told v_day v_x v_sales v_timesSoldOut v_soldOutToday upper_60 v_lower v_money v_soldOut) ++ (wX2 cI cB cJ h_lw q_lw v_lw_size v_lw_length lw_height_45 v_lw_letter v_lw_valueAt v_lw_testAt v_lw_endAt v_lw_sign v_lw_beside lw_seen_4 lw_stack_45))) rfl ?_
    refine g_aload_n X dX4_open_61 3 rfl ?_
    refine gX4_get X 0 rfl 3 (by decide) uw318 rfl dX4_open_62 ?_
    refine g_iload_n X dX4_open_65 4 rfl ?_
    refine g_ldc X (z := 999999) dX4_open_66 uw1103 (by decide) ?_
    refine g_aload_n X dX4_open_68 3 rfl ?_
    refine gX4_get X 0 rfl 3 (by decide) uw318 rfl dX4_open_69 ?_
    refine g_iload_n X dX4_open_72 4 rfl ?_
    refine g_iald X 3 0 rfl rfl (by omega) (by decide) dX4_open_73 (fun t73 e73 => ?_)
    have r73 := r_v_money (p0 : Int).toNat; rw [← e73] at r73
    refine g_iload X dX4_open_74 1 rfl ?_
    refine g_iload X dX4_open_76 0 rfl ?_
    refine g_imul X dX4_open_78 ?_
    refine g_nr (fun t78 e78 r78 => ?_)
    refine g_iadd X dX4_open_79 ?_
    refine g_nr (fun t79 e79 r79 => ?_)
    refine g_mmin X uw1102 uw398 uw111 uw399 ⟨by decide, Nat.le_of_ble_eq_true rfl⟩ ⟨Nat.zero_le _, Nat.zero_le _⟩ (by omega) (by omega) dX4_open_80 (fun t80 k80 => ?_)
    refine g_iast X 3 0 rfl rfl (by omega) (by decide) dX4_open_83 (fun money_83 e83 => ?_)
    have r_money_83 : RA (-2147483648) 2147483647 money_83 := by rw [e83]; exact RA_up r_v_money (by omega)
    refine g_ws (ws2 := ((wX4 cI cB cJ h q v_told v_day v_x v_sales v_timesSoldOut v_soldOutToday upper_60 v_lower money_83 v_soldOut) ++ (wX2 cI cB cJ h_lw q_lw v_lw_size v_lw_length lw_height_45 v_lw_letter v_lw_valueAt v_lw_testAt v_lw_endAt v_lw_sign v_lw_beside lw_seen_4 lw_stack_45))) rfl ?_
    refine g_aload_n X dX4_open_84 3 rfl ?_
    refine g_dup X rfl dX4_open_85 ?_
    refine gX4_get X 0 rfl 7 (by decide) uw329 rfl dX4_open_86 ?_
    refine g_iload X dX4_open_89 1 rfl ?_
    refine g_iadd X dX4_open_91 ?_
    refine g_nr (fun t91 e91 r91 => ?_)
    refine gX4_put X 0 rfl 7 (by decide) uw329 rfl rfl rfl (Nat.le_of_ble_eq_true rfl) dX4_open_92 (ws2 := ((wX4 cI cB cJ h q v_told v_day v_x t91 v_timesSoldOut v_soldOutToday upper_60 v_lower money_83 v_soldOut) ++ (wX2 cI cB cJ h_lw q_lw v_lw_size v_lw_length lw_height_45 v_lw_letter v_lw_valueAt v_lw_testAt v_lw_endAt v_lw_sign v_lw_beside lw_seen_4 lw_stack_45))) rfl ?_
    refine g_iload X dX4_open_95 2 rfl ?_
    refine g_if_le X (tgt := 114) dX4_open_97 (by decide) (by omega) (fun c97 => ?_) (fun c97 => ?_)
    · exact hQ _ _ _ dX4_open_114 ⟨t91, v_timesSoldOut, v_soldOutToday, upper_60, money_83, v_soldOut, lw_height_45, lw_seen_4, lw_stack_45, (by omega), (by omega), (by omega), r_upper_60, r_money_83, r_v_soldOut, (by omega), r_lw_seen_4, r_lw_stack_45, rfl⟩
    · refine g_iload X dX4_open_100 1 rfl ?_
      refine g_iload X dX4_open_102 2 rfl ?_
      refine g_icmp_ne X (tgt := 114) dX4_open_104 (by decide) (by omega) (by omega) (fun c104 => ?_) (fun c104 => ?_)
      · exact hQ _ _ _ dX4_open_114 ⟨t91, v_timesSoldOut, v_soldOutToday, upper_60, money_83, v_soldOut, lw_height_45, lw_seen_4, lw_stack_45, (by omega), (by omega), (by omega), r_upper_60, r_money_83, r_v_soldOut, (by omega), r_lw_seen_4, r_lw_stack_45, rfl⟩
      · refine g_aload_n X dX4_open_107 3 rfl ?_
        refine g_iload_n X dX4_open_108 4 rfl ?_
        refine g_aload_n X dX4_open_109 5 rfl ?_
        refine g_iload_n X dX4_open_110 6 rfl ?_
        refine g_callVV0 X (c_X4_sellOut l D cI cB cJ h q h_lw q_lw (p0 := p0) (p2 := p2) (by omega) (by omega) (by omega) r_upper_60 r_v_lower r_money_83 r_v_soldOut (by omega) (by omega) r_v_lw_letter r_v_lw_valueAt r_v_lw_testAt r_v_lw_endAt r_v_lw_sign r_v_lw_beside r_lw_seen_4 r_lw_stack_45 (by first | assumption | omega) (by first | assumption | omega) (by first | assumption | omega) (by first | assumption | omega)) cv_X4_sellOut uw1104 ⟨rfl, rfl, by decide, by decide⟩ 0 rfl rfl rfl rfl rfl (Nat.le_of_ble_eq_true rfl) ⟨Nat.zero_le _, Nat.zero_le _⟩ dX4_open_111 (fun ws111 k111 => ?_)
        obtain ⟨timesSoldOut_111, soldOutToday_111, upper_111, soldOut_111, lw_height_111, lw_seen_111, lw_stack_111, kr_timesSoldOut_111, kr_soldOutToday_111, r_upper_111, r_soldOut_111, kr_lw_height_111, r_lw_seen_111, r_lw_stack_111, rfl⟩ := k111
        exact hQ _ _ _ dX4_open_114 ⟨t91, timesSoldOut_111, soldOutToday_111, upper_111, money_83, soldOut_111, lw_height_111, lw_seen_111, lw_stack_111, (by omega), (by omega), (by omega), r_upper_111, r_money_83, r_soldOut_111, (by omega), r_lw_seen_111, r_lw_stack_111, rfl⟩
  · exact hQ _ _ _ dX4_open_14 ⟨v_sales, v_timesSoldOut, v_soldOutToday, v_upper, v_money, v_soldOut, lw_height_8, lw_seen_4, lw_stack_8, (by omega), (by omega), (by omega), r_v_upper, r_v_money, r_v_soldOut, (by omega), r_lw_seen_4, r_lw_stack_8, rfl⟩
set_option maxHeartbeats 600000 in
set_option maxRecDepth 100000 in
theorem c_X4_passDay (l : Launch) (D : va_G) (cI cB cJ : ClassId) (h : Nat) (q : Nat → Nat) (h_lw : Nat) (q_lw : Nat → Nat) {v_told v_day v_x v_sales v_timesSoldOut v_soldOutToday v_lw_size v_lw_length v_lw_height : Int} {v_upper v_lower v_money v_soldOut v_lw_letter v_lw_valueAt v_lw_testAt v_lw_endAt v_lw_sign v_lw_beside v_lw_seen v_lw_stack : Nat → Int} (kr_v_told : 0 ≤ v_told ∧ v_told ≤ 255) (kr_v_day : 0 ≤ v_day ∧ v_day ≤ 9999) (kr_v_x : 0 ≤ v_x ∧ v_x ≤ 65535) (kr_v_sales : (-2147483648) ≤ v_sales ∧ v_sales ≤ 2147483647) (kr_v_timesSoldOut : (-2147483648) ≤ v_timesSoldOut ∧ v_timesSoldOut ≤ 2147483647) (kr_v_soldOutToday : (-2147483648) ≤ v_soldOutToday ∧ v_soldOutToday ≤ 2147483647) (r_v_upper : RA (-2147483648) 2147483647 v_upper) (r_v_lower : RA (-2147483648) 2147483647 v_lower) (r_v_money : RA (-2147483648) 2147483647 v_money) (r_v_soldOut : RA (-2147483648) 2147483647 v_soldOut) (kr_v_lw_size : 0 ≤ v_lw_size ∧ v_lw_size ≤ 16) (kr_v_lw_height : 0 ≤ v_lw_height ∧ v_lw_height ≤ 64) (r_v_lw_letter : RA (-2147483648) 2147483647 v_lw_letter) (r_v_lw_valueAt : RA 0 256 v_lw_valueAt) (r_v_lw_testAt : RA 0 256 v_lw_testAt) (r_v_lw_endAt : RA 0 256 v_lw_endAt) (r_v_lw_sign : RA (-2147483648) 2147483647 v_lw_sign) (r_v_lw_beside : RA 0 99999 v_lw_beside) (r_v_lw_seen : RA (-2147483648) 2147483647 v_lw_seen) (r_v_lw_stack : RA (-2147483648) 2147483647 v_lw_stack) (hp0 : LInv v_lw_sign v_lw_beside) : CtI l yX4_passDay cX4_passDay 3 (some .boolean) ⟨5, 0, 0, 138⟩ D (TY cI cB cJ) ((wX4 cI cB cJ h q v_told v_day v_x v_sales v_timesSoldOut v_soldOutToday v_upper v_lower v_money v_soldOut) ++ (wX2 cI cB cJ h_lw q_lw v_lw_size v_lw_length v_lw_height v_lw_letter v_lw_valueAt v_lw_testAt v_lw_endAt v_lw_sign v_lw_beside v_lw_seen v_lw_stack)) [.ref h, .ref h_lw] (fun z ws' => (z = 0 ∨ z = 1) ∧ ∃ n_day : Int, ∃ n_x : Int, ∃ n_sales : Int, ∃ n_timesSoldOut : Int, ∃ n_soldOutToday : Int, ∃ n_upper : Nat → Int, ∃ n_money : Nat → Int, ∃ n_soldOut : Nat → Int, ∃ n_lw_height : Int, ∃ n_lw_seen : Nat → Int, ∃ n_lw_stack : Nat → Int, (0 ≤ n_day ∧ n_day ≤ 9999) ∧ (0 ≤ n_x ∧ n_x ≤ 65535) ∧ ((-2147483648) ≤ n_sales ∧ n_sales ≤ 2147483647) ∧ ((-2147483648) ≤ n_timesSoldOut ∧ n_timesSoldOut ≤ 2147483647) ∧ ((-2147483648) ≤ n_soldOutToday ∧ n_soldOutToday ≤ 2147483647) ∧ (RA (-2147483648) 2147483647 n_upper) ∧ (RA (-2147483648) 2147483647 n_money) ∧ (RA (-2147483648) 2147483647 n_soldOut) ∧ (0 ≤ n_lw_height ∧ n_lw_height ≤ 64) ∧ (RA (-2147483648) 2147483647 n_lw_seen) ∧ (RA (-2147483648) 2147483647 n_lw_stack) ∧ ((z = 1 ∧ v_day < 9999 ∧ n_day = v_day + 1) ∨ (z = 0 ∧ v_day = 9999 ∧ n_day = v_day)) ∧ (ws' = ((wX4 cI cB cJ h q v_told n_day n_x n_sales n_timesSoldOut n_soldOutToday n_upper v_lower n_money n_soldOut) ++ (wX2 cI cB cJ h_lw q_lw v_lw_size v_lw_length n_lw_height v_lw_letter v_lw_valueAt v_lw_testAt v_lw_endAt v_lw_sign v_lw_beside n_lw_seen n_lw_stack)))) := by
  refine hdrZ (own := RX4) rfl (by decide +kernel) (Nat.le_of_ble_eq_true rfl) ?_
  intro p e s m args below meth c Q A X hQ
  refine g_lvE (lv2 := [(0, .ref h), (1, .ref h_lw)]) rfl ?_
  refine g_aload_n X dX4_passDay_0 0 rfl ?_
  refine gX4_get X 0 rfl 5 (by decide) uw324 rfl dX4_passDay_1 ?_
  refine g_sipush X (z := 9999) dX4_passDay_4 (by decide) ?_
  refine g_icmp_lt X (tgt := 12) dX4_passDay_7 (by decide) (by omega) (by omega) (fun c7 => ?_) (fun c7 => ?_)
  · refine g_aload_n X dX4_passDay_12 0 rfl ?_
    refine g_iconst X dX4_passDay_13 ?_
    refine gX4_put X 0 rfl 9 (by decide) uw333 rfl rfl rfl (Nat.le_of_ble_eq_true rfl) dX4_passDay_14 (ws2 := ((wX4 cI cB cJ h q v_told v_day v_x v_sales v_timesSoldOut 0 v_upper v_lower v_money v_soldOut) ++ (wX2 cI cB cJ h_lw q_lw v_lw_size v_lw_length v_lw_height v_lw_letter v_lw_valueAt v_lw_testAt v_lw_endAt v_lw_sign v_lw_beside v_lw_seen v_lw_stack))) rfl ?_
    refine g_iconst X dX4_passDay_17 ?_
    refine g_istore_n X (lv' := [(2, vI 0), (0, .ref h), (1, .ref h_lw)]) dX4_passDay_18 (by decide) rfl ?_
    have L19 : ∀ (n : Nat) (x2_19 : Int) (x_19 : Int) (sales_19 : Int) (timesSoldOut_19 : Int) (soldOutToday_19 : Int) (lw_height_19 : Int) (upper_19 : Nat → Int) (money_19 : Nat → Int) (soldOut_19 : Nat → Int) (lw_seen_19 : Nat → Int) (lw_stack_19 : Nat → Int), (0 ≤ x_19 ∧ x_19 ≤ 65535) → ((-2147483648) ≤ sales_19 ∧ sales_19 ≤ 2147483647) → ((-2147483648) ≤ timesSoldOut_19 ∧ timesSoldOut_19 ≤ 2147483647) → ((-2147483648) ≤ soldOutToday_19 ∧ soldOutToday_19 ≤ 2147483647) → (0 ≤ lw_height_19 ∧ lw_height_19 ≤ 64) → (RA (-2147483648) 2147483647 upper_19) → (RA (-2147483648) 2147483647 money_19) → (RA (-2147483648) 2147483647 soldOut_19) → (RA (-2147483648) 2147483647 lw_seen_19) → (RA (-2147483648) 2147483647 lw_stack_19) → (0 ≤ x2_19 ∧ x2_19 ≤ 8) → (8 - x2_19).toNat < n → GG p l e ⟨5, 0, 0, 138⟩ s m args below meth c 0 0 Q D A s.heap 3 ((wX4 cI cB cJ h q v_told v_day x_19 sales_19 timesSoldOut_19 soldOutToday_19 upper_19 v_lower money_19 soldOut_19) ++ (wX2 cI cB cJ h_lw q_lw v_lw_size v_lw_length lw_height_19 v_lw_letter v_lw_valueAt v_lw_testAt v_lw_endAt v_lw_sign v_lw_beside lw_seen_19 lw_stack_19)) 19 [(0, .ref h), (1, .ref h_lw), (2, vI x2_19)] [] := by
      intro n
      induction n with
      | zero => intros; exfalso; omega
      | succ n ih19 =>
        intro x2_19 x_19 sales_19 timesSoldOut_19 soldOutToday_19 lw_height_19 upper_19 money_19 soldOut_19 lw_seen_19 lw_stack_19 kr_x_19 kr_sales_19 kr_timesSoldOut_19 kr_soldOutToday_19 kr_lw_height_19 r_upper_19 r_money_19 r_soldOut_19 r_lw_seen_19 r_lw_stack_19 w19_0 wm19
        refine g_iload_n X dX4_passDay_19 2 rfl ?_
        refine g_bipush X (z := 8) dX4_passDay_20 (by decide) ?_
        refine g_icmp_ge X (tgt := 49) dX4_passDay_22 (by decide) (by omega) (by omega) (fun c22 => ?_) (fun c22 => ?_)
        · refine g_aload_n X dX4_passDay_49 0 rfl ?_
          refine g_dup X rfl dX4_passDay_50 ?_
          refine gX4_get X 0 rfl 5 (by decide) uw324 rfl dX4_passDay_51 ?_
          refine g_iconst X dX4_passDay_54 ?_
          refine g_iadd X dX4_passDay_55 ?_
          refine gX4_put X 0 rfl 5 (by decide) uw324 rfl rfl rfl (Nat.le_of_ble_eq_true rfl) dX4_passDay_56 (ws2 := ((wX4 cI cB cJ h q v_told (v_day + 1) x_19 sales_19 timesSoldOut_19 soldOutToday_19 upper_19 v_lower money_19 soldOut_19) ++ (wX2 cI cB cJ h_lw q_lw v_lw_size v_lw_length lw_height_19 v_lw_letter v_lw_valueAt v_lw_testAt v_lw_endAt v_lw_sign v_lw_beside lw_seen_19 lw_stack_19))) rfl ?_
          refine g_iconst X dX4_passDay_59 ?_
          exact hQ _ _ _ _ dX4_passDay_60 ⟨by omega, ⟨v_day + 1, x_19, sales_19, timesSoldOut_19, soldOutToday_19, upper_19, money_19, soldOut_19, lw_height_19, lw_seen_19, lw_stack_19, (by omega), (by omega), (by omega), (by omega), (by omega), r_upper_19, r_money_19, r_soldOut_19, (by omega), r_lw_seen_19, r_lw_stack_19, (by first | assumption | omega), rfl⟩⟩
        · refine g_aload_n X dX4_passDay_25 0 rfl ?_
          refine g_iload_n X dX4_passDay_26 2 rfl ?_
          refine g_callVIw X (c_X4_isTold l D cI cB cJ h q (p0 := x2_19) (by omega) (by first | assumption | omega)) [0, 1, 2, 3, 4] rfl rfl rfl cv_X4_isTold uw684 ⟨rfl, rfl, by decide, by decide⟩ 0 rfl rfl rfl rfl rfl (Nat.le_of_ble_eq_true rfl) ⟨Nat.zero_le _, Nat.zero_le _⟩ dX4_passDay_27 (fun t27 ws27 k27 => ?_)
          obtain ⟨kb_27, ⟨kp0_27, rfl⟩⟩ := k27
          refine ⟨rfl, ?_⟩
          refine g_ws (ws2 := ((wX4 cI cB cJ h q v_told v_day x_19 sales_19 timesSoldOut_19 soldOutToday_19 upper_19 v_lower money_19 soldOut_19) ++ (wX2 cI cB cJ h_lw q_lw v_lw_size v_lw_length lw_height_19 v_lw_letter v_lw_valueAt v_lw_testAt v_lw_endAt v_lw_sign v_lw_beside lw_seen_19 lw_stack_19))) rfl ?_
          refine g_if_eq X (tgt := 43) dX4_passDay_30 (by decide) (by omega) (fun c30 => ?_) (fun c30 => ?_)
          · refine g_iinc X (lv' := [(2, vI (x2_19 + 1)), (0, .ref h), (1, .ref h_lw)]) dX4_passDay_43 2 rfl (by decide) rfl ?_
            refine g_goto X (tgt := 19) dX4_passDay_46 (by decide) ?_
            refine g_lv [1, 2, 0] rfl ?_
            exact ih19 (x2_19 + 1) x_19 sales_19 timesSoldOut_19 soldOutToday_19 lw_height_19 upper_19 money_19 soldOut_19 lw_seen_19 lw_stack_19 (by omega) (by omega) (by omega) (by omega) (by omega) r_upper_19 r_money_19 r_soldOut_19 r_lw_seen_19 r_lw_stack_19 (by first | assumption | omega) (by omega)
          · refine g_aload_n X dX4_passDay_33 0 rfl ?_
            refine g_iload_n X dX4_passDay_34 2 rfl ?_
            refine g_aload_n X dX4_passDay_35 1 rfl ?_
            refine g_aload_n X dX4_passDay_36 0 rfl ?_
            refine g_callVIw X (c_X4_draw l D cI cB cJ h q  (by omega)) [0, 1, 2, 3, 4] rfl rfl rfl cv_X4_draw uw1052 ⟨rfl, rfl, by decide, by decide⟩ 0 rfl rfl rfl rfl rfl (Nat.le_of_ble_eq_true rfl) ⟨Nat.zero_le _, Nat.zero_le _⟩ dX4_passDay_37 (fun t37 ws37 k37 => ?_)
            obtain ⟨x_37, kr_x_37, kp0_37, rfl⟩ := k37
            refine ⟨rfl, ?_⟩
            refine g_ws (ws2 := ((wX4 cI cB cJ h q v_told v_day x_37 sales_19 timesSoldOut_19 soldOutToday_19 upper_19 v_lower money_19 soldOut_19) ++ (wX2 cI cB cJ h_lw q_lw v_lw_size v_lw_length lw_height_19 v_lw_letter v_lw_valueAt v_lw_testAt v_lw_endAt v_lw_sign v_lw_beside lw_seen_19 lw_stack_19))) rfl ?_
            refine g_callVV0 X (c_X4_open l D cI cB cJ h q h_lw q_lw (p0 := x2_19) (p2 := t37) (by omega) (by omega) (by omega) (by omega) r_upper_19 r_v_lower r_money_19 r_soldOut_19 (by omega) (by omega) r_v_lw_letter r_v_lw_valueAt r_v_lw_testAt r_v_lw_endAt r_v_lw_sign r_v_lw_beside r_lw_seen_19 r_lw_stack_19 (by first | assumption | omega) (by first | assumption | omega) (by first | assumption | omega) (by first | assumption | omega)) cv_X4_open uw1057 ⟨rfl, rfl, by decide, by decide⟩ 0 rfl rfl rfl rfl rfl (Nat.le_of_ble_eq_true rfl) ⟨Nat.zero_le _, Nat.zero_le _⟩ dX4_passDay_40 (fun ws40 k40 => ?_)
            obtain ⟨sales_40, timesSoldOut_40, soldOutToday_40, upper_40, money_40, soldOut_40, lw_height_40, lw_seen_40, lw_stack_40, kr_sales_40, kr_timesSoldOut_40, kr_soldOutToday_40, r_upper_40, r_money_40, r_soldOut_40, kr_lw_height_40, r_lw_seen_40, r_lw_stack_40, rfl⟩ := k40
            refine g_iinc X (lv' := [(2, vI (x2_19 + 1)), (0, .ref h), (1, .ref h_lw)]) dX4_passDay_43 2 rfl (by decide) rfl ?_
            refine g_goto X (tgt := 19) dX4_passDay_46 (by decide) ?_
            refine g_lv [1, 2, 0] rfl ?_
            exact ih19 (x2_19 + 1) x_37 sales_40 timesSoldOut_40 soldOutToday_40 lw_height_40 upper_40 money_40 soldOut_40 lw_seen_40 lw_stack_40 (by omega) (by omega) (by omega) (by omega) (by omega) r_upper_40 r_money_40 r_soldOut_40 r_lw_seen_40 r_lw_stack_40 (by first | assumption | omega) (by omega)
    refine g_lv [1, 2, 0] rfl ?_
    exact L19 _ 0 v_x v_sales v_timesSoldOut 0 v_lw_height v_upper v_money v_soldOut v_lw_seen v_lw_stack (by omega) (by omega) (by omega) (by omega) (by omega) r_v_upper r_v_money r_v_soldOut r_v_lw_seen r_v_lw_stack (by first | assumption | omega) (Nat.lt_succ_self _)
  · refine g_iconst X dX4_passDay_10 ?_
    exact hQ _ _ _ _ dX4_passDay_11 ⟨by omega, ⟨v_day, v_x, v_sales, v_timesSoldOut, v_soldOutToday, v_upper, v_money, v_soldOut, v_lw_height, v_lw_seen, v_lw_stack, (by omega), (by omega), (by omega), (by omega), (by omega), r_v_upper, r_v_money, r_v_soldOut, (by omega), r_v_lw_seen, r_v_lw_stack, (by first | assumption | omega), rfl⟩⟩
