set_option maxHeartbeats 600000 in
set_option maxRecDepth 100000 in
theorem c_X9_canBeTried (l : Launch) (D : va_G) (cI cB cJ : ClassId) (h : Nat) (q : Nat → Nat) (h_mk : Nat) (q_mk : Nat → Nat) {o_tape : Nat} {o_claims : Nat} {o_nextClaims : Nat} {o_bounds : Nat} {o_otherBounds : Nat} {o_ringSearch : Nat} {o_lawReader : Nat} {o_rules : Nat} {o_nextRules : Nat} {o_trial : Nat} {o_kept : Nat} {o_triangles : Nat} {v_hasKept v_mk_told v_mk_day v_mk_x v_mk_sales v_mk_timesSoldOut v_mk_soldOutToday : Int} {v_table v_mk_upper v_mk_lower v_mk_money v_mk_soldOut : Nat → Int} {p0 : Int} (kr_v_mk_told : 0 ≤ v_mk_told ∧ v_mk_told ≤ 255) (hp0 : IR p0) : CtI l yX9_canBeTried cX9_canBeTried 2 (some .boolean) ⟨2, 0, 0, 43⟩ D (TY cI cB cJ) ((wX9 cI cB cJ h q o_tape o_claims o_nextClaims o_bounds o_otherBounds o_ringSearch o_lawReader o_rules o_nextRules h_mk o_trial o_kept o_triangles v_hasKept v_table) ++ (wX4 cI cB cJ h_mk q_mk v_mk_told v_mk_day v_mk_x v_mk_sales v_mk_timesSoldOut v_mk_soldOutToday v_mk_upper v_mk_lower v_mk_money v_mk_soldOut)) [.ref h, vI p0] (fun z ws' => (z = 0 ∨ z = 1) ∧ (z = 1 → (0 ≤ p0 ∧ p0 ≤ 2) ∨ (10 ≤ p0 ∧ p0 ≤ 17) ∨ (20 ≤ p0 ∧ p0 ≤ 27)) ∧ (ws' = ((wX9 cI cB cJ h q o_tape o_claims o_nextClaims o_bounds o_otherBounds o_ringSearch o_lawReader o_rules o_nextRules h_mk o_trial o_kept o_triangles v_hasKept v_table) ++ (wX4 cI cB cJ h_mk q_mk v_mk_told v_mk_day v_mk_x v_mk_sales v_mk_timesSoldOut v_mk_soldOutToday v_mk_upper v_mk_lower v_mk_money v_mk_soldOut)))) := by
  refine hdrZ (own := RX9) rfl (by decide +kernel) (Nat.le_of_ble_eq_true rfl) ?_
  intro p e s m args below meth c Q A X hQ
  refine g_lvE (lv2 := [(0, .ref h), (1, vI p0)]) rfl ?_
  refine g_iload_n X dX9_canBeTried_0 1 rfl ?_
  refine g_iconst X dX9_canBeTried_1 ?_
  refine g_iconst X dX9_canBeTried_2 ?_
  refine g_callSIE X (c_X9_isFrom l D cI cB cJ (p0 := p0) (p1 := 0) (p2 := 2) (by first | assumption | omega) (by first | assumption | omega) (by first | assumption | omega)) cv_X9_isFrom uw719 ⟨rfl, rfl, by decide, by decide⟩ rfl rfl (Nat.le_of_ble_eq_true rfl) ⟨Nat.zero_le _, Nat.zero_le _⟩ dX9_canBeTried_3 (fun t3 ws3 k3 => ?_)
  obtain ⟨kb_3, ⟨kp0_3, rfl⟩⟩ := k3
  refine g_if_ne X (tgt := 59) dX9_canBeTried_6 (by decide) (by omega) (fun c6 => ?_) (fun c6 => ?_)
  · replace kb_3 := kb_3.resolve_left (fun h => c6 h)
    replace kp0_3 := kp0_3.resolve_right (fun h => c6 h.1)
    refine g_iconst X dX9_canBeTried_59 ?_
    refine g_goto X (tgt := 64) dX9_canBeTried_60 (by decide) ?_
    exact hQ _ _ _ _ dX9_canBeTried_64 ⟨by omega, ⟨(by first | assumption | omega), rfl⟩⟩
  · clear kb_3
    replace kp0_3 := (kp0_3.resolve_left (fun h => absurd h.1 (by omega))).2
    refine g_iload_n X dX9_canBeTried_9 1 rfl ?_
    refine g_bipush X (z := 10) dX9_canBeTried_10 (by decide) ?_
    refine g_bipush X (z := 17) dX9_canBeTried_12 (by decide) ?_
    refine g_callSIE X (c_X9_isFrom l D cI cB cJ (p0 := p0) (p1 := 10) (p2 := 17) (by first | assumption | omega) (by first | assumption | omega) (by first | assumption | omega)) cv_X9_isFrom uw719 ⟨rfl, rfl, by decide, by decide⟩ rfl rfl (Nat.le_of_ble_eq_true rfl) ⟨Nat.zero_le _, Nat.zero_le _⟩ dX9_canBeTried_14 (fun t14 ws14 k14 => ?_)
    obtain ⟨kb_14, ⟨kp0_14, rfl⟩⟩ := k14
    refine g_if_eq X (tgt := 34) dX9_canBeTried_17 (by decide) (by omega) (fun c17 => ?_) (fun c17 => ?_)
    · clear kb_14
      replace kp0_14 := (kp0_14.resolve_left (fun h => absurd h.1 (by omega))).2
      refine g_iload_n X dX9_canBeTried_34 1 rfl ?_
      refine g_bipush X (z := 20) dX9_canBeTried_35 (by decide) ?_
      refine g_bipush X (z := 27) dX9_canBeTried_37 (by decide) ?_
      refine g_callSIE X (c_X9_isFrom l D cI cB cJ (p0 := p0) (p1 := 20) (p2 := 27) (by first | assumption | omega) (by first | assumption | omega) (by first | assumption | omega)) cv_X9_isFrom uw719 ⟨rfl, rfl, by decide, by decide⟩ rfl rfl (Nat.le_of_ble_eq_true rfl) ⟨Nat.zero_le _, Nat.zero_le _⟩ dX9_canBeTried_39 (fun t39 ws39 k39 => ?_)
      obtain ⟨kb_39, ⟨kp0_39, rfl⟩⟩ := k39
      refine g_if_eq X (tgt := 63) dX9_canBeTried_42 (by decide) (by omega) (fun c42 => ?_) (fun c42 => ?_)
      · clear kb_39
        replace kp0_39 := (kp0_39.resolve_left (fun h => absurd h.1 (by omega))).2
        refine g_iconst X dX9_canBeTried_63 ?_
        exact hQ _ _ _ _ dX9_canBeTried_64 ⟨by omega, ⟨(by first | assumption | omega), rfl⟩⟩
      · replace kb_39 := kb_39.resolve_left (fun h => c42 h)
        replace kp0_39 := kp0_39.resolve_right (fun h => c42 h.1)
        refine g_aload_n X dX9_canBeTried_45 0 rfl ?_
        refine gX9_get X 0 rfl 9 (by decide) uw420 rfl dX9_canBeTried_46 ?_
        refine g_iload_n X dX9_canBeTried_49 1 rfl ?_
        refine g_bipush X (z := 20) dX9_canBeTried_50 (by decide) ?_
        refine g_isub X dX9_canBeTried_52 ?_
        refine g_callVIw X (c_X4_isTold l D cI cB cJ h_mk q_mk (p0 := p0 - 20) (by omega) (by first | assumption | omega)) [2, 3, 4, 5, 6] rfl rfl rfl cv_X4_isTold uw1116 ⟨rfl, rfl, by decide, by decide⟩ 0 rfl rfl rfl rfl rfl (Nat.le_of_ble_eq_true rfl) ⟨Nat.zero_le _, Nat.zero_le _⟩ dX9_canBeTried_53 (fun t53 ws53 k53 => ?_)
        obtain ⟨kb_53, ⟨kp0_53, rfl⟩⟩ := k53
        refine ⟨rfl, ?_⟩
        refine g_ws (ws2 := ((wX9 cI cB cJ h q o_tape o_claims o_nextClaims o_bounds o_otherBounds o_ringSearch o_lawReader o_rules o_nextRules h_mk o_trial o_kept o_triangles v_hasKept v_table) ++ (wX4 cI cB cJ h_mk q_mk v_mk_told v_mk_day v_mk_x v_mk_sales v_mk_timesSoldOut v_mk_soldOutToday v_mk_upper v_mk_lower v_mk_money v_mk_soldOut))) rfl ?_
        refine g_if_eq X (tgt := 63) dX9_canBeTried_56 (by decide) (by omega) (fun c56 => ?_) (fun c56 => ?_)
        · clear kb_53
          replace kp0_53 := (kp0_53.resolve_left (fun h => absurd h.1 (by omega))).2
          refine g_iconst X dX9_canBeTried_63 ?_
          exact hQ _ _ _ _ dX9_canBeTried_64 ⟨by omega, ⟨(by first | assumption | omega), rfl⟩⟩
        · replace kb_53 := kb_53.resolve_left (fun h => c56 h)
          replace kp0_53 := kp0_53.resolve_right (fun h => c56 h.1)
          refine g_iconst X dX9_canBeTried_59 ?_
          refine g_goto X (tgt := 64) dX9_canBeTried_60 (by decide) ?_
          exact hQ _ _ _ _ dX9_canBeTried_64 ⟨by omega, ⟨(by first | assumption | omega), rfl⟩⟩
    · replace kb_14 := kb_14.resolve_left (fun h => c17 h)
      replace kp0_14 := kp0_14.resolve_right (fun h => c17 h.1)
      refine g_aload_n X dX9_canBeTried_20 0 rfl ?_
      refine gX9_get X 0 rfl 9 (by decide) uw420 rfl dX9_canBeTried_21 ?_
      refine g_iload_n X dX9_canBeTried_24 1 rfl ?_
      refine g_bipush X (z := 10) dX9_canBeTried_25 (by decide) ?_
      refine g_isub X dX9_canBeTried_27 ?_
      refine g_callVIw X (c_X4_isTold l D cI cB cJ h_mk q_mk (p0 := p0 - 10) (by omega) (by first | assumption | omega)) [2, 3, 4, 5, 6] rfl rfl rfl cv_X4_isTold uw1116 ⟨rfl, rfl, by decide, by decide⟩ 0 rfl rfl rfl rfl rfl (Nat.le_of_ble_eq_true rfl) ⟨Nat.zero_le _, Nat.zero_le _⟩ dX9_canBeTried_28 (fun t28 ws28 k28 => ?_)
      obtain ⟨kb_28, ⟨kp0_28, rfl⟩⟩ := k28
      refine ⟨rfl, ?_⟩
      refine g_ws (ws2 := ((wX9 cI cB cJ h q o_tape o_claims o_nextClaims o_bounds o_otherBounds o_ringSearch o_lawReader o_rules o_nextRules h_mk o_trial o_kept o_triangles v_hasKept v_table) ++ (wX4 cI cB cJ h_mk q_mk v_mk_told v_mk_day v_mk_x v_mk_sales v_mk_timesSoldOut v_mk_soldOutToday v_mk_upper v_mk_lower v_mk_money v_mk_soldOut))) rfl ?_
      refine g_if_ne X (tgt := 59) dX9_canBeTried_31 (by decide) (by omega) (fun c31 => ?_) (fun c31 => ?_)
      · replace kb_28 := kb_28.resolve_left (fun h => c31 h)
        replace kp0_28 := kp0_28.resolve_right (fun h => c31 h.1)
        refine g_iconst X dX9_canBeTried_59 ?_
        refine g_goto X (tgt := 64) dX9_canBeTried_60 (by decide) ?_
        exact hQ _ _ _ _ dX9_canBeTried_64 ⟨by omega, ⟨(by first | assumption | omega), rfl⟩⟩
      · clear kb_28
        replace kp0_28 := (kp0_28.resolve_left (fun h => absurd h.1 (by omega))).2
        refine g_iload_n X dX9_canBeTried_34 1 rfl ?_
        refine g_bipush X (z := 20) dX9_canBeTried_35 (by decide) ?_
        refine g_bipush X (z := 27) dX9_canBeTried_37 (by decide) ?_
        refine g_callSIE X (c_X9_isFrom l D cI cB cJ (p0 := p0) (p1 := 20) (p2 := 27) (by first | assumption | omega) (by first | assumption | omega) (by first | assumption | omega)) cv_X9_isFrom uw719 ⟨rfl, rfl, by decide, by decide⟩ rfl rfl (Nat.le_of_ble_eq_true rfl) ⟨Nat.zero_le _, Nat.zero_le _⟩ dX9_canBeTried_39 (fun t39 ws39 k39 => ?_)
        obtain ⟨kb_39, ⟨kp0_39, rfl⟩⟩ := k39
        refine g_if_eq X (tgt := 63) dX9_canBeTried_42 (by decide) (by omega) (fun c42 => ?_) (fun c42 => ?_)
        · clear kb_39
          replace kp0_39 := (kp0_39.resolve_left (fun h => absurd h.1 (by omega))).2
          refine g_iconst X dX9_canBeTried_63 ?_
          exact hQ _ _ _ _ dX9_canBeTried_64 ⟨by omega, ⟨(by first | assumption | omega), rfl⟩⟩
        · replace kb_39 := kb_39.resolve_left (fun h => c42 h)
          replace kp0_39 := kp0_39.resolve_right (fun h => c42 h.1)
          refine g_aload_n X dX9_canBeTried_45 0 rfl ?_
          refine gX9_get X 0 rfl 9 (by decide) uw420 rfl dX9_canBeTried_46 ?_
          refine g_iload_n X dX9_canBeTried_49 1 rfl ?_
          refine g_bipush X (z := 20) dX9_canBeTried_50 (by decide) ?_
          refine g_isub X dX9_canBeTried_52 ?_
          refine g_callVIw X (c_X4_isTold l D cI cB cJ h_mk q_mk (p0 := p0 - 20) (by omega) (by first | assumption | omega)) [2, 3, 4, 5, 6] rfl rfl rfl cv_X4_isTold uw1116 ⟨rfl, rfl, by decide, by decide⟩ 0 rfl rfl rfl rfl rfl (Nat.le_of_ble_eq_true rfl) ⟨Nat.zero_le _, Nat.zero_le _⟩ dX9_canBeTried_53 (fun t53 ws53 k53 => ?_)
          obtain ⟨kb_53, ⟨kp0_53, rfl⟩⟩ := k53
          refine ⟨rfl, ?_⟩
          refine g_ws (ws2 := ((wX9 cI cB cJ h q o_tape o_claims o_nextClaims o_bounds o_otherBounds o_ringSearch o_lawReader o_rules o_nextRules h_mk o_trial o_kept o_triangles v_hasKept v_table) ++ (wX4 cI cB cJ h_mk q_mk v_mk_told v_mk_day v_mk_x v_mk_sales v_mk_timesSoldOut v_mk_soldOutToday v_mk_upper v_mk_lower v_mk_money v_mk_soldOut))) rfl ?_
          refine g_if_eq X (tgt := 63) dX9_canBeTried_56 (by decide) (by omega) (fun c56 => ?_) (fun c56 => ?_)
          · clear kb_53
            replace kp0_53 := (kp0_53.resolve_left (fun h => absurd h.1 (by omega))).2
            refine g_iconst X dX9_canBeTried_63 ?_
            exact hQ _ _ _ _ dX9_canBeTried_64 ⟨by omega, ⟨(by first | assumption | omega), rfl⟩⟩
          · replace kb_53 := kb_53.resolve_left (fun h => c56 h)
            replace kp0_53 := kp0_53.resolve_right (fun h => c56 h.1)
            refine g_iconst X dX9_canBeTried_59 ?_
            refine g_goto X (tgt := 64) dX9_canBeTried_60 (by decide) ?_
            exact hQ _ _ _ _ dX9_canBeTried_64 ⟨by omega, ⟨(by first | assumption | omega), rfl⟩⟩
set_option maxHeartbeats 600000 in
set_option maxRecDepth 100000 in
theorem c_X9_days (l : Launch) (D : va_G) (cI cB cJ : ClassId) (h : Nat) (q : Nat → Nat) (h_mk : Nat) (q_mk : Nat → Nat) (h_ru : Nat) (q_ru : Nat → Nat) {o_tape : Nat} {o_claims : Nat} {o_nextClaims : Nat} {o_bounds : Nat} {o_otherBounds : Nat} {o_ringSearch : Nat} {o_lawReader : Nat} {o_nextRules : Nat} {o_trial : Nat} {o_kept : Nat} {o_triangles : Nat} {v_hasKept v_mk_told v_mk_day v_mk_x v_mk_sales v_mk_timesSoldOut v_mk_soldOutToday v_ru_size v_ru_length v_ru_height : Int} {v_table v_mk_upper v_mk_lower v_mk_money v_mk_soldOut v_ru_letter v_ru_valueAt v_ru_testAt v_ru_endAt v_ru_sign v_ru_beside v_ru_seen v_ru_stack : Nat → Int} {p0 : Int} (kr_v_mk_told : 0 ≤ v_mk_told ∧ v_mk_told ≤ 255) (kr_v_mk_day : 0 ≤ v_mk_day ∧ v_mk_day ≤ 9999) (kr_v_mk_x : 0 ≤ v_mk_x ∧ v_mk_x ≤ 65535) (kr_v_mk_sales : (-2147483648) ≤ v_mk_sales ∧ v_mk_sales ≤ 2147483647) (kr_v_mk_timesSoldOut : (-2147483648) ≤ v_mk_timesSoldOut ∧ v_mk_timesSoldOut ≤ 2147483647) (kr_v_mk_soldOutToday : (-2147483648) ≤ v_mk_soldOutToday ∧ v_mk_soldOutToday ≤ 2147483647) (r_v_mk_upper : RA (-2147483648) 2147483647 v_mk_upper) (r_v_mk_lower : RA (-2147483648) 2147483647 v_mk_lower) (r_v_mk_money : RA (-2147483648) 2147483647 v_mk_money) (r_v_mk_soldOut : RA (-2147483648) 2147483647 v_mk_soldOut) (kr_v_ru_size : 0 ≤ v_ru_size ∧ v_ru_size ≤ 16) (kr_v_ru_height : 0 ≤ v_ru_height ∧ v_ru_height ≤ 64) (r_v_ru_letter : RA (-2147483648) 2147483647 v_ru_letter) (r_v_ru_valueAt : RA 0 256 v_ru_valueAt) (r_v_ru_testAt : RA 0 256 v_ru_testAt) (r_v_ru_endAt : RA 0 256 v_ru_endAt) (r_v_ru_sign : RA (-2147483648) 2147483647 v_ru_sign) (r_v_ru_beside : RA 0 99999 v_ru_beside) (r_v_ru_seen : RA (-2147483648) 2147483647 v_ru_seen) (r_v_ru_stack : RA (-2147483648) 2147483647 v_ru_stack) (hp0 : IR p0) (hp1 : LInv v_ru_sign v_ru_beside) : CtI l yX9_days cX9_days 3 (some .int) ⟨6, 0, 0, 160⟩ D (TY cI cB cJ) ((wX9 cI cB cJ h q o_tape o_claims o_nextClaims o_bounds o_otherBounds o_ringSearch o_lawReader h_ru o_nextRules h_mk o_trial o_kept o_triangles v_hasKept v_table) ++ (wX4 cI cB cJ h_mk q_mk v_mk_told v_mk_day v_mk_x v_mk_sales v_mk_timesSoldOut v_mk_soldOutToday v_mk_upper v_mk_lower v_mk_money v_mk_soldOut) ++ (wX2 cI cB cJ h_ru q_ru v_ru_size v_ru_length v_ru_height v_ru_letter v_ru_valueAt v_ru_testAt v_ru_endAt v_ru_sign v_ru_beside v_ru_seen v_ru_stack)) [.ref h, vI p0] (fun z ws' => ∃ n_mk_day : Int, ∃ n_mk_x : Int, ∃ n_mk_sales : Int, ∃ n_mk_timesSoldOut : Int, ∃ n_mk_soldOutToday : Int, ∃ n_mk_upper : Nat → Int, ∃ n_mk_money : Nat → Int, ∃ n_mk_soldOut : Nat → Int, ∃ n_ru_height : Int, ∃ n_ru_seen : Nat → Int, ∃ n_ru_stack : Nat → Int, (0 ≤ n_mk_day ∧ n_mk_day ≤ 9999) ∧ (0 ≤ n_mk_x ∧ n_mk_x ≤ 65535) ∧ ((-2147483648) ≤ n_mk_sales ∧ n_mk_sales ≤ 2147483647) ∧ ((-2147483648) ≤ n_mk_timesSoldOut ∧ n_mk_timesSoldOut ≤ 2147483647) ∧ ((-2147483648) ≤ n_mk_soldOutToday ∧ n_mk_soldOutToday ≤ 2147483647) ∧ (RA (-2147483648) 2147483647 n_mk_upper) ∧ (RA (-2147483648) 2147483647 n_mk_money) ∧ (RA (-2147483648) 2147483647 n_mk_soldOut) ∧ (0 ≤ n_ru_height ∧ n_ru_height ≤ 64) ∧ (RA (-2147483648) 2147483647 n_ru_seen) ∧ (RA (-2147483648) 2147483647 n_ru_stack) ∧ (IR z) ∧ ((1 ≤ p0 ∧ p0 ≤ 100 ∧ v_mk_day + p0 ≤ 9999 ∧ n_mk_day = v_mk_day + p0) ∨ (1 ≤ p0 ∧ p0 ≤ 100 ∧ 9999 < v_mk_day + p0 ∧ n_mk_day = 9999) ∨ (¬ (1 ≤ p0 ∧ p0 ≤ 100) ∧ n_mk_day = v_mk_day)) ∧ (ws' = ((wX9 cI cB cJ h q o_tape o_claims o_nextClaims o_bounds o_otherBounds o_ringSearch o_lawReader h_ru o_nextRules h_mk o_trial o_kept o_triangles v_hasKept v_table) ++ (wX4 cI cB cJ h_mk q_mk v_mk_told n_mk_day n_mk_x n_mk_sales n_mk_timesSoldOut n_mk_soldOutToday n_mk_upper v_mk_lower n_mk_money n_mk_soldOut) ++ (wX2 cI cB cJ h_ru q_ru v_ru_size v_ru_length n_ru_height v_ru_letter v_ru_valueAt v_ru_testAt v_ru_endAt v_ru_sign v_ru_beside n_ru_seen n_ru_stack)))) := by
  refine hdrI (own := RX9) rfl (by decide +kernel) (Nat.le_of_ble_eq_true rfl) ?_
  intro p e s m args below meth c Q A X hQ
  refine g_lvE (lv2 := [(0, .ref h), (1, vI p0)]) rfl ?_
  refine g_iload_n X dX9_days_0 1 rfl ?_
  refine g_iconst X dX9_days_1 ?_
  refine g_bipush X (z := 100) dX9_days_2 (by decide) ?_
  refine g_callSIE X (c_X9_isFrom l D cI cB cJ (p0 := p0) (p1 := 1) (p2 := 100) (by first | assumption | omega) (by first | assumption | omega) (by first | assumption | omega)) cv_X9_isFrom uw719 ⟨rfl, rfl, by decide, by decide⟩ rfl rfl (Nat.le_of_ble_eq_true rfl) ⟨Nat.zero_le _, Nat.zero_le _⟩ dX9_days_4 (fun t4 ws4 k4 => ?_)
  obtain ⟨kb_4, ⟨kp0_4, rfl⟩⟩ := k4
  refine g_if_ne X (tgt := 12) dX9_days_7 (by decide) (by omega) (fun c7 => ?_) (fun c7 => ?_)
  · replace kb_4 := kb_4.resolve_left (fun h => c7 h)
    replace kp0_4 := kp0_4.resolve_right (fun h => c7 h.1)
    refine g_aload_n X dX9_days_12 0 rfl ?_
    refine gX9_get X 0 rfl 9 (by decide) uw420 rfl dX9_days_13 ?_
    refine g_callVVw X (c_X4_countAnew l D cI cB cJ h_mk q_mk  (by omega) (by omega)) [2, 3, 4, 5, 6] rfl rfl rfl cv_X4_countAnew uw1044 ⟨rfl, rfl, by decide, by decide⟩ 0 rfl rfl rfl rfl rfl (Nat.le_of_ble_eq_true rfl) ⟨Nat.zero_le _, Nat.zero_le _⟩ dX9_days_16 (fun ws16 k16 => ?_)
    obtain ⟨mk_sales_16, mk_timesSoldOut_16, kr_mk_sales_16, kr_mk_timesSoldOut_16, rfl⟩ := k16
    refine ⟨rfl, ?_⟩
    refine g_ws (ws2 := ((wX9 cI cB cJ h q o_tape o_claims o_nextClaims o_bounds o_otherBounds o_ringSearch o_lawReader h_ru o_nextRules h_mk o_trial o_kept o_triangles v_hasKept v_table) ++ (wX4 cI cB cJ h_mk q_mk v_mk_told v_mk_day v_mk_x mk_sales_16 mk_timesSoldOut_16 v_mk_soldOutToday v_mk_upper v_mk_lower v_mk_money v_mk_soldOut) ++ (wX2 cI cB cJ h_ru q_ru v_ru_size v_ru_length v_ru_height v_ru_letter v_ru_valueAt v_ru_testAt v_ru_endAt v_ru_sign v_ru_beside v_ru_seen v_ru_stack))) rfl ?_
    refine g_iconst X dX9_days_19 ?_
    refine g_istore_n X (lv' := [(2, vI 0), (0, .ref h), (1, vI p0)]) dX9_days_20 (by decide) rfl ?_
    have L21 : ∀ (n : Nat) (x2_21 : Int) (mk_day_21 : Int) (mk_x_21 : Int) (mk_sales_21 : Int) (mk_timesSoldOut_21 : Int) (mk_soldOutToday_21 : Int) (ru_height_21 : Int) (mk_upper_21 : Nat → Int) (mk_money_21 : Nat → Int) (mk_soldOut_21 : Nat → Int) (ru_seen_21 : Nat → Int) (ru_stack_21 : Nat → Int), (0 ≤ mk_day_21 ∧ mk_day_21 ≤ 9999) → (0 ≤ mk_x_21 ∧ mk_x_21 ≤ 65535) → ((-2147483648) ≤ mk_sales_21 ∧ mk_sales_21 ≤ 2147483647) → ((-2147483648) ≤ mk_timesSoldOut_21 ∧ mk_timesSoldOut_21 ≤ 2147483647) → ((-2147483648) ≤ mk_soldOutToday_21 ∧ mk_soldOutToday_21 ≤ 2147483647) → (0 ≤ ru_height_21 ∧ ru_height_21 ≤ 64) → (RA (-2147483648) 2147483647 mk_upper_21) → (RA (-2147483648) 2147483647 mk_money_21) → (RA (-2147483648) 2147483647 mk_soldOut_21) → (RA (-2147483648) 2147483647 ru_seen_21) → (RA (-2147483648) 2147483647 ru_stack_21) → (0 ≤ x2_21 ∧ x2_21 ≤ p0) → ((v_mk_day + x2_21 ≤ 9999 ∧ mk_day_21 = v_mk_day + x2_21) ∨ (9999 < v_mk_day + x2_21 ∧ mk_day_21 = 9999)) → (p0 - x2_21).toNat < n → GG p l e ⟨6, 0, 0, 160⟩ s m args below meth c 0 0 Q D A s.heap 3 ((wX9 cI cB cJ h q o_tape o_claims o_nextClaims o_bounds o_otherBounds o_ringSearch o_lawReader h_ru o_nextRules h_mk o_trial o_kept o_triangles v_hasKept v_table) ++ (wX4 cI cB cJ h_mk q_mk v_mk_told mk_day_21 mk_x_21 mk_sales_21 mk_timesSoldOut_21 mk_soldOutToday_21 mk_upper_21 v_mk_lower mk_money_21 mk_soldOut_21) ++ (wX2 cI cB cJ h_ru q_ru v_ru_size v_ru_length ru_height_21 v_ru_letter v_ru_valueAt v_ru_testAt v_ru_endAt v_ru_sign v_ru_beside ru_seen_21 ru_stack_21)) 21 [(0, .ref h), (1, vI p0), (2, vI x2_21)] [] := by
      intro n
      induction n with
      | zero => intros; exfalso; omega
      | succ n ih21 =>
        intro x2_21 mk_day_21 mk_x_21 mk_sales_21 mk_timesSoldOut_21 mk_soldOutToday_21 ru_height_21 mk_upper_21 mk_money_21 mk_soldOut_21 ru_seen_21 ru_stack_21 kr_mk_day_21 kr_mk_x_21 kr_mk_sales_21 kr_mk_timesSoldOut_21 kr_mk_soldOutToday_21 kr_ru_height_21 r_mk_upper_21 r_mk_money_21 r_mk_soldOut_21 r_ru_seen_21 r_ru_stack_21 w21_0 w21_1 wm21
        refine g_iload_n X dX9_days_21 2 rfl ?_
        refine g_iload_n X dX9_days_22 1 rfl ?_
        refine g_icmp_ge X (tgt := 44) dX9_days_23 (by decide) (by omega) (by omega) (fun c23 => ?_) (fun c23 => ?_)
        · refine g_aload_n X dX9_days_44 0 rfl ?_
          refine gX9_get X 0 rfl 9 (by decide) uw420 rfl dX9_days_45 ?_
          refine gN_get X (T := TX4) 2 rfl rfl inU_X4 7 (by decide) nw330 rfl rfl dX9_days_48 ?_
          exact hQ _ _ _ _ dX9_days_51 ⟨mk_day_21, mk_x_21, mk_sales_21, mk_timesSoldOut_21, mk_soldOutToday_21, mk_upper_21, mk_money_21, mk_soldOut_21, ru_height_21, ru_seen_21, ru_stack_21, (by omega), (by omega), (by omega), (by omega), (by omega), r_mk_upper_21, r_mk_money_21, r_mk_soldOut_21, (by omega), r_ru_seen_21, r_ru_stack_21, (by first | assumption | omega), (by first | assumption | omega), rfl⟩
        · refine g_aload_n X dX9_days_26 0 rfl ?_
          refine gX9_get X 0 rfl 9 (by decide) uw420 rfl dX9_days_27 ?_
          refine g_aload_n X dX9_days_30 0 rfl ?_
          refine gX9_get X 0 rfl 7 (by decide) uw418 rfl dX9_days_31 ?_
          refine g_callVIw X (c_X4_passDay l D cI cB cJ h_mk q_mk h_ru q_ru  (by omega) (by omega) (by omega) (by omega) (by omega) (by omega) r_mk_upper_21 r_v_mk_lower r_mk_money_21 r_mk_soldOut_21 (by omega) (by omega) r_v_ru_letter r_v_ru_valueAt r_v_ru_testAt r_v_ru_endAt r_v_ru_sign r_v_ru_beside r_ru_seen_21 r_ru_stack_21 (by first | assumption | omega)) [2, 3, 4, 5, 6, 7, 8, 9, 10, 11, 12, 13, 14, 15] rfl rfl rfl cv_X4_passDay uw1048 ⟨rfl, rfl, by decide, by decide⟩ 0 rfl rfl rfl rfl rfl (Nat.le_of_ble_eq_true rfl) ⟨Nat.zero_le _, Nat.zero_le _⟩ dX9_days_34 (fun t34 ws34 k34 => ?_)
          obtain ⟨kb_34, ⟨mk_day_34, mk_x_34, mk_sales_34, mk_timesSoldOut_34, mk_soldOutToday_34, mk_upper_34, mk_money_34, mk_soldOut_34, ru_height_34, ru_seen_34, ru_stack_34, kr_mk_day_34, kr_mk_x_34, kr_mk_sales_34, kr_mk_timesSoldOut_34, kr_mk_soldOutToday_34, r_mk_upper_34, r_mk_money_34, r_mk_soldOut_34, kr_ru_height_34, r_ru_seen_34, r_ru_stack_34, kp0_34, rfl⟩⟩ := k34
          refine ⟨rfl, ?_⟩
          refine g_ws (ws2 := ((wX9 cI cB cJ h q o_tape o_claims o_nextClaims o_bounds o_otherBounds o_ringSearch o_lawReader h_ru o_nextRules h_mk o_trial o_kept o_triangles v_hasKept v_table) ++ (wX4 cI cB cJ h_mk q_mk v_mk_told mk_day_34 mk_x_34 mk_sales_34 mk_timesSoldOut_34 mk_soldOutToday_34 mk_upper_34 v_mk_lower mk_money_34 mk_soldOut_34) ++ (wX2 cI cB cJ h_ru q_ru v_ru_size v_ru_length ru_height_34 v_ru_letter v_ru_valueAt v_ru_testAt v_ru_endAt v_ru_sign v_ru_beside ru_seen_34 ru_stack_34))) rfl ?_
          refine g_pop X rfl dX9_days_37 ?_
          refine g_iinc X (lv' := [(2, vI (x2_21 + 1)), (0, .ref h), (1, vI p0)]) dX9_days_38 2 rfl (by decide) rfl ?_
          refine g_goto X (tgt := 21) dX9_days_41 (by decide) ?_
          refine g_lv [1, 2, 0] rfl ?_
          exact ih21 (x2_21 + 1) mk_day_34 mk_x_34 mk_sales_34 mk_timesSoldOut_34 mk_soldOutToday_34 ru_height_34 mk_upper_34 mk_money_34 mk_soldOut_34 ru_seen_34 ru_stack_34 (by omega) (by omega) (by omega) (by omega) (by omega) (by omega) r_mk_upper_34 r_mk_money_34 r_mk_soldOut_34 r_ru_seen_34 r_ru_stack_34 (by first | assumption | omega) (by first | assumption | omega) (by omega)
    refine g_lv [1, 2, 0] rfl ?_
    exact L21 _ 0 v_mk_day v_mk_x mk_sales_16 mk_timesSoldOut_16 v_mk_soldOutToday v_ru_height v_mk_upper v_mk_money v_mk_soldOut v_ru_seen v_ru_stack (by omega) (by omega) (by omega) (by omega) (by omega) (by omega) r_v_mk_upper r_v_mk_money r_v_mk_soldOut r_v_ru_seen r_v_ru_stack (by first | assumption | omega) (by first | assumption | omega) (Nat.lt_succ_self _)
  · clear kb_4
    replace kp0_4 := (kp0_4.resolve_left (fun h => absurd h.1 (by omega))).2
    refine g_iconst X dX9_days_10 ?_
    exact hQ _ _ _ _ dX9_days_11 ⟨v_mk_day, v_mk_x, v_mk_sales, v_mk_timesSoldOut, v_mk_soldOutToday, v_mk_upper, v_mk_money, v_mk_soldOut, v_ru_height, v_ru_seen, v_ru_stack, (by omega), (by omega), (by omega), (by omega), (by omega), r_v_mk_upper, r_v_mk_money, r_v_mk_soldOut, (by omega), r_v_ru_seen, r_v_ru_stack, (by first | assumption | omega), (by first | assumption | omega), rfl⟩
set_option maxHeartbeats 600000 in
set_option maxRecDepth 100000 in
theorem c_X9_tried (l : Launch) (D : va_G) (cI cB cJ : ClassId) (h : Nat) (q : Nat → Nat) (h_mk : Nat) (q_mk : Nat → Nat) (h_tr : Nat) (q_tr : Nat → Nat) (h_ru : Nat) (q_ru : Nat → Nat) {o_tape : Nat} {o_claims : Nat} {o_nextClaims : Nat} {o_bounds : Nat} {o_otherBounds : Nat} {o_ringSearch : Nat} {o_lawReader : Nat} {o_nextRules : Nat} {o_kept : Nat} {o_triangles : Nat} {v_hasKept v_mk_told v_mk_day v_mk_x v_mk_sales v_mk_timesSoldOut v_mk_soldOutToday v_tr_told v_tr_day v_tr_x v_tr_sales v_tr_timesSoldOut v_tr_soldOutToday v_ru_size v_ru_length v_ru_height : Int} {v_table v_mk_upper v_mk_lower v_mk_money v_mk_soldOut v_tr_upper v_tr_lower v_tr_money v_tr_soldOut v_ru_letter v_ru_valueAt v_ru_testAt v_ru_endAt v_ru_sign v_ru_beside v_ru_seen v_ru_stack : Nat → Int} {p0 p1 : Int} (kr_v_mk_told : 0 ≤ v_mk_told ∧ v_mk_told ≤ 255) (kr_v_mk_day : 0 ≤ v_mk_day ∧ v_mk_day ≤ 9999) (kr_v_mk_x : 0 ≤ v_mk_x ∧ v_mk_x ≤ 65535) (r_v_mk_upper : RA (-2147483648) 2147483647 v_mk_upper) (r_v_mk_lower : RA (-2147483648) 2147483647 v_mk_lower) (r_v_mk_money : RA (-2147483648) 2147483647 v_mk_money) (r_v_mk_soldOut : RA (-2147483648) 2147483647 v_mk_soldOut) (kr_v_tr_told : 0 ≤ v_tr_told ∧ v_tr_told ≤ 255) (kr_v_tr_day : 0 ≤ v_tr_day ∧ v_tr_day ≤ 9999) (kr_v_tr_x : 0 ≤ v_tr_x ∧ v_tr_x ≤ 65535) (kr_v_tr_sales : (-2147483648) ≤ v_tr_sales ∧ v_tr_sales ≤ 2147483647) (kr_v_tr_timesSoldOut : (-2147483648) ≤ v_tr_timesSoldOut ∧ v_tr_timesSoldOut ≤ 2147483647) (kr_v_tr_soldOutToday : (-2147483648) ≤ v_tr_soldOutToday ∧ v_tr_soldOutToday ≤ 2147483647) (r_v_tr_upper : RA (-2147483648) 2147483647 v_tr_upper) (r_v_tr_lower : RA (-2147483648) 2147483647 v_tr_lower) (r_v_tr_money : RA (-2147483648) 2147483647 v_tr_money) (r_v_tr_soldOut : RA (-2147483648) 2147483647 v_tr_soldOut) (kr_v_ru_size : 0 ≤ v_ru_size ∧ v_ru_size ≤ 16) (kr_v_ru_height : 0 ≤ v_ru_height ∧ v_ru_height ≤ 64) (r_v_ru_letter : RA (-2147483648) 2147483647 v_ru_letter) (r_v_ru_valueAt : RA 0 256 v_ru_valueAt) (r_v_ru_testAt : RA 0 256 v_ru_testAt) (r_v_ru_endAt : RA 0 256 v_ru_endAt) (r_v_ru_sign : RA (-2147483648) 2147483647 v_ru_sign) (r_v_ru_beside : RA 0 99999 v_ru_beside) (r_v_ru_seen : RA (-2147483648) 2147483647 v_ru_seen) (r_v_ru_stack : RA (-2147483648) 2147483647 v_ru_stack) (hp0 : IR p0) (hp1 : IR p1) (hp2 : LInv v_ru_sign v_ru_beside) : CtI l yX9_tried cX9_tried 4 (some .int) ⟨6, 0, 0, 160⟩ D (TY cI cB cJ) ((wX9 cI cB cJ h q o_tape o_claims o_nextClaims o_bounds o_otherBounds o_ringSearch o_lawReader h_ru o_nextRules h_mk h_tr o_kept o_triangles v_hasKept v_table) ++ (wX4 cI cB cJ h_mk q_mk v_mk_told v_mk_day v_mk_x v_mk_sales v_mk_timesSoldOut v_mk_soldOutToday v_mk_upper v_mk_lower v_mk_money v_mk_soldOut) ++ (wX4 cI cB cJ h_tr q_tr v_tr_told v_tr_day v_tr_x v_tr_sales v_tr_timesSoldOut v_tr_soldOutToday v_tr_upper v_tr_lower v_tr_money v_tr_soldOut) ++ (wX2 cI cB cJ h_ru q_ru v_ru_size v_ru_length v_ru_height v_ru_letter v_ru_valueAt v_ru_testAt v_ru_endAt v_ru_sign v_ru_beside v_ru_seen v_ru_stack)) [.ref h, vI p0, vI p1] (fun z ws' => ∃ n_tr_told : Int, ∃ n_tr_day : Int, ∃ n_tr_x : Int, ∃ n_tr_sales : Int, ∃ n_tr_timesSoldOut : Int, ∃ n_tr_soldOutToday : Int, ∃ n_tr_upper : Nat → Int, ∃ n_tr_lower : Nat → Int, ∃ n_tr_money : Nat → Int, ∃ n_tr_soldOut : Nat → Int, ∃ n_ru_height : Int, ∃ n_ru_seen : Nat → Int, ∃ n_ru_stack : Nat → Int, (0 ≤ n_tr_told ∧ n_tr_told ≤ 255) ∧ (0 ≤ n_tr_day ∧ n_tr_day ≤ 9999) ∧ (0 ≤ n_tr_x ∧ n_tr_x ≤ 65535) ∧ ((-2147483648) ≤ n_tr_sales ∧ n_tr_sales ≤ 2147483647) ∧ ((-2147483648) ≤ n_tr_timesSoldOut ∧ n_tr_timesSoldOut ≤ 2147483647) ∧ ((-2147483648) ≤ n_tr_soldOutToday ∧ n_tr_soldOutToday ≤ 2147483647) ∧ (RA (-2147483648) 2147483647 n_tr_upper) ∧ (RA (-2147483648) 2147483647 n_tr_lower) ∧ (RA (-2147483648) 2147483647 n_tr_money) ∧ (RA (-2147483648) 2147483647 n_tr_soldOut) ∧ (0 ≤ n_ru_height ∧ n_ru_height ≤ 64) ∧ (RA (-2147483648) 2147483647 n_ru_seen) ∧ (RA (-2147483648) 2147483647 n_ru_stack) ∧ (IR z) ∧ (ws' = ((wX9 cI cB cJ h q o_tape o_claims o_nextClaims o_bounds o_otherBounds o_ringSearch o_lawReader h_ru o_nextRules h_mk h_tr o_kept o_triangles v_hasKept v_table) ++ (wX4 cI cB cJ h_mk q_mk v_mk_told v_mk_day v_mk_x v_mk_sales v_mk_timesSoldOut v_mk_soldOutToday v_mk_upper v_mk_lower v_mk_money v_mk_soldOut) ++ (wX4 cI cB cJ h_tr q_tr n_tr_told n_tr_day n_tr_x n_tr_sales n_tr_timesSoldOut n_tr_soldOutToday n_tr_upper n_tr_lower n_tr_money n_tr_soldOut) ++ (wX2 cI cB cJ h_ru q_ru v_ru_size v_ru_length n_ru_height v_ru_letter v_ru_valueAt v_ru_testAt v_ru_endAt v_ru_sign v_ru_beside n_ru_seen n_ru_stack)))) := by
  refine hdrI (own := RX9) rfl (by decide +kernel) (Nat.le_of_ble_eq_true rfl) ?_
  intro p e s m args below meth c Q A X hQ
  refine g_lvE (lv2 := [(0, .ref h), (1, vI p0), (2, vI p1)]) rfl ?_
  refine g_iload_n X dX9_tried_0 1 rfl ?_
  refine g_iconst X dX9_tried_1 ?_
  refine g_bipush X (z := 100) dX9_tried_2 (by decide) ?_
  refine g_callSIE X (c_X9_isFrom l D cI cB cJ (p0 := p0) (p1 := 1) (p2 := 100) (by first | assumption | omega) (by first | assumption | omega) (by first | assumption | omega)) cv_X9_isFrom uw719 ⟨rfl, rfl, by decide, by decide⟩ rfl rfl (Nat.le_of_ble_eq_true rfl) ⟨Nat.zero_le _, Nat.zero_le _⟩ dX9_tried_4 (fun t4 ws4 k4 => ?_)
  obtain ⟨kb_4, ⟨kp0_4, rfl⟩⟩ := k4
  refine g_if_eq X (tgt := 18) dX9_tried_7 (by decide) (by omega) (fun c7 => ?_) (fun c7 => ?_)
  · clear kb_4
    replace kp0_4 := (kp0_4.resolve_left (fun h => absurd h.1 (by omega))).2
    refine g_iconst X dX9_tried_18 ?_
    exact hQ _ _ _ _ dX9_tried_19 ⟨v_tr_told, v_tr_day, v_tr_x, v_tr_sales, v_tr_timesSoldOut, v_tr_soldOutToday, v_tr_upper, v_tr_lower, v_tr_money, v_tr_soldOut, v_ru_height, v_ru_seen, v_ru_stack, (by omega), (by omega), (by omega), (by omega), (by omega), (by omega), r_v_tr_upper, r_v_tr_lower, r_v_tr_money, r_v_tr_soldOut, (by omega), r_v_ru_seen, r_v_ru_stack, (by omega), rfl⟩
  · replace kb_4 := kb_4.resolve_left (fun h => c7 h)
    replace kp0_4 := kp0_4.resolve_right (fun h => c7 h.1)
    refine g_aload_n X dX9_tried_10 0 rfl ?_
    refine g_iload_n X dX9_tried_11 2 rfl ?_
    refine g_callVIw X (c_X9_canBeTried l D cI cB cJ h q h_mk q_mk (p0 := p1) (by omega) (by first | assumption | omega)) [0, 1, 2, 3, 4, 5, 6] rfl rfl rfl cv_X9_canBeTried uw1112 ⟨rfl, rfl, by decide, by decide⟩ 0 rfl rfl rfl rfl rfl (Nat.le_of_ble_eq_true rfl) ⟨Nat.zero_le _, Nat.zero_le _⟩ dX9_tried_12 (fun t12 ws12 k12 => ?_)
    obtain ⟨kb_12, ⟨kp0_12, rfl⟩⟩ := k12
    refine ⟨rfl, ?_⟩
    refine g_ws (ws2 := ((wX9 cI cB cJ h q o_tape o_claims o_nextClaims o_bounds o_otherBounds o_ringSearch o_lawReader h_ru o_nextRules h_mk h_tr o_kept o_triangles v_hasKept v_table) ++ (wX4 cI cB cJ h_mk q_mk v_mk_told v_mk_day v_mk_x v_mk_sales v_mk_timesSoldOut v_mk_soldOutToday v_mk_upper v_mk_lower v_mk_money v_mk_soldOut) ++ (wX4 cI cB cJ h_tr q_tr v_tr_told v_tr_day v_tr_x v_tr_sales v_tr_timesSoldOut v_tr_soldOutToday v_tr_upper v_tr_lower v_tr_money v_tr_soldOut) ++ (wX2 cI cB cJ h_ru q_ru v_ru_size v_ru_length v_ru_height v_ru_letter v_ru_valueAt v_ru_testAt v_ru_endAt v_ru_sign v_ru_beside v_ru_seen v_ru_stack))) rfl ?_
    refine g_if_ne X (tgt := 20) dX9_tried_15 (by decide) (by omega) (fun c15 => ?_) (fun c15 => ?_)
    · replace kb_12 := kb_12.resolve_left (fun h => c15 h)
      replace kp0_12 := kp0_12 kb_12
      refine g_aload_n X dX9_tried_20 0 rfl ?_
      refine gX9_get X 0 rfl 10 (by decide) uw421 rfl dX9_tried_21 ?_
      refine g_aload_n X dX9_tried_24 0 rfl ?_
      refine gX9_get X 0 rfl 9 (by decide) uw420 rfl dX9_tried_25 ?_
      refine g_callVVw X (c_X4_takeAll l D cI cB cJ h_tr q_tr h_mk q_mk  (by omega) (by omega) (by omega) r_v_tr_upper r_v_tr_lower r_v_tr_money r_v_tr_soldOut (by omega) (by omega) (by omega) r_v_mk_upper r_v_mk_lower r_v_mk_money r_v_mk_soldOut) [7, 8, 9, 10, 11, 2, 3, 4, 5, 6] rfl rfl rfl cv_X4_takeAll uw1117 ⟨rfl, rfl, by decide, by decide⟩ 0 rfl rfl rfl rfl rfl (Nat.le_of_ble_eq_true rfl) ⟨Nat.zero_le _, Nat.zero_le _⟩ dX9_tried_28 (fun ws28 k28 => ?_)
      obtain ⟨tr_told_28, tr_day_28, tr_x_28, tr_upper_28, tr_lower_28, tr_money_28, tr_soldOut_28, kr_tr_told_28, kr_tr_day_28, kr_tr_x_28, r_tr_upper_28, r_tr_lower_28, r_tr_money_28, r_tr_soldOut_28, kp0_28, rfl⟩ := k28
      refine ⟨rfl, ?_⟩
      refine g_ws (ws2 := ((wX9 cI cB cJ h q o_tape o_claims o_nextClaims o_bounds o_otherBounds o_ringSearch o_lawReader h_ru o_nextRules h_mk h_tr o_kept o_triangles v_hasKept v_table) ++ (wX4 cI cB cJ h_mk q_mk v_mk_told v_mk_day v_mk_x v_mk_sales v_mk_timesSoldOut v_mk_soldOutToday v_mk_upper v_mk_lower v_mk_money v_mk_soldOut) ++ (wX4 cI cB cJ h_tr q_tr tr_told_28 tr_day_28 tr_x_28 v_tr_sales v_tr_timesSoldOut v_tr_soldOutToday tr_upper_28 tr_lower_28 tr_money_28 tr_soldOut_28) ++ (wX2 cI cB cJ h_ru q_ru v_ru_size v_ru_length v_ru_height v_ru_letter v_ru_valueAt v_ru_testAt v_ru_endAt v_ru_sign v_ru_beside v_ru_seen v_ru_stack))) rfl ?_
      refine g_aload_n X dX9_tried_31 0 rfl ?_
      refine gX9_get X 0 rfl 10 (by decide) uw421 rfl dX9_tried_32 ?_
      refine g_callVVw X (c_X4_countAnew l D cI cB cJ h_tr q_tr  (by omega) (by omega)) [7, 8, 9, 10, 11] rfl rfl rfl cv_X4_countAnew uw1044 ⟨rfl, rfl, by decide, by decide⟩ 0 rfl rfl rfl rfl rfl (Nat.le_of_ble_eq_true rfl) ⟨Nat.zero_le _, Nat.zero_le _⟩ dX9_tried_35 (fun ws35 k35 => ?_)
      obtain ⟨tr_sales_35, tr_timesSoldOut_35, kr_tr_sales_35, kr_tr_timesSoldOut_35, rfl⟩ := k35
      refine ⟨rfl, ?_⟩
      refine g_ws (ws2 := ((wX9 cI cB cJ h q o_tape o_claims o_nextClaims o_bounds o_otherBounds o_ringSearch o_lawReader h_ru o_nextRules h_mk h_tr o_kept o_triangles v_hasKept v_table) ++ (wX4 cI cB cJ h_mk q_mk v_mk_told v_mk_day v_mk_x v_mk_sales v_mk_timesSoldOut v_mk_soldOutToday v_mk_upper v_mk_lower v_mk_money v_mk_soldOut) ++ (wX4 cI cB cJ h_tr q_tr tr_told_28 tr_day_28 tr_x_28 tr_sales_35 tr_timesSoldOut_35 v_tr_soldOutToday tr_upper_28 tr_lower_28 tr_money_28 tr_soldOut_28) ++ (wX2 cI cB cJ h_ru q_ru v_ru_size v_ru_length v_ru_height v_ru_letter v_ru_valueAt v_ru_testAt v_ru_endAt v_ru_sign v_ru_beside v_ru_seen v_ru_stack))) rfl ?_
      refine g_iconst X dX9_tried_38 ?_
      refine g_istore_n X (lv' := [(3, vI 0), (0, .ref h), (1, vI p0), (2, vI p1)]) dX9_tried_39 (by decide) rfl ?_
      have L40 : ∀ (n : Nat) (x3_40 : Int) (tr_day_40 : Int) (tr_x_40 : Int) (tr_sales_40 : Int) (tr_timesSoldOut_40 : Int) (tr_soldOutToday_40 : Int) (ru_height_40 : Int) (tr_upper_40 : Nat → Int) (tr_money_40 : Nat → Int) (tr_soldOut_40 : Nat → Int) (ru_seen_40 : Nat → Int) (ru_stack_40 : Nat → Int), (0 ≤ tr_day_40 ∧ tr_day_40 ≤ 9999) → (0 ≤ tr_x_40 ∧ tr_x_40 ≤ 65535) → ((-2147483648) ≤ tr_sales_40 ∧ tr_sales_40 ≤ 2147483647) → ((-2147483648) ≤ tr_timesSoldOut_40 ∧ tr_timesSoldOut_40 ≤ 2147483647) → ((-2147483648) ≤ tr_soldOutToday_40 ∧ tr_soldOutToday_40 ≤ 2147483647) → (0 ≤ ru_height_40 ∧ ru_height_40 ≤ 64) → (RA (-2147483648) 2147483647 tr_upper_40) → (RA (-2147483648) 2147483647 tr_money_40) → (RA (-2147483648) 2147483647 tr_soldOut_40) → (RA (-2147483648) 2147483647 ru_seen_40) → (RA (-2147483648) 2147483647 ru_stack_40) → (0 ≤ x3_40 ∧ x3_40 ≤ p0) → (p0 - x3_40).toNat < n → GG p l e ⟨6, 0, 0, 160⟩ s m args below meth c 0 0 Q D A s.heap 4 ((wX9 cI cB cJ h q o_tape o_claims o_nextClaims o_bounds o_otherBounds o_ringSearch o_lawReader h_ru o_nextRules h_mk h_tr o_kept o_triangles v_hasKept v_table) ++ (wX4 cI cB cJ h_mk q_mk v_mk_told v_mk_day v_mk_x v_mk_sales v_mk_timesSoldOut v_mk_soldOutToday v_mk_upper v_mk_lower v_mk_money v_mk_soldOut) ++ (wX4 cI cB cJ h_tr q_tr tr_told_28 tr_day_40 tr_x_40 tr_sales_40 tr_timesSoldOut_40 tr_soldOutToday_40 tr_upper_40 tr_lower_28 tr_money_40 tr_soldOut_40) ++ (wX2 cI cB cJ h_ru q_ru v_ru_size v_ru_length ru_height_40 v_ru_letter v_ru_valueAt v_ru_testAt v_ru_endAt v_ru_sign v_ru_beside ru_seen_40 ru_stack_40)) 40 [(0, .ref h), (1, vI p0), (2, vI p1), (3, vI x3_40)] [] := by
        intro n
        induction n with
        | zero => intros; exfalso; omega
        | succ n ih40 =>
          intro x3_40 tr_day_40 tr_x_40 tr_sales_40 tr_timesSoldOut_40 tr_soldOutToday_40 ru_height_40 tr_upper_40 tr_money_40 tr_soldOut_40 ru_seen_40 ru_stack_40 kr_tr_day_40 kr_tr_x_40 kr_tr_sales_40 kr_tr_timesSoldOut_40 kr_tr_soldOutToday_40 kr_ru_height_40 r_tr_upper_40 r_tr_money_40 r_tr_soldOut_40 r_ru_seen_40 r_ru_stack_40 w40_0 wm40
          refine g_iload_n X dX9_tried_40 3 rfl ?_
          refine g_iload_n X dX9_tried_41 1 rfl ?_
          refine g_icmp_ge X (tgt := 63) dX9_tried_42 (by decide) (by omega) (by omega) (fun c42 => ?_) (fun c42 => ?_)
          · refine g_iload_n X dX9_tried_63 2 rfl ?_
            refine g_if_ne X (tgt := 75) dX9_tried_64 (by decide) (by omega) (fun c64 => ?_) (fun c64 => ?_)
            · refine g_iload_n X dX9_tried_75 2 rfl ?_
              refine g_iconst X dX9_tried_76 ?_
              refine g_icmp_ne X (tgt := 88) dX9_tried_77 (by decide) (by omega) (by omega) (fun c77 => ?_) (fun c77 => ?_)
              · refine g_iload_n X dX9_tried_88 2 rfl ?_
                refine g_iconst X dX9_tried_89 ?_
                refine g_icmp_ne X (tgt := 101) dX9_tried_90 (by decide) (by omega) (by omega) (fun c90 => ?_) (fun c90 => ?_)
                · refine g_iload_n X dX9_tried_101 2 rfl ?_
                  refine g_bipush X (z := 20) dX9_tried_102 (by decide) ?_
                  refine g_icmp_ge X (tgt := 121) dX9_tried_104 (by decide) (by omega) (by omega) (fun c104 => ?_) (fun c104 => ?_)
                  · refine g_aload_n X dX9_tried_121 0 rfl ?_
                    refine gX9_get X 0 rfl 10 (by decide) uw421 rfl dX9_tried_122 ?_
                    refine gN_get X (T := TX4) 7 rfl rfl inU_X4 3 (by decide) nw320 rfl rfl dX9_tried_125 ?_
                    refine g_iload_n X dX9_tried_128 2 rfl ?_
                    refine g_bipush X (z := 20) dX9_tried_129 (by decide) ?_
                    refine g_isub X dX9_tried_131 ?_
                    refine g_iald X 10 0 rfl rfl (by omega) (by decide) dX9_tried_132 (fun t132 e132 => ?_)
                    have r132 := r_tr_money_40 (p1 - 20 : Int).toNat; rw [← e132] at r132
                    exact hQ _ _ _ _ dX9_tried_133 ⟨tr_told_28, tr_day_40, tr_x_40, tr_sales_40, tr_timesSoldOut_40, tr_soldOutToday_40, tr_upper_40, tr_lower_28, tr_money_40, tr_soldOut_40, ru_height_40, ru_seen_40, ru_stack_40, (by omega), (by omega), (by omega), (by omega), (by omega), (by omega), r_tr_upper_40, r_tr_lower_28, r_tr_money_40, r_tr_soldOut_40, (by omega), r_ru_seen_40, r_ru_stack_40, (by omega), rfl⟩
                  · refine g_aload_n X dX9_tried_107 0 rfl ?_
                    refine gX9_get X 0 rfl 10 (by decide) uw421 rfl dX9_tried_108 ?_
                    refine g_iload_n X dX9_tried_111 2 rfl ?_
                    refine g_bipush X (z := 10) dX9_tried_112 (by decide) ?_
                    refine g_isub X dX9_tried_114 ?_
                    refine g_callVIw X (c_X4_between l D cI cB cJ h_tr q_tr (p0 := p1 - 10) r_tr_upper_40 r_tr_lower_28 (by first | assumption | omega) (by first | assumption | omega)) [7, 8, 9, 10, 11] rfl rfl rfl cv_X4_between uw1129 ⟨rfl, rfl, by decide, by decide⟩ 0 rfl rfl rfl rfl rfl (Nat.le_of_ble_eq_true rfl) ⟨Nat.zero_le _, Nat.zero_le _⟩ dX9_tried_115 (fun t115 ws115 k115 => ?_)
                    obtain ⟨kp0_115, rfl⟩ := k115
                    refine ⟨rfl, ?_⟩
                    refine g_ws (ws2 := ((wX9 cI cB cJ h q o_tape o_claims o_nextClaims o_bounds o_otherBounds o_ringSearch o_lawReader h_ru o_nextRules h_mk h_tr o_kept o_triangles v_hasKept v_table) ++ (wX4 cI cB cJ h_mk q_mk v_mk_told v_mk_day v_mk_x v_mk_sales v_mk_timesSoldOut v_mk_soldOutToday v_mk_upper v_mk_lower v_mk_money v_mk_soldOut) ++ (wX4 cI cB cJ h_tr q_tr tr_told_28 tr_day_40 tr_x_40 tr_sales_40 tr_timesSoldOut_40 tr_soldOutToday_40 tr_upper_40 tr_lower_28 tr_money_40 tr_soldOut_40) ++ (wX2 cI cB cJ h_ru q_ru v_ru_size v_ru_length ru_height_40 v_ru_letter v_ru_valueAt v_ru_testAt v_ru_endAt v_ru_sign v_ru_beside ru_seen_40 ru_stack_40))) rfl ?_
                    refine g_goto X (tgt := 133) dX9_tried_118 (by decide) ?_
                    exact hQ _ _ _ _ dX9_tried_133 ⟨tr_told_28, tr_day_40, tr_x_40, tr_sales_40, tr_timesSoldOut_40, tr_soldOutToday_40, tr_upper_40, tr_lower_28, tr_money_40, tr_soldOut_40, ru_height_40, ru_seen_40, ru_stack_40, (by omega), (by omega), (by omega), (by omega), (by omega), (by omega), r_tr_upper_40, r_tr_lower_28, r_tr_money_40, r_tr_soldOut_40, (by omega), r_ru_seen_40, r_ru_stack_40, (by omega), rfl⟩
                · refine g_aload_n X dX9_tried_93 0 rfl ?_
                  refine gX9_get X 0 rfl 10 (by decide) uw421 rfl dX9_tried_94 ?_
                  refine gN_get X (T := TX4) 7 rfl rfl inU_X4 8 (by decide) nw332 rfl rfl dX9_tried_97 ?_
                  exact hQ _ _ _ _ dX9_tried_100 ⟨tr_told_28, tr_day_40, tr_x_40, tr_sales_40, tr_timesSoldOut_40, tr_soldOutToday_40, tr_upper_40, tr_lower_28, tr_money_40, tr_soldOut_40, ru_height_40, ru_seen_40, ru_stack_40, (by omega), (by omega), (by omega), (by omega), (by omega), (by omega), r_tr_upper_40, r_tr_lower_28, r_tr_money_40, r_tr_soldOut_40, (by omega), r_ru_seen_40, r_ru_stack_40, (by omega), rfl⟩
              · refine g_aload_n X dX9_tried_80 0 rfl ?_
                refine gX9_get X 0 rfl 10 (by decide) uw421 rfl dX9_tried_81 ?_
                refine g_callVIw X (c_X4_moneyOfAll l D cI cB cJ h_tr q_tr  r_tr_money_40) [7, 8, 9, 10, 11] rfl rfl rfl cv_X4_moneyOfAll uw1125 ⟨rfl, rfl, by decide, by decide⟩ 0 rfl rfl rfl rfl rfl (Nat.le_of_ble_eq_true rfl) ⟨Nat.zero_le _, Nat.zero_le _⟩ dX9_tried_84 (fun t84 ws84 k84 => ?_)
                obtain ⟨kp0_84, rfl⟩ := k84
                refine ⟨rfl, ?_⟩
                refine g_ws (ws2 := ((wX9 cI cB cJ h q o_tape o_claims o_nextClaims o_bounds o_otherBounds o_ringSearch o_lawReader h_ru o_nextRules h_mk h_tr o_kept o_triangles v_hasKept v_table) ++ (wX4 cI cB cJ h_mk q_mk v_mk_told v_mk_day v_mk_x v_mk_sales v_mk_timesSoldOut v_mk_soldOutToday v_mk_upper v_mk_lower v_mk_money v_mk_soldOut) ++ (wX4 cI cB cJ h_tr q_tr tr_told_28 tr_day_40 tr_x_40 tr_sales_40 tr_timesSoldOut_40 tr_soldOutToday_40 tr_upper_40 tr_lower_28 tr_money_40 tr_soldOut_40) ++ (wX2 cI cB cJ h_ru q_ru v_ru_size v_ru_length ru_height_40 v_ru_letter v_ru_valueAt v_ru_testAt v_ru_endAt v_ru_sign v_ru_beside ru_seen_40 ru_stack_40))) rfl ?_
                exact hQ _ _ _ _ dX9_tried_87 ⟨tr_told_28, tr_day_40, tr_x_40, tr_sales_40, tr_timesSoldOut_40, tr_soldOutToday_40, tr_upper_40, tr_lower_28, tr_money_40, tr_soldOut_40, ru_height_40, ru_seen_40, ru_stack_40, (by omega), (by omega), (by omega), (by omega), (by omega), (by omega), r_tr_upper_40, r_tr_lower_28, r_tr_money_40, r_tr_soldOut_40, (by omega), r_ru_seen_40, r_ru_stack_40, (by omega), rfl⟩
            · refine g_aload_n X dX9_tried_67 0 rfl ?_
              refine gX9_get X 0 rfl 10 (by decide) uw421 rfl dX9_tried_68 ?_
              refine gN_get X (T := TX4) 7 rfl rfl inU_X4 7 (by decide) nw330 rfl rfl dX9_tried_71 ?_
              exact hQ _ _ _ _ dX9_tried_74 ⟨tr_told_28, tr_day_40, tr_x_40, tr_sales_40, tr_timesSoldOut_40, tr_soldOutToday_40, tr_upper_40, tr_lower_28, tr_money_40, tr_soldOut_40, ru_height_40, ru_seen_40, ru_stack_40, (by omega), (by omega), (by omega), (by omega), (by omega), (by omega), r_tr_upper_40, r_tr_lower_28, r_tr_money_40, r_tr_soldOut_40, (by omega), r_ru_seen_40, r_ru_stack_40, (by omega), rfl⟩
          · refine g_aload_n X dX9_tried_45 0 rfl ?_
            refine gX9_get X 0 rfl 10 (by decide) uw421 rfl dX9_tried_46 ?_
            refine g_aload_n X dX9_tried_49 0 rfl ?_
            refine gX9_get X 0 rfl 7 (by decide) uw418 rfl dX9_tried_50 ?_
            refine g_callVIw X (c_X4_passDay l D cI cB cJ h_tr q_tr h_ru q_ru  (by omega) (by omega) (by omega) (by omega) (by omega) (by omega) r_tr_upper_40 r_tr_lower_28 r_tr_money_40 r_tr_soldOut_40 (by omega) (by omega) r_v_ru_letter r_v_ru_valueAt r_v_ru_testAt r_v_ru_endAt r_v_ru_sign r_v_ru_beside r_ru_seen_40 r_ru_stack_40 (by first | assumption | omega)) [7, 8, 9, 10, 11, 12, 13, 14, 15, 16, 17, 18, 19, 20] rfl rfl rfl cv_X4_passDay uw1048 ⟨rfl, rfl, by decide, by decide⟩ 0 rfl rfl rfl rfl rfl (Nat.le_of_ble_eq_true rfl) ⟨Nat.zero_le _, Nat.zero_le _⟩ dX9_tried_53 (fun t53 ws53 k53 => ?_)
            obtain ⟨kb_53, ⟨tr_day_53, tr_x_53, tr_sales_53, tr_timesSoldOut_53, tr_soldOutToday_53, tr_upper_53, tr_money_53, tr_soldOut_53, ru_height_53, ru_seen_53, ru_stack_53, kr_tr_day_53, kr_tr_x_53, kr_tr_sales_53, kr_tr_timesSoldOut_53, kr_tr_soldOutToday_53, r_tr_upper_53, r_tr_money_53, r_tr_soldOut_53, kr_ru_height_53, r_ru_seen_53, r_ru_stack_53, kp0_53, rfl⟩⟩ := k53
            refine ⟨rfl, ?_⟩
            refine g_ws (ws2 := ((wX9 cI cB cJ h q o_tape o_claims o_nextClaims o_bounds o_otherBounds o_ringSearch o_lawReader h_ru o_nextRules h_mk h_tr o_kept o_triangles v_hasKept v_table) ++ (wX4 cI cB cJ h_mk q_mk v_mk_told v_mk_day v_mk_x v_mk_sales v_mk_timesSoldOut v_mk_soldOutToday v_mk_upper v_mk_lower v_mk_money v_mk_soldOut) ++ (wX4 cI cB cJ h_tr q_tr tr_told_28 tr_day_53 tr_x_53 tr_sales_53 tr_timesSoldOut_53 tr_soldOutToday_53 tr_upper_53 tr_lower_28 tr_money_53 tr_soldOut_53) ++ (wX2 cI cB cJ h_ru q_ru v_ru_size v_ru_length ru_height_53 v_ru_letter v_ru_valueAt v_ru_testAt v_ru_endAt v_ru_sign v_ru_beside ru_seen_53 ru_stack_53))) rfl ?_
            refine g_pop X rfl dX9_tried_56 ?_
            refine g_iinc X (lv' := [(3, vI (x3_40 + 1)), (0, .ref h), (1, vI p0), (2, vI p1)]) dX9_tried_57 3 rfl (by decide) rfl ?_
            refine g_goto X (tgt := 40) dX9_tried_60 (by decide) ?_
            refine g_lv [1, 2, 3, 0] rfl ?_
            exact ih40 (x3_40 + 1) tr_day_53 tr_x_53 tr_sales_53 tr_timesSoldOut_53 tr_soldOutToday_53 ru_height_53 tr_upper_53 tr_money_53 tr_soldOut_53 ru_seen_53 ru_stack_53 (by omega) (by omega) (by omega) (by omega) (by omega) (by omega) r_tr_upper_53 r_tr_money_53 r_tr_soldOut_53 r_ru_seen_53 r_ru_stack_53 (by first | assumption | omega) (by omega)
      refine g_lv [1, 2, 3, 0] rfl ?_
      exact L40 _ 0 tr_day_28 tr_x_28 tr_sales_35 tr_timesSoldOut_35 v_tr_soldOutToday v_ru_height tr_upper_28 tr_money_28 tr_soldOut_28 v_ru_seen v_ru_stack (by omega) (by omega) (by omega) (by omega) (by omega) (by omega) r_tr_upper_28 r_tr_money_28 r_tr_soldOut_28 r_v_ru_seen r_v_ru_stack (by first | assumption | omega) (Nat.lt_succ_self _)
    · clear kb_12
      clear kp0_12
      refine g_iconst X dX9_tried_18 ?_
      exact hQ _ _ _ _ dX9_tried_19 ⟨v_tr_told, v_tr_day, v_tr_x, v_tr_sales, v_tr_timesSoldOut, v_tr_soldOutToday, v_tr_upper, v_tr_lower, v_tr_money, v_tr_soldOut, v_ru_height, v_ru_seen, v_ru_stack, (by omega), (by omega), (by omega), (by omega), (by omega), (by omega), r_v_tr_upper, r_v_tr_lower, r_v_tr_money, r_v_tr_soldOut, (by omega), r_v_ru_seen, r_v_ru_stack, (by omega), rfl⟩
set_option maxHeartbeats 600000 in
set_option maxRecDepth 100000 in
theorem c_X9_stallIs (l : Launch) (D : va_G) (cI cB cJ : ClassId) (h : Nat) (q : Nat → Nat) (h_mk : Nat) (q_mk : Nat → Nat) {o_tape : Nat} {o_claims : Nat} {o_nextClaims : Nat} {o_bounds : Nat} {o_otherBounds : Nat} {o_ringSearch : Nat} {o_lawReader : Nat} {o_rules : Nat} {o_nextRules : Nat} {o_trial : Nat} {o_kept : Nat} {o_triangles : Nat} {v_hasKept v_mk_told v_mk_day v_mk_x v_mk_sales v_mk_timesSoldOut v_mk_soldOutToday : Int} {v_table v_mk_upper v_mk_lower v_mk_money v_mk_soldOut : Nat → Int} {p0 p1 : Int} (kr_v_mk_told : 0 ≤ v_mk_told ∧ v_mk_told ≤ 255) (r_v_mk_upper : RA (-2147483648) 2147483647 v_mk_upper) (r_v_mk_lower : RA (-2147483648) 2147483647 v_mk_lower) (r_v_mk_money : RA (-2147483648) 2147483647 v_mk_money) (r_v_mk_soldOut : RA (-2147483648) 2147483647 v_mk_soldOut) (hp0 : IR p0) (hp1 : IR p1) : CtI l yX9_stallIs cX9_stallIs 3 (some .int) ⟨2, 0, 0, 43⟩ D (TY cI cB cJ) ((wX9 cI cB cJ h q o_tape o_claims o_nextClaims o_bounds o_otherBounds o_ringSearch o_lawReader o_rules o_nextRules h_mk o_trial o_kept o_triangles v_hasKept v_table) ++ (wX4 cI cB cJ h_mk q_mk v_mk_told v_mk_day v_mk_x v_mk_sales v_mk_timesSoldOut v_mk_soldOutToday v_mk_upper v_mk_lower v_mk_money v_mk_soldOut)) [.ref h, vI p0, vI p1] (fun z ws' => (IR z) ∧ (ws' = ((wX9 cI cB cJ h q o_tape o_claims o_nextClaims o_bounds o_otherBounds o_ringSearch o_lawReader o_rules o_nextRules h_mk o_trial o_kept o_triangles v_hasKept v_table) ++ (wX4 cI cB cJ h_mk q_mk v_mk_told v_mk_day v_mk_x v_mk_sales v_mk_timesSoldOut v_mk_soldOutToday v_mk_upper v_mk_lower v_mk_money v_mk_soldOut)))) := by
  refine hdrI (own := RX9) rfl (by decide +kernel) (Nat.le_of_ble_eq_true rfl) ?_
  intro p e s m args below meth c Q A X hQ
  refine g_lvE (lv2 := [(0, .ref h), (1, vI p0), (2, vI p1)]) rfl ?_
  refine g_aload_n X dX9_stallIs_0 0 rfl ?_
  refine gX9_get X 0 rfl 9 (by decide) uw420 rfl dX9_stallIs_1 ?_
  refine g_iload_n X dX9_stallIs_4 1 rfl ?_
  refine g_callVIw X (c_X4_isTold l D cI cB cJ h_mk q_mk (p0 := p0) (by omega) (by first | assumption | omega)) [2, 3, 4, 5, 6] rfl rfl rfl cv_X4_isTold uw1116 ⟨rfl, rfl, by decide, by decide⟩ 0 rfl rfl rfl rfl rfl (Nat.le_of_ble_eq_true rfl) ⟨Nat.zero_le _, Nat.zero_le _⟩ dX9_stallIs_5 (fun t5 ws5 k5 => ?_)
  obtain ⟨kb_5, ⟨kp0_5, rfl⟩⟩ := k5
  refine ⟨rfl, ?_⟩
  refine g_ws (ws2 := ((wX9 cI cB cJ h q o_tape o_claims o_nextClaims o_bounds o_otherBounds o_ringSearch o_lawReader o_rules o_nextRules h_mk o_trial o_kept o_triangles v_hasKept v_table) ++ (wX4 cI cB cJ h_mk q_mk v_mk_told v_mk_day v_mk_x v_mk_sales v_mk_timesSoldOut v_mk_soldOutToday v_mk_upper v_mk_lower v_mk_money v_mk_soldOut))) rfl ?_
  refine g_if_ne X (tgt := 13) dX9_stallIs_8 (by decide) (by omega) (fun c8 => ?_) (fun c8 => ?_)
  · replace kb_5 := kb_5.resolve_left (fun h => c8 h)
    replace kp0_5 := kp0_5.resolve_right (fun h => c8 h.1)
    refine g_iload_n X dX9_stallIs_13 2 rfl ?_
    refine g_nm (fun sw14 es14 => ?_)
    rcases (show sw14 = 0 ∨ sw14 = 1 ∨ sw14 = 2 ∨ sw14 = 3 ∨ (sw14 < 0 ∨ 3 < sw14) by omega) with hs14 | hs14 | hs14 | hs14 | hs14
    · rw [hs14]
      refine g_tab X (off := 30) (tgt := 44) dX9_stallIs_14 (by omega) (by omega) rfl (by decide) ?_
      refine g_aload_n X dX9_stallIs_44 0 rfl ?_
      refine gX9_get X 0 rfl 9 (by decide) uw420 rfl dX9_stallIs_45 ?_
      refine gN_get X (T := TX4) 2 rfl rfl inU_X4 1 (by decide) nw314 rfl rfl dX9_stallIs_48 ?_
      refine g_iload_n X dX9_stallIs_51 1 rfl ?_
      refine g_iald X 3 0 rfl rfl (by omega) (by decide) dX9_stallIs_52 (fun t52 e52 => ?_)
      have r52 := r_v_mk_upper (p0 : Int).toNat; rw [← e52] at r52
      exact hQ _ _ _ _ dX9_stallIs_53 ⟨(by omega), rfl⟩
    · rw [hs14]
      refine g_tab X (off := 40) (tgt := 54) dX9_stallIs_14 (by omega) (by omega) rfl (by decide) ?_
      refine g_aload_n X dX9_stallIs_54 0 rfl ?_
      refine gX9_get X 0 rfl 9 (by decide) uw420 rfl dX9_stallIs_55 ?_
      refine gN_get X (T := TX4) 2 rfl rfl inU_X4 2 (by decide) nw317 rfl rfl dX9_stallIs_58 ?_
      refine g_iload_n X dX9_stallIs_61 1 rfl ?_
      refine g_iald X 4 0 rfl rfl (by omega) (by decide) dX9_stallIs_62 (fun t62 e62 => ?_)
      have r62 := r_v_mk_lower (p0 : Int).toNat; rw [← e62] at r62
      exact hQ _ _ _ _ dX9_stallIs_63 ⟨(by omega), rfl⟩
    · rw [hs14]
      refine g_tab X (off := 50) (tgt := 64) dX9_stallIs_14 (by omega) (by omega) rfl (by decide) ?_
      refine g_aload_n X dX9_stallIs_64 0 rfl ?_
      refine gX9_get X 0 rfl 9 (by decide) uw420 rfl dX9_stallIs_65 ?_
      refine gN_get X (T := TX4) 2 rfl rfl inU_X4 3 (by decide) nw320 rfl rfl dX9_stallIs_68 ?_
      refine g_iload_n X dX9_stallIs_71 1 rfl ?_
      refine g_iald X 5 0 rfl rfl (by omega) (by decide) dX9_stallIs_72 (fun t72 e72 => ?_)
      have r72 := r_v_mk_money (p0 : Int).toNat; rw [← e72] at r72
      exact hQ _ _ _ _ dX9_stallIs_73 ⟨(by omega), rfl⟩
    · rw [hs14]
      refine g_tab X (off := 60) (tgt := 74) dX9_stallIs_14 (by omega) (by omega) rfl (by decide) ?_
      refine g_aload_n X dX9_stallIs_74 0 rfl ?_
      refine gX9_get X 0 rfl 9 (by decide) uw420 rfl dX9_stallIs_75 ?_
      refine gN_get X (T := TX4) 2 rfl rfl inU_X4 4 (by decide) nw323 rfl rfl dX9_stallIs_78 ?_
      refine g_iload_n X dX9_stallIs_81 1 rfl ?_
      refine g_iald X 6 0 rfl rfl (by omega) (by decide) dX9_stallIs_82 (fun t82 e82 => ?_)
      have r82 := r_v_mk_soldOut (p0 : Int).toNat; rw [← e82] at r82
      exact hQ _ _ _ _ dX9_stallIs_83 ⟨(by omega), rfl⟩
    · refine g_tabD X (tgt := 84) dX9_stallIs_14 (by omega) hs14 (by decide) ?_
      refine g_iconst X dX9_stallIs_84 ?_
      exact hQ _ _ _ _ dX9_stallIs_85 ⟨(by omega), rfl⟩
  · clear kb_5
    replace kp0_5 := (kp0_5.resolve_left (fun h => absurd h.1 (by omega))).2
    refine g_iconst X dX9_stallIs_11 ?_
    exact hQ _ _ _ _ dX9_stallIs_12 ⟨(by omega), rfl⟩
set_option maxHeartbeats 600000 in
set_option maxRecDepth 100000 in
theorem c_X9_soonest (l : Launch) (D : va_G) (cI cB cJ : ClassId) (h : Nat) (q : Nat → Nat) (h_mk : Nat) (q_mk : Nat → Nat) (h_tr : Nat) (q_tr : Nat → Nat) (h_ru : Nat) (q_ru : Nat → Nat) {o_tape : Nat} {o_claims : Nat} {o_nextClaims : Nat} {o_bounds : Nat} {o_otherBounds : Nat} {o_ringSearch : Nat} {o_lawReader : Nat} {o_nextRules : Nat} {o_kept : Nat} {o_triangles : Nat} {v_hasKept v_mk_told v_mk_day v_mk_x v_mk_sales v_mk_timesSoldOut v_mk_soldOutToday v_tr_told v_tr_day v_tr_x v_tr_sales v_tr_timesSoldOut v_tr_soldOutToday v_ru_size v_ru_length v_ru_height : Int} {v_table v_mk_upper v_mk_lower v_mk_money v_mk_soldOut v_tr_upper v_tr_lower v_tr_money v_tr_soldOut v_ru_letter v_ru_valueAt v_ru_testAt v_ru_endAt v_ru_sign v_ru_beside v_ru_seen v_ru_stack : Nat → Int} {p0 p1 : Int} (kr_v_mk_told : 0 ≤ v_mk_told ∧ v_mk_told ≤ 255) (kr_v_mk_day : 0 ≤ v_mk_day ∧ v_mk_day ≤ 9999) (kr_v_mk_x : 0 ≤ v_mk_x ∧ v_mk_x ≤ 65535) (r_v_mk_upper : RA (-2147483648) 2147483647 v_mk_upper) (r_v_mk_lower : RA (-2147483648) 2147483647 v_mk_lower) (r_v_mk_money : RA (-2147483648) 2147483647 v_mk_money) (r_v_mk_soldOut : RA (-2147483648) 2147483647 v_mk_soldOut) (kr_v_tr_told : 0 ≤ v_tr_told ∧ v_tr_told ≤ 255) (kr_v_tr_day : 0 ≤ v_tr_day ∧ v_tr_day ≤ 9999) (kr_v_tr_x : 0 ≤ v_tr_x ∧ v_tr_x ≤ 65535) (kr_v_tr_sales : (-2147483648) ≤ v_tr_sales ∧ v_tr_sales ≤ 2147483647) (kr_v_tr_timesSoldOut : (-2147483648) ≤ v_tr_timesSoldOut ∧ v_tr_timesSoldOut ≤ 2147483647) (kr_v_tr_soldOutToday : (-2147483648) ≤ v_tr_soldOutToday ∧ v_tr_soldOutToday ≤ 2147483647) (r_v_tr_upper : RA (-2147483648) 2147483647 v_tr_upper) (r_v_tr_lower : RA (-2147483648) 2147483647 v_tr_lower) (r_v_tr_money : RA (-2147483648) 2147483647 v_tr_money) (r_v_tr_soldOut : RA (-2147483648) 2147483647 v_tr_soldOut) (kr_v_ru_size : 0 ≤ v_ru_size ∧ v_ru_size ≤ 16) (kr_v_ru_height : 0 ≤ v_ru_height ∧ v_ru_height ≤ 64) (r_v_ru_letter : RA (-2147483648) 2147483647 v_ru_letter) (r_v_ru_valueAt : RA 0 256 v_ru_valueAt) (r_v_ru_testAt : RA 0 256 v_ru_testAt) (r_v_ru_endAt : RA 0 256 v_ru_endAt) (r_v_ru_sign : RA (-2147483648) 2147483647 v_ru_sign) (r_v_ru_beside : RA 0 99999 v_ru_beside) (r_v_ru_seen : RA (-2147483648) 2147483647 v_ru_seen) (r_v_ru_stack : RA (-2147483648) 2147483647 v_ru_stack) (hp0 : IR p0) (hp1 : IR p1) (hp2 : LInv v_ru_sign v_ru_beside) : CtI l yX9_soonest cX9_soonest 4 (some .int) ⟨6, 0, 0, 160⟩ D (TY cI cB cJ) ((wX9 cI cB cJ h q o_tape o_claims o_nextClaims o_bounds o_otherBounds o_ringSearch o_lawReader h_ru o_nextRules h_mk h_tr o_kept o_triangles v_hasKept v_table) ++ (wX4 cI cB cJ h_mk q_mk v_mk_told v_mk_day v_mk_x v_mk_sales v_mk_timesSoldOut v_mk_soldOutToday v_mk_upper v_mk_lower v_mk_money v_mk_soldOut) ++ (wX4 cI cB cJ h_tr q_tr v_tr_told v_tr_day v_tr_x v_tr_sales v_tr_timesSoldOut v_tr_soldOutToday v_tr_upper v_tr_lower v_tr_money v_tr_soldOut) ++ (wX2 cI cB cJ h_ru q_ru v_ru_size v_ru_length v_ru_height v_ru_letter v_ru_valueAt v_ru_testAt v_ru_endAt v_ru_sign v_ru_beside v_ru_seen v_ru_stack)) [.ref h, vI p0, vI p1] (fun z ws' => ∃ n_tr_told : Int, ∃ n_tr_day : Int, ∃ n_tr_x : Int, ∃ n_tr_sales : Int, ∃ n_tr_timesSoldOut : Int, ∃ n_tr_soldOutToday : Int, ∃ n_tr_upper : Nat → Int, ∃ n_tr_lower : Nat → Int, ∃ n_tr_money : Nat → Int, ∃ n_tr_soldOut : Nat → Int, ∃ n_ru_height : Int, ∃ n_ru_seen : Nat → Int, ∃ n_ru_stack : Nat → Int, (0 ≤ n_tr_told ∧ n_tr_told ≤ 255) ∧ (0 ≤ n_tr_day ∧ n_tr_day ≤ 9999) ∧ (0 ≤ n_tr_x ∧ n_tr_x ≤ 65535) ∧ ((-2147483648) ≤ n_tr_sales ∧ n_tr_sales ≤ 2147483647) ∧ ((-2147483648) ≤ n_tr_timesSoldOut ∧ n_tr_timesSoldOut ≤ 2147483647) ∧ ((-2147483648) ≤ n_tr_soldOutToday ∧ n_tr_soldOutToday ≤ 2147483647) ∧ (RA (-2147483648) 2147483647 n_tr_upper) ∧ (RA (-2147483648) 2147483647 n_tr_lower) ∧ (RA (-2147483648) 2147483647 n_tr_money) ∧ (RA (-2147483648) 2147483647 n_tr_soldOut) ∧ (0 ≤ n_ru_height ∧ n_ru_height ≤ 64) ∧ (RA (-2147483648) 2147483647 n_ru_seen) ∧ (RA (-2147483648) 2147483647 n_ru_stack) ∧ (IR z) ∧ (ws' = ((wX9 cI cB cJ h q o_tape o_claims o_nextClaims o_bounds o_otherBounds o_ringSearch o_lawReader h_ru o_nextRules h_mk h_tr o_kept o_triangles v_hasKept v_table) ++ (wX4 cI cB cJ h_mk q_mk v_mk_told v_mk_day v_mk_x v_mk_sales v_mk_timesSoldOut v_mk_soldOutToday v_mk_upper v_mk_lower v_mk_money v_mk_soldOut) ++ (wX4 cI cB cJ h_tr q_tr n_tr_told n_tr_day n_tr_x n_tr_sales n_tr_timesSoldOut n_tr_soldOutToday n_tr_upper n_tr_lower n_tr_money n_tr_soldOut) ++ (wX2 cI cB cJ h_ru q_ru v_ru_size v_ru_length n_ru_height v_ru_letter v_ru_valueAt v_ru_testAt v_ru_endAt v_ru_sign v_ru_beside n_ru_seen n_ru_stack)))) := by
  refine hdrI (own := RX9) rfl (by decide +kernel) (Nat.le_of_ble_eq_true rfl) ?_
  intro p e s m args below meth c Q A X hQ
  refine g_lvE (lv2 := [(0, .ref h), (1, vI p0), (2, vI p1)]) rfl ?_
  refine g_aload_n X dX9_soonest_0 0 rfl ?_
  refine gX9_get X 0 rfl 9 (by decide) uw420 rfl dX9_soonest_1 ?_
  refine g_iload_n X dX9_soonest_4 1 rfl ?_
  refine g_callVIw X (c_X4_isTold l D cI cB cJ h_mk q_mk (p0 := p0) (by omega) (by first | assumption | omega)) [2, 3, 4, 5, 6] rfl rfl rfl cv_X4_isTold uw1116 ⟨rfl, rfl, by decide, by decide⟩ 0 rfl rfl rfl rfl rfl (Nat.le_of_ble_eq_true rfl) ⟨Nat.zero_le _, Nat.zero_le _⟩ dX9_soonest_5 (fun t5 ws5 k5 => ?_)
  obtain ⟨kb_5, ⟨kp0_5, rfl⟩⟩ := k5
  refine ⟨rfl, ?_⟩
  refine g_ws (ws2 := ((wX9 cI cB cJ h q o_tape o_claims o_nextClaims o_bounds o_otherBounds o_ringSearch o_lawReader h_ru o_nextRules h_mk h_tr o_kept o_triangles v_hasKept v_table) ++ (wX4 cI cB cJ h_mk q_mk v_mk_told v_mk_day v_mk_x v_mk_sales v_mk_timesSoldOut v_mk_soldOutToday v_mk_upper v_mk_lower v_mk_money v_mk_soldOut) ++ (wX4 cI cB cJ h_tr q_tr v_tr_told v_tr_day v_tr_x v_tr_sales v_tr_timesSoldOut v_tr_soldOutToday v_tr_upper v_tr_lower v_tr_money v_tr_soldOut) ++ (wX2 cI cB cJ h_ru q_ru v_ru_size v_ru_length v_ru_height v_ru_letter v_ru_valueAt v_ru_testAt v_ru_endAt v_ru_sign v_ru_beside v_ru_seen v_ru_stack))) rfl ?_
  refine g_if_eq X (tgt := 21) dX9_soonest_8 (by decide) (by omega) (fun c8 => ?_) (fun c8 => ?_)
  · clear kb_5
    replace kp0_5 := (kp0_5.resolve_left (fun h => absurd h.1 (by omega))).2
    refine g_iconst X dX9_soonest_21 ?_
    exact hQ _ _ _ _ dX9_soonest_22 ⟨v_tr_told, v_tr_day, v_tr_x, v_tr_sales, v_tr_timesSoldOut, v_tr_soldOutToday, v_tr_upper, v_tr_lower, v_tr_money, v_tr_soldOut, v_ru_height, v_ru_seen, v_ru_stack, (by omega), (by omega), (by omega), (by omega), (by omega), (by omega), r_v_tr_upper, r_v_tr_lower, r_v_tr_money, r_v_tr_soldOut, (by omega), r_v_ru_seen, r_v_ru_stack, (by omega), rfl⟩
  · replace kb_5 := kb_5.resolve_left (fun h => c8 h)
    replace kp0_5 := kp0_5.resolve_right (fun h => c8 h.1)
    refine g_iload_n X dX9_soonest_11 2 rfl ?_
    refine g_iconst X dX9_soonest_12 ?_
    refine g_bipush X (z := 100) dX9_soonest_13 (by decide) ?_
    refine g_callSIE X (c_X9_isFrom l D cI cB cJ (p0 := p1) (p1 := 1) (p2 := 100) (by first | assumption | omega) (by first | assumption | omega) (by first | assumption | omega)) cv_X9_isFrom uw719 ⟨rfl, rfl, by decide, by decide⟩ rfl rfl (Nat.le_of_ble_eq_true rfl) ⟨Nat.zero_le _, Nat.zero_le _⟩ dX9_soonest_15 (fun t15 ws15 k15 => ?_)
    obtain ⟨kb_15, ⟨kp0_15, rfl⟩⟩ := k15
    refine g_if_ne X (tgt := 23) dX9_soonest_18 (by decide) (by omega) (fun c18 => ?_) (fun c18 => ?_)
    · replace kb_15 := kb_15.resolve_left (fun h => c18 h)
      replace kp0_15 := kp0_15.resolve_right (fun h => c18 h.1)
      refine g_aload_n X dX9_soonest_23 0 rfl ?_
      refine gX9_get X 0 rfl 10 (by decide) uw421 rfl dX9_soonest_24 ?_
      refine g_aload_n X dX9_soonest_27 0 rfl ?_
      refine gX9_get X 0 rfl 9 (by decide) uw420 rfl dX9_soonest_28 ?_
      refine g_callVVw X (c_X4_takeAll l D cI cB cJ h_tr q_tr h_mk q_mk  (by omega) (by omega) (by omega) r_v_tr_upper r_v_tr_lower r_v_tr_money r_v_tr_soldOut (by omega) (by omega) (by omega) r_v_mk_upper r_v_mk_lower r_v_mk_money r_v_mk_soldOut) [7, 8, 9, 10, 11, 2, 3, 4, 5, 6] rfl rfl rfl cv_X4_takeAll uw1117 ⟨rfl, rfl, by decide, by decide⟩ 0 rfl rfl rfl rfl rfl (Nat.le_of_ble_eq_true rfl) ⟨Nat.zero_le _, Nat.zero_le _⟩ dX9_soonest_31 (fun ws31 k31 => ?_)
      obtain ⟨tr_told_31, tr_day_31, tr_x_31, tr_upper_31, tr_lower_31, tr_money_31, tr_soldOut_31, kr_tr_told_31, kr_tr_day_31, kr_tr_x_31, r_tr_upper_31, r_tr_lower_31, r_tr_money_31, r_tr_soldOut_31, kp0_31, rfl⟩ := k31
      refine ⟨rfl, ?_⟩
      refine g_ws (ws2 := ((wX9 cI cB cJ h q o_tape o_claims o_nextClaims o_bounds o_otherBounds o_ringSearch o_lawReader h_ru o_nextRules h_mk h_tr o_kept o_triangles v_hasKept v_table) ++ (wX4 cI cB cJ h_mk q_mk v_mk_told v_mk_day v_mk_x v_mk_sales v_mk_timesSoldOut v_mk_soldOutToday v_mk_upper v_mk_lower v_mk_money v_mk_soldOut) ++ (wX4 cI cB cJ h_tr q_tr tr_told_31 tr_day_31 tr_x_31 v_tr_sales v_tr_timesSoldOut v_tr_soldOutToday tr_upper_31 tr_lower_31 tr_money_31 tr_soldOut_31) ++ (wX2 cI cB cJ h_ru q_ru v_ru_size v_ru_length v_ru_height v_ru_letter v_ru_valueAt v_ru_testAt v_ru_endAt v_ru_sign v_ru_beside v_ru_seen v_ru_stack))) rfl ?_
      refine g_iconst X dX9_soonest_34 ?_
      refine g_istore_n X (lv' := [(3, vI 1), (0, .ref h), (1, vI p0), (2, vI p1)]) dX9_soonest_35 (by decide) rfl ?_
      have L36 : ∀ (n : Nat) (x3_36 : Int) (tr_day_36 : Int) (tr_x_36 : Int) (tr_sales_36 : Int) (tr_timesSoldOut_36 : Int) (tr_soldOutToday_36 : Int) (ru_height_36 : Int) (tr_upper_36 : Nat → Int) (tr_money_36 : Nat → Int) (tr_soldOut_36 : Nat → Int) (ru_seen_36 : Nat → Int) (ru_stack_36 : Nat → Int), (0 ≤ tr_day_36 ∧ tr_day_36 ≤ 9999) → (0 ≤ tr_x_36 ∧ tr_x_36 ≤ 65535) → ((-2147483648) ≤ tr_sales_36 ∧ tr_sales_36 ≤ 2147483647) → ((-2147483648) ≤ tr_timesSoldOut_36 ∧ tr_timesSoldOut_36 ≤ 2147483647) → ((-2147483648) ≤ tr_soldOutToday_36 ∧ tr_soldOutToday_36 ≤ 2147483647) → (0 ≤ ru_height_36 ∧ ru_height_36 ≤ 64) → (RA (-2147483648) 2147483647 tr_upper_36) → (RA (-2147483648) 2147483647 tr_money_36) → (RA (-2147483648) 2147483647 tr_soldOut_36) → (RA (-2147483648) 2147483647 ru_seen_36) → (RA (-2147483648) 2147483647 ru_stack_36) → (1 ≤ x3_36 ∧ x3_36 ≤ p1 + 1) → (p1 + 1 - x3_36).toNat < n → GG p l e ⟨6, 0, 0, 160⟩ s m args below meth c 0 0 Q D A s.heap 4 ((wX9 cI cB cJ h q o_tape o_claims o_nextClaims o_bounds o_otherBounds o_ringSearch o_lawReader h_ru o_nextRules h_mk h_tr o_kept o_triangles v_hasKept v_table) ++ (wX4 cI cB cJ h_mk q_mk v_mk_told v_mk_day v_mk_x v_mk_sales v_mk_timesSoldOut v_mk_soldOutToday v_mk_upper v_mk_lower v_mk_money v_mk_soldOut) ++ (wX4 cI cB cJ h_tr q_tr tr_told_31 tr_day_36 tr_x_36 tr_sales_36 tr_timesSoldOut_36 tr_soldOutToday_36 tr_upper_36 tr_lower_31 tr_money_36 tr_soldOut_36) ++ (wX2 cI cB cJ h_ru q_ru v_ru_size v_ru_length ru_height_36 v_ru_letter v_ru_valueAt v_ru_testAt v_ru_endAt v_ru_sign v_ru_beside ru_seen_36 ru_stack_36)) 36 [(0, .ref h), (1, vI p0), (2, vI p1), (3, vI x3_36)] [] := by
        intro n
        induction n with
        | zero => intros; exfalso; omega
        | succ n ih36 =>
          intro x3_36 tr_day_36 tr_x_36 tr_sales_36 tr_timesSoldOut_36 tr_soldOutToday_36 ru_height_36 tr_upper_36 tr_money_36 tr_soldOut_36 ru_seen_36 ru_stack_36 kr_tr_day_36 kr_tr_x_36 kr_tr_sales_36 kr_tr_timesSoldOut_36 kr_tr_soldOutToday_36 kr_ru_height_36 r_tr_upper_36 r_tr_money_36 r_tr_soldOut_36 r_ru_seen_36 r_ru_stack_36 w36_0 wm36
          refine g_iload_n X dX9_soonest_36 3 rfl ?_
          refine g_iload_n X dX9_soonest_37 2 rfl ?_
          refine g_icmp_gt X (tgt := 80) dX9_soonest_38 (by decide) (by omega) (by omega) (fun c38 => ?_) (fun c38 => ?_)
          · refine g_bipush X (z := (-2)) dX9_soonest_80 (by decide) ?_
            exact hQ _ _ _ _ dX9_soonest_82 ⟨tr_told_31, tr_day_36, tr_x_36, tr_sales_36, tr_timesSoldOut_36, tr_soldOutToday_36, tr_upper_36, tr_lower_31, tr_money_36, tr_soldOut_36, ru_height_36, ru_seen_36, ru_stack_36, (by omega), (by omega), (by omega), (by omega), (by omega), (by omega), r_tr_upper_36, r_tr_lower_31, r_tr_money_36, r_tr_soldOut_36, (by omega), r_ru_seen_36, r_ru_stack_36, (by omega), rfl⟩
          · refine g_aload_n X dX9_soonest_41 0 rfl ?_
            refine gX9_get X 0 rfl 10 (by decide) uw421 rfl dX9_soonest_42 ?_
            refine g_aload_n X dX9_soonest_45 0 rfl ?_
            refine gX9_get X 0 rfl 7 (by decide) uw418 rfl dX9_soonest_46 ?_
            refine g_callVIw X (c_X4_passDay l D cI cB cJ h_tr q_tr h_ru q_ru  (by omega) (by omega) (by omega) (by omega) (by omega) (by omega) r_tr_upper_36 r_tr_lower_31 r_tr_money_36 r_tr_soldOut_36 (by omega) (by omega) r_v_ru_letter r_v_ru_valueAt r_v_ru_testAt r_v_ru_endAt r_v_ru_sign r_v_ru_beside r_ru_seen_36 r_ru_stack_36 (by first | assumption | omega)) [7, 8, 9, 10, 11, 12, 13, 14, 15, 16, 17, 18, 19, 20] rfl rfl rfl cv_X4_passDay uw1048 ⟨rfl, rfl, by decide, by decide⟩ 0 rfl rfl rfl rfl rfl (Nat.le_of_ble_eq_true rfl) ⟨Nat.zero_le _, Nat.zero_le _⟩ dX9_soonest_49 (fun t49 ws49 k49 => ?_)
            obtain ⟨kb_49, ⟨tr_day_49, tr_x_49, tr_sales_49, tr_timesSoldOut_49, tr_soldOutToday_49, tr_upper_49, tr_money_49, tr_soldOut_49, ru_height_49, ru_seen_49, ru_stack_49, kr_tr_day_49, kr_tr_x_49, kr_tr_sales_49, kr_tr_timesSoldOut_49, kr_tr_soldOutToday_49, r_tr_upper_49, r_tr_money_49, r_tr_soldOut_49, kr_ru_height_49, r_ru_seen_49, r_ru_stack_49, kp0_49, rfl⟩⟩ := k49
            refine ⟨rfl, ?_⟩
            refine g_ws (ws2 := ((wX9 cI cB cJ h q o_tape o_claims o_nextClaims o_bounds o_otherBounds o_ringSearch o_lawReader h_ru o_nextRules h_mk h_tr o_kept o_triangles v_hasKept v_table) ++ (wX4 cI cB cJ h_mk q_mk v_mk_told v_mk_day v_mk_x v_mk_sales v_mk_timesSoldOut v_mk_soldOutToday v_mk_upper v_mk_lower v_mk_money v_mk_soldOut) ++ (wX4 cI cB cJ h_tr q_tr tr_told_31 tr_day_49 tr_x_49 tr_sales_49 tr_timesSoldOut_49 tr_soldOutToday_49 tr_upper_49 tr_lower_31 tr_money_49 tr_soldOut_49) ++ (wX2 cI cB cJ h_ru q_ru v_ru_size v_ru_length ru_height_49 v_ru_letter v_ru_valueAt v_ru_testAt v_ru_endAt v_ru_sign v_ru_beside ru_seen_49 ru_stack_49))) rfl ?_
            refine g_if_ne X (tgt := 58) dX9_soonest_52 (by decide) (by omega) (fun c52 => ?_) (fun c52 => ?_)
            · replace kb_49 := kb_49.resolve_left (fun h => c52 h)
              replace kp0_49 := kp0_49.resolve_right (fun h => c52 h.1)
              refine g_aload_n X dX9_soonest_58 0 rfl ?_
              refine gX9_get X 0 rfl 10 (by decide) uw421 rfl dX9_soonest_59 ?_
              refine gN_get X (T := TX4) 7 rfl rfl inU_X4 9 (by decide) nw334 rfl rfl dX9_soonest_62 ?_
              refine g_iload_n X dX9_soonest_65 1 rfl ?_
              refine g_callSIE X (c_X9_isIn l D cI cB cJ (p0 := tr_soldOutToday_49) (p1 := p0) (by first | assumption | omega) (by first | assumption | omega)) cv_X9_isIn uw776 ⟨rfl, rfl, by decide, by decide⟩ rfl rfl (Nat.le_of_ble_eq_true rfl) ⟨Nat.zero_le _, Nat.zero_le _⟩ dX9_soonest_66 (fun t66 ws66 k66 => ?_)
              obtain ⟨kb_66, ⟨kp0_66, rfl⟩⟩ := k66
              refine g_if_eq X (tgt := 74) dX9_soonest_69 (by decide) (by omega) (fun c69 => ?_) (fun c69 => ?_)
              · clear kb_66
                replace kp0_66 := (kp0_66.resolve_left (fun h => absurd h.1 (by omega))).2
                refine g_iinc X (lv' := [(3, vI (x3_36 + 1)), (0, .ref h), (1, vI p0), (2, vI p1)]) dX9_soonest_74 3 rfl (by decide) rfl ?_
                refine g_goto X (tgt := 36) dX9_soonest_77 (by decide) ?_
                refine g_lv [1, 2, 3, 0] rfl ?_
                exact ih36 (x3_36 + 1) tr_day_49 tr_x_49 tr_sales_49 tr_timesSoldOut_49 tr_soldOutToday_49 ru_height_49 tr_upper_49 tr_money_49 tr_soldOut_49 ru_seen_49 ru_stack_49 (by omega) (by omega) (by omega) (by omega) (by omega) (by omega) r_tr_upper_49 r_tr_money_49 r_tr_soldOut_49 r_ru_seen_49 r_ru_stack_49 (by first | assumption | omega) (by omega)
              · replace kb_66 := kb_66.resolve_left (fun h => c69 h)
                replace kp0_66 := kp0_66.resolve_right (fun h => c69 h.1)
                refine g_iload_n X dX9_soonest_72 3 rfl ?_
                exact hQ _ _ _ _ dX9_soonest_73 ⟨tr_told_31, tr_day_49, tr_x_49, tr_sales_49, tr_timesSoldOut_49, tr_soldOutToday_49, tr_upper_49, tr_lower_31, tr_money_49, tr_soldOut_49, ru_height_49, ru_seen_49, ru_stack_49, (by omega), (by omega), (by omega), (by omega), (by omega), (by omega), r_tr_upper_49, r_tr_lower_31, r_tr_money_49, r_tr_soldOut_49, (by omega), r_ru_seen_49, r_ru_stack_49, (by omega), rfl⟩
            · clear kb_49
              replace kp0_49 := (kp0_49.resolve_left (fun h => absurd h.1 (by omega))).2
              refine g_bipush X (z := (-2)) dX9_soonest_55 (by decide) ?_
              exact hQ _ _ _ _ dX9_soonest_57 ⟨tr_told_31, tr_day_49, tr_x_49, tr_sales_49, tr_timesSoldOut_49, tr_soldOutToday_49, tr_upper_49, tr_lower_31, tr_money_49, tr_soldOut_49, ru_height_49, ru_seen_49, ru_stack_49, (by omega), (by omega), (by omega), (by omega), (by omega), (by omega), r_tr_upper_49, r_tr_lower_31, r_tr_money_49, r_tr_soldOut_49, (by omega), r_ru_seen_49, r_ru_stack_49, (by omega), rfl⟩
      refine g_lv [1, 2, 3, 0] rfl ?_
      exact L36 _ 1 tr_day_31 tr_x_31 v_tr_sales v_tr_timesSoldOut v_tr_soldOutToday v_ru_height tr_upper_31 tr_money_31 tr_soldOut_31 v_ru_seen v_ru_stack (by omega) (by omega) (by omega) (by omega) (by omega) (by omega) r_tr_upper_31 r_tr_money_31 r_tr_soldOut_31 r_v_ru_seen r_v_ru_stack (by first | assumption | omega) (Nat.lt_succ_self _)
    · clear kb_15
      replace kp0_15 := (kp0_15.resolve_left (fun h => absurd h.1 (by omega))).2
      refine g_iconst X dX9_soonest_21 ?_
      exact hQ _ _ _ _ dX9_soonest_22 ⟨v_tr_told, v_tr_day, v_tr_x, v_tr_sales, v_tr_timesSoldOut, v_tr_soldOutToday, v_tr_upper, v_tr_lower, v_tr_money, v_tr_soldOut, v_ru_height, v_ru_seen, v_ru_stack, (by omega), (by omega), (by omega), (by omega), (by omega), (by omega), r_v_tr_upper, r_v_tr_lower, r_v_tr_money, r_v_tr_soldOut, (by omega), r_v_ru_seen, r_v_ru_stack, (by omega), rfl⟩
set_option maxHeartbeats 600000 in
set_option maxRecDepth 100000 in
theorem c_X9_richest (l : Launch) (D : va_G) (cI cB cJ : ClassId) (h : Nat) (q : Nat → Nat) (h_mk : Nat) (q_mk : Nat → Nat) {o_tape : Nat} {o_claims : Nat} {o_nextClaims : Nat} {o_bounds : Nat} {o_otherBounds : Nat} {o_ringSearch : Nat} {o_lawReader : Nat} {o_rules : Nat} {o_nextRules : Nat} {o_trial : Nat} {o_kept : Nat} {o_triangles : Nat} {v_hasKept v_mk_told v_mk_day v_mk_x v_mk_sales v_mk_timesSoldOut v_mk_soldOutToday : Int} {v_table v_mk_upper v_mk_lower v_mk_money v_mk_soldOut : Nat → Int} (kr_v_mk_told : 0 ≤ v_mk_told ∧ v_mk_told ≤ 255) (r_v_mk_money : RA (-2147483648) 2147483647 v_mk_money) : CtI l yX9_richest cX9_richest 3 (some .int) ⟨2, 0, 0, 43⟩ D (TY cI cB cJ) ((wX9 cI cB cJ h q o_tape o_claims o_nextClaims o_bounds o_otherBounds o_ringSearch o_lawReader o_rules o_nextRules h_mk o_trial o_kept o_triangles v_hasKept v_table) ++ (wX4 cI cB cJ h_mk q_mk v_mk_told v_mk_day v_mk_x v_mk_sales v_mk_timesSoldOut v_mk_soldOutToday v_mk_upper v_mk_lower v_mk_money v_mk_soldOut)) [.ref h] (fun z ws' => (IR z) ∧ (ws' = ((wX9 cI cB cJ h q o_tape o_claims o_nextClaims o_bounds o_otherBounds o_ringSearch o_lawReader o_rules o_nextRules h_mk o_trial o_kept o_triangles v_hasKept v_table) ++ (wX4 cI cB cJ h_mk q_mk v_mk_told v_mk_day v_mk_x v_mk_sales v_mk_timesSoldOut v_mk_soldOutToday v_mk_upper v_mk_lower v_mk_money v_mk_soldOut)))) := by
  refine hdrI (own := RX9) rfl (by decide +kernel) (Nat.le_of_ble_eq_true rfl) ?_
  intro p e s m args below meth c Q A X hQ
  refine g_lvE (lv2 := [(0, .ref h)]) rfl ?_
  refine g_bipush X (z := (-2)) dX9_richest_0 (by decide) ?_
  refine g_istore_n X (lv' := [(1, vI (-2)), (0, .ref h)]) dX9_richest_2 (by decide) rfl ?_
  refine g_iconst X dX9_richest_3 ?_
  refine g_istore_n X (lv' := [(2, vI 0), (1, vI (-2)), (0, .ref h)]) dX9_richest_4 (by decide) rfl ?_
  have L5 : ∀ (n : Nat) (x1_5 : Int) (x2_5 : Int), (0 ≤ x2_5 ∧ x2_5 ≤ 8) → (x1_5 = -2 ∨ (0 ≤ x1_5 ∧ x1_5 ≤ 7)) → (8 - x2_5).toNat < n → GG p l e ⟨2, 0, 0, 43⟩ s m args below meth c 0 0 Q D A s.heap 3 ((wX9 cI cB cJ h q o_tape o_claims o_nextClaims o_bounds o_otherBounds o_ringSearch o_lawReader o_rules o_nextRules h_mk o_trial o_kept o_triangles v_hasKept v_table) ++ (wX4 cI cB cJ h_mk q_mk v_mk_told v_mk_day v_mk_x v_mk_sales v_mk_timesSoldOut v_mk_soldOutToday v_mk_upper v_mk_lower v_mk_money v_mk_soldOut)) 5 [(0, .ref h), (1, vI x1_5), (2, vI x2_5)] [] := by
    intro n
    induction n with
    | zero => intros; exfalso; omega
    | succ n ih5 =>
      intro x1_5 x2_5 w5_0 w5_1 wm5
      refine g_iload_n X dX9_richest_5 2 rfl ?_
      refine g_bipush X (z := 8) dX9_richest_6 (by decide) ?_
      refine g_icmp_ge X (tgt := 55) dX9_richest_8 (by decide) (by omega) (by omega) (fun c8 => ?_) (fun c8 => ?_)
      · refine g_iload_n X dX9_richest_55 1 rfl ?_
        exact hQ _ _ _ _ dX9_richest_56 ⟨(by omega), rfl⟩
      · refine g_aload_n X dX9_richest_11 0 rfl ?_
        refine gX9_get X 0 rfl 9 (by decide) uw420 rfl dX9_richest_12 ?_
        refine g_iload_n X dX9_richest_15 2 rfl ?_
        refine g_callVIw X (c_X4_isTold l D cI cB cJ h_mk q_mk (p0 := x2_5) (by omega) (by first | assumption | omega)) [2, 3, 4, 5, 6] rfl rfl rfl cv_X4_isTold uw1116 ⟨rfl, rfl, by decide, by decide⟩ 0 rfl rfl rfl rfl rfl (Nat.le_of_ble_eq_true rfl) ⟨Nat.zero_le _, Nat.zero_le _⟩ dX9_richest_16 (fun t16 ws16 k16 => ?_)
        obtain ⟨kb_16, ⟨kp0_16, rfl⟩⟩ := k16
        refine ⟨rfl, ?_⟩
        refine g_ws (ws2 := ((wX9 cI cB cJ h q o_tape o_claims o_nextClaims o_bounds o_otherBounds o_ringSearch o_lawReader o_rules o_nextRules h_mk o_trial o_kept o_triangles v_hasKept v_table) ++ (wX4 cI cB cJ h_mk q_mk v_mk_told v_mk_day v_mk_x v_mk_sales v_mk_timesSoldOut v_mk_soldOutToday v_mk_upper v_mk_lower v_mk_money v_mk_soldOut))) rfl ?_
        refine g_if_eq X (tgt := 49) dX9_richest_19 (by decide) (by omega) (fun c19 => ?_) (fun c19 => ?_)
        · clear kb_16
          replace kp0_16 := (kp0_16.resolve_left (fun h => absurd h.1 (by omega))).2
          refine g_iinc X (lv' := [(2, vI (x2_5 + 1)), (0, .ref h), (1, vI x1_5)]) dX9_richest_49 2 rfl (by decide) rfl ?_
          refine g_goto X (tgt := 5) dX9_richest_52 (by decide) ?_
          refine g_lv [1, 2, 0] rfl ?_
          exact ih5 x1_5 (x2_5 + 1) (by first | assumption | omega) (by first | assumption | omega) (by omega)
        · replace kb_16 := kb_16.resolve_left (fun h => c19 h)
          replace kp0_16 := kp0_16.resolve_right (fun h => c19 h.1)
          refine g_iload_n X dX9_richest_22 1 rfl ?_
          refine g_if_lt X (tgt := 47) dX9_richest_23 (by decide) (by omega) (fun c23 => ?_) (fun c23 => ?_)
          · refine g_iload_n X dX9_richest_47 2 rfl ?_
            refine g_istore_n X (lv' := [(1, vI x2_5), (0, .ref h), (2, vI x2_5)]) dX9_richest_48 (by decide) rfl ?_
            refine g_iinc X (lv' := [(2, vI (x2_5 + 1)), (1, vI x2_5), (0, .ref h)]) dX9_richest_49 2 rfl (by decide) rfl ?_
            refine g_goto X (tgt := 5) dX9_richest_52 (by decide) ?_
            refine g_lv [2, 1, 0] rfl ?_
            exact ih5 x2_5 (x2_5 + 1) (by first | assumption | omega) (by first | assumption | omega) (by omega)
          · refine g_aload_n X dX9_richest_26 0 rfl ?_
            refine gX9_get X 0 rfl 9 (by decide) uw420 rfl dX9_richest_27 ?_
            refine gN_get X (T := TX4) 2 rfl rfl inU_X4 3 (by decide) nw320 rfl rfl dX9_richest_30 ?_
            refine g_iload_n X dX9_richest_33 2 rfl ?_
            refine g_iald X 5 0 rfl rfl (by omega) (by decide) dX9_richest_34 (fun t34 e34 => ?_)
            have r34 := r_v_mk_money (x2_5 : Int).toNat; rw [← e34] at r34
            refine g_aload_n X dX9_richest_35 0 rfl ?_
            refine gX9_get X 0 rfl 9 (by decide) uw420 rfl dX9_richest_36 ?_
            refine gN_get X (T := TX4) 2 rfl rfl inU_X4 3 (by decide) nw320 rfl rfl dX9_richest_39 ?_
            refine g_iload_n X dX9_richest_42 1 rfl ?_
            refine g_iald X 5 0 rfl rfl (by omega) (by decide) dX9_richest_43 (fun t43 e43 => ?_)
            have r43 := r_v_mk_money (x1_5 : Int).toNat; rw [← e43] at r43
            refine g_icmp_le X (tgt := 49) dX9_richest_44 (by decide) (by omega) (by omega) (fun c44 => ?_) (fun c44 => ?_)
            · refine g_iinc X (lv' := [(2, vI (x2_5 + 1)), (0, .ref h), (1, vI x1_5)]) dX9_richest_49 2 rfl (by decide) rfl ?_
              refine g_goto X (tgt := 5) dX9_richest_52 (by decide) ?_
              refine g_lv [1, 2, 0] rfl ?_
              exact ih5 x1_5 (x2_5 + 1) (by first | assumption | omega) (by first | assumption | omega) (by omega)
            · refine g_iload_n X dX9_richest_47 2 rfl ?_
              refine g_istore_n X (lv' := [(1, vI x2_5), (0, .ref h), (2, vI x2_5)]) dX9_richest_48 (by decide) rfl ?_
              refine g_iinc X (lv' := [(2, vI (x2_5 + 1)), (1, vI x2_5), (0, .ref h)]) dX9_richest_49 2 rfl (by decide) rfl ?_
              refine g_goto X (tgt := 5) dX9_richest_52 (by decide) ?_
              refine g_lv [2, 1, 0] rfl ?_
              exact ih5 x2_5 (x2_5 + 1) (by first | assumption | omega) (by first | assumption | omega) (by omega)
  refine g_lv [2, 1, 0] rfl ?_
  exact L5 _ (-2) 0 (by first | assumption | omega) (by first | assumption | omega) (Nat.lt_succ_self _)
set_option maxHeartbeats 600000 in
set_option maxRecDepth 100000 in
theorem c_X9_seed (l : Launch) (D : va_G) (cI cB cJ : ClassId) (h : Nat) (q : Nat → Nat) (h_mk : Nat) (q_mk : Nat → Nat) {o_tape : Nat} {o_claims : Nat} {o_nextClaims : Nat} {o_bounds : Nat} {o_otherBounds : Nat} {o_ringSearch : Nat} {o_lawReader : Nat} {o_rules : Nat} {o_nextRules : Nat} {o_trial : Nat} {o_kept : Nat} {o_triangles : Nat} {v_hasKept v_mk_told v_mk_day v_mk_x v_mk_sales v_mk_timesSoldOut v_mk_soldOutToday : Int} {v_table v_mk_upper v_mk_lower v_mk_money v_mk_soldOut : Nat → Int} {p0 : Int} (kr_v_mk_x : 0 ≤ v_mk_x ∧ v_mk_x ≤ 65535) (hp0 : IR p0) : CtI l yX9_seed cX9_seed 2 (some .boolean) ⟨1, 0, 0, 22⟩ D (TY cI cB cJ) ((wX9 cI cB cJ h q o_tape o_claims o_nextClaims o_bounds o_otherBounds o_ringSearch o_lawReader o_rules o_nextRules h_mk o_trial o_kept o_triangles v_hasKept v_table) ++ (wX4 cI cB cJ h_mk q_mk v_mk_told v_mk_day v_mk_x v_mk_sales v_mk_timesSoldOut v_mk_soldOutToday v_mk_upper v_mk_lower v_mk_money v_mk_soldOut)) [.ref h, vI p0] (fun z ws' => (z = 0 ∨ z = 1) ∧ ∃ n_mk_x : Int, (0 ≤ n_mk_x ∧ n_mk_x ≤ 65535) ∧ ((z = 1 ∧ 0 ≤ p0 ∧ p0 ≤ 65535) ∨ (z = 0 ∧ ¬ (0 ≤ p0 ∧ p0 ≤ 65535))) ∧ (ws' = ((wX9 cI cB cJ h q o_tape o_claims o_nextClaims o_bounds o_otherBounds o_ringSearch o_lawReader o_rules o_nextRules h_mk o_trial o_kept o_triangles v_hasKept v_table) ++ (wX4 cI cB cJ h_mk q_mk v_mk_told v_mk_day n_mk_x v_mk_sales v_mk_timesSoldOut v_mk_soldOutToday v_mk_upper v_mk_lower v_mk_money v_mk_soldOut)))) := by
  refine hdrZ (own := RX9) rfl (by decide +kernel) (Nat.le_of_ble_eq_true rfl) ?_
  intro p e s m args below meth c Q A X hQ
  refine g_lvE (lv2 := [(0, .ref h), (1, vI p0)]) rfl ?_
  refine g_iload_n X dX9_seed_0 1 rfl ?_
  refine g_iconst X dX9_seed_1 ?_
  refine g_ldcw X (z := 65535) dX9_seed_2 uw1146 (by decide) ?_
  refine g_callSIE X (c_X9_isFrom l D cI cB cJ (p0 := p0) (p1 := 0) (p2 := 65535) (by first | assumption | omega) (by first | assumption | omega) (by first | assumption | omega)) cv_X9_isFrom uw719 ⟨rfl, rfl, by decide, by decide⟩ rfl rfl (Nat.le_of_ble_eq_true rfl) ⟨Nat.zero_le _, Nat.zero_le _⟩ dX9_seed_5 (fun t5 ws5 k5 => ?_)
  obtain ⟨kb_5, ⟨kp0_5, rfl⟩⟩ := k5
  refine g_if_ne X (tgt := 13) dX9_seed_8 (by decide) (by omega) (fun c8 => ?_) (fun c8 => ?_)
  · replace kb_5 := kb_5.resolve_left (fun h => c8 h)
    replace kp0_5 := kp0_5.resolve_right (fun h => c8 h.1)
    refine g_aload_n X dX9_seed_13 0 rfl ?_
    refine gX9_get X 0 rfl 9 (by decide) uw420 rfl dX9_seed_14 ?_
    refine g_iload_n X dX9_seed_17 1 rfl ?_
    refine gN_put X (T := TX4) 2 rfl rfl inU_X4 tyX4 tyX4_ok nmX4 6 (by decide) nw328 rfl rfl rfl rfl (Nat.le_of_ble_eq_true rfl) dX9_seed_18 (ws2 := ((wX9 cI cB cJ h q o_tape o_claims o_nextClaims o_bounds o_otherBounds o_ringSearch o_lawReader o_rules o_nextRules h_mk o_trial o_kept o_triangles v_hasKept v_table) ++ (wX4 cI cB cJ h_mk q_mk v_mk_told v_mk_day p0 v_mk_sales v_mk_timesSoldOut v_mk_soldOutToday v_mk_upper v_mk_lower v_mk_money v_mk_soldOut))) rfl ?_
    refine g_iconst X dX9_seed_21 ?_
    exact hQ _ _ _ _ dX9_seed_22 ⟨by omega, ⟨p0, (by omega), (by first | assumption | omega), rfl⟩⟩
  · clear kb_5
    replace kp0_5 := (kp0_5.resolve_left (fun h => absurd h.1 (by omega))).2
    refine g_iconst X dX9_seed_11 ?_
    exact hQ _ _ _ _ dX9_seed_12 ⟨by omega, ⟨v_mk_x, (by omega), (by first | assumption | omega), rfl⟩⟩
set_option maxHeartbeats 600000 in
set_option maxRecDepth 100000 in
theorem c_X9_keep (l : Launch) (D : va_G) (cI cB cJ : ClassId) (h : Nat) (q : Nat → Nat) (h_kp : Nat) (q_kp : Nat → Nat) (h_mk : Nat) (q_mk : Nat → Nat) {o_tape : Nat} {o_claims : Nat} {o_nextClaims : Nat} {o_bounds : Nat} {o_otherBounds : Nat} {o_ringSearch : Nat} {o_lawReader : Nat} {o_rules : Nat} {o_nextRules : Nat} {o_trial : Nat} {o_triangles : Nat} {v_hasKept v_kp_told v_kp_day v_kp_x v_kp_sales v_kp_timesSoldOut v_kp_soldOutToday v_mk_told v_mk_day v_mk_x v_mk_sales v_mk_timesSoldOut v_mk_soldOutToday : Int} {v_table v_kp_upper v_kp_lower v_kp_money v_kp_soldOut v_mk_upper v_mk_lower v_mk_money v_mk_soldOut : Nat → Int} (kr_v_hasKept : 0 ≤ v_hasKept ∧ v_hasKept ≤ 1) (kr_v_kp_told : 0 ≤ v_kp_told ∧ v_kp_told ≤ 255) (kr_v_kp_day : 0 ≤ v_kp_day ∧ v_kp_day ≤ 9999) (kr_v_kp_x : 0 ≤ v_kp_x ∧ v_kp_x ≤ 65535) (r_v_kp_upper : RA (-2147483648) 2147483647 v_kp_upper) (r_v_kp_lower : RA (-2147483648) 2147483647 v_kp_lower) (r_v_kp_money : RA (-2147483648) 2147483647 v_kp_money) (r_v_kp_soldOut : RA (-2147483648) 2147483647 v_kp_soldOut) (kr_v_mk_told : 0 ≤ v_mk_told ∧ v_mk_told ≤ 255) (kr_v_mk_day : 0 ≤ v_mk_day ∧ v_mk_day ≤ 9999) (kr_v_mk_x : 0 ≤ v_mk_x ∧ v_mk_x ≤ 65535) (r_v_mk_upper : RA (-2147483648) 2147483647 v_mk_upper) (r_v_mk_lower : RA (-2147483648) 2147483647 v_mk_lower) (r_v_mk_money : RA (-2147483648) 2147483647 v_mk_money) (r_v_mk_soldOut : RA (-2147483648) 2147483647 v_mk_soldOut) : CtI l yX9_keep cX9_keep 1 (some .int) ⟨5, 0, 0, 107⟩ D (TY cI cB cJ) ((wX9 cI cB cJ h q o_tape o_claims o_nextClaims o_bounds o_otherBounds o_ringSearch o_lawReader o_rules o_nextRules h_mk o_trial h_kp o_triangles v_hasKept v_table) ++ (wX4 cI cB cJ h_kp q_kp v_kp_told v_kp_day v_kp_x v_kp_sales v_kp_timesSoldOut v_kp_soldOutToday v_kp_upper v_kp_lower v_kp_money v_kp_soldOut) ++ (wX4 cI cB cJ h_mk q_mk v_mk_told v_mk_day v_mk_x v_mk_sales v_mk_timesSoldOut v_mk_soldOutToday v_mk_upper v_mk_lower v_mk_money v_mk_soldOut)) [.ref h] (fun z ws' => ∃ n_hasKept : Int, ∃ n_kp_told : Int, ∃ n_kp_day : Int, ∃ n_kp_x : Int, ∃ n_kp_upper : Nat → Int, ∃ n_kp_lower : Nat → Int, ∃ n_kp_money : Nat → Int, ∃ n_kp_soldOut : Nat → Int, (0 ≤ n_hasKept ∧ n_hasKept ≤ 1) ∧ (0 ≤ n_kp_told ∧ n_kp_told ≤ 255) ∧ (0 ≤ n_kp_day ∧ n_kp_day ≤ 9999) ∧ (0 ≤ n_kp_x ∧ n_kp_x ≤ 65535) ∧ (RA (-2147483648) 2147483647 n_kp_upper) ∧ (RA (-2147483648) 2147483647 n_kp_lower) ∧ (RA (-2147483648) 2147483647 n_kp_money) ∧ (RA (-2147483648) 2147483647 n_kp_soldOut) ∧ (IR z) ∧ (z = v_mk_day) ∧ (n_kp_day = v_mk_day) ∧ (n_hasKept = 1) ∧ (ws' = ((wX9 cI cB cJ h q o_tape o_claims o_nextClaims o_bounds o_otherBounds o_ringSearch o_lawReader o_rules o_nextRules h_mk o_trial h_kp o_triangles n_hasKept v_table) ++ (wX4 cI cB cJ h_kp q_kp n_kp_told n_kp_day n_kp_x v_kp_sales v_kp_timesSoldOut v_kp_soldOutToday n_kp_upper n_kp_lower n_kp_money n_kp_soldOut) ++ (wX4 cI cB cJ h_mk q_mk v_mk_told v_mk_day v_mk_x v_mk_sales v_mk_timesSoldOut v_mk_soldOutToday v_mk_upper v_mk_lower v_mk_money v_mk_soldOut)))) := by
  refine hdrI (own := RX9) rfl (by decide +kernel) (Nat.le_of_ble_eq_true rfl) ?_
  intro p e s m args below meth c Q A X hQ
  refine g_lvE (lv2 := [(0, .ref h)]) rfl ?_
  refine g_aload_n X dX9_keep_0 0 rfl ?_
  refine gX9_get X 0 rfl 11 (by decide) uw422 rfl dX9_keep_1 ?_
  refine g_aload_n X dX9_keep_4 0 rfl ?_
  refine gX9_get X 0 rfl 9 (by decide) uw420 rfl dX9_keep_5 ?_
  refine g_callVVw X (c_X4_takeAll l D cI cB cJ h_kp q_kp h_mk q_mk  (by omega) (by omega) (by omega) r_v_kp_upper r_v_kp_lower r_v_kp_money r_v_kp_soldOut (by omega) (by omega) (by omega) r_v_mk_upper r_v_mk_lower r_v_mk_money r_v_mk_soldOut) [2, 3, 4, 5, 6, 7, 8, 9, 10, 11] rfl rfl rfl cv_X4_takeAll uw1117 ⟨rfl, rfl, by decide, by decide⟩ 0 rfl rfl rfl rfl rfl (Nat.le_of_ble_eq_true rfl) ⟨Nat.zero_le _, Nat.zero_le _⟩ dX9_keep_8 (fun ws8 k8 => ?_)
  obtain ⟨kp_told_8, kp_day_8, kp_x_8, kp_upper_8, kp_lower_8, kp_money_8, kp_soldOut_8, kr_kp_told_8, kr_kp_day_8, kr_kp_x_8, r_kp_upper_8, r_kp_lower_8, r_kp_money_8, r_kp_soldOut_8, kp0_8, rfl⟩ := k8
  refine ⟨rfl, ?_⟩
  refine g_ws (ws2 := ((wX9 cI cB cJ h q o_tape o_claims o_nextClaims o_bounds o_otherBounds o_ringSearch o_lawReader o_rules o_nextRules h_mk o_trial h_kp o_triangles v_hasKept v_table) ++ (wX4 cI cB cJ h_kp q_kp kp_told_8 kp_day_8 kp_x_8 v_kp_sales v_kp_timesSoldOut v_kp_soldOutToday kp_upper_8 kp_lower_8 kp_money_8 kp_soldOut_8) ++ (wX4 cI cB cJ h_mk q_mk v_mk_told v_mk_day v_mk_x v_mk_sales v_mk_timesSoldOut v_mk_soldOutToday v_mk_upper v_mk_lower v_mk_money v_mk_soldOut))) rfl ?_
  refine g_aload_n X dX9_keep_11 0 rfl ?_
  refine g_iconst X dX9_keep_12 ?_
  refine gX9_put X 0 rfl 12 (by decide) uw423 rfl (zI_bool (by omega)) (zI_bfit (by omega)) (Nat.le_of_ble_eq_true rfl) dX9_keep_13 (ws2 := ((wX9 cI cB cJ h q o_tape o_claims o_nextClaims o_bounds o_otherBounds o_ringSearch o_lawReader o_rules o_nextRules h_mk o_trial h_kp o_triangles 1 v_table) ++ (wX4 cI cB cJ h_kp q_kp kp_told_8 kp_day_8 kp_x_8 v_kp_sales v_kp_timesSoldOut v_kp_soldOutToday kp_upper_8 kp_lower_8 kp_money_8 kp_soldOut_8) ++ (wX4 cI cB cJ h_mk q_mk v_mk_told v_mk_day v_mk_x v_mk_sales v_mk_timesSoldOut v_mk_soldOutToday v_mk_upper v_mk_lower v_mk_money v_mk_soldOut))) rfl ?_
  refine g_aload_n X dX9_keep_16 0 rfl ?_
  refine gX9_get X 0 rfl 9 (by decide) uw420 rfl dX9_keep_17 ?_
  refine gN_get X (T := TX4) 7 rfl rfl inU_X4 5 (by decide) nw326 rfl rfl dX9_keep_20 ?_
  exact hQ _ _ _ _ dX9_keep_23 ⟨1, kp_told_8, kp_day_8, kp_x_8, kp_upper_8, kp_lower_8, kp_money_8, kp_soldOut_8, (by omega), (by omega), (by omega), (by omega), r_kp_upper_8, r_kp_lower_8, r_kp_money_8, r_kp_soldOut_8, (by first | assumption | omega), (by first | assumption | omega), (by first | assumption | omega), (by first | assumption | omega), rfl⟩
set_option maxHeartbeats 600000 in
set_option maxRecDepth 100000 in
theorem c_X9_undo (l : Launch) (D : va_G) (cI cB cJ : ClassId) (h : Nat) (q : Nat → Nat) (h_mk : Nat) (q_mk : Nat → Nat) (h_kp : Nat) (q_kp : Nat → Nat) {o_tape : Nat} {o_claims : Nat} {o_nextClaims : Nat} {o_bounds : Nat} {o_otherBounds : Nat} {o_ringSearch : Nat} {o_lawReader : Nat} {o_rules : Nat} {o_nextRules : Nat} {o_trial : Nat} {o_triangles : Nat} {v_hasKept v_mk_told v_mk_day v_mk_x v_mk_sales v_mk_timesSoldOut v_mk_soldOutToday v_kp_told v_kp_day v_kp_x v_kp_sales v_kp_timesSoldOut v_kp_soldOutToday : Int} {v_table v_mk_upper v_mk_lower v_mk_money v_mk_soldOut v_kp_upper v_kp_lower v_kp_money v_kp_soldOut : Nat → Int} (kr_v_hasKept : 0 ≤ v_hasKept ∧ v_hasKept ≤ 1) (kr_v_mk_told : 0 ≤ v_mk_told ∧ v_mk_told ≤ 255) (kr_v_mk_day : 0 ≤ v_mk_day ∧ v_mk_day ≤ 9999) (kr_v_mk_x : 0 ≤ v_mk_x ∧ v_mk_x ≤ 65535) (r_v_mk_upper : RA (-2147483648) 2147483647 v_mk_upper) (r_v_mk_lower : RA (-2147483648) 2147483647 v_mk_lower) (r_v_mk_money : RA (-2147483648) 2147483647 v_mk_money) (r_v_mk_soldOut : RA (-2147483648) 2147483647 v_mk_soldOut) (kr_v_kp_told : 0 ≤ v_kp_told ∧ v_kp_told ≤ 255) (kr_v_kp_day : 0 ≤ v_kp_day ∧ v_kp_day ≤ 9999) (kr_v_kp_x : 0 ≤ v_kp_x ∧ v_kp_x ≤ 65535) (r_v_kp_upper : RA (-2147483648) 2147483647 v_kp_upper) (r_v_kp_lower : RA (-2147483648) 2147483647 v_kp_lower) (r_v_kp_money : RA (-2147483648) 2147483647 v_kp_money) (r_v_kp_soldOut : RA (-2147483648) 2147483647 v_kp_soldOut) : CtI l yX9_undo cX9_undo 1 (some .boolean) ⟨4, 0, 0, 86⟩ D (TY cI cB cJ) ((wX9 cI cB cJ h q o_tape o_claims o_nextClaims o_bounds o_otherBounds o_ringSearch o_lawReader o_rules o_nextRules h_mk o_trial h_kp o_triangles v_hasKept v_table) ++ (wX4 cI cB cJ h_mk q_mk v_mk_told v_mk_day v_mk_x v_mk_sales v_mk_timesSoldOut v_mk_soldOutToday v_mk_upper v_mk_lower v_mk_money v_mk_soldOut) ++ (wX4 cI cB cJ h_kp q_kp v_kp_told v_kp_day v_kp_x v_kp_sales v_kp_timesSoldOut v_kp_soldOutToday v_kp_upper v_kp_lower v_kp_money v_kp_soldOut)) [.ref h] (fun z ws' => (z = 0 ∨ z = 1) ∧ ∃ n_mk_told : Int, ∃ n_mk_day : Int, ∃ n_mk_x : Int, ∃ n_mk_upper : Nat → Int, ∃ n_mk_lower : Nat → Int, ∃ n_mk_money : Nat → Int, ∃ n_mk_soldOut : Nat → Int, (0 ≤ n_mk_told ∧ n_mk_told ≤ 255) ∧ (0 ≤ n_mk_day ∧ n_mk_day ≤ 9999) ∧ (0 ≤ n_mk_x ∧ n_mk_x ≤ 65535) ∧ (RA (-2147483648) 2147483647 n_mk_upper) ∧ (RA (-2147483648) 2147483647 n_mk_lower) ∧ (RA (-2147483648) 2147483647 n_mk_money) ∧ (RA (-2147483648) 2147483647 n_mk_soldOut) ∧ (z = v_hasKept) ∧ ((v_hasKept = 1 ∧ n_mk_day = v_kp_day) ∨ (v_hasKept = 0 ∧ n_mk_day = v_mk_day)) ∧ (ws' = ((wX9 cI cB cJ h q o_tape o_claims o_nextClaims o_bounds o_otherBounds o_ringSearch o_lawReader o_rules o_nextRules h_mk o_trial h_kp o_triangles v_hasKept v_table) ++ (wX4 cI cB cJ h_mk q_mk n_mk_told n_mk_day n_mk_x v_mk_sales v_mk_timesSoldOut v_mk_soldOutToday n_mk_upper n_mk_lower n_mk_money n_mk_soldOut) ++ (wX4 cI cB cJ h_kp q_kp v_kp_told v_kp_day v_kp_x v_kp_sales v_kp_timesSoldOut v_kp_soldOutToday v_kp_upper v_kp_lower v_kp_money v_kp_soldOut)))) := by
  refine hdrZ (own := RX9) rfl (by decide +kernel) (Nat.le_of_ble_eq_true rfl) ?_
  intro p e s m args below meth c Q A X hQ
  refine g_lvE (lv2 := [(0, .ref h)]) rfl ?_
  refine g_aload_n X dX9_undo_0 0 rfl ?_
  refine gX9_get X 0 rfl 12 (by decide) uw423 rfl dX9_undo_1 ?_
  refine g_if_ne X (tgt := 9) dX9_undo_4 (by decide) (by omega) (fun c4 => ?_) (fun c4 => ?_)
  · refine g_aload_n X dX9_undo_9 0 rfl ?_
    refine gX9_get X 0 rfl 9 (by decide) uw420 rfl dX9_undo_10 ?_
    refine g_aload_n X dX9_undo_13 0 rfl ?_
    refine gX9_get X 0 rfl 11 (by decide) uw422 rfl dX9_undo_14 ?_
    refine g_callVVw X (c_X4_takeBack l D cI cB cJ h_mk q_mk h_kp q_kp  (by omega) (by omega) (by omega) r_v_mk_upper r_v_mk_lower r_v_mk_money r_v_mk_soldOut (by omega) (by omega) (by omega) r_v_kp_upper r_v_kp_lower r_v_kp_money r_v_kp_soldOut) [2, 3, 4, 5, 6, 7, 8, 9, 10, 11] rfl rfl rfl cv_X4_takeBack uw1155 ⟨rfl, rfl, by decide, by decide⟩ 0 rfl rfl rfl rfl rfl (Nat.le_of_ble_eq_true rfl) ⟨Nat.zero_le _, Nat.zero_le _⟩ dX9_undo_17 (fun ws17 k17 => ?_)
    obtain ⟨mk_told_17, mk_day_17, mk_x_17, mk_upper_17, mk_lower_17, mk_money_17, mk_soldOut_17, kr_mk_told_17, kr_mk_day_17, kr_mk_x_17, r_mk_upper_17, r_mk_lower_17, r_mk_money_17, r_mk_soldOut_17, kp0_17, rfl⟩ := k17
    refine ⟨rfl, ?_⟩
    refine g_ws (ws2 := ((wX9 cI cB cJ h q o_tape o_claims o_nextClaims o_bounds o_otherBounds o_ringSearch o_lawReader o_rules o_nextRules h_mk o_trial h_kp o_triangles v_hasKept v_table) ++ (wX4 cI cB cJ h_mk q_mk mk_told_17 mk_day_17 mk_x_17 v_mk_sales v_mk_timesSoldOut v_mk_soldOutToday mk_upper_17 mk_lower_17 mk_money_17 mk_soldOut_17) ++ (wX4 cI cB cJ h_kp q_kp v_kp_told v_kp_day v_kp_x v_kp_sales v_kp_timesSoldOut v_kp_soldOutToday v_kp_upper v_kp_lower v_kp_money v_kp_soldOut))) rfl ?_
    refine g_iconst X dX9_undo_20 ?_
    exact hQ _ _ _ _ dX9_undo_21 ⟨by omega, ⟨mk_told_17, mk_day_17, mk_x_17, mk_upper_17, mk_lower_17, mk_money_17, mk_soldOut_17, (by omega), (by omega), (by omega), r_mk_upper_17, r_mk_lower_17, r_mk_money_17, r_mk_soldOut_17, (by first | assumption | omega), (by first | assumption | omega), rfl⟩⟩
  · refine g_iconst X dX9_undo_7 ?_
    exact hQ _ _ _ _ dX9_undo_8 ⟨by omega, ⟨v_mk_told, v_mk_day, v_mk_x, v_mk_upper, v_mk_lower, v_mk_money, v_mk_soldOut, (by omega), (by omega), (by omega), r_v_mk_upper, r_v_mk_lower, r_v_mk_money, r_v_mk_soldOut, (by first | assumption | omega), (by first | assumption | omega), rfl⟩⟩
set_option maxHeartbeats 600000 in
set_option maxRecDepth 100000 in
theorem c_X9_check (l : Launch) (D : va_G) (cI cB cJ : ClassId) (h : Nat) (q : Nat → Nat) (h_tape : Nat) (q_tape : Nat → Nat) (h_mk : Nat) (q_mk : Nat → Nat) {o_claims : Nat} {o_nextClaims : Nat} {o_bounds : Nat} {o_otherBounds : Nat} {o_ringSearch : Nat} {o_lawReader : Nat} {o_rules : Nat} {o_nextRules : Nat} {o_trial : Nat} {o_kept : Nat} {o_triangles : Nat} {v_hasKept v_tape_length v_tape_end v_tape_at v_tape_fault v_tape_faultAt v_mk_told v_mk_day v_mk_x v_mk_sales v_mk_timesSoldOut v_mk_soldOutToday : Int} {v_table v_tape_bytes v_tape_taken v_mk_upper v_mk_lower v_mk_money v_mk_soldOut : Nat → Int} {p0 : Int} (kr_v_tape_length : 0 ≤ v_tape_length ∧ v_tape_length ≤ 260) (r_v_tape_bytes : RA 0 255 v_tape_bytes) (r_v_tape_taken : RA (-2147483648) 2147483647 v_tape_taken) (kr_v_mk_told : 0 ≤ v_mk_told ∧ v_mk_told ≤ 255) (r_v_mk_upper : RA (-2147483648) 2147483647 v_mk_upper) (r_v_mk_lower : RA (-2147483648) 2147483647 v_mk_lower) (hp0 : IR p0) : CtI l yX9_check cX9_check 5 (some .int) ⟨2, 0, 0, 45⟩ D (TY cI cB cJ) ((wX9 cI cB cJ h q h_tape o_claims o_nextClaims o_bounds o_otherBounds o_ringSearch o_lawReader o_rules o_nextRules h_mk o_trial o_kept o_triangles v_hasKept v_table) ++ (wX7 cI cB cJ h_tape q_tape v_tape_length v_tape_end v_tape_at v_tape_fault v_tape_faultAt v_tape_bytes v_tape_taken) ++ (wX4 cI cB cJ h_mk q_mk v_mk_told v_mk_day v_mk_x v_mk_sales v_mk_timesSoldOut v_mk_soldOutToday v_mk_upper v_mk_lower v_mk_money v_mk_soldOut)) [.ref h, vI p0] (fun z ws' => ∃ n_tape_length : Int, ∃ n_tape_taken : Nat → Int, (0 ≤ n_tape_length ∧ n_tape_length ≤ 260) ∧ (RA (-2147483648) 2147483647 n_tape_taken) ∧ (IR z) ∧ ((0 ≤ p0 ∧ p0 ≤ 8 ∧ p0 ≤ v_tape_length ∧ n_tape_length = 0) ∨ (¬ (0 ≤ p0 ∧ p0 ≤ 8 ∧ p0 ≤ v_tape_length) ∧ n_tape_length = v_tape_length)) ∧ (ws' = ((wX9 cI cB cJ h q h_tape o_claims o_nextClaims o_bounds o_otherBounds o_ringSearch o_lawReader o_rules o_nextRules h_mk o_trial o_kept o_triangles v_hasKept v_table) ++ (wX7 cI cB cJ h_tape q_tape n_tape_length v_tape_end v_tape_at v_tape_fault v_tape_faultAt v_tape_bytes n_tape_taken) ++ (wX4 cI cB cJ h_mk q_mk v_mk_told v_mk_day v_mk_x v_mk_sales v_mk_timesSoldOut v_mk_soldOutToday v_mk_upper v_mk_lower v_mk_money v_mk_soldOut)))) := by
  refine hdrI (own := RX9) rfl (by decide +kernel) (Nat.le_of_ble_eq_true rfl) ?_
  intro p e s m args below meth c Q A X hQ
  refine g_lvE (lv2 := [(0, .ref h), (1, vI p0)]) rfl ?_
  refine g_aload_n X dX9_check_0 0 rfl ?_
  refine gX9_get X 0 rfl 0 (by decide) uw411 rfl dX9_check_1 ?_
  refine g_iload_n X dX9_check_4 1 rfl ?_
  refine g_iconst X dX9_check_5 ?_
  refine g_bipush X (z := 8) dX9_check_6 (by decide) ?_
  refine g_callVIw X (c_X7_has l D cI cB cJ h_tape q_tape (p0 := p0) (p1 := 0) (p2 := 8) (by omega) (by first | assumption | omega) (by first | assumption | omega) (by first | assumption | omega)) [2, 3, 4] rfl rfl rfl cv_X7_has uw473 ⟨rfl, rfl, by decide, by decide⟩ 0 rfl rfl rfl rfl rfl (Nat.le_of_ble_eq_true rfl) ⟨Nat.zero_le _, Nat.zero_le _⟩ dX9_check_8 (fun t8 ws8 k8 => ?_)
  obtain ⟨kb_8, ⟨kp0_8, rfl⟩⟩ := k8
  refine ⟨rfl, ?_⟩
  refine g_ws (ws2 := ((wX9 cI cB cJ h q h_tape o_claims o_nextClaims o_bounds o_otherBounds o_ringSearch o_lawReader o_rules o_nextRules h_mk o_trial o_kept o_triangles v_hasKept v_table) ++ (wX7 cI cB cJ h_tape q_tape v_tape_length v_tape_end v_tape_at v_tape_fault v_tape_faultAt v_tape_bytes v_tape_taken) ++ (wX4 cI cB cJ h_mk q_mk v_mk_told v_mk_day v_mk_x v_mk_sales v_mk_timesSoldOut v_mk_soldOutToday v_mk_upper v_mk_lower v_mk_money v_mk_soldOut))) rfl ?_
  refine g_if_ne X (tgt := 17) dX9_check_11 (by decide) (by omega) (fun c11 => ?_) (fun c11 => ?_)
  · replace kb_8 := kb_8.resolve_left (fun h => c11 h)
    replace kp0_8 := kp0_8.resolve_right (fun h => c11 h.1)
    refine g_aload_n X dX9_check_17 0 rfl ?_
    refine gX9_get X 0 rfl 0 (by decide) uw411 rfl dX9_check_18 ?_
    refine g_iload_n X dX9_check_21 1 rfl ?_
    refine g_callVRw X (c_X7_take l D cI cB cJ h_tape q_tape (p0 := p0) (by omega) r_v_tape_bytes r_v_tape_taken (by first | assumption | omega) (by first | assumption | omega)) [2, 3, 4] rfl rfl rfl cv_X7_take uw890 ⟨rfl, rfl, by decide, by decide⟩ 0 rfl rfl rfl rfl rfl (Nat.le_of_ble_eq_true rfl) ⟨Nat.zero_le _, Nat.zero_le _⟩ dX9_check_22 (fun t22 ws22 k22 => ?_)
    obtain ⟨rfl, ⟨tape_length_22, tape_taken_22, kr_tape_length_22, r_tape_taken_22, kp0_22, kp1_22, kp2_22, rfl⟩⟩ := k22
    refine ⟨rfl, ?_⟩
    refine g_ws (ws2 := ((wX9 cI cB cJ h q h_tape o_claims o_nextClaims o_bounds o_otherBounds o_ringSearch o_lawReader o_rules o_nextRules h_mk o_trial o_kept o_triangles v_hasKept v_table) ++ (wX7 cI cB cJ h_tape q_tape tape_length_22 v_tape_end v_tape_at v_tape_fault v_tape_faultAt v_tape_bytes tape_taken_22) ++ (wX4 cI cB cJ h_mk q_mk v_mk_told v_mk_day v_mk_x v_mk_sales v_mk_timesSoldOut v_mk_soldOutToday v_mk_upper v_mk_lower v_mk_money v_mk_soldOut))) rfl ?_
    refine g_astore_n X (lv' := [(2, .ref (q_tape 1)), (0, .ref h), (1, vI p0)]) dX9_check_25 (by decide) rfl ?_
    refine g_iconst X dX9_check_26 ?_
    refine g_istore_n X (lv' := [(3, vI 0), (2, .ref (q_tape 1)), (0, .ref h), (1, vI p0)]) dX9_check_27 (by decide) rfl ?_
    have L28 : ∀ (n : Nat) (x3_28 : Int), (0 ≤ x3_28 ∧ (x3_28 ≤ p0 ∨ x3_28 = 0)) → (p0 - x3_28).toNat < n → GG p l e ⟨2, 0, 0, 45⟩ s m args below meth c 0 0 Q D A s.heap 5 ((wX9 cI cB cJ h q h_tape o_claims o_nextClaims o_bounds o_otherBounds o_ringSearch o_lawReader o_rules o_nextRules h_mk o_trial o_kept o_triangles v_hasKept v_table) ++ (wX7 cI cB cJ h_tape q_tape tape_length_22 v_tape_end v_tape_at v_tape_fault v_tape_faultAt v_tape_bytes tape_taken_22) ++ (wX4 cI cB cJ h_mk q_mk v_mk_told v_mk_day v_mk_x v_mk_sales v_mk_timesSoldOut v_mk_soldOutToday v_mk_upper v_mk_lower v_mk_money v_mk_soldOut)) 28 [(0, .ref h), (1, vI p0), (2, .ref (q_tape 1)), (3, vI x3_28)] [] := by
      intro n
      induction n with
      | zero => intros; exfalso; omega
      | succ n ih28 =>
        intro x3_28 w28_0 wm28
        refine g_iload_n X dX9_check_28 3 rfl ?_
        refine g_iload_n X dX9_check_29 1 rfl ?_
        refine g_icmp_ge X (tgt := 80) dX9_check_30 (by decide) (by omega) (by omega) (fun c30 => ?_) (fun c30 => ?_)
        · refine g_iconst X dX9_check_80 ?_
          exact hQ _ _ _ _ dX9_check_81 ⟨tape_length_22, tape_taken_22, (by omega), r_tape_taken_22, (by first | assumption | omega), (by first | assumption | omega), rfl⟩
        · refine g_aload_n X dX9_check_33 0 rfl ?_
          refine gX9_get X 0 rfl 9 (by decide) uw420 rfl dX9_check_34 ?_
          refine g_iload_n X dX9_check_37 3 rfl ?_
          refine g_callVIw X (c_X4_isTold l D cI cB cJ h_mk q_mk (p0 := x3_28) (by omega) (by first | assumption | omega)) [5, 6, 7, 8, 9] rfl rfl rfl cv_X4_isTold uw1116 ⟨rfl, rfl, by decide, by decide⟩ 0 rfl rfl rfl rfl rfl (Nat.le_of_ble_eq_true rfl) ⟨Nat.zero_le _, Nat.zero_le _⟩ dX9_check_38 (fun t38 ws38 k38 => ?_)
          obtain ⟨kb_38, ⟨kp0_38, rfl⟩⟩ := k38
          refine ⟨rfl, ?_⟩
          refine g_ws (ws2 := ((wX9 cI cB cJ h q h_tape o_claims o_nextClaims o_bounds o_otherBounds o_ringSearch o_lawReader o_rules o_nextRules h_mk o_trial o_kept o_triangles v_hasKept v_table) ++ (wX7 cI cB cJ h_tape q_tape tape_length_22 v_tape_end v_tape_at v_tape_fault v_tape_faultAt v_tape_bytes tape_taken_22) ++ (wX4 cI cB cJ h_mk q_mk v_mk_told v_mk_day v_mk_x v_mk_sales v_mk_timesSoldOut v_mk_soldOutToday v_mk_upper v_mk_lower v_mk_money v_mk_soldOut))) rfl ?_
          refine g_if_eq X (tgt := 59) dX9_check_41 (by decide) (by omega) (fun c41 => ?_) (fun c41 => ?_)
          · clear kb_38
            replace kp0_38 := (kp0_38.resolve_left (fun h => absurd h.1 (by omega))).2
            refine g_sipush X (z := 255) dX9_check_59 (by decide) ?_
            refine g_istore X (lv' := [(4, vI 255), (0, .ref h), (1, vI p0), (2, .ref (q_tape 1)), (3, vI x3_28)]) dX9_check_62 (by decide) rfl ?_
            refine g_aload_n X dX9_check_64 3 rfl ?_
            refine g_iload_n X dX9_check_65 4 rfl ?_
            refine g_iald X 4 0 rfl rfl (by omega) (by decide) dX9_check_66 (fun t66 e66 => ?_)
            have r66 := r_tape_taken_22 (x3_28 : Int).toNat; rw [← e66] at r66
            refine g_iload X dX9_check_67 0 rfl ?_
            refine g_icmp_eq X (tgt := 74) dX9_check_69 (by decide) (by omega) (by omega) (fun c69 => ?_) (fun c69 => ?_)
            · refine g_iinc X (lv' := [(3, vI (x3_28 + 1)), (4, vI 255), (0, .ref h), (1, vI p0), (2, .ref (q_tape 1))]) dX9_check_74 4 rfl (by decide) rfl ?_
              refine g_goto X (tgt := 28) dX9_check_77 (by decide) ?_
              refine g_lv [2, 3, 4, 0] rfl ?_
              exact ih28 (x3_28 + 1) (by first | assumption | omega) (by omega)
            · refine g_iload_n X dX9_check_72 4 rfl ?_
              exact hQ _ _ _ _ dX9_check_73 ⟨tape_length_22, tape_taken_22, (by omega), r_tape_taken_22, (by first | assumption | omega), (by first | assumption | omega), rfl⟩
          · replace kb_38 := kb_38.resolve_left (fun h => c41 h)
            replace kp0_38 := kp0_38.resolve_right (fun h => c41 h.1)
            refine g_aload_n X dX9_check_44 0 rfl ?_
            refine gX9_get X 0 rfl 9 (by decide) uw420 rfl dX9_check_45 ?_
            refine g_iload_n X dX9_check_48 3 rfl ?_
            refine g_callVIw X (c_X4_between l D cI cB cJ h_mk q_mk (p0 := x3_28) r_v_mk_upper r_v_mk_lower (by first | assumption | omega) (by first | assumption | omega)) [5, 6, 7, 8, 9] rfl rfl rfl cv_X4_between uw1129 ⟨rfl, rfl, by decide, by decide⟩ 0 rfl rfl rfl rfl rfl (Nat.le_of_ble_eq_true rfl) ⟨Nat.zero_le _, Nat.zero_le _⟩ dX9_check_49 (fun t49 ws49 k49 => ?_)
            obtain ⟨kp0_49, rfl⟩ := k49
            refine ⟨rfl, ?_⟩
            refine g_ws (ws2 := ((wX9 cI cB cJ h q h_tape o_claims o_nextClaims o_bounds o_otherBounds o_ringSearch o_lawReader o_rules o_nextRules h_mk o_trial o_kept o_triangles v_hasKept v_table) ++ (wX7 cI cB cJ h_tape q_tape tape_length_22 v_tape_end v_tape_at v_tape_fault v_tape_faultAt v_tape_bytes tape_taken_22) ++ (wX4 cI cB cJ h_mk q_mk v_mk_told v_mk_day v_mk_x v_mk_sales v_mk_timesSoldOut v_mk_soldOutToday v_mk_upper v_mk_lower v_mk_money v_mk_soldOut))) rfl ?_
            refine g_sipush X (z := 255) dX9_check_52 (by decide) ?_
            refine g_iand X dX9_check_55 ?_
            refine g_nm (fun t55 e55 => ?_)
            have r55 := z_iand_r t49 255 (by omega) (by omega); rw [← e55] at r55
            refine g_goto X (tgt := 62) dX9_check_56 (by decide) ?_
            refine g_istore X (lv' := [(4, vI t55), (0, .ref h), (1, vI p0), (2, .ref (q_tape 1)), (3, vI x3_28)]) dX9_check_62 (by decide) rfl ?_
            refine g_aload_n X dX9_check_64 3 rfl ?_
            refine g_iload_n X dX9_check_65 4 rfl ?_
            refine g_iald X 4 0 rfl rfl (by omega) (by decide) dX9_check_66 (fun t66 e66 => ?_)
            have r66 := r_tape_taken_22 (x3_28 : Int).toNat; rw [← e66] at r66
            refine g_iload X dX9_check_67 0 rfl ?_
            refine g_icmp_eq X (tgt := 74) dX9_check_69 (by decide) (by omega) (by omega) (fun c69 => ?_) (fun c69 => ?_)
            · refine g_iinc X (lv' := [(3, vI (x3_28 + 1)), (4, vI t55), (0, .ref h), (1, vI p0), (2, .ref (q_tape 1))]) dX9_check_74 4 rfl (by decide) rfl ?_
              refine g_goto X (tgt := 28) dX9_check_77 (by decide) ?_
              refine g_lv [2, 3, 4, 0] rfl ?_
              exact ih28 (x3_28 + 1) (by first | assumption | omega) (by omega)
            · refine g_iload_n X dX9_check_72 4 rfl ?_
              exact hQ _ _ _ _ dX9_check_73 ⟨tape_length_22, tape_taken_22, (by omega), r_tape_taken_22, (by first | assumption | omega), (by first | assumption | omega), rfl⟩
    refine g_lv [2, 3, 1, 0] rfl ?_
    exact L28 _ 0 (by first | assumption | omega) (Nat.lt_succ_self _)
  · clear kb_8
    replace kp0_8 := (kp0_8.resolve_left (fun h => absurd h.1 (by omega))).2
    refine g_bipush X (z := (-2)) dX9_check_14 (by decide) ?_
    exact hQ _ _ _ _ dX9_check_16 ⟨v_tape_length, v_tape_taken, (by omega), r_v_tape_taken, (by first | assumption | omega), (by first | assumption | omega), rfl⟩
set_option maxHeartbeats 600000 in
set_option maxRecDepth 100000 in
theorem c_X9_count (l : Launch) (D : va_G) (cI cB cJ : ClassId) (h : Nat) (q : Nat → Nat) (h_cl : Nat) (q_cl : Nat → Nat) (h_ru : Nat) (q_ru : Nat → Nat) (h_tape : Nat) (q_tape : Nat → Nat) (h_mk : Nat) (q_mk : Nat → Nat) {o_nextClaims : Nat} {o_bounds : Nat} {o_otherBounds : Nat} {o_ringSearch : Nat} {o_lawReader : Nat} {o_nextRules : Nat} {o_trial : Nat} {o_kept : Nat} {o_triangles : Nat} {v_hasKept v_cl_size v_ru_size v_ru_length v_ru_height v_tape_length v_tape_end v_tape_at v_tape_fault v_tape_faultAt v_mk_told v_mk_day v_mk_x v_mk_sales v_mk_timesSoldOut v_mk_soldOutToday : Int} {v_table v_cl_first v_cl_second v_cl_kind v_cl_number v_cl_group v_cl_over v_ru_letter v_ru_valueAt v_ru_testAt v_ru_endAt v_ru_sign v_ru_beside v_ru_seen v_ru_stack v_tape_bytes v_tape_taken v_mk_upper v_mk_lower v_mk_money v_mk_soldOut : Nat → Int} {p0 : Int} (kr_v_cl_size : 0 ≤ v_cl_size ∧ v_cl_size ≤ 40) (r_v_cl_first : RA 0 11 v_cl_first) (r_v_cl_second : RA 0 11 v_cl_second) (kr_v_ru_size : 0 ≤ v_ru_size ∧ v_ru_size ≤ 16) (kr_v_tape_length : 0 ≤ v_tape_length ∧ v_tape_length ≤ 260) (kr_v_mk_told : 0 ≤ v_mk_told ∧ v_mk_told ≤ 255) (kr_v_mk_day : 0 ≤ v_mk_day ∧ v_mk_day ≤ 9999) (kr_v_mk_x : 0 ≤ v_mk_x ∧ v_mk_x ≤ 65535) (r_v_mk_upper : RA (-2147483648) 2147483647 v_mk_upper) (r_v_mk_lower : RA (-2147483648) 2147483647 v_mk_lower) (r_v_mk_money : RA (-2147483648) 2147483647 v_mk_money) (hp0 : IR p0) : CtI l yX9_count cX9_count 2 (some .int) ⟨2, 0, 0, 43⟩ D (TY cI cB cJ) ((wX9 cI cB cJ h q h_tape h_cl o_nextClaims o_bounds o_otherBounds o_ringSearch o_lawReader h_ru o_nextRules h_mk o_trial o_kept o_triangles v_hasKept v_table) ++ (wX1 cI cB cJ h_cl q_cl v_cl_size v_cl_first v_cl_second v_cl_kind v_cl_number v_cl_group v_cl_over) ++ (wX2 cI cB cJ h_ru q_ru v_ru_size v_ru_length v_ru_height v_ru_letter v_ru_valueAt v_ru_testAt v_ru_endAt v_ru_sign v_ru_beside v_ru_seen v_ru_stack) ++ (wX7 cI cB cJ h_tape q_tape v_tape_length v_tape_end v_tape_at v_tape_fault v_tape_faultAt v_tape_bytes v_tape_taken) ++ (wX4 cI cB cJ h_mk q_mk v_mk_told v_mk_day v_mk_x v_mk_sales v_mk_timesSoldOut v_mk_soldOutToday v_mk_upper v_mk_lower v_mk_money v_mk_soldOut)) [.ref h, vI p0] (fun z ws' => (IR z) ∧ (ws' = ((wX9 cI cB cJ h q h_tape h_cl o_nextClaims o_bounds o_otherBounds o_ringSearch o_lawReader h_ru o_nextRules h_mk o_trial o_kept o_triangles v_hasKept v_table) ++ (wX1 cI cB cJ h_cl q_cl v_cl_size v_cl_first v_cl_second v_cl_kind v_cl_number v_cl_group v_cl_over) ++ (wX2 cI cB cJ h_ru q_ru v_ru_size v_ru_length v_ru_height v_ru_letter v_ru_valueAt v_ru_testAt v_ru_endAt v_ru_sign v_ru_beside v_ru_seen v_ru_stack) ++ (wX7 cI cB cJ h_tape q_tape v_tape_length v_tape_end v_tape_at v_tape_fault v_tape_faultAt v_tape_bytes v_tape_taken) ++ (wX4 cI cB cJ h_mk q_mk v_mk_told v_mk_day v_mk_x v_mk_sales v_mk_timesSoldOut v_mk_soldOutToday v_mk_upper v_mk_lower v_mk_money v_mk_soldOut)))) := by
  refine hdrI (own := RX9) rfl (by decide +kernel) (Nat.le_of_ble_eq_true rfl) ?_
  intro p e s m args below meth c Q A X hQ
  refine g_lvE (lv2 := [(0, .ref h), (1, vI p0)]) rfl ?_
  refine g_iload_n X dX9_count_0 1 rfl ?_
  refine g_nm (fun sw1 es1 => ?_)
  rcases (show sw1 = 0 ∨ sw1 = 1 ∨ sw1 = 2 ∨ sw1 = 3 ∨ sw1 = 4 ∨ sw1 = 5 ∨ sw1 = 6 ∨ sw1 = 7 ∨ sw1 = 8 ∨ (sw1 < 0 ∨ 8 < sw1) by omega) with hs1 | hs1 | hs1 | hs1 | hs1 | hs1 | hs1 | hs1 | hs1 | hs1
  · rw [hs1]
    refine g_tab X (off := 51) (tgt := 52) dX9_count_1 (by omega) (by omega) rfl (by decide) ?_
    refine g_aload_n X dX9_count_52 0 rfl ?_
    refine gX9_get X 0 rfl 9 (by decide) uw420 rfl dX9_count_53 ?_
    refine gN_get X (T := TX4) 21 rfl rfl inU_X4 5 (by decide) nw326 rfl rfl dX9_count_56 ?_
    exact hQ _ _ _ _ dX9_count_59 ⟨(by omega), rfl⟩
  · rw [hs1]
    refine g_tab X (off := 59) (tgt := 60) dX9_count_1 (by omega) (by omega) rfl (by decide) ?_
    refine g_aload_n X dX9_count_60 0 rfl ?_
    refine gX9_get X 0 rfl 9 (by decide) uw420 rfl dX9_count_61 ?_
    refine gN_get X (T := TX4) 21 rfl rfl inU_X4 0 (by decide) nw311 rfl rfl dX9_count_64 ?_
    exact hQ _ _ _ _ dX9_count_67 ⟨(by omega), rfl⟩
  · rw [hs1]
    refine g_tab X (off := 67) (tgt := 68) dX9_count_1 (by omega) (by omega) rfl (by decide) ?_
    refine g_aload_n X dX9_count_68 0 rfl ?_
    refine gX9_get X 0 rfl 1 (by decide) uw412 rfl dX9_count_69 ?_
    refine gN_get X (T := TX1) 2 rfl rfl inU_X1 0 (by decide) nw172 rfl rfl dX9_count_72 ?_
    exact hQ _ _ _ _ dX9_count_75 ⟨(by omega), rfl⟩
  · rw [hs1]
    refine g_tab X (off := 75) (tgt := 76) dX9_count_1 (by omega) (by omega) rfl (by decide) ?_
    refine g_aload_n X dX9_count_76 0 rfl ?_
    refine gX9_get X 0 rfl 1 (by decide) uw412 rfl dX9_count_77 ?_
    refine g_callVIw X (c_X1_things l D cI cB cJ h_cl q_cl  (by omega) r_v_cl_first r_v_cl_second) [2, 3, 4, 5, 6, 7, 8] rfl rfl rfl cv_X1_things uw1164 ⟨rfl, rfl, by decide, by decide⟩ 0 rfl rfl rfl rfl rfl (Nat.le_of_ble_eq_true rfl) ⟨Nat.zero_le _, Nat.zero_le _⟩ dX9_count_80 (fun t80 ws80 k80 => ?_)
    obtain ⟨kp0_80, rfl⟩ := k80
    refine ⟨rfl, ?_⟩
    refine g_ws (ws2 := ((wX9 cI cB cJ h q h_tape h_cl o_nextClaims o_bounds o_otherBounds o_ringSearch o_lawReader h_ru o_nextRules h_mk o_trial o_kept o_triangles v_hasKept v_table) ++ (wX1 cI cB cJ h_cl q_cl v_cl_size v_cl_first v_cl_second v_cl_kind v_cl_number v_cl_group v_cl_over) ++ (wX2 cI cB cJ h_ru q_ru v_ru_size v_ru_length v_ru_height v_ru_letter v_ru_valueAt v_ru_testAt v_ru_endAt v_ru_sign v_ru_beside v_ru_seen v_ru_stack) ++ (wX7 cI cB cJ h_tape q_tape v_tape_length v_tape_end v_tape_at v_tape_fault v_tape_faultAt v_tape_bytes v_tape_taken) ++ (wX4 cI cB cJ h_mk q_mk v_mk_told v_mk_day v_mk_x v_mk_sales v_mk_timesSoldOut v_mk_soldOutToday v_mk_upper v_mk_lower v_mk_money v_mk_soldOut))) rfl ?_
    exact hQ _ _ _ _ dX9_count_83 ⟨(by omega), rfl⟩
  · rw [hs1]
    refine g_tab X (off := 83) (tgt := 84) dX9_count_1 (by omega) (by omega) rfl (by decide) ?_
    refine g_aload_n X dX9_count_84 0 rfl ?_
    refine gX9_get X 0 rfl 7 (by decide) uw418 rfl dX9_count_85 ?_
    refine gN_get X (T := TX2) 9 rfl rfl inU_X2 0 (by decide) nw268 rfl rfl dX9_count_88 ?_
    exact hQ _ _ _ _ dX9_count_91 ⟨(by omega), rfl⟩
  · rw [hs1]
    refine g_tab X (off := 91) (tgt := 92) dX9_count_1 (by omega) (by omega) rfl (by decide) ?_
    refine g_aload_n X dX9_count_92 0 rfl ?_
    refine gX9_get X 0 rfl 0 (by decide) uw411 rfl dX9_count_93 ?_
    refine gN_get X (T := TX7) 18 rfl rfl inU_X7 2 (by decide) nw136 rfl rfl dX9_count_96 ?_
    exact hQ _ _ _ _ dX9_count_99 ⟨(by omega), rfl⟩
  · rw [hs1]
    refine g_tab X (off := 99) (tgt := 100) dX9_count_1 (by omega) (by omega) rfl (by decide) ?_
    refine g_aload_n X dX9_count_100 0 rfl ?_
    refine gX9_get X 0 rfl 9 (by decide) uw420 rfl dX9_count_101 ?_
    refine gN_get X (T := TX4) 21 rfl rfl inU_X4 6 (by decide) nw328 rfl rfl dX9_count_104 ?_
    exact hQ _ _ _ _ dX9_count_107 ⟨(by omega), rfl⟩
  · rw [hs1]
    refine g_tab X (off := 107) (tgt := 108) dX9_count_1 (by omega) (by omega) rfl (by decide) ?_
    refine g_aload_n X dX9_count_108 0 rfl ?_
    refine gX9_get X 0 rfl 9 (by decide) uw420 rfl dX9_count_109 ?_
    refine g_callVIw X (c_X4_moneyOfAll l D cI cB cJ h_mk q_mk  r_v_mk_money) [21, 22, 23, 24, 25] rfl rfl rfl cv_X4_moneyOfAll uw1125 ⟨rfl, rfl, by decide, by decide⟩ 0 rfl rfl rfl rfl rfl (Nat.le_of_ble_eq_true rfl) ⟨Nat.zero_le _, Nat.zero_le _⟩ dX9_count_112 (fun t112 ws112 k112 => ?_)
    obtain ⟨kp0_112, rfl⟩ := k112
    refine ⟨rfl, ?_⟩
    refine g_ws (ws2 := ((wX9 cI cB cJ h q h_tape h_cl o_nextClaims o_bounds o_otherBounds o_ringSearch o_lawReader h_ru o_nextRules h_mk o_trial o_kept o_triangles v_hasKept v_table) ++ (wX1 cI cB cJ h_cl q_cl v_cl_size v_cl_first v_cl_second v_cl_kind v_cl_number v_cl_group v_cl_over) ++ (wX2 cI cB cJ h_ru q_ru v_ru_size v_ru_length v_ru_height v_ru_letter v_ru_valueAt v_ru_testAt v_ru_endAt v_ru_sign v_ru_beside v_ru_seen v_ru_stack) ++ (wX7 cI cB cJ h_tape q_tape v_tape_length v_tape_end v_tape_at v_tape_fault v_tape_faultAt v_tape_bytes v_tape_taken) ++ (wX4 cI cB cJ h_mk q_mk v_mk_told v_mk_day v_mk_x v_mk_sales v_mk_timesSoldOut v_mk_soldOutToday v_mk_upper v_mk_lower v_mk_money v_mk_soldOut))) rfl ?_
    exact hQ _ _ _ _ dX9_count_115 ⟨(by omega), rfl⟩
  · rw [hs1]
    refine g_tab X (off := 115) (tgt := 116) dX9_count_1 (by omega) (by omega) rfl (by decide) ?_
    refine g_aload_n X dX9_count_116 0 rfl ?_
    refine gX9_get X 0 rfl 9 (by decide) uw420 rfl dX9_count_117 ?_
    refine g_callVIw X (c_X4_betweenInAll l D cI cB cJ h_mk q_mk  r_v_mk_upper r_v_mk_lower) [21, 22, 23, 24, 25] rfl rfl rfl cv_X4_betweenInAll uw1168 ⟨rfl, rfl, by decide, by decide⟩ 0 rfl rfl rfl rfl rfl (Nat.le_of_ble_eq_true rfl) ⟨Nat.zero_le _, Nat.zero_le _⟩ dX9_count_120 (fun t120 ws120 k120 => ?_)
    obtain ⟨kp0_120, rfl⟩ := k120
    refine ⟨rfl, ?_⟩
    refine g_ws (ws2 := ((wX9 cI cB cJ h q h_tape h_cl o_nextClaims o_bounds o_otherBounds o_ringSearch o_lawReader h_ru o_nextRules h_mk o_trial o_kept o_triangles v_hasKept v_table) ++ (wX1 cI cB cJ h_cl q_cl v_cl_size v_cl_first v_cl_second v_cl_kind v_cl_number v_cl_group v_cl_over) ++ (wX2 cI cB cJ h_ru q_ru v_ru_size v_ru_length v_ru_height v_ru_letter v_ru_valueAt v_ru_testAt v_ru_endAt v_ru_sign v_ru_beside v_ru_seen v_ru_stack) ++ (wX7 cI cB cJ h_tape q_tape v_tape_length v_tape_end v_tape_at v_tape_fault v_tape_faultAt v_tape_bytes v_tape_taken) ++ (wX4 cI cB cJ h_mk q_mk v_mk_told v_mk_day v_mk_x v_mk_sales v_mk_timesSoldOut v_mk_soldOutToday v_mk_upper v_mk_lower v_mk_money v_mk_soldOut))) rfl ?_
    exact hQ _ _ _ _ dX9_count_123 ⟨(by omega), rfl⟩
  · refine g_tabD X (tgt := 124) dX9_count_1 (by omega) hs1 (by decide) ?_
    refine g_iconst X dX9_count_124 ?_
    exact hQ _ _ _ _ dX9_count_125 ⟨(by omega), rfl⟩
