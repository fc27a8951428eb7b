set_option maxHeartbeats 600000 in
set_option maxRecDepth 100000 in
theorem c_X4_isTold (l : Launch) (D : va_G) (cI cB cJ : ClassId) (h : Nat) (q : Nat → Nat) {v_told v_day v_x v_sales v_timesSoldOut v_soldOutToday : Int} {v_upper v_lower v_money v_soldOut : Nat → Int} {p0 : Int} (kr_v_told : 0 ≤ v_told ∧ v_told ≤ 255) (hp0 : IR p0) : CtI l yX4_isTold cX4_isTold 2 (some .boolean) ⟨1, 0, 0, 22⟩ D (TY cI cB cJ) (wX4 cI cB cJ h q v_told v_day v_x v_sales v_timesSoldOut v_soldOutToday v_upper v_lower v_money v_soldOut) [.ref h, vI p0] (fun z ws' => (z = 0 ∨ z = 1) ∧ ((z = 1 ∧ 0 ≤ p0 ∧ p0 ≤ 7 ∧ hasZ v_told p0 = 1) ∨ (z = 0 ∧ ¬ (0 ≤ p0 ∧ p0 ≤ 7 ∧ hasZ v_told p0 = 1))) ∧ (ws' = (wX4 cI cB cJ h q v_told v_day v_x v_sales v_timesSoldOut v_soldOutToday v_upper v_lower v_money v_soldOut))) := by
  refine hdrZ (own := RX4) rfl (by decide +kernel) (Nat.le_of_ble_eq_true rfl) ?_
  intro p e s m args below meth c Q A X hQ
  refine g_lvE (lv2 := [(0, .ref h), (1, vI p0)]) rfl ?_
  refine g_iload_n X dX4_isTold_0 1 rfl ?_
  refine g_iconst X dX4_isTold_1 ?_
  refine g_bipush X (z := 7) dX4_isTold_2 (by decide) ?_
  refine g_callSNIE X (c_X9_isFrom l D cI cB cJ (p0 := p0) (p1 := 0) (p2 := 7) (by first | assumption | omega) (by first | assumption | omega) (by first | assumption | omega)) cv_X9_isFrom nw688 ⟨rfl, rfl, by decide, by decide⟩ rfl rfl (Nat.le_of_ble_eq_true rfl) ⟨Nat.zero_le _, Nat.zero_le _⟩ dX4_isTold_4 (fun t4 ws4 k4 => ?_)
  obtain ⟨kb_4, ⟨kp0_4, rfl⟩⟩ := k4
  refine g_if_eq X (tgt := 25) dX4_isTold_7 (by decide) (by omega) (fun c7 => ?_) (fun c7 => ?_)
  · clear kb_4
    replace kp0_4 := (kp0_4.resolve_left (fun h => absurd h.1 (by omega))).2
    refine g_iconst X dX4_isTold_25 ?_
    exact hQ _ _ _ _ dX4_isTold_26 ⟨by omega, ⟨(by first | assumption | omega), rfl⟩⟩
  · replace kb_4 := kb_4.resolve_left (fun h => c7 h)
    replace kp0_4 := kp0_4.resolve_right (fun h => c7 h.1)
    refine g_aload_n X dX4_isTold_10 0 rfl ?_
    refine gX4_get X 0 rfl 0 (by decide) uw310 rfl dX4_isTold_11 ?_
    refine g_iload_n X dX4_isTold_14 1 rfl ?_
    refine g_callSNIE X (c_X9_isIn l D cI cB cJ (p0 := v_told) (p1 := p0) (by first | assumption | omega) (by first | assumption | omega)) cv_X9_isIn nw689 ⟨rfl, rfl, by decide, by decide⟩ rfl rfl (Nat.le_of_ble_eq_true rfl) ⟨Nat.zero_le _, Nat.zero_le _⟩ dX4_isTold_15 (fun t15 ws15 k15 => ?_)
    obtain ⟨kb_15, ⟨kp0_15, rfl⟩⟩ := k15
    have hU := hasU (T := v_told) (k := p0) (by omega) (by omega)
    refine g_if_eq X (tgt := 25) dX4_isTold_18 (by decide) (by omega) (fun c18 => ?_) (fun c18 => ?_)
    · clear kb_15
      replace kp0_15 := (kp0_15.resolve_left (fun h => absurd h.1 (by omega))).2
      refine g_iconst X dX4_isTold_25 ?_
      exact hQ _ _ _ _ dX4_isTold_26 ⟨by omega, ⟨(by first | assumption | omega), rfl⟩⟩
    · replace kb_15 := kb_15.resolve_left (fun h => c18 h)
      replace kp0_15 := kp0_15.resolve_right (fun h => c18 h.1)
      refine g_iconst X dX4_isTold_21 ?_
      refine g_goto X (tgt := 26) dX4_isTold_22 (by decide) ?_
      exact hQ _ _ _ _ dX4_isTold_26 ⟨by omega, ⟨(by first | assumption | omega), rfl⟩⟩
set_option maxHeartbeats 600000 in
set_option maxRecDepth 100000 in
theorem c_X4_between (l : Launch) (D : va_G) (cI cB cJ : ClassId) (h : Nat) (q : Nat → Nat) {v_told v_day v_x v_sales v_timesSoldOut v_soldOutToday : Int} {v_upper v_lower v_money v_soldOut : Nat → Int} {p0 : Int} (r_v_upper : RA (-2147483648) 2147483647 v_upper) (r_v_lower : RA (-2147483648) 2147483647 v_lower) (hp0 : IR p0) (hp1 : 0 ≤ p0 ∧ p0 ≤ 7) : CtI l yX4_between cX4_between 2 (some .int) ⟨0, 0, 0, 0⟩ D (TY cI cB cJ) (wX4 cI cB cJ h q v_told v_day v_x v_sales v_timesSoldOut v_soldOutToday v_upper v_lower v_money v_soldOut) [.ref h, vI p0] (fun z ws' => (IR z) ∧ (ws' = (wX4 cI cB cJ h q v_told v_day v_x v_sales v_timesSoldOut v_soldOutToday v_upper v_lower v_money v_soldOut))) := by
  refine hdrI (own := RX4) rfl (by decide +kernel) (Nat.le_of_ble_eq_true rfl) ?_
  intro p e s m args below meth c Q A X hQ
  refine g_lvE (lv2 := [(0, .ref h), (1, vI p0)]) rfl ?_
  refine g_aload_n X dX4_between_0 0 rfl ?_
  refine gX4_get X 0 rfl 1 (by decide) uw312 rfl dX4_between_1 ?_
  refine g_iload_n X dX4_between_4 1 rfl ?_
  refine g_iald X 1 0 rfl rfl (by omega) (by decide) dX4_between_5 (fun t5 e5 => ?_)
  have r5 := r_v_upper (p0 : Int).toNat; rw [← e5] at r5
  refine g_aload_n X dX4_between_6 0 rfl ?_
  refine gX4_get X 0 rfl 2 (by decide) uw315 rfl dX4_between_7 ?_
  refine g_iload_n X dX4_between_10 1 rfl ?_
  refine g_iald X 2 0 rfl rfl (by omega) (by decide) dX4_between_11 (fun t11 e11 => ?_)
  have r11 := r_v_lower (p0 : Int).toNat; rw [← e11] at r11
  refine g_isub X dX4_between_12 ?_
  refine g_nr (fun t12 e12 r12 => ?_)
  exact hQ _ _ _ _ dX4_between_13 ⟨(by omega), rfl⟩
set_option maxHeartbeats 600000 in
set_option maxRecDepth 100000 in
theorem c_X4_betweenInAll (l : Launch) (D : va_G) (cI cB cJ : ClassId) (h : Nat) (q : Nat → Nat) {v_told v_day v_x v_sales v_timesSoldOut v_soldOutToday : Int} {v_upper v_lower v_money v_soldOut : Nat → Int} (r_v_upper : RA (-2147483648) 2147483647 v_upper) (r_v_lower : RA (-2147483648) 2147483647 v_lower) : CtI l yX4_betweenInAll cX4_betweenInAll 3 (some .int) ⟨1, 0, 0, 21⟩ D (TY cI cB cJ) (wX4 cI cB cJ h q v_told v_day v_x v_sales v_timesSoldOut v_soldOutToday v_upper v_lower v_money v_soldOut) [.ref h] (fun z ws' => (IR z) ∧ (ws' = (wX4 cI cB cJ h q v_told v_day v_x v_sales v_timesSoldOut v_soldOutToday v_upper v_lower v_money v_soldOut))) := by
  refine hdrI (own := RX4) rfl (by decide +kernel) (Nat.le_of_ble_eq_true rfl) ?_
  intro p e s m args below meth c Q A X hQ
  refine g_lvE (lv2 := [(0, .ref h)]) rfl ?_
  refine g_iconst X dX4_betweenInAll_0 ?_
  refine g_istore_n X (lv' := [(1, vI 0), (0, .ref h)]) dX4_betweenInAll_1 (by decide) rfl ?_
  refine g_iconst X dX4_betweenInAll_2 ?_
  refine g_istore_n X (lv' := [(2, vI 0), (1, vI 0), (0, .ref h)]) dX4_betweenInAll_3 (by decide) rfl ?_
  have L4 : ∀ (n : Nat) (x1_4 : Int) (x2_4 : Int), (0 ≤ x2_4 ∧ x2_4 ≤ 8) → (IR x1_4) → (8 - x2_4).toNat < n → GG p l e ⟨1, 0, 0, 21⟩ s m args below meth c 0 0 Q D A s.heap 3 (wX4 cI cB cJ h q v_told v_day v_x v_sales v_timesSoldOut v_soldOutToday v_upper v_lower v_money v_soldOut) 4 [(0, .ref h), (1, vI x1_4), (2, vI x2_4)] [] := by
    intro n
    induction n with
    | zero => intros; exfalso; omega
    | succ n ih4 =>
      intro x1_4 x2_4 w4_0 w4_1 wm4
      refine g_iload_n X dX4_betweenInAll_4 2 rfl ?_
      refine g_bipush X (z := 8) dX4_betweenInAll_5 (by decide) ?_
      refine g_icmp_ge X (tgt := 24) dX4_betweenInAll_7 (by decide) (by omega) (by omega) (fun c7 => ?_) (fun c7 => ?_)
      · refine g_iload_n X dX4_betweenInAll_24 1 rfl ?_
        exact hQ _ _ _ _ dX4_betweenInAll_25 ⟨(by omega), rfl⟩
      · refine g_iload_n X dX4_betweenInAll_10 1 rfl ?_
        refine g_aload_n X dX4_betweenInAll_11 0 rfl ?_
        refine g_iload_n X dX4_betweenInAll_12 2 rfl ?_
        refine g_callVI0 X (c_X4_between l D cI cB cJ h q (p0 := x2_4) r_v_upper r_v_lower (by first | assumption | omega) (by first | assumption | omega)) cv_X4_between uw1073 ⟨rfl, rfl, by decide, by decide⟩ 0 rfl rfl rfl rfl rfl (Nat.le_of_ble_eq_true rfl) ⟨Nat.zero_le _, Nat.zero_le _⟩ dX4_betweenInAll_13 (fun t13 ws13 k13 => ?_)
        obtain ⟨kp0_13, rfl⟩ := k13
        refine g_iadd X dX4_betweenInAll_16 ?_
        refine g_nr (fun t16 e16 r16 => ?_)
        refine g_istore_n X (lv' := [(1, vI t16), (0, .ref h), (2, vI x2_4)]) dX4_betweenInAll_17 (by decide) rfl ?_
        refine g_iinc X (lv' := [(2, vI (x2_4 + 1)), (1, vI t16), (0, .ref h)]) dX4_betweenInAll_18 2 rfl (by decide) rfl ?_
        refine g_goto X (tgt := 4) dX4_betweenInAll_21 (by decide) ?_
        refine g_lv [2, 1, 0] rfl ?_
        exact ih4 t16 (x2_4 + 1) (by first | assumption | omega) (by first | assumption | omega) (by omega)
  refine g_lv [2, 1, 0] rfl ?_
  exact L4 _ 0 0 (by first | assumption | omega) (by first | assumption | omega) (Nat.lt_succ_self _)
set_option maxHeartbeats 600000 in
set_option maxRecDepth 100000 in
theorem c_X4_moneyOfAll (l : Launch) (D : va_G) (cI cB cJ : ClassId) (h : Nat) (q : Nat → Nat) {v_told v_day v_x v_sales v_timesSoldOut v_soldOutToday : Int} {v_upper v_lower v_money v_soldOut : Nat → Int} (r_v_money : RA (-2147483648) 2147483647 v_money) : CtI l yX4_moneyOfAll cX4_moneyOfAll 3 (some .int) ⟨0, 0, 0, 0⟩ D (TY cI cB cJ) (wX4 cI cB cJ h q v_told v_day v_x v_sales v_timesSoldOut v_soldOutToday v_upper v_lower v_money v_soldOut) [.ref h] (fun z ws' => (IR z) ∧ (ws' = (wX4 cI cB cJ h q v_told v_day v_x v_sales v_timesSoldOut v_soldOutToday v_upper v_lower v_money v_soldOut))) := by
  refine hdrI (own := RX4) rfl (by decide +kernel) (Nat.le_of_ble_eq_true rfl) ?_
  intro p e s m args below meth c Q A X hQ
  refine g_lvE (lv2 := [(0, .ref h)]) rfl ?_
  refine g_iconst X dX4_moneyOfAll_0 ?_
  refine g_istore_n X (lv' := [(1, vI 0), (0, .ref h)]) dX4_moneyOfAll_1 (by decide) rfl ?_
  refine g_iconst X dX4_moneyOfAll_2 ?_
  refine g_istore_n X (lv' := [(2, vI 0), (1, vI 0), (0, .ref h)]) dX4_moneyOfAll_3 (by decide) rfl ?_
  have L4 : ∀ (n : Nat) (x1_4 : Int) (x2_4 : Int), (0 ≤ x2_4 ∧ x2_4 ≤ 8) → (IR x1_4) → (8 - x2_4).toNat < n → GG p l e ⟨0, 0, 0, 0⟩ s m args below meth c 0 0 Q D A s.heap 3 (wX4 cI cB cJ h q v_told v_day v_x v_sales v_timesSoldOut v_soldOutToday v_upper v_lower v_money v_soldOut) 4 [(0, .ref h), (1, vI x1_4), (2, vI x2_4)] [] := by
    intro n
    induction n with
    | zero => intros; exfalso; omega
    | succ n ih4 =>
      intro x1_4 x2_4 w4_0 w4_1 wm4
      refine g_iload_n X dX4_moneyOfAll_4 2 rfl ?_
      refine g_bipush X (z := 8) dX4_moneyOfAll_5 (by decide) ?_
      refine g_icmp_ge X (tgt := 25) dX4_moneyOfAll_7 (by decide) (by omega) (by omega) (fun c7 => ?_) (fun c7 => ?_)
      · refine g_iload_n X dX4_moneyOfAll_25 1 rfl ?_
        exact hQ _ _ _ _ dX4_moneyOfAll_26 ⟨(by omega), rfl⟩
      · refine g_iload_n X dX4_moneyOfAll_10 1 rfl ?_
        refine g_aload_n X dX4_moneyOfAll_11 0 rfl ?_
        refine gX4_get X 0 rfl 3 (by decide) uw318 rfl dX4_moneyOfAll_12 ?_
        refine g_iload_n X dX4_moneyOfAll_15 2 rfl ?_
        refine g_iald X 3 0 rfl rfl (by omega) (by decide) dX4_moneyOfAll_16 (fun t16 e16 => ?_)
        have r16 := r_v_money (x2_4 : Int).toNat; rw [← e16] at r16
        refine g_iadd X dX4_moneyOfAll_17 ?_
        refine g_nr (fun t17 e17 r17 => ?_)
        refine g_istore_n X (lv' := [(1, vI t17), (0, .ref h), (2, vI x2_4)]) dX4_moneyOfAll_18 (by decide) rfl ?_
        refine g_iinc X (lv' := [(2, vI (x2_4 + 1)), (1, vI t17), (0, .ref h)]) dX4_moneyOfAll_19 2 rfl (by decide) rfl ?_
        refine g_goto X (tgt := 4) dX4_moneyOfAll_22 (by decide) ?_
        refine g_lv [2, 1, 0] rfl ?_
        exact ih4 t17 (x2_4 + 1) (by first | assumption | omega) (by first | assumption | omega) (by omega)
  refine g_lv [2, 1, 0] rfl ?_
  exact L4 _ 0 0 (by first | assumption | omega) (by first | assumption | omega) (Nat.lt_succ_self _)
set_option maxHeartbeats 600000 in
set_option maxRecDepth 100000 in
theorem c_X4_othersWithMore (l : Launch) (D : va_G) (cI cB cJ : ClassId) (h : Nat) (q : Nat → Nat) {v_told v_day v_x v_sales v_timesSoldOut v_soldOutToday : Int} {v_upper v_lower v_money v_soldOut : Nat → Int} {p0 : Int} (r_v_upper : RA (-2147483648) 2147483647 v_upper) (r_v_lower : RA (-2147483648) 2147483647 v_lower) (hp0 : IR p0) (hp1 : 0 ≤ p0 ∧ p0 ≤ 7) : CtI l yX4_othersWithMore cX4_othersWithMore 4 (some .int) ⟨1, 0, 0, 21⟩ D (TY cI cB cJ) (wX4 cI cB cJ h q v_told v_day v_x v_sales v_timesSoldOut v_soldOutToday v_upper v_lower v_money v_soldOut) [.ref h, vI p0] (fun z ws' => (IR z) ∧ (ws' = (wX4 cI cB cJ h q v_told v_day v_x v_sales v_timesSoldOut v_soldOutToday v_upper v_lower v_money v_soldOut))) := by
  refine hdrI (own := RX4) rfl (by decide +kernel) (Nat.le_of_ble_eq_true rfl) ?_
  intro p e s m args below meth c Q A X hQ
  refine g_lvE (lv2 := [(0, .ref h), (1, vI p0)]) rfl ?_
  refine g_iconst X dX4_othersWithMore_0 ?_
  refine g_istore_n X (lv' := [(2, vI 0), (0, .ref h), (1, vI p0)]) dX4_othersWithMore_1 (by decide) rfl ?_
  refine g_iconst X dX4_othersWithMore_2 ?_
  refine g_istore_n X (lv' := [(3, vI 0), (2, vI 0), (0, .ref h), (1, vI p0)]) dX4_othersWithMore_3 (by decide) rfl ?_
  have L4 : ∀ (n : Nat) (x2_4 : Int) (x3_4 : Int), (0 ≤ x3_4 ∧ x3_4 ≤ 8) → (0 ≤ x2_4 ∧ x2_4 ≤ x3_4) → (8 - x3_4).toNat < n → GG p l e ⟨1, 0, 0, 21⟩ s m args below meth c 0 0 Q D A s.heap 4 (wX4 cI cB cJ h q v_told v_day v_x v_sales v_timesSoldOut v_soldOutToday v_upper v_lower v_money v_soldOut) 4 [(0, .ref h), (1, vI p0), (2, vI x2_4), (3, vI x3_4)] [] := by
    intro n
    induction n with
    | zero => intros; exfalso; omega
    | succ n ih4 =>
      intro x2_4 x3_4 w4_0 w4_1 wm4
      refine g_iload_n X dX4_othersWithMore_4 3 rfl ?_
      refine g_bipush X (z := 8) dX4_othersWithMore_5 (by decide) ?_
      refine g_icmp_ge X (tgt := 32) dX4_othersWithMore_7 (by decide) (by omega) (by omega) (fun c7 => ?_) (fun c7 => ?_)
      · refine g_iload_n X dX4_othersWithMore_32 2 rfl ?_
        exact hQ _ _ _ _ dX4_othersWithMore_33 ⟨(by omega), rfl⟩
      · refine g_aload_n X dX4_othersWithMore_10 0 rfl ?_
        refine g_iload_n X dX4_othersWithMore_11 3 rfl ?_
        refine g_callVI0 X (c_X4_between l D cI cB cJ h q (p0 := x3_4) r_v_upper r_v_lower (by first | assumption | omega) (by first | assumption | omega)) cv_X4_between uw1073 ⟨rfl, rfl, by decide, by decide⟩ 0 rfl rfl rfl rfl rfl (Nat.le_of_ble_eq_true rfl) ⟨Nat.zero_le _, Nat.zero_le _⟩ dX4_othersWithMore_12 (fun t12 ws12 k12 => ?_)
        obtain ⟨kp0_12, rfl⟩ := k12
        refine g_aload_n X dX4_othersWithMore_15 0 rfl ?_
        refine g_iload_n X dX4_othersWithMore_16 1 rfl ?_
        refine g_callVI0 X (c_X4_between l D cI cB cJ h q (p0 := p0) r_v_upper r_v_lower (by first | assumption | omega) (by first | assumption | omega)) cv_X4_between uw1073 ⟨rfl, rfl, by decide, by decide⟩ 0 rfl rfl rfl rfl rfl (Nat.le_of_ble_eq_true rfl) ⟨Nat.zero_le _, Nat.zero_le _⟩ dX4_othersWithMore_17 (fun t17 ws17 k17 => ?_)
        obtain ⟨kp0_17, rfl⟩ := k17
        refine g_icmp_le X (tgt := 26) dX4_othersWithMore_20 (by decide) (by omega) (by omega) (fun c20 => ?_) (fun c20 => ?_)
        · refine g_iinc X (lv' := [(3, vI (x3_4 + 1)), (0, .ref h), (1, vI p0), (2, vI x2_4)]) dX4_othersWithMore_26 3 rfl (by decide) rfl ?_
          refine g_goto X (tgt := 4) dX4_othersWithMore_29 (by decide) ?_
          refine g_lv [1, 2, 3, 0] rfl ?_
          exact ih4 x2_4 (x3_4 + 1) (by first | assumption | omega) (by first | assumption | omega) (by omega)
        · refine g_iinc X (lv' := [(2, vI (x2_4 + 1)), (0, .ref h), (1, vI p0), (3, vI x3_4)]) dX4_othersWithMore_23 2 rfl (by decide) rfl ?_
          refine g_iinc X (lv' := [(3, vI (x3_4 + 1)), (2, vI (x2_4 + 1)), (0, .ref h), (1, vI p0)]) dX4_othersWithMore_26 3 rfl (by decide) rfl ?_
          refine g_goto X (tgt := 4) dX4_othersWithMore_29 (by decide) ?_
          refine g_lv [2, 3, 1, 0] rfl ?_
          exact ih4 (x2_4 + 1) (x3_4 + 1) (by first | assumption | omega) (by first | assumption | omega) (by omega)
  refine g_lv [2, 3, 1, 0] rfl ?_
  exact L4 _ 0 0 (by first | assumption | omega) (by first | assumption | omega) (Nat.lt_succ_self _)
set_option maxHeartbeats 600000 in
set_option maxRecDepth 100000 in
theorem c_X4_countAnew (l : Launch) (D : va_G) (cI cB cJ : ClassId) (h : Nat) (q : Nat → Nat) {v_told v_day v_x v_sales v_timesSoldOut v_soldOutToday : Int} {v_upper v_lower v_money v_soldOut : Nat → Int} (kr_v_sales : (-2147483648) ≤ v_sales ∧ v_sales ≤ 2147483647) (kr_v_timesSoldOut : (-2147483648) ≤ v_timesSoldOut ∧ v_timesSoldOut ≤ 2147483647) : CtV l yX4_countAnew cX4_countAnew 1 none ⟨0, 0, 0, 0⟩ D (TY cI cB cJ) (wX4 cI cB cJ h q v_told v_day v_x v_sales v_timesSoldOut v_soldOutToday v_upper v_lower v_money v_soldOut) [.ref h] (fun ws' => ∃ n_sales : Int, ∃ n_timesSoldOut : Int, ((-2147483648) ≤ n_sales ∧ n_sales ≤ 2147483647) ∧ ((-2147483648) ≤ n_timesSoldOut ∧ n_timesSoldOut ≤ 2147483647) ∧ (ws' = (wX4 cI cB cJ h q v_told v_day v_x n_sales n_timesSoldOut v_soldOutToday v_upper v_lower v_money v_soldOut))) := by
  refine hdrV (own := RX4) rfl (by decide +kernel) (Nat.le_of_ble_eq_true rfl) ?_
  intro p e s m args below meth c Q A X hQ
  refine g_lvE (lv2 := [(0, .ref h)]) rfl ?_
  refine g_aload_n X dX4_countAnew_0 0 rfl ?_
  refine g_iconst X dX4_countAnew_1 ?_
  refine gX4_put X 0 rfl 7 (by decide) uw329 rfl rfl rfl (Nat.le_of_ble_eq_true rfl) dX4_countAnew_2 (ws2 := (wX4 cI cB cJ h q v_told v_day v_x 0 v_timesSoldOut v_soldOutToday v_upper v_lower v_money v_soldOut)) rfl ?_
  refine g_aload_n X dX4_countAnew_5 0 rfl ?_
  refine g_iconst X dX4_countAnew_6 ?_
  refine gX4_put X 0 rfl 8 (by decide) uw331 rfl rfl rfl (Nat.le_of_ble_eq_true rfl) dX4_countAnew_7 (ws2 := (wX4 cI cB cJ h q v_told v_day v_x 0 0 v_soldOutToday v_upper v_lower v_money v_soldOut)) rfl ?_
  exact hQ _ _ _ dX4_countAnew_10 ⟨0, 0, (by omega), (by omega), rfl⟩
set_option maxHeartbeats 600000 in
set_option maxRecDepth 100000 in
theorem c_X4_forgetStalls (l : Launch) (D : va_G) (cI cB cJ : ClassId) (h : Nat) (q : Nat → Nat) {v_told v_day v_x v_sales v_timesSoldOut v_soldOutToday : Int} {v_upper v_lower v_money v_soldOut : Nat → Int} (kr_v_told : 0 ≤ v_told ∧ v_told ≤ 255) (r_v_upper : RA (-2147483648) 2147483647 v_upper) (r_v_lower : RA (-2147483648) 2147483647 v_lower) (r_v_money : RA (-2147483648) 2147483647 v_money) (r_v_soldOut : RA (-2147483648) 2147483647 v_soldOut) : CtV l yX4_forgetStalls cX4_forgetStalls 1 none ⟨1, 0, 0, 23⟩ D (TY cI cB cJ) (wX4 cI cB cJ h q v_told v_day v_x v_sales v_timesSoldOut v_soldOutToday v_upper v_lower v_money v_soldOut) [.ref h] (fun ws' => ∃ n_told : Int, ∃ n_upper : Nat → Int, ∃ n_lower : Nat → Int, ∃ n_money : Nat → Int, ∃ n_soldOut : Nat → Int, (0 ≤ n_told ∧ n_told ≤ 255) ∧ (RA (-2147483648) 2147483647 n_upper) ∧ (RA (-2147483648) 2147483647 n_lower) ∧ (RA (-2147483648) 2147483647 n_money) ∧ (RA (-2147483648) 2147483647 n_soldOut) ∧ (n_told = 0) ∧ (ws' = (wX4 cI cB cJ h q n_told v_day v_x v_sales v_timesSoldOut v_soldOutToday n_upper n_lower n_money n_soldOut))) := by
  refine hdrV (own := RX4) rfl (by decide +kernel) (Nat.le_of_ble_eq_true rfl) ?_
  intro p e s m args below meth c Q A X hQ
  refine g_lvE (lv2 := [(0, .ref h)]) rfl ?_
  refine g_aload_n X dX4_forgetStalls_0 0 rfl ?_
  refine g_iconst X dX4_forgetStalls_1 ?_
  refine gX4_put X 0 rfl 0 (by decide) uw310 rfl rfl rfl (Nat.le_of_ble_eq_true rfl) dX4_forgetStalls_2 (ws2 := (wX4 cI cB cJ h q 0 v_day v_x v_sales v_timesSoldOut v_soldOutToday v_upper v_lower v_money v_soldOut)) rfl ?_
  refine g_aload_n X dX4_forgetStalls_5 0 rfl ?_
  refine gX4_get X 0 rfl 1 (by decide) uw312 rfl dX4_forgetStalls_6 ?_
  refine g_iconst X dX4_forgetStalls_9 ?_
  refine g_callSVw X (c_J7_fill_53178_8 l D cI cB cJ (q 0) (p1 := 0) r_v_upper (by first | assumption | omega)) [1] rfl rfl rfl cv_J7_fill_53178 uw677 ⟨rfl, rfl, by decide, by decide⟩ rfl rfl (Nat.le_of_ble_eq_true rfl) ⟨Nat.zero_le _, Nat.zero_le _⟩ dX4_forgetStalls_10 (fun ws10 k10 => ?_)
  obtain ⟨upper_10, r_upper_10, rfl⟩ := k10
  refine ⟨rfl, ?_⟩
  refine g_ws (ws2 := (wX4 cI cB cJ h q 0 v_day v_x v_sales v_timesSoldOut v_soldOutToday upper_10 v_lower v_money v_soldOut)) rfl ?_
  refine g_aload_n X dX4_forgetStalls_13 0 rfl ?_
  refine gX4_get X 0 rfl 2 (by decide) uw315 rfl dX4_forgetStalls_14 ?_
  refine g_iconst X dX4_forgetStalls_17 ?_
  refine g_callSVw X (c_J7_fill_53178_8 l D cI cB cJ (q 1) (p1 := 0) r_v_lower (by first | assumption | omega)) [2] rfl rfl rfl cv_J7_fill_53178 uw677 ⟨rfl, rfl, by decide, by decide⟩ rfl rfl (Nat.le_of_ble_eq_true rfl) ⟨Nat.zero_le _, Nat.zero_le _⟩ dX4_forgetStalls_18 (fun ws18 k18 => ?_)
  obtain ⟨lower_18, r_lower_18, rfl⟩ := k18
  refine ⟨rfl, ?_⟩
  refine g_ws (ws2 := (wX4 cI cB cJ h q 0 v_day v_x v_sales v_timesSoldOut v_soldOutToday upper_10 lower_18 v_money v_soldOut)) rfl ?_
  refine g_aload_n X dX4_forgetStalls_21 0 rfl ?_
  refine gX4_get X 0 rfl 3 (by decide) uw318 rfl dX4_forgetStalls_22 ?_
  refine g_iconst X dX4_forgetStalls_25 ?_
  refine g_callSVw X (c_J7_fill_53178_8 l D cI cB cJ (q 2) (p1 := 0) r_v_money (by first | assumption | omega)) [3] rfl rfl rfl cv_J7_fill_53178 uw677 ⟨rfl, rfl, by decide, by decide⟩ rfl rfl (Nat.le_of_ble_eq_true rfl) ⟨Nat.zero_le _, Nat.zero_le _⟩ dX4_forgetStalls_26 (fun ws26 k26 => ?_)
  obtain ⟨money_26, r_money_26, rfl⟩ := k26
  refine ⟨rfl, ?_⟩
  refine g_ws (ws2 := (wX4 cI cB cJ h q 0 v_day v_x v_sales v_timesSoldOut v_soldOutToday upper_10 lower_18 money_26 v_soldOut)) rfl ?_
  refine g_aload_n X dX4_forgetStalls_29 0 rfl ?_
  refine gX4_get X 0 rfl 4 (by decide) uw321 rfl dX4_forgetStalls_30 ?_
  refine g_iconst X dX4_forgetStalls_33 ?_
  refine g_callSVw X (c_J7_fill_53178_8 l D cI cB cJ (q 3) (p1 := 0) r_v_soldOut (by first | assumption | omega)) [4] rfl rfl rfl cv_J7_fill_53178 uw677 ⟨rfl, rfl, by decide, by decide⟩ rfl rfl (Nat.le_of_ble_eq_true rfl) ⟨Nat.zero_le _, Nat.zero_le _⟩ dX4_forgetStalls_34 (fun ws34 k34 => ?_)
  obtain ⟨soldOut_34, r_soldOut_34, rfl⟩ := k34
  refine ⟨rfl, ?_⟩
  refine g_ws (ws2 := (wX4 cI cB cJ h q 0 v_day v_x v_sales v_timesSoldOut v_soldOutToday upper_10 lower_18 money_26 soldOut_34)) rfl ?_
  exact hQ _ _ _ dX4_forgetStalls_37 ⟨0, upper_10, lower_18, money_26, soldOut_34, (by omega), r_upper_10, r_lower_18, r_money_26, r_soldOut_34, (by first | assumption | omega), rfl⟩
set_option maxHeartbeats 600000 in
set_option maxRecDepth 100000 in
theorem c_X4_addStalls (l : Launch) (D : va_G) (cI cB cJ : ClassId) (h : Nat) (q : Nat → Nat) (h_om : Nat) (q_om : Nat → Nat) {v_told v_day v_x v_sales v_timesSoldOut v_soldOutToday v_om_told v_om_day v_om_x v_om_sales v_om_timesSoldOut v_om_soldOutToday : Int} {v_upper v_lower v_money v_soldOut v_om_upper v_om_lower v_om_money v_om_soldOut : Nat → Int} (kr_v_told : 0 ≤ v_told ∧ v_told ≤ 255) (r_v_upper : RA (-2147483648) 2147483647 v_upper) (r_v_lower : RA (-2147483648) 2147483647 v_lower) (r_v_money : RA (-2147483648) 2147483647 v_money) (r_v_soldOut : RA (-2147483648) 2147483647 v_soldOut) (kr_v_om_told : 0 ≤ v_om_told ∧ v_om_told ≤ 255) (r_v_om_upper : RA (-2147483648) 2147483647 v_om_upper) (r_v_om_lower : RA (-2147483648) 2147483647 v_om_lower) (r_v_om_money : RA (-2147483648) 2147483647 v_om_money) (r_v_om_soldOut : RA (-2147483648) 2147483647 v_om_soldOut) : CtV l yX4_addStalls cX4_addStalls 3 none ⟨2, 0, 0, 43⟩ D (TY cI cB cJ) ((wX4 cI cB cJ h q v_told v_day v_x v_sales v_timesSoldOut v_soldOutToday v_upper v_lower v_money v_soldOut) ++ (wX4 cI cB cJ h_om q_om v_om_told v_om_day v_om_x v_om_sales v_om_timesSoldOut v_om_soldOutToday v_om_upper v_om_lower v_om_money v_om_soldOut)) [.ref h, .ref h_om] (fun ws' => ∃ n_told : Int, ∃ n_upper : Nat → Int, ∃ n_lower : Nat → Int, ∃ n_money : Nat → Int, ∃ n_soldOut : Nat → Int, (0 ≤ n_told ∧ n_told ≤ 255) ∧ (RA (-2147483648) 2147483647 n_upper) ∧ (RA (-2147483648) 2147483647 n_lower) ∧ (RA (-2147483648) 2147483647 n_money) ∧ (RA (-2147483648) 2147483647 n_soldOut) ∧ (ws' = ((wX4 cI cB cJ h q n_told v_day v_x v_sales v_timesSoldOut v_soldOutToday n_upper n_lower n_money n_soldOut) ++ (wX4 cI cB cJ h_om q_om v_om_told v_om_day v_om_x v_om_sales v_om_timesSoldOut v_om_soldOutToday v_om_upper v_om_lower v_om_money v_om_soldOut)))) := by
  refine hdrV (own := RX4) rfl (by decide +kernel) (Nat.le_of_ble_eq_true rfl) ?_
  intro p e s m args below meth c Q A X hQ
  refine g_lvE (lv2 := [(0, .ref h), (1, .ref h_om)]) rfl ?_
  refine g_aload_n X dX4_addStalls_0 0 rfl ?_
  refine g_dup X rfl dX4_addStalls_1 ?_
  refine gX4_get X 0 rfl 0 (by decide) uw310 rfl dX4_addStalls_2 ?_
  refine g_aload_n X dX4_addStalls_5 1 rfl ?_
  refine gX4_get X 5 rfl 0 (by decide) uw310 rfl dX4_addStalls_6 ?_
  refine g_ior X dX4_addStalls_9 ?_
  refine g_nm (fun t9 e9 => ?_)
  have r9 := z_ior_255 v_told v_om_told (by omega) (by omega); rw [← e9] at r9
  refine gX4_put X 0 rfl 0 (by decide) uw310 rfl rfl rfl (Nat.le_of_ble_eq_true rfl) dX4_addStalls_10 (ws2 := ((wX4 cI cB cJ h q t9 v_day v_x v_sales v_timesSoldOut v_soldOutToday v_upper v_lower v_money v_soldOut) ++ (wX4 cI cB cJ h_om q_om v_om_told v_om_day v_om_x v_om_sales v_om_timesSoldOut v_om_soldOutToday v_om_upper v_om_lower v_om_money v_om_soldOut))) rfl ?_
  refine g_iconst X dX4_addStalls_13 ?_
  refine g_istore_n X (lv' := [(2, vI 0), (0, .ref h), (1, .ref h_om)]) dX4_addStalls_14 (by decide) rfl ?_
  have L15 : ∀ (n : Nat) (x2_15 : Int) (upper_15 : Nat → Int) (lower_15 : Nat → Int) (money_15 : Nat → Int) (soldOut_15 : Nat → Int), (RA (-2147483648) 2147483647 upper_15) → (RA (-2147483648) 2147483647 lower_15) → (RA (-2147483648) 2147483647 money_15) → (RA (-2147483648) 2147483647 soldOut_15) → (0 ≤ x2_15 ∧ x2_15 ≤ 8) → (8 - x2_15).toNat < n → GG p l e ⟨2, 0, 0, 43⟩ s m args below meth c 0 0 Q D A s.heap 3 ((wX4 cI cB cJ h q t9 v_day v_x v_sales v_timesSoldOut v_soldOutToday upper_15 lower_15 money_15 soldOut_15) ++ (wX4 cI cB cJ h_om q_om v_om_told v_om_day v_om_x v_om_sales v_om_timesSoldOut v_om_soldOutToday v_om_upper v_om_lower v_om_money v_om_soldOut)) 15 [(0, .ref h), (1, .ref h_om), (2, vI x2_15)] [] := by
    intro n
    induction n with
    | zero => intros; exfalso; omega
    | succ n ih15 =>
      intro x2_15 upper_15 lower_15 money_15 soldOut_15 r_upper_15 r_lower_15 r_money_15 r_soldOut_15 w15_0 wm15
      refine g_iload_n X dX4_addStalls_15 2 rfl ?_
      refine g_bipush X (z := 8) dX4_addStalls_16 (by decide) ?_
      refine g_icmp_ge X (tgt := 83) dX4_addStalls_18 (by decide) (by omega) (by omega) (fun c18 => ?_) (fun c18 => ?_)
      · exact hQ _ _ _ dX4_addStalls_83 ⟨t9, upper_15, lower_15, money_15, soldOut_15, (by omega), r_upper_15, r_lower_15, r_money_15, r_soldOut_15, rfl⟩
      · refine g_aload_n X dX4_addStalls_21 1 rfl ?_
        refine g_iload_n X dX4_addStalls_22 2 rfl ?_
        refine g_callVIw X (c_X4_isTold l D cI cB cJ h_om q_om (p0 := x2_15) (by omega) (by first | assumption | omega)) [5, 6, 7, 8, 9] rfl rfl rfl cv_X4_isTold uw684 ⟨rfl, rfl, by decide, by decide⟩ 0 rfl rfl rfl rfl rfl (Nat.le_of_ble_eq_true rfl) ⟨Nat.zero_le _, Nat.zero_le _⟩ dX4_addStalls_23 (fun t23 ws23 k23 => ?_)
        obtain ⟨kb_23, ⟨kp0_23, rfl⟩⟩ := k23
        refine ⟨rfl, ?_⟩
        refine g_ws (ws2 := ((wX4 cI cB cJ h q t9 v_day v_x v_sales v_timesSoldOut v_soldOutToday upper_15 lower_15 money_15 soldOut_15) ++ (wX4 cI cB cJ h_om q_om v_om_told v_om_day v_om_x v_om_sales v_om_timesSoldOut v_om_soldOutToday v_om_upper v_om_lower v_om_money v_om_soldOut))) rfl ?_
        refine g_if_eq X (tgt := 77) dX4_addStalls_26 (by decide) (by omega) (fun c26 => ?_) (fun c26 => ?_)
        · refine g_iinc X (lv' := [(2, vI (x2_15 + 1)), (0, .ref h), (1, .ref h_om)]) dX4_addStalls_77 2 rfl (by decide) rfl ?_
          refine g_goto X (tgt := 15) dX4_addStalls_80 (by decide) ?_
          refine g_lv [1, 2, 0] rfl ?_
          exact ih15 (x2_15 + 1) upper_15 lower_15 money_15 soldOut_15 r_upper_15 r_lower_15 r_money_15 r_soldOut_15 (by first | assumption | omega) (by omega)
        · refine g_aload_n X dX4_addStalls_29 0 rfl ?_
          refine gX4_get X 0 rfl 1 (by decide) uw312 rfl dX4_addStalls_30 ?_
          refine g_iload_n X dX4_addStalls_33 2 rfl ?_
          refine g_aload_n X dX4_addStalls_34 1 rfl ?_
          refine gX4_get X 5 rfl 1 (by decide) uw312 rfl dX4_addStalls_35 ?_
          refine g_iload_n X dX4_addStalls_38 2 rfl ?_
          refine g_iald X 6 0 rfl rfl (by omega) (by decide) dX4_addStalls_39 (fun t39 e39 => ?_)
          have r39 := r_v_om_upper (x2_15 : Int).toNat; rw [← e39] at r39
          refine g_iast X 1 0 rfl rfl (by omega) (by decide) dX4_addStalls_40 (fun upper_40 e40 => ?_)
          have r_upper_40 : RA (-2147483648) 2147483647 upper_40 := by rw [e40]; exact RA_up r_upper_15 (by omega)
          refine g_ws (ws2 := ((wX4 cI cB cJ h q t9 v_day v_x v_sales v_timesSoldOut v_soldOutToday upper_40 lower_15 money_15 soldOut_15) ++ (wX4 cI cB cJ h_om q_om v_om_told v_om_day v_om_x v_om_sales v_om_timesSoldOut v_om_soldOutToday v_om_upper v_om_lower v_om_money v_om_soldOut))) rfl ?_
          refine g_aload_n X dX4_addStalls_41 0 rfl ?_
          refine gX4_get X 0 rfl 2 (by decide) uw315 rfl dX4_addStalls_42 ?_
          refine g_iload_n X dX4_addStalls_45 2 rfl ?_
          refine g_aload_n X dX4_addStalls_46 1 rfl ?_
          refine gX4_get X 5 rfl 2 (by decide) uw315 rfl dX4_addStalls_47 ?_
          refine g_iload_n X dX4_addStalls_50 2 rfl ?_
          refine g_iald X 7 0 rfl rfl (by omega) (by decide) dX4_addStalls_51 (fun t51 e51 => ?_)
          have r51 := r_v_om_lower (x2_15 : Int).toNat; rw [← e51] at r51
          refine g_iast X 2 0 rfl rfl (by omega) (by decide) dX4_addStalls_52 (fun lower_52 e52 => ?_)
          have r_lower_52 : RA (-2147483648) 2147483647 lower_52 := by rw [e52]; exact RA_up r_lower_15 (by omega)
          refine g_ws (ws2 := ((wX4 cI cB cJ h q t9 v_day v_x v_sales v_timesSoldOut v_soldOutToday upper_40 lower_52 money_15 soldOut_15) ++ (wX4 cI cB cJ h_om q_om v_om_told v_om_day v_om_x v_om_sales v_om_timesSoldOut v_om_soldOutToday v_om_upper v_om_lower v_om_money v_om_soldOut))) rfl ?_
          refine g_aload_n X dX4_addStalls_53 0 rfl ?_
          refine gX4_get X 0 rfl 3 (by decide) uw318 rfl dX4_addStalls_54 ?_
          refine g_iload_n X dX4_addStalls_57 2 rfl ?_
          refine g_aload_n X dX4_addStalls_58 1 rfl ?_
          refine gX4_get X 5 rfl 3 (by decide) uw318 rfl dX4_addStalls_59 ?_
          refine g_iload_n X dX4_addStalls_62 2 rfl ?_
          refine g_iald X 8 0 rfl rfl (by omega) (by decide) dX4_addStalls_63 (fun t63 e63 => ?_)
          have r63 := r_v_om_money (x2_15 : Int).toNat; rw [← e63] at r63
          refine g_iast X 3 0 rfl rfl (by omega) (by decide) dX4_addStalls_64 (fun money_64 e64 => ?_)
          have r_money_64 : RA (-2147483648) 2147483647 money_64 := by rw [e64]; exact RA_up r_money_15 (by omega)
          refine g_ws (ws2 := ((wX4 cI cB cJ h q t9 v_day v_x v_sales v_timesSoldOut v_soldOutToday upper_40 lower_52 money_64 soldOut_15) ++ (wX4 cI cB cJ h_om q_om v_om_told v_om_day v_om_x v_om_sales v_om_timesSoldOut v_om_soldOutToday v_om_upper v_om_lower v_om_money v_om_soldOut))) rfl ?_
          refine g_aload_n X dX4_addStalls_65 0 rfl ?_
          refine gX4_get X 0 rfl 4 (by decide) uw321 rfl dX4_addStalls_66 ?_
          refine g_iload_n X dX4_addStalls_69 2 rfl ?_
          refine g_aload_n X dX4_addStalls_70 1 rfl ?_
          refine gX4_get X 5 rfl 4 (by decide) uw321 rfl dX4_addStalls_71 ?_
          refine g_iload_n X dX4_addStalls_74 2 rfl ?_
          refine g_iald X 9 0 rfl rfl (by omega) (by decide) dX4_addStalls_75 (fun t75 e75 => ?_)
          have r75 := r_v_om_soldOut (x2_15 : Int).toNat; rw [← e75] at r75
          refine g_iast X 4 0 rfl rfl (by omega) (by decide) dX4_addStalls_76 (fun soldOut_76 e76 => ?_)
          have r_soldOut_76 : RA (-2147483648) 2147483647 soldOut_76 := by rw [e76]; exact RA_up r_soldOut_15 (by omega)
          refine g_ws (ws2 := ((wX4 cI cB cJ h q t9 v_day v_x v_sales v_timesSoldOut v_soldOutToday upper_40 lower_52 money_64 soldOut_76) ++ (wX4 cI cB cJ h_om q_om v_om_told v_om_day v_om_x v_om_sales v_om_timesSoldOut v_om_soldOutToday v_om_upper v_om_lower v_om_money v_om_soldOut))) rfl ?_
          refine g_iinc X (lv' := [(2, vI (x2_15 + 1)), (0, .ref h), (1, .ref h_om)]) dX4_addStalls_77 2 rfl (by decide) rfl ?_
          refine g_goto X (tgt := 15) dX4_addStalls_80 (by decide) ?_
          refine g_lv [1, 2, 0] rfl ?_
          exact ih15 (x2_15 + 1) upper_40 lower_52 money_64 soldOut_76 r_upper_40 r_lower_52 r_money_64 r_soldOut_76 (by first | assumption | omega) (by omega)
  refine g_lv [1, 2, 0] rfl ?_
  exact L15 _ 0 v_upper v_lower v_money v_soldOut r_v_upper r_v_lower r_v_money r_v_soldOut (by first | assumption | omega) (Nat.lt_succ_self _)
set_option maxHeartbeats 600000 in
set_option maxRecDepth 100000 in
theorem c_X4_takeStalls (l : Launch) (D : va_G) (cI cB cJ : ClassId) (h : Nat) (q : Nat → Nat) (h_om : Nat) (q_om : Nat → Nat) {v_told v_day v_x v_sales v_timesSoldOut v_soldOutToday v_om_told v_om_day v_om_x v_om_sales v_om_timesSoldOut v_om_soldOutToday : Int} {v_upper v_lower v_money v_soldOut v_om_upper v_om_lower v_om_money v_om_soldOut : Nat → Int} (kr_v_told : 0 ≤ v_told ∧ v_told ≤ 255) (r_v_upper : RA (-2147483648) 2147483647 v_upper) (r_v_lower : RA (-2147483648) 2147483647 v_lower) (r_v_money : RA (-2147483648) 2147483647 v_money) (r_v_soldOut : RA (-2147483648) 2147483647 v_soldOut) (kr_v_om_told : 0 ≤ v_om_told ∧ v_om_told ≤ 255) (r_v_om_upper : RA (-2147483648) 2147483647 v_om_upper) (r_v_om_lower : RA (-2147483648) 2147483647 v_om_lower) (r_v_om_money : RA (-2147483648) 2147483647 v_om_money) (r_v_om_soldOut : RA (-2147483648) 2147483647 v_om_soldOut) : CtV l yX4_takeStalls cX4_takeStalls 2 none ⟨3, 0, 0, 65⟩ D (TY cI cB cJ) ((wX4 cI cB cJ h q v_told v_day v_x v_sales v_timesSoldOut v_soldOutToday v_upper v_lower v_money v_soldOut) ++ (wX4 cI cB cJ h_om q_om v_om_told v_om_day v_om_x v_om_sales v_om_timesSoldOut v_om_soldOutToday v_om_upper v_om_lower v_om_money v_om_soldOut)) [.ref h, .ref h_om] (fun ws' => ∃ n_told : Int, ∃ n_upper : Nat → Int, ∃ n_lower : Nat → Int, ∃ n_money : Nat → Int, ∃ n_soldOut : Nat → Int, (0 ≤ n_told ∧ n_told ≤ 255) ∧ (RA (-2147483648) 2147483647 n_upper) ∧ (RA (-2147483648) 2147483647 n_lower) ∧ (RA (-2147483648) 2147483647 n_money) ∧ (RA (-2147483648) 2147483647 n_soldOut) ∧ (ws' = ((wX4 cI cB cJ h q n_told v_day v_x v_sales v_timesSoldOut v_soldOutToday n_upper n_lower n_money n_soldOut) ++ (wX4 cI cB cJ h_om q_om v_om_told v_om_day v_om_x v_om_sales v_om_timesSoldOut v_om_soldOutToday v_om_upper v_om_lower v_om_money v_om_soldOut)))) := by
  refine hdrV (own := RX4) rfl (by decide +kernel) (Nat.le_of_ble_eq_true rfl) ?_
  intro p e s m args below meth c Q A X hQ
  refine g_lvE (lv2 := [(0, .ref h), (1, .ref h_om)]) rfl ?_
  refine g_aload_n X dX4_takeStalls_0 0 rfl ?_
  refine g_callVVw X (c_X4_forgetStalls l D cI cB cJ h q  (by omega) r_v_upper r_v_lower r_v_money r_v_soldOut) [0, 1, 2, 3, 4] rfl rfl rfl cv_X4_forgetStalls uw673 ⟨rfl, rfl, by decide, by decide⟩ 0 rfl rfl rfl rfl rfl (Nat.le_of_ble_eq_true rfl) ⟨Nat.zero_le _, Nat.zero_le _⟩ dX4_takeStalls_1 (fun ws1 k1 => ?_)
  obtain ⟨told_1, upper_1, lower_1, money_1, soldOut_1, kr_told_1, r_upper_1, r_lower_1, r_money_1, r_soldOut_1, kp0_1, rfl⟩ := k1
  refine ⟨rfl, ?_⟩
  refine g_ws (ws2 := ((wX4 cI cB cJ h q told_1 v_day v_x v_sales v_timesSoldOut v_soldOutToday upper_1 lower_1 money_1 soldOut_1) ++ (wX4 cI cB cJ h_om q_om v_om_told v_om_day v_om_x v_om_sales v_om_timesSoldOut v_om_soldOutToday v_om_upper v_om_lower v_om_money v_om_soldOut))) rfl ?_
  refine g_aload_n X dX4_takeStalls_4 0 rfl ?_
  refine g_aload_n X dX4_takeStalls_5 1 rfl ?_
  refine g_callVV0 X (c_X4_addStalls l D cI cB cJ h q h_om q_om  (by omega) r_upper_1 r_lower_1 r_money_1 r_soldOut_1 (by omega) r_v_om_upper r_v_om_lower r_v_om_money r_v_om_soldOut) cv_X4_addStalls uw708 ⟨rfl, rfl, by decide, by decide⟩ 0 rfl rfl rfl rfl rfl (Nat.le_of_ble_eq_true rfl) ⟨Nat.zero_le _, Nat.zero_le _⟩ dX4_takeStalls_6 (fun ws6 k6 => ?_)
  obtain ⟨told_6, upper_6, lower_6, money_6, soldOut_6, kr_told_6, r_upper_6, r_lower_6, r_money_6, r_soldOut_6, rfl⟩ := k6
  exact hQ _ _ _ dX4_takeStalls_9 ⟨told_6, upper_6, lower_6, money_6, soldOut_6, (by omega), r_upper_6, r_lower_6, r_money_6, r_soldOut_6, rfl⟩
set_option maxHeartbeats 600000 in
set_option maxRecDepth 100000 in
theorem c_X4_takeBack (l : Launch) (D : va_G) (cI cB cJ : ClassId) (h : Nat) (q : Nat → Nat) (h_om : Nat) (q_om : Nat → Nat) {v_told v_day v_x v_sales v_timesSoldOut v_soldOutToday v_om_told v_om_day v_om_x v_om_sales v_om_timesSoldOut v_om_soldOutToday : Int} {v_upper v_lower v_money v_soldOut v_om_upper v_om_lower v_om_money v_om_soldOut : Nat → Int} (kr_v_told : 0 ≤ v_told ∧ v_told ≤ 255) (kr_v_day : 0 ≤ v_day ∧ v_day ≤ 9999) (kr_v_x : 0 ≤ v_x ∧ v_x ≤ 65535) (r_v_upper : RA (-2147483648) 2147483647 v_upper) (r_v_lower : RA (-2147483648) 2147483647 v_lower) (r_v_money : RA (-2147483648) 2147483647 v_money) (r_v_soldOut : RA (-2147483648) 2147483647 v_soldOut) (kr_v_om_told : 0 ≤ v_om_told ∧ v_om_told ≤ 255) (kr_v_om_day : 0 ≤ v_om_day ∧ v_om_day ≤ 9999) (kr_v_om_x : 0 ≤ v_om_x ∧ v_om_x ≤ 65535) (r_v_om_upper : RA (-2147483648) 2147483647 v_om_upper) (r_v_om_lower : RA (-2147483648) 2147483647 v_om_lower) (r_v_om_money : RA (-2147483648) 2147483647 v_om_money) (r_v_om_soldOut : RA (-2147483648) 2147483647 v_om_soldOut) : CtV l yX4_takeBack cX4_takeBack 2 none ⟨3, 0, 0, 65⟩ D (TY cI cB cJ) ((wX4 cI cB cJ h q v_told v_day v_x v_sales v_timesSoldOut v_soldOutToday v_upper v_lower v_money v_soldOut) ++ (wX4 cI cB cJ h_om q_om v_om_told v_om_day v_om_x v_om_sales v_om_timesSoldOut v_om_soldOutToday v_om_upper v_om_lower v_om_money v_om_soldOut)) [.ref h, .ref h_om] (fun ws' => ∃ n_told : Int, ∃ n_day : Int, ∃ n_x : Int, ∃ n_upper : Nat → Int, ∃ n_lower : Nat → Int, ∃ n_money : Nat → Int, ∃ n_soldOut : Nat → Int, (0 ≤ n_told ∧ n_told ≤ 255) ∧ (0 ≤ n_day ∧ n_day ≤ 9999) ∧ (0 ≤ n_x ∧ n_x ≤ 65535) ∧ (RA (-2147483648) 2147483647 n_upper) ∧ (RA (-2147483648) 2147483647 n_lower) ∧ (RA (-2147483648) 2147483647 n_money) ∧ (RA (-2147483648) 2147483647 n_soldOut) ∧ (n_day = v_om_day) ∧ (ws' = ((wX4 cI cB cJ h q n_told n_day n_x v_sales v_timesSoldOut v_soldOutToday n_upper n_lower n_money n_soldOut) ++ (wX4 cI cB cJ h_om q_om v_om_told v_om_day v_om_x v_om_sales v_om_timesSoldOut v_om_soldOutToday v_om_upper v_om_lower v_om_money v_om_soldOut)))) := by
  refine hdrV (own := RX4) rfl (by decide +kernel) (Nat.le_of_ble_eq_true rfl) ?_
  intro p e s m args below meth c Q A X hQ
  refine g_lvE (lv2 := [(0, .ref h), (1, .ref h_om)]) rfl ?_
  refine g_aload_n X dX4_takeBack_0 0 rfl ?_
  refine g_aload_n X dX4_takeBack_1 1 rfl ?_
  refine g_callVV0 X (c_X4_addStalls l D cI cB cJ h q h_om q_om  (by omega) r_v_upper r_v_lower r_v_money r_v_soldOut (by omega) r_v_om_upper r_v_om_lower r_v_om_money r_v_om_soldOut) cv_X4_addStalls uw708 ⟨rfl, rfl, by decide, by decide⟩ 0 rfl rfl rfl rfl rfl (Nat.le_of_ble_eq_true rfl) ⟨Nat.zero_le _, Nat.zero_le _⟩ dX4_takeBack_2 (fun ws2 k2 => ?_)
  obtain ⟨told_2, upper_2, lower_2, money_2, soldOut_2, kr_told_2, r_upper_2, r_lower_2, r_money_2, r_soldOut_2, rfl⟩ := k2
  refine g_aload_n X dX4_takeBack_5 0 rfl ?_
  refine g_aload_n X dX4_takeBack_6 1 rfl ?_
  refine gX4_get X 5 rfl 5 (by decide) uw324 rfl dX4_takeBack_7 ?_
  refine gX4_put X 0 rfl 5 (by decide) uw324 rfl rfl rfl (Nat.le_of_ble_eq_true rfl) dX4_takeBack_10 (ws2 := ((wX4 cI cB cJ h q told_2 v_om_day v_x v_sales v_timesSoldOut v_soldOutToday upper_2 lower_2 money_2 soldOut_2) ++ (wX4 cI cB cJ h_om q_om v_om_told v_om_day v_om_x v_om_sales v_om_timesSoldOut v_om_soldOutToday v_om_upper v_om_lower v_om_money v_om_soldOut))) rfl ?_
  refine g_aload_n X dX4_takeBack_13 0 rfl ?_
  refine g_aload_n X dX4_takeBack_14 1 rfl ?_
  refine gX4_get X 5 rfl 6 (by decide) uw327 rfl dX4_takeBack_15 ?_
  refine gX4_put X 0 rfl 6 (by decide) uw327 rfl rfl rfl (Nat.le_of_ble_eq_true rfl) dX4_takeBack_18 (ws2 := ((wX4 cI cB cJ h q told_2 v_om_day v_om_x v_sales v_timesSoldOut v_soldOutToday upper_2 lower_2 money_2 soldOut_2) ++ (wX4 cI cB cJ h_om q_om v_om_told v_om_day v_om_x v_om_sales v_om_timesSoldOut v_om_soldOutToday v_om_upper v_om_lower v_om_money v_om_soldOut))) rfl ?_
  exact hQ _ _ _ dX4_takeBack_21 ⟨told_2, v_om_day, v_om_x, upper_2, lower_2, money_2, soldOut_2, (by omega), (by omega), (by omega), r_upper_2, r_lower_2, r_money_2, r_soldOut_2, (by first | assumption | omega), rfl⟩
set_option maxHeartbeats 600000 in
set_option maxRecDepth 100000 in
theorem c_X4_takeAll (l : Launch) (D : va_G) (cI cB cJ : ClassId) (h : Nat) (q : Nat → Nat) (h_om : Nat) (q_om : Nat → Nat) {v_told v_day v_x v_sales v_timesSoldOut v_soldOutToday v_om_told v_om_day v_om_x v_om_sales v_om_timesSoldOut v_om_soldOutToday : Int} {v_upper v_lower v_money v_soldOut v_om_upper v_om_lower v_om_money v_om_soldOut : Nat → Int} (kr_v_told : 0 ≤ v_told ∧ v_told ≤ 255) (kr_v_day : 0 ≤ v_day ∧ v_day ≤ 9999) (kr_v_x : 0 ≤ v_x ∧ v_x ≤ 65535) (r_v_upper : RA (-2147483648) 2147483647 v_upper) (r_v_lower : RA (-2147483648) 2147483647 v_lower) (r_v_money : RA (-2147483648) 2147483647 v_money) (r_v_soldOut : RA (-2147483648) 2147483647 v_soldOut) (kr_v_om_told : 0 ≤ v_om_told ∧ v_om_told ≤ 255) (kr_v_om_day : 0 ≤ v_om_day ∧ v_om_day ≤ 9999) (kr_v_om_x : 0 ≤ v_om_x ∧ v_om_x ≤ 65535) (r_v_om_upper : RA (-2147483648) 2147483647 v_om_upper) (r_v_om_lower : RA (-2147483648) 2147483647 v_om_lower) (r_v_om_money : RA (-2147483648) 2147483647 v_om_money) (r_v_om_soldOut : RA (-2147483648) 2147483647 v_om_soldOut) : CtV l yX4_takeAll cX4_takeAll 2 none ⟨4, 0, 0, 86⟩ D (TY cI cB cJ) ((wX4 cI cB cJ h q v_told v_day v_x v_sales v_timesSoldOut v_soldOutToday v_upper v_lower v_money v_soldOut) ++ (wX4 cI cB cJ h_om q_om v_om_told v_om_day v_om_x v_om_sales v_om_timesSoldOut v_om_soldOutToday v_om_upper v_om_lower v_om_money v_om_soldOut)) [.ref h, .ref h_om] (fun ws' => ∃ n_told : Int, ∃ n_day : Int, ∃ n_x : Int, ∃ n_upper : Nat → Int, ∃ n_lower : Nat → Int, ∃ n_money : Nat → Int, ∃ n_soldOut : Nat → Int, (0 ≤ n_told ∧ n_told ≤ 255) ∧ (0 ≤ n_day ∧ n_day ≤ 9999) ∧ (0 ≤ n_x ∧ n_x ≤ 65535) ∧ (RA (-2147483648) 2147483647 n_upper) ∧ (RA (-2147483648) 2147483647 n_lower) ∧ (RA (-2147483648) 2147483647 n_money) ∧ (RA (-2147483648) 2147483647 n_soldOut) ∧ (n_day = v_om_day) ∧ (ws' = ((wX4 cI cB cJ h q n_told n_day n_x v_sales v_timesSoldOut v_soldOutToday n_upper n_lower n_money n_soldOut) ++ (wX4 cI cB cJ h_om q_om v_om_told v_om_day v_om_x v_om_sales v_om_timesSoldOut v_om_soldOutToday v_om_upper v_om_lower v_om_money v_om_soldOut)))) := by
  refine hdrV (own := RX4) rfl (by decide +kernel) (Nat.le_of_ble_eq_true rfl) ?_
  intro p e s m args below meth c Q A X hQ
  refine g_lvE (lv2 := [(0, .ref h), (1, .ref h_om)]) rfl ?_
  refine g_aload_n X dX4_takeAll_0 0 rfl ?_
  refine g_callVVw X (c_X4_forgetStalls l D cI cB cJ h q  (by omega) r_v_upper r_v_lower r_v_money r_v_soldOut) [0, 1, 2, 3, 4] rfl rfl rfl cv_X4_forgetStalls uw673 ⟨rfl, rfl, by decide, by decide⟩ 0 rfl rfl rfl rfl rfl (Nat.le_of_ble_eq_true rfl) ⟨Nat.zero_le _, Nat.zero_le _⟩ dX4_takeAll_1 (fun ws1 k1 => ?_)
  obtain ⟨told_1, upper_1, lower_1, money_1, soldOut_1, kr_told_1, r_upper_1, r_lower_1, r_money_1, r_soldOut_1, kp0_1, rfl⟩ := k1
  refine ⟨rfl, ?_⟩
  refine g_ws (ws2 := ((wX4 cI cB cJ h q told_1 v_day v_x v_sales v_timesSoldOut v_soldOutToday upper_1 lower_1 money_1 soldOut_1) ++ (wX4 cI cB cJ h_om q_om v_om_told v_om_day v_om_x v_om_sales v_om_timesSoldOut v_om_soldOutToday v_om_upper v_om_lower v_om_money v_om_soldOut))) rfl ?_
  refine g_aload_n X dX4_takeAll_4 0 rfl ?_
  refine g_aload_n X dX4_takeAll_5 1 rfl ?_
  refine g_callVV0 X (c_X4_takeBack l D cI cB cJ h q h_om q_om  (by omega) (by omega) (by omega) r_upper_1 r_lower_1 r_money_1 r_soldOut_1 (by omega) (by omega) (by omega) r_v_om_upper r_v_om_lower r_v_om_money r_v_om_soldOut) cv_X4_takeBack uw1121 ⟨rfl, rfl, by decide, by decide⟩ 0 rfl rfl rfl rfl rfl (Nat.le_of_ble_eq_true rfl) ⟨Nat.zero_le _, Nat.zero_le _⟩ dX4_takeAll_6 (fun ws6 k6 => ?_)
  obtain ⟨told_6, day_6, x_6, upper_6, lower_6, money_6, soldOut_6, kr_told_6, kr_day_6, kr_x_6, r_upper_6, r_lower_6, r_money_6, r_soldOut_6, kp0_6, rfl⟩ := k6
  exact hQ _ _ _ dX4_takeAll_9 ⟨told_6, day_6, x_6, upper_6, lower_6, money_6, soldOut_6, (by omega), (by omega), (by omega), r_upper_6, r_lower_6, r_money_6, r_soldOut_6, (by first | assumption | omega), rfl⟩
set_option maxHeartbeats 600000 in
set_option maxRecDepth 100000 in
theorem c_X4_readStall (l : Launch) (D : va_G) (cI cB cJ : ClassId) (h : Nat) (q : Nat → Nat) (h_tp : Nat) (q_tp : Nat → Nat) {v_told v_day v_x v_sales v_timesSoldOut v_soldOutToday v_tp_length v_tp_end v_tp_at v_tp_fault v_tp_faultAt : Int} {v_upper v_lower v_money v_soldOut v_tp_bytes v_tp_taken : Nat → Int} (kr_v_told : 0 ≤ v_told ∧ v_told ≤ 255) (r_v_upper : RA (-2147483648) 2147483647 v_upper) (r_v_lower : RA (-2147483648) 2147483647 v_lower) (kr_v_tp_end : 0 ≤ v_tp_end ∧ v_tp_end ≤ 260) (kr_v_tp_at : 0 ≤ v_tp_at ∧ v_tp_at ≤ 260) (kr_v_tp_fault : 0 ≤ v_tp_fault ∧ v_tp_fault ≤ 8) (kr_v_tp_faultAt : 0 ≤ v_tp_faultAt ∧ v_tp_faultAt ≤ 260) (r_v_tp_bytes : RA 0 255 v_tp_bytes) (hp0 : v_tp_at ≤ v_tp_end) : CtV l yX4_readStall cX4_readStall 7 none ⟨2, 0, 0, 45⟩ D (TY cI cB cJ) ((wX4 cI cB cJ h q v_told v_day v_x v_sales v_timesSoldOut v_soldOutToday v_upper v_lower v_money v_soldOut) ++ (wX7 cI cB cJ h_tp q_tp v_tp_length v_tp_end v_tp_at v_tp_fault v_tp_faultAt v_tp_bytes v_tp_taken)) [.ref h, .ref h_tp] (fun ws' => ∃ n_told : Int, ∃ n_upper : Nat → Int, ∃ n_lower : Nat → Int, ∃ n_tp_at : Int, ∃ n_tp_fault : Int, ∃ n_tp_faultAt : Int, (0 ≤ n_told ∧ n_told ≤ 255) ∧ (RA (-2147483648) 2147483647 n_upper) ∧ (RA (-2147483648) 2147483647 n_lower) ∧ (0 ≤ n_tp_at ∧ n_tp_at ≤ 260) ∧ (0 ≤ n_tp_fault ∧ n_tp_fault ≤ 8) ∧ (0 ≤ n_tp_faultAt ∧ n_tp_faultAt ≤ 260) ∧ (n_tp_at ≤ v_tp_end) ∧ (TG v_tp_fault v_tp_faultAt v_tp_at n_tp_fault n_tp_faultAt n_tp_at (stC (sgP v_tp_end v_tp_bytes) v_told v_tp_at) (stQ (sgP v_tp_end v_tp_bytes) v_tp_at)) ∧ (tdT (sgP v_tp_end v_tp_bytes) v_tp_fault n_tp_fault v_told n_told v_tp_at) ∧ (n_tp_fault ≠ 0 → n_told = v_told) ∧ (ws' = ((wX4 cI cB cJ h q n_told v_day v_x v_sales v_timesSoldOut v_soldOutToday n_upper n_lower v_money v_soldOut) ++ (wX7 cI cB cJ h_tp q_tp v_tp_length v_tp_end n_tp_at n_tp_fault n_tp_faultAt v_tp_bytes v_tp_taken)))) := by
  refine hdrV (own := RX4) rfl (by decide +kernel) (Nat.le_of_ble_eq_true rfl) ?_
  intro p e s m args below meth c Q A X hQ
  refine g_lvE (lv2 := [(0, .ref h), (1, .ref h_tp)]) rfl ?_
  refine g_aload_n X dX4_readStall_0 1 rfl ?_
  refine gN_get X (T := TX7) 5 rfl rfl inU_X7 4 (by decide) nw139 rfl rfl dX4_readStall_1 ?_
  refine g_istore_n X (lv' := [(2, vI v_tp_at), (0, .ref h), (1, .ref h_tp)]) dX4_readStall_4 (by decide) rfl ?_
  refine g_aload_n X dX4_readStall_5 2 rfl ?_
  refine g_bipush X (z := 48) dX4_readStall_6 (by decide) ?_
  refine g_bipush X (z := 8) dX4_readStall_8 (by decide) ?_
  refine g_callVIw X (c_X7_oneOf l D cI cB cJ h_tp q_tp (p0 := 48) (p1 := 8) (by omega) (by omega) (by omega) (by omega) r_v_tp_bytes (by first | assumption | omega) (by first | assumption | omega) (by first | assumption | omega) (by first | assumption | omega) (by first | assumption | omega)) [5, 6, 7] rfl rfl rfl cv_X7_oneOf uw683 ⟨rfl, rfl, by decide, by decide⟩ 0 rfl rfl rfl rfl rfl (Nat.le_of_ble_eq_true rfl) ⟨Nat.zero_le _, Nat.zero_le _⟩ dX4_readStall_10 (fun t10 ws10 k10 => ?_)
  obtain ⟨tp_at_10, tp_fault_10, tp_faultAt_10, kr_tp_at_10, kr_tp_fault_10, kr_tp_faultAt_10, kp0_10, kp1_10, kp2_10, kp3_10, kp4_10, kp5_10, kp6_10, rfl⟩ := k10
  refine ⟨rfl, ?_⟩
  refine g_ws (ws2 := ((wX4 cI cB cJ h q v_told v_day v_x v_sales v_timesSoldOut v_soldOutToday v_upper v_lower v_money v_soldOut) ++ (wX7 cI cB cJ h_tp q_tp v_tp_length v_tp_end tp_at_10 tp_fault_10 tp_faultAt_10 v_tp_bytes v_tp_taken))) rfl ?_
  refine g_istore_n X (lv' := [(3, vI t10), (2, vI v_tp_at), (0, .ref h), (1, .ref h_tp)]) dX4_readStall_13 (by decide) rfl ?_
  refine g_aload_n X dX4_readStall_14 2 rfl ?_
  refine g_iload_n X dX4_readStall_15 0 rfl ?_
  refine g_callVIw X (c_X4_isTold l D cI cB cJ h q (p0 := t10) (by omega) (by first | assumption | omega)) [0, 1, 2, 3, 4] rfl rfl rfl cv_X4_isTold uw684 ⟨rfl, rfl, by decide, by decide⟩ 0 rfl rfl rfl rfl rfl (Nat.le_of_ble_eq_true rfl) ⟨Nat.zero_le _, Nat.zero_le _⟩ dX4_readStall_16 (fun t16 ws16 k16 => ?_)
  obtain ⟨kb_16, ⟨kp0_16, rfl⟩⟩ := k16
  refine ⟨rfl, ?_⟩
  refine g_ws (ws2 := ((wX4 cI cB cJ h q v_told v_day v_x v_sales v_timesSoldOut v_soldOutToday v_upper v_lower v_money v_soldOut) ++ (wX7 cI cB cJ h_tp q_tp v_tp_length v_tp_end tp_at_10 tp_fault_10 tp_faultAt_10 v_tp_bytes v_tp_taken))) rfl ?_
  refine g_if_eq X (tgt := 29) dX4_readStall_19 (by decide) (by omega) (fun c19 => ?_) (fun c19 => ?_)
  · clear kb_16
    replace kp0_16 := (kp0_16.resolve_left (fun h => absurd h.1 (by omega))).2
    have hT2 : TG v_tp_fault v_tp_faultAt v_tp_at tp_fault_10 tp_faultAt_10 tp_at_10 (st1 (sgP v_tp_end v_tp_bytes) v_told v_tp_at) (v_tp_at + 1) := TG.trans (fun _ => tdC v_told (sgP v_tp_end v_tp_bytes v_tp_at - 48) v_tp_at) (fun v_x => v_x) kp5_10 (by first | exact TG.k _ kp1_26 (fun h => by rw [(kp6_10 h).2] at kp0_16; have h3 := tdC_e v_told (sgP v_tp_end v_tp_bytes v_tp_at - 48) v_tp_at; omega) | exact TG.k _ (TG.id0 _ _ _) (fun h => by have h4 := kp6_10 h; have h5 := kp1_10 h; rw [h4.2] at kp0_16 h5; have h3 := tdC_e v_told (sgP v_tp_end v_tp_bytes v_tp_at - 48) v_tp_at; omega))
    refine g_aload_n X dX4_readStall_29 3 rfl ?_
    refine g_bipush X (z := 58) dX4_readStall_30 (by decide) ?_
    refine g_callVVw X (c_X7_pass l D cI cB cJ h_tp q_tp (p0 := 58) (by omega) (by omega) (by omega) (by omega) r_v_tp_bytes (by first | assumption | omega) (by first | assumption | omega) (by first | assumption | omega)) [5, 6, 7] rfl rfl rfl cv_X7_pass uw693 ⟨rfl, rfl, by decide, by decide⟩ 0 rfl rfl rfl rfl rfl (Nat.le_of_ble_eq_true rfl) ⟨Nat.zero_le _, Nat.zero_le _⟩ dX4_readStall_32 (fun ws32 k32 => ?_)
    obtain ⟨tp_at_32, tp_fault_32, tp_faultAt_32, kr_tp_at_32, kr_tp_fault_32, kr_tp_faultAt_32, kp0_32, kp1_32, kp2_32, kp3_32, rfl⟩ := k32
    refine ⟨rfl, ?_⟩
    refine g_ws (ws2 := ((wX4 cI cB cJ h q v_told v_day v_x v_sales v_timesSoldOut v_soldOutToday v_upper v_lower v_money v_soldOut) ++ (wX7 cI cB cJ h_tp q_tp v_tp_length v_tp_end tp_at_32 tp_fault_32 tp_faultAt_32 v_tp_bytes v_tp_taken))) rfl ?_
    refine g_aload_n X dX4_readStall_35 3 rfl ?_
    refine g_iconst X dX4_readStall_36 ?_
    refine g_callVIw X (c_X7_number l D cI cB cJ h_tp q_tp (p0 := 4) (by omega) (by omega) (by omega) (by omega) r_v_tp_bytes (by first | assumption | omega) (by first | assumption | omega) (by first | assumption | omega)) [5, 6, 7] rfl rfl rfl cv_X7_number uw694 ⟨rfl, rfl, by decide, by decide⟩ 0 rfl rfl rfl rfl rfl (Nat.le_of_ble_eq_true rfl) ⟨Nat.zero_le _, Nat.zero_le _⟩ dX4_readStall_37 (fun t37 ws37 k37 => ?_)
    obtain ⟨tp_at_37, tp_fault_37, tp_faultAt_37, kr_tp_at_37, kr_tp_fault_37, kr_tp_faultAt_37, kp0_37, kp1_37, kp2_37, kp3_37, kp4_37, kp5_37, kp6_37, kp7_37, rfl⟩ := k37
    refine ⟨rfl, ?_⟩
    refine g_ws (ws2 := ((wX4 cI cB cJ h q v_told v_day v_x v_sales v_timesSoldOut v_soldOutToday v_upper v_lower v_money v_soldOut) ++ (wX7 cI cB cJ h_tp q_tp v_tp_length v_tp_end tp_at_37 tp_fault_37 tp_faultAt_37 v_tp_bytes v_tp_taken))) rfl ?_
    refine g_istore X (lv' := [(4, vI t37), (3, vI t10), (2, vI v_tp_at), (0, .ref h), (1, .ref h_tp)]) dX4_readStall_40 (by decide) rfl ?_
    refine g_aload_n X dX4_readStall_42 4 rfl ?_
    refine g_bipush X (z := 45) dX4_readStall_43 (by decide) ?_
    refine g_callVVw X (c_X7_pass l D cI cB cJ h_tp q_tp (p0 := 45) (by omega) (by omega) (by omega) (by omega) r_v_tp_bytes (by first | assumption | omega) (by first | assumption | omega) (by first | assumption | omega)) [5, 6, 7] rfl rfl rfl cv_X7_pass uw693 ⟨rfl, rfl, by decide, by decide⟩ 0 rfl rfl rfl rfl rfl (Nat.le_of_ble_eq_true rfl) ⟨Nat.zero_le _, Nat.zero_le _⟩ dX4_readStall_45 (fun ws45 k45 => ?_)
    obtain ⟨tp_at_45, tp_fault_45, tp_faultAt_45, kr_tp_at_45, kr_tp_fault_45, kr_tp_faultAt_45, kp0_45, kp1_45, kp2_45, kp3_45, rfl⟩ := k45
    refine ⟨rfl, ?_⟩
    refine g_ws (ws2 := ((wX4 cI cB cJ h q v_told v_day v_x v_sales v_timesSoldOut v_soldOutToday v_upper v_lower v_money v_soldOut) ++ (wX7 cI cB cJ h_tp q_tp v_tp_length v_tp_end tp_at_45 tp_fault_45 tp_faultAt_45 v_tp_bytes v_tp_taken))) rfl ?_
    refine g_aload_n X dX4_readStall_48 4 rfl ?_
    refine gN_get X (T := TX7) 5 rfl rfl inU_X7 4 (by decide) nw139 rfl rfl dX4_readStall_49 ?_
    refine g_istore X (lv' := [(5, vI tp_at_45), (4, vI t37), (3, vI t10), (2, vI v_tp_at), (0, .ref h), (1, .ref h_tp)]) dX4_readStall_52 (by decide) rfl ?_
    refine g_aload_n X dX4_readStall_54 5 rfl ?_
    refine g_iconst X dX4_readStall_55 ?_
    refine g_callVIw X (c_X7_number l D cI cB cJ h_tp q_tp (p0 := 4) (by omega) (by omega) (by omega) (by omega) r_v_tp_bytes (by first | assumption | omega) (by first | assumption | omega) (by first | assumption | omega)) [5, 6, 7] rfl rfl rfl cv_X7_number uw694 ⟨rfl, rfl, by decide, by decide⟩ 0 rfl rfl rfl rfl rfl (Nat.le_of_ble_eq_true rfl) ⟨Nat.zero_le _, Nat.zero_le _⟩ dX4_readStall_56 (fun t56 ws56 k56 => ?_)
    obtain ⟨tp_at_56, tp_fault_56, tp_faultAt_56, kr_tp_at_56, kr_tp_fault_56, kr_tp_faultAt_56, kp0_56, kp1_56, kp2_56, kp3_56, kp4_56, kp5_56, kp6_56, kp7_56, rfl⟩ := k56
    refine ⟨rfl, ?_⟩
    refine g_ws (ws2 := ((wX4 cI cB cJ h q v_told v_day v_x v_sales v_timesSoldOut v_soldOutToday v_upper v_lower v_money v_soldOut) ++ (wX7 cI cB cJ h_tp q_tp v_tp_length v_tp_end tp_at_56 tp_fault_56 tp_faultAt_56 v_tp_bytes v_tp_taken))) rfl ?_
    refine g_istore X (lv' := [(6, vI t56), (5, vI tp_at_45), (4, vI t37), (3, vI t10), (2, vI v_tp_at), (0, .ref h), (1, .ref h_tp)]) dX4_readStall_59 (by decide) rfl ?_
    refine g_iload X dX4_readStall_61 0 rfl ?_
    refine g_iload X dX4_readStall_63 2 rfl ?_
    refine g_icmp_le X (tgt := 75) dX4_readStall_65 (by decide) (by omega) (by omega) (fun c65 => ?_) (fun c65 => ?_)
    · have hT3 : TG v_tp_fault v_tp_faultAt v_tp_at tp_fault_32 tp_faultAt_32 tp_at_32 (st2 (sgP v_tp_end v_tp_bytes) v_told v_tp_at) (v_tp_at + 1 + 1) := TG.trans (psC (sgP v_tp_end v_tp_bytes) 58) (fun v_x => v_x + 1) hT2 kp3_32
      have hT4 : TG v_tp_fault v_tp_faultAt v_tp_at tp_fault_37 tp_faultAt_37 tp_at_37 (st3 (sgP v_tp_end v_tp_bytes) v_told v_tp_at) (sQ2 (sgP v_tp_end v_tp_bytes) v_tp_at) := TG.trans (aC (sgP v_tp_end v_tp_bytes) 4) (aQ (sgP v_tp_end v_tp_bytes) 4) hT3 kp6_37
      have hT5 : TG v_tp_fault v_tp_faultAt v_tp_at tp_fault_45 tp_faultAt_45 tp_at_45 (st4 (sgP v_tp_end v_tp_bytes) v_told v_tp_at) (sQ2 (sgP v_tp_end v_tp_bytes) v_tp_at + 1) := TG.trans (psC (sgP v_tp_end v_tp_bytes) 45) (fun v_x => v_x + 1) hT4 kp3_45
      have hT6 : TG v_tp_fault v_tp_faultAt v_tp_at tp_fault_56 tp_faultAt_56 tp_at_56 (st5 (sgP v_tp_end v_tp_bytes) v_told v_tp_at) (stQ (sgP v_tp_end v_tp_bytes) v_tp_at) := TG.trans (aC (sgP v_tp_end v_tp_bytes) 4) (aQ (sgP v_tp_end v_tp_bytes) 4) hT5 kp6_56
      have hZ : tp_fault_56 = 0 → t37 = aV (sgP v_tp_end v_tp_bytes) 4 (v_tp_at + 1 + 1) ∧ t56 = aV (sgP v_tp_end v_tp_bytes) 4 (sQ2 (sgP v_tp_end v_tp_bytes) v_tp_at + 1) ∧ tp_at_45 = sQ2 (sgP v_tp_end v_tp_bytes) v_tp_at + 1 := fun h => by have h1 := kp7_56 h; have h2 := TG.at0 kp3_45 h1.1; have h3 := kp7_37 h2.1; have h4 := TG.at0 hT3 h3.1; have h5 := TG.at0 hT5 h1.1; exact ⟨h3.2.trans (congrArg _ h4.2.2), h1.2.trans (congrArg _ h5.2.2), h5.2.2⟩
      have hT7 : TG v_tp_fault v_tp_faultAt v_tp_at tp_fault_56 tp_faultAt_56 tp_at_56 (stC (sgP v_tp_end v_tp_bytes) v_told v_tp_at) (stQ (sgP v_tp_end v_tp_bytes) v_tp_at) := TG.trans (fun _ => ltC (aV (sgP v_tp_end v_tp_bytes) 4 (v_tp_at + 1 + 1)) (aV (sgP v_tp_end v_tp_bytes) 4 (sQ2 (sgP v_tp_end v_tp_bytes) v_tp_at + 1)) (sQ2 (sgP v_tp_end v_tp_bytes) v_tp_at + 1)) (fun v_x => v_x) hT6 (by first | exact TG.k _ kp1_72 (fun h => by have h1 := hZ h; have h2 := ltC_e (aV (sgP v_tp_end v_tp_bytes) 4 (v_tp_at + 1 + 1)) (aV (sgP v_tp_end v_tp_bytes) 4 (sQ2 (sgP v_tp_end v_tp_bytes) v_tp_at + 1)) (sQ2 (sgP v_tp_end v_tp_bytes) v_tp_at + 1); omega) | exact TG.k _ (TG.id0 _ _ _) (fun h => by have h1 := hZ h; have h2 := ltC_e (aV (sgP v_tp_end v_tp_bytes) 4 (v_tp_at + 1 + 1)) (aV (sgP v_tp_end v_tp_bytes) 4 (sQ2 (sgP v_tp_end v_tp_bytes) v_tp_at + 1)) (sQ2 (sgP v_tp_end v_tp_bytes) v_tp_at + 1); omega))
      refine g_aload_n X dX4_readStall_75 6 rfl ?_
      refine g_callVIw X (c_X7_hasFailed l D cI cB cJ h_tp q_tp  (by omega)) [5, 6, 7] rfl rfl rfl cv_X7_hasFailed uw695 ⟨rfl, rfl, by decide, by decide⟩ 0 rfl rfl rfl rfl rfl (Nat.le_of_ble_eq_true rfl) ⟨Nat.zero_le _, Nat.zero_le _⟩ dX4_readStall_76 (fun t76 ws76 k76 => ?_)
      obtain ⟨kb_76, ⟨kp0_76, rfl⟩⟩ := k76
      refine ⟨rfl, ?_⟩
      refine g_ws (ws2 := ((wX4 cI cB cJ h q v_told v_day v_x v_sales v_timesSoldOut v_soldOutToday v_upper v_lower v_money v_soldOut) ++ (wX7 cI cB cJ h_tp q_tp v_tp_length v_tp_end tp_at_56 tp_fault_56 tp_faultAt_56 v_tp_bytes v_tp_taken))) rfl ?_
      refine g_if_ne X (tgt := 110) dX4_readStall_79 (by decide) (by omega) (fun c79 => ?_) (fun c79 => ?_)
      · replace kb_76 := kb_76.resolve_left (fun h => c79 h)
        replace kp0_76 := kp0_76.resolve_right (fun h => c79 h.1)
        exact hQ _ _ _ dX4_readStall_110 ⟨v_told, v_upper, v_lower, tp_at_56, tp_fault_56, tp_faultAt_56, (by omega), r_v_upper, r_v_lower, (by omega), (by omega), (by omega), (by first | assumption | omega), (by exact hT7), (by first | exact fun h => ⟨hk2.1, by rw [e90, e89, hk2.2]; rfl⟩ | exact fun h => absurd h (by omega)), (by intro h; first | rfl | (exfalso; omega)), rfl⟩
      · clear kb_76
        replace kp0_76 := (kp0_76.resolve_left (fun h => absurd h.1 (by omega))).2
        have hk : tp_fault_10 = 0 := by omega
        have hk2 := kp6_10 hk
        have hk3 := kp1_10 hk
        refine g_aload_n X dX4_readStall_82 5 rfl ?_
        refine g_dup X rfl dX4_readStall_83 ?_
        refine gX4_get X 0 rfl 0 (by decide) uw310 rfl dX4_readStall_84 ?_
        refine g_iconst X dX4_readStall_87 ?_
        refine g_iload_n X dX4_readStall_88 3 rfl ?_
        refine g_ishl X dX4_readStall_89 ?_
        refine g_nm (fun t89 e89 => ?_)
        have r89 := z_shl1_7 t10 (by omega); rw [← e89] at r89
        refine g_ior X dX4_readStall_90 ?_
        refine g_nm (fun t90 e90 => ?_)
        have r90 := z_ior_255 v_told t89 (by omega) (by omega); rw [← e90] at r90
        refine gX4_put X 0 rfl 0 (by decide) uw310 rfl rfl rfl (Nat.le_of_ble_eq_true rfl) dX4_readStall_91 (ws2 := ((wX4 cI cB cJ h q t90 v_day v_x v_sales v_timesSoldOut v_soldOutToday v_upper v_lower v_money v_soldOut) ++ (wX7 cI cB cJ h_tp q_tp v_tp_length v_tp_end tp_at_56 tp_fault_56 tp_faultAt_56 v_tp_bytes v_tp_taken))) rfl ?_
        refine g_aload_n X dX4_readStall_94 5 rfl ?_
        refine gX4_get X 0 rfl 1 (by decide) uw312 rfl dX4_readStall_95 ?_
        refine g_iload_n X dX4_readStall_98 3 rfl ?_
        refine g_iload X dX4_readStall_99 2 rfl ?_
        refine g_iast X 1 0 rfl rfl (by omega) (by decide) dX4_readStall_101 (fun upper_101 e101 => ?_)
        have r_upper_101 : RA (-2147483648) 2147483647 upper_101 := by rw [e101]; exact RA_up r_v_upper (by omega)
        refine g_ws (ws2 := ((wX4 cI cB cJ h q t90 v_day v_x v_sales v_timesSoldOut v_soldOutToday upper_101 v_lower v_money v_soldOut) ++ (wX7 cI cB cJ h_tp q_tp v_tp_length v_tp_end tp_at_56 tp_fault_56 tp_faultAt_56 v_tp_bytes v_tp_taken))) rfl ?_
        refine g_aload_n X dX4_readStall_102 5 rfl ?_
        refine gX4_get X 0 rfl 2 (by decide) uw315 rfl dX4_readStall_103 ?_
        refine g_iload_n X dX4_readStall_106 3 rfl ?_
        refine g_iload X dX4_readStall_107 0 rfl ?_
        refine g_iast X 2 0 rfl rfl (by omega) (by decide) dX4_readStall_109 (fun lower_109 e109 => ?_)
        have r_lower_109 : RA (-2147483648) 2147483647 lower_109 := by rw [e109]; exact RA_up r_v_lower (by omega)
        refine g_ws (ws2 := ((wX4 cI cB cJ h q t90 v_day v_x v_sales v_timesSoldOut v_soldOutToday upper_101 lower_109 v_money v_soldOut) ++ (wX7 cI cB cJ h_tp q_tp v_tp_length v_tp_end tp_at_56 tp_fault_56 tp_faultAt_56 v_tp_bytes v_tp_taken))) rfl ?_
        exact hQ _ _ _ dX4_readStall_110 ⟨t90, upper_101, lower_109, tp_at_56, tp_fault_56, tp_faultAt_56, (by omega), r_upper_101, r_lower_109, (by omega), (by omega), (by omega), (by first | assumption | omega), (by exact hT7), (by first | exact fun h => ⟨hk2.1, by rw [e90, e89, hk2.2]; rfl⟩ | exact fun h => absurd h (by omega)), (by intro h; first | rfl | (exfalso; omega)), rfl⟩
    · refine g_aload_n X dX4_readStall_68 6 rfl ?_
      refine g_iconst X dX4_readStall_69 ?_
      refine g_iload X dX4_readStall_70 1 rfl ?_
      refine g_callVVw X (c_X7_fail l D cI cB cJ h_tp q_tp (p0 := 3) (p1 := tp_at_45) (by omega) (by omega) (by first | assumption | omega) (by first | assumption | omega) (by first | assumption | omega) (by first | assumption | omega)) [5, 6, 7] rfl rfl rfl cv_X7_fail uw692 ⟨rfl, rfl, by decide, by decide⟩ 0 rfl rfl rfl rfl rfl (Nat.le_of_ble_eq_true rfl) ⟨Nat.zero_le _, Nat.zero_le _⟩ dX4_readStall_72 (fun ws72 k72 => ?_)
      obtain ⟨tp_fault_72, tp_faultAt_72, kr_tp_fault_72, kr_tp_faultAt_72, kp0_72, kp1_72, rfl⟩ := k72
      refine ⟨rfl, ?_⟩
      refine g_ws (ws2 := ((wX4 cI cB cJ h q v_told v_day v_x v_sales v_timesSoldOut v_soldOutToday v_upper v_lower v_money v_soldOut) ++ (wX7 cI cB cJ h_tp q_tp v_tp_length v_tp_end tp_at_56 tp_fault_72 tp_faultAt_72 v_tp_bytes v_tp_taken))) rfl ?_
      have hT3 : TG v_tp_fault v_tp_faultAt v_tp_at tp_fault_32 tp_faultAt_32 tp_at_32 (st2 (sgP v_tp_end v_tp_bytes) v_told v_tp_at) (v_tp_at + 1 + 1) := TG.trans (psC (sgP v_tp_end v_tp_bytes) 58) (fun v_x => v_x + 1) hT2 kp3_32
      have hT4 : TG v_tp_fault v_tp_faultAt v_tp_at tp_fault_37 tp_faultAt_37 tp_at_37 (st3 (sgP v_tp_end v_tp_bytes) v_told v_tp_at) (sQ2 (sgP v_tp_end v_tp_bytes) v_tp_at) := TG.trans (aC (sgP v_tp_end v_tp_bytes) 4) (aQ (sgP v_tp_end v_tp_bytes) 4) hT3 kp6_37
      have hT5 : TG v_tp_fault v_tp_faultAt v_tp_at tp_fault_45 tp_faultAt_45 tp_at_45 (st4 (sgP v_tp_end v_tp_bytes) v_told v_tp_at) (sQ2 (sgP v_tp_end v_tp_bytes) v_tp_at + 1) := TG.trans (psC (sgP v_tp_end v_tp_bytes) 45) (fun v_x => v_x + 1) hT4 kp3_45
      have hT6 : TG v_tp_fault v_tp_faultAt v_tp_at tp_fault_56 tp_faultAt_56 tp_at_56 (st5 (sgP v_tp_end v_tp_bytes) v_told v_tp_at) (stQ (sgP v_tp_end v_tp_bytes) v_tp_at) := TG.trans (aC (sgP v_tp_end v_tp_bytes) 4) (aQ (sgP v_tp_end v_tp_bytes) 4) hT5 kp6_56
      have hZ : tp_fault_56 = 0 → t37 = aV (sgP v_tp_end v_tp_bytes) 4 (v_tp_at + 1 + 1) ∧ t56 = aV (sgP v_tp_end v_tp_bytes) 4 (sQ2 (sgP v_tp_end v_tp_bytes) v_tp_at + 1) ∧ tp_at_45 = sQ2 (sgP v_tp_end v_tp_bytes) v_tp_at + 1 := fun h => by have h1 := kp7_56 h; have h2 := TG.at0 kp3_45 h1.1; have h3 := kp7_37 h2.1; have h4 := TG.at0 hT3 h3.1; have h5 := TG.at0 hT5 h1.1; exact ⟨h3.2.trans (congrArg _ h4.2.2), h1.2.trans (congrArg _ h5.2.2), h5.2.2⟩
      have hT7 : TG v_tp_fault v_tp_faultAt v_tp_at tp_fault_72 tp_faultAt_72 tp_at_56 (stC (sgP v_tp_end v_tp_bytes) v_told v_tp_at) (stQ (sgP v_tp_end v_tp_bytes) v_tp_at) := TG.trans (fun _ => ltC (aV (sgP v_tp_end v_tp_bytes) 4 (v_tp_at + 1 + 1)) (aV (sgP v_tp_end v_tp_bytes) 4 (sQ2 (sgP v_tp_end v_tp_bytes) v_tp_at + 1)) (sQ2 (sgP v_tp_end v_tp_bytes) v_tp_at + 1)) (fun v_x => v_x) hT6 (by first | exact TG.k _ kp1_72 (fun h => by have h1 := hZ h; have h2 := ltC_e (aV (sgP v_tp_end v_tp_bytes) 4 (v_tp_at + 1 + 1)) (aV (sgP v_tp_end v_tp_bytes) 4 (sQ2 (sgP v_tp_end v_tp_bytes) v_tp_at + 1)) (sQ2 (sgP v_tp_end v_tp_bytes) v_tp_at + 1); omega) | exact TG.k _ (TG.id0 _ _ _) (fun h => by have h1 := hZ h; have h2 := ltC_e (aV (sgP v_tp_end v_tp_bytes) 4 (v_tp_at + 1 + 1)) (aV (sgP v_tp_end v_tp_bytes) 4 (sQ2 (sgP v_tp_end v_tp_bytes) v_tp_at + 1)) (sQ2 (sgP v_tp_end v_tp_bytes) v_tp_at + 1); omega))
      refine g_aload_n X dX4_readStall_75 6 rfl ?_
      refine g_callVIw X (c_X7_hasFailed l D cI cB cJ h_tp q_tp  (by omega)) [5, 6, 7] rfl rfl rfl cv_X7_hasFailed uw695 ⟨rfl, rfl, by decide, by decide⟩ 0 rfl rfl rfl rfl rfl (Nat.le_of_ble_eq_true rfl) ⟨Nat.zero_le _, Nat.zero_le _⟩ dX4_readStall_76 (fun t76 ws76 k76 => ?_)
      obtain ⟨kb_76, ⟨kp0_76, rfl⟩⟩ := k76
      refine ⟨rfl, ?_⟩
      refine g_ws (ws2 := ((wX4 cI cB cJ h q v_told v_day v_x v_sales v_timesSoldOut v_soldOutToday v_upper v_lower v_money v_soldOut) ++ (wX7 cI cB cJ h_tp q_tp v_tp_length v_tp_end tp_at_56 tp_fault_72 tp_faultAt_72 v_tp_bytes v_tp_taken))) rfl ?_
      refine g_if_ne X (tgt := 110) dX4_readStall_79 (by decide) (by omega) (fun c79 => ?_) (fun c79 => ?_)
      · replace kb_76 := kb_76.resolve_left (fun h => c79 h)
        replace kp0_76 := kp0_76.resolve_right (fun h => c79 h.1)
        exact hQ _ _ _ dX4_readStall_110 ⟨v_told, v_upper, v_lower, tp_at_56, tp_fault_72, tp_faultAt_72, (by omega), r_v_upper, r_v_lower, (by omega), (by omega), (by omega), (by first | assumption | omega), (by exact hT7), (by first | exact fun h => ⟨hk2.1, by rw [e90, e89, hk2.2]; rfl⟩ | exact fun h => absurd h (by omega)), (by intro h; first | rfl | (exfalso; omega)), rfl⟩
      · clear kb_76
        replace kp0_76 := (kp0_76.resolve_left (fun h => absurd h.1 (by omega))).2
        have hk : tp_fault_10 = 0 := by omega
        have hk2 := kp6_10 hk
        have hk3 := kp1_10 hk
        refine g_aload_n X dX4_readStall_82 5 rfl ?_
        refine g_dup X rfl dX4_readStall_83 ?_
        refine gX4_get X 0 rfl 0 (by decide) uw310 rfl dX4_readStall_84 ?_
        refine g_iconst X dX4_readStall_87 ?_
        refine g_iload_n X dX4_readStall_88 3 rfl ?_
        refine g_ishl X dX4_readStall_89 ?_
        refine g_nm (fun t89 e89 => ?_)
        have r89 := z_shl1_7 t10 (by omega); rw [← e89] at r89
        refine g_ior X dX4_readStall_90 ?_
        refine g_nm (fun t90 e90 => ?_)
        have r90 := z_ior_255 v_told t89 (by omega) (by omega); rw [← e90] at r90
        refine gX4_put X 0 rfl 0 (by decide) uw310 rfl rfl rfl (Nat.le_of_ble_eq_true rfl) dX4_readStall_91 (ws2 := ((wX4 cI cB cJ h q t90 v_day v_x v_sales v_timesSoldOut v_soldOutToday v_upper v_lower v_money v_soldOut) ++ (wX7 cI cB cJ h_tp q_tp v_tp_length v_tp_end tp_at_56 tp_fault_72 tp_faultAt_72 v_tp_bytes v_tp_taken))) rfl ?_
        refine g_aload_n X dX4_readStall_94 5 rfl ?_
        refine gX4_get X 0 rfl 1 (by decide) uw312 rfl dX4_readStall_95 ?_
        refine g_iload_n X dX4_readStall_98 3 rfl ?_
        refine g_iload X dX4_readStall_99 2 rfl ?_
        refine g_iast X 1 0 rfl rfl (by omega) (by decide) dX4_readStall_101 (fun upper_101 e101 => ?_)
        have r_upper_101 : RA (-2147483648) 2147483647 upper_101 := by rw [e101]; exact RA_up r_v_upper (by omega)
        refine g_ws (ws2 := ((wX4 cI cB cJ h q t90 v_day v_x v_sales v_timesSoldOut v_soldOutToday upper_101 v_lower v_money v_soldOut) ++ (wX7 cI cB cJ h_tp q_tp v_tp_length v_tp_end tp_at_56 tp_fault_72 tp_faultAt_72 v_tp_bytes v_tp_taken))) rfl ?_
        refine g_aload_n X dX4_readStall_102 5 rfl ?_
        refine gX4_get X 0 rfl 2 (by decide) uw315 rfl dX4_readStall_103 ?_
        refine g_iload_n X dX4_readStall_106 3 rfl ?_
        refine g_iload X dX4_readStall_107 0 rfl ?_
        refine g_iast X 2 0 rfl rfl (by omega) (by decide) dX4_readStall_109 (fun lower_109 e109 => ?_)
        have r_lower_109 : RA (-2147483648) 2147483647 lower_109 := by rw [e109]; exact RA_up r_v_lower (by omega)
        refine g_ws (ws2 := ((wX4 cI cB cJ h q t90 v_day v_x v_sales v_timesSoldOut v_soldOutToday upper_101 lower_109 v_money v_soldOut) ++ (wX7 cI cB cJ h_tp q_tp v_tp_length v_tp_end tp_at_56 tp_fault_72 tp_faultAt_72 v_tp_bytes v_tp_taken))) rfl ?_
        exact hQ _ _ _ dX4_readStall_110 ⟨t90, upper_101, lower_109, tp_at_56, tp_fault_72, tp_faultAt_72, (by omega), r_upper_101, r_lower_109, (by omega), (by omega), (by omega), (by first | assumption | omega), (by exact hT7), (by first | exact fun h => ⟨hk2.1, by rw [e90, e89, hk2.2]; rfl⟩ | exact fun h => absurd h (by omega)), (by intro h; first | rfl | (exfalso; omega)), rfl⟩
  · replace kb_16 := kb_16.resolve_left (fun h => c19 h)
    replace kp0_16 := kp0_16.resolve_right (fun h => c19 h.1)
    refine g_aload_n X dX4_readStall_22 3 rfl ?_
    refine g_bipush X (z := 6) dX4_readStall_23 (by decide) ?_
    refine g_iload_n X dX4_readStall_25 1 rfl ?_
    refine g_callVVw X (c_X7_fail l D cI cB cJ h_tp q_tp (p0 := 6) (p1 := v_tp_at) (by omega) (by omega) (by first | assumption | omega) (by first | assumption | omega) (by first | assumption | omega) (by first | assumption | omega)) [5, 6, 7] rfl rfl rfl cv_X7_fail uw692 ⟨rfl, rfl, by decide, by decide⟩ 0 rfl rfl rfl rfl rfl (Nat.le_of_ble_eq_true rfl) ⟨Nat.zero_le _, Nat.zero_le _⟩ dX4_readStall_26 (fun ws26 k26 => ?_)
    obtain ⟨tp_fault_26, tp_faultAt_26, kr_tp_fault_26, kr_tp_faultAt_26, kp0_26, kp1_26, rfl⟩ := k26
    refine ⟨rfl, ?_⟩
    refine g_ws (ws2 := ((wX4 cI cB cJ h q v_told v_day v_x v_sales v_timesSoldOut v_soldOutToday v_upper v_lower v_money v_soldOut) ++ (wX7 cI cB cJ h_tp q_tp v_tp_length v_tp_end tp_at_10 tp_fault_26 tp_faultAt_26 v_tp_bytes v_tp_taken))) rfl ?_
    have hT2 : TG v_tp_fault v_tp_faultAt v_tp_at tp_fault_26 tp_faultAt_26 tp_at_10 (st1 (sgP v_tp_end v_tp_bytes) v_told v_tp_at) (v_tp_at + 1) := TG.trans (fun _ => tdC v_told (sgP v_tp_end v_tp_bytes v_tp_at - 48) v_tp_at) (fun v_x => v_x) kp5_10 (by first | exact TG.k _ kp1_26 (fun h => by rw [(kp6_10 h).2] at kp0_16; have h3 := tdC_e v_told (sgP v_tp_end v_tp_bytes v_tp_at - 48) v_tp_at; omega) | exact TG.k _ (TG.id0 _ _ _) (fun h => by have h4 := kp6_10 h; have h5 := kp1_10 h; rw [h4.2] at kp0_16 h5; have h3 := tdC_e v_told (sgP v_tp_end v_tp_bytes v_tp_at - 48) v_tp_at; omega))
    refine g_aload_n X dX4_readStall_29 3 rfl ?_
    refine g_bipush X (z := 58) dX4_readStall_30 (by decide) ?_
    refine g_callVVw X (c_X7_pass l D cI cB cJ h_tp q_tp (p0 := 58) (by omega) (by omega) (by omega) (by omega) r_v_tp_bytes (by first | assumption | omega) (by first | assumption | omega) (by first | assumption | omega)) [5, 6, 7] rfl rfl rfl cv_X7_pass uw693 ⟨rfl, rfl, by decide, by decide⟩ 0 rfl rfl rfl rfl rfl (Nat.le_of_ble_eq_true rfl) ⟨Nat.zero_le _, Nat.zero_le _⟩ dX4_readStall_32 (fun ws32 k32 => ?_)
    obtain ⟨tp_at_32, tp_fault_32, tp_faultAt_32, kr_tp_at_32, kr_tp_fault_32, kr_tp_faultAt_32, kp0_32, kp1_32, kp2_32, kp3_32, rfl⟩ := k32
    refine ⟨rfl, ?_⟩
    refine g_ws (ws2 := ((wX4 cI cB cJ h q v_told v_day v_x v_sales v_timesSoldOut v_soldOutToday v_upper v_lower v_money v_soldOut) ++ (wX7 cI cB cJ h_tp q_tp v_tp_length v_tp_end tp_at_32 tp_fault_32 tp_faultAt_32 v_tp_bytes v_tp_taken))) rfl ?_
    refine g_aload_n X dX4_readStall_35 3 rfl ?_
    refine g_iconst X dX4_readStall_36 ?_
    refine g_callVIw X (c_X7_number l D cI cB cJ h_tp q_tp (p0 := 4) (by omega) (by omega) (by omega) (by omega) r_v_tp_bytes (by first | assumption | omega) (by first | assumption | omega) (by first | assumption | omega)) [5, 6, 7] rfl rfl rfl cv_X7_number uw694 ⟨rfl, rfl, by decide, by decide⟩ 0 rfl rfl rfl rfl rfl (Nat.le_of_ble_eq_true rfl) ⟨Nat.zero_le _, Nat.zero_le _⟩ dX4_readStall_37 (fun t37 ws37 k37 => ?_)
    obtain ⟨tp_at_37, tp_fault_37, tp_faultAt_37, kr_tp_at_37, kr_tp_fault_37, kr_tp_faultAt_37, kp0_37, kp1_37, kp2_37, kp3_37, kp4_37, kp5_37, kp6_37, kp7_37, rfl⟩ := k37
    refine ⟨rfl, ?_⟩
    refine g_ws (ws2 := ((wX4 cI cB cJ h q v_told v_day v_x v_sales v_timesSoldOut v_soldOutToday v_upper v_lower v_money v_soldOut) ++ (wX7 cI cB cJ h_tp q_tp v_tp_length v_tp_end tp_at_37 tp_fault_37 tp_faultAt_37 v_tp_bytes v_tp_taken))) rfl ?_
    refine g_istore X (lv' := [(4, vI t37), (3, vI t10), (2, vI v_tp_at), (0, .ref h), (1, .ref h_tp)]) dX4_readStall_40 (by decide) rfl ?_
    refine g_aload_n X dX4_readStall_42 4 rfl ?_
    refine g_bipush X (z := 45) dX4_readStall_43 (by decide) ?_
    refine g_callVVw X (c_X7_pass l D cI cB cJ h_tp q_tp (p0 := 45) (by omega) (by omega) (by omega) (by omega) r_v_tp_bytes (by first | assumption | omega) (by first | assumption | omega) (by first | assumption | omega)) [5, 6, 7] rfl rfl rfl cv_X7_pass uw693 ⟨rfl, rfl, by decide, by decide⟩ 0 rfl rfl rfl rfl rfl (Nat.le_of_ble_eq_true rfl) ⟨Nat.zero_le _, Nat.zero_le _⟩ dX4_readStall_45 (fun ws45 k45 => ?_)
    obtain ⟨tp_at_45, tp_fault_45, tp_faultAt_45, kr_tp_at_45, kr_tp_fault_45, kr_tp_faultAt_45, kp0_45, kp1_45, kp2_45, kp3_45, rfl⟩ := k45
    refine ⟨rfl, ?_⟩
    refine g_ws (ws2 := ((wX4 cI cB cJ h q v_told v_day v_x v_sales v_timesSoldOut v_soldOutToday v_upper v_lower v_money v_soldOut) ++ (wX7 cI cB cJ h_tp q_tp v_tp_length v_tp_end tp_at_45 tp_fault_45 tp_faultAt_45 v_tp_bytes v_tp_taken))) rfl ?_
    refine g_aload_n X dX4_readStall_48 4 rfl ?_
    refine gN_get X (T := TX7) 5 rfl rfl inU_X7 4 (by decide) nw139 rfl rfl dX4_readStall_49 ?_
    refine g_istore X (lv' := [(5, vI tp_at_45), (4, vI t37), (3, vI t10), (2, vI v_tp_at), (0, .ref h), (1, .ref h_tp)]) dX4_readStall_52 (by decide) rfl ?_
    refine g_aload_n X dX4_readStall_54 5 rfl ?_
    refine g_iconst X dX4_readStall_55 ?_
    refine g_callVIw X (c_X7_number l D cI cB cJ h_tp q_tp (p0 := 4) (by omega) (by omega) (by omega) (by omega) r_v_tp_bytes (by first | assumption | omega) (by first | assumption | omega) (by first | assumption | omega)) [5, 6, 7] rfl rfl rfl cv_X7_number uw694 ⟨rfl, rfl, by decide, by decide⟩ 0 rfl rfl rfl rfl rfl (Nat.le_of_ble_eq_true rfl) ⟨Nat.zero_le _, Nat.zero_le _⟩ dX4_readStall_56 (fun t56 ws56 k56 => ?_)
    obtain ⟨tp_at_56, tp_fault_56, tp_faultAt_56, kr_tp_at_56, kr_tp_fault_56, kr_tp_faultAt_56, kp0_56, kp1_56, kp2_56, kp3_56, kp4_56, kp5_56, kp6_56, kp7_56, rfl⟩ := k56
    refine ⟨rfl, ?_⟩
    refine g_ws (ws2 := ((wX4 cI cB cJ h q v_told v_day v_x v_sales v_timesSoldOut v_soldOutToday v_upper v_lower v_money v_soldOut) ++ (wX7 cI cB cJ h_tp q_tp v_tp_length v_tp_end tp_at_56 tp_fault_56 tp_faultAt_56 v_tp_bytes v_tp_taken))) rfl ?_
    refine g_istore X (lv' := [(6, vI t56), (5, vI tp_at_45), (4, vI t37), (3, vI t10), (2, vI v_tp_at), (0, .ref h), (1, .ref h_tp)]) dX4_readStall_59 (by decide) rfl ?_
    refine g_iload X dX4_readStall_61 0 rfl ?_
    refine g_iload X dX4_readStall_63 2 rfl ?_
    refine g_icmp_le X (tgt := 75) dX4_readStall_65 (by decide) (by omega) (by omega) (fun c65 => ?_) (fun c65 => ?_)
    · have hT3 : TG v_tp_fault v_tp_faultAt v_tp_at tp_fault_32 tp_faultAt_32 tp_at_32 (st2 (sgP v_tp_end v_tp_bytes) v_told v_tp_at) (v_tp_at + 1 + 1) := TG.trans (psC (sgP v_tp_end v_tp_bytes) 58) (fun v_x => v_x + 1) hT2 kp3_32
      have hT4 : TG v_tp_fault v_tp_faultAt v_tp_at tp_fault_37 tp_faultAt_37 tp_at_37 (st3 (sgP v_tp_end v_tp_bytes) v_told v_tp_at) (sQ2 (sgP v_tp_end v_tp_bytes) v_tp_at) := TG.trans (aC (sgP v_tp_end v_tp_bytes) 4) (aQ (sgP v_tp_end v_tp_bytes) 4) hT3 kp6_37
      have hT5 : TG v_tp_fault v_tp_faultAt v_tp_at tp_fault_45 tp_faultAt_45 tp_at_45 (st4 (sgP v_tp_end v_tp_bytes) v_told v_tp_at) (sQ2 (sgP v_tp_end v_tp_bytes) v_tp_at + 1) := TG.trans (psC (sgP v_tp_end v_tp_bytes) 45) (fun v_x => v_x + 1) hT4 kp3_45
      have hT6 : TG v_tp_fault v_tp_faultAt v_tp_at tp_fault_56 tp_faultAt_56 tp_at_56 (st5 (sgP v_tp_end v_tp_bytes) v_told v_tp_at) (stQ (sgP v_tp_end v_tp_bytes) v_tp_at) := TG.trans (aC (sgP v_tp_end v_tp_bytes) 4) (aQ (sgP v_tp_end v_tp_bytes) 4) hT5 kp6_56
      have hZ : tp_fault_56 = 0 → t37 = aV (sgP v_tp_end v_tp_bytes) 4 (v_tp_at + 1 + 1) ∧ t56 = aV (sgP v_tp_end v_tp_bytes) 4 (sQ2 (sgP v_tp_end v_tp_bytes) v_tp_at + 1) ∧ tp_at_45 = sQ2 (sgP v_tp_end v_tp_bytes) v_tp_at + 1 := fun h => by have h1 := kp7_56 h; have h2 := TG.at0 kp3_45 h1.1; have h3 := kp7_37 h2.1; have h4 := TG.at0 hT3 h3.1; have h5 := TG.at0 hT5 h1.1; exact ⟨h3.2.trans (congrArg _ h4.2.2), h1.2.trans (congrArg _ h5.2.2), h5.2.2⟩
      have hT7 : TG v_tp_fault v_tp_faultAt v_tp_at tp_fault_56 tp_faultAt_56 tp_at_56 (stC (sgP v_tp_end v_tp_bytes) v_told v_tp_at) (stQ (sgP v_tp_end v_tp_bytes) v_tp_at) := TG.trans (fun _ => ltC (aV (sgP v_tp_end v_tp_bytes) 4 (v_tp_at + 1 + 1)) (aV (sgP v_tp_end v_tp_bytes) 4 (sQ2 (sgP v_tp_end v_tp_bytes) v_tp_at + 1)) (sQ2 (sgP v_tp_end v_tp_bytes) v_tp_at + 1)) (fun v_x => v_x) hT6 (by first | exact TG.k _ kp1_72 (fun h => by have h1 := hZ h; have h2 := ltC_e (aV (sgP v_tp_end v_tp_bytes) 4 (v_tp_at + 1 + 1)) (aV (sgP v_tp_end v_tp_bytes) 4 (sQ2 (sgP v_tp_end v_tp_bytes) v_tp_at + 1)) (sQ2 (sgP v_tp_end v_tp_bytes) v_tp_at + 1); omega) | exact TG.k _ (TG.id0 _ _ _) (fun h => by have h1 := hZ h; have h2 := ltC_e (aV (sgP v_tp_end v_tp_bytes) 4 (v_tp_at + 1 + 1)) (aV (sgP v_tp_end v_tp_bytes) 4 (sQ2 (sgP v_tp_end v_tp_bytes) v_tp_at + 1)) (sQ2 (sgP v_tp_end v_tp_bytes) v_tp_at + 1); omega))
      refine g_aload_n X dX4_readStall_75 6 rfl ?_
      refine g_callVIw X (c_X7_hasFailed l D cI cB cJ h_tp q_tp  (by omega)) [5, 6, 7] rfl rfl rfl cv_X7_hasFailed uw695 ⟨rfl, rfl, by decide, by decide⟩ 0 rfl rfl rfl rfl rfl (Nat.le_of_ble_eq_true rfl) ⟨Nat.zero_le _, Nat.zero_le _⟩ dX4_readStall_76 (fun t76 ws76 k76 => ?_)
      obtain ⟨kb_76, ⟨kp0_76, rfl⟩⟩ := k76
      refine ⟨rfl, ?_⟩
      refine g_ws (ws2 := ((wX4 cI cB cJ h q v_told v_day v_x v_sales v_timesSoldOut v_soldOutToday v_upper v_lower v_money v_soldOut) ++ (wX7 cI cB cJ h_tp q_tp v_tp_length v_tp_end tp_at_56 tp_fault_56 tp_faultAt_56 v_tp_bytes v_tp_taken))) rfl ?_
      refine g_if_ne X (tgt := 110) dX4_readStall_79 (by decide) (by omega) (fun c79 => ?_) (fun c79 => ?_)
      · replace kb_76 := kb_76.resolve_left (fun h => c79 h)
        replace kp0_76 := kp0_76.resolve_right (fun h => c79 h.1)
        exact hQ _ _ _ dX4_readStall_110 ⟨v_told, v_upper, v_lower, tp_at_56, tp_fault_56, tp_faultAt_56, (by omega), r_v_upper, r_v_lower, (by omega), (by omega), (by omega), (by first | assumption | omega), (by exact hT7), (by first | exact fun h => ⟨hk2.1, by rw [e90, e89, hk2.2]; rfl⟩ | exact fun h => absurd h (by omega)), (by intro h; first | rfl | (exfalso; omega)), rfl⟩
      · clear kb_76
        replace kp0_76 := (kp0_76.resolve_left (fun h => absurd h.1 (by omega))).2
        have hk : tp_fault_10 = 0 := by omega
        have hk2 := kp6_10 hk
        have hk3 := kp1_10 hk
        refine g_aload_n X dX4_readStall_82 5 rfl ?_
        refine g_dup X rfl dX4_readStall_83 ?_
        refine gX4_get X 0 rfl 0 (by decide) uw310 rfl dX4_readStall_84 ?_
        refine g_iconst X dX4_readStall_87 ?_
        refine g_iload_n X dX4_readStall_88 3 rfl ?_
        refine g_ishl X dX4_readStall_89 ?_
        refine g_nm (fun t89 e89 => ?_)
        have r89 := z_shl1_7 t10 (by omega); rw [← e89] at r89
        refine g_ior X dX4_readStall_90 ?_
        refine g_nm (fun t90 e90 => ?_)
        have r90 := z_ior_255 v_told t89 (by omega) (by omega); rw [← e90] at r90
        refine gX4_put X 0 rfl 0 (by decide) uw310 rfl rfl rfl (Nat.le_of_ble_eq_true rfl) dX4_readStall_91 (ws2 := ((wX4 cI cB cJ h q t90 v_day v_x v_sales v_timesSoldOut v_soldOutToday v_upper v_lower v_money v_soldOut) ++ (wX7 cI cB cJ h_tp q_tp v_tp_length v_tp_end tp_at_56 tp_fault_56 tp_faultAt_56 v_tp_bytes v_tp_taken))) rfl ?_
        refine g_aload_n X dX4_readStall_94 5 rfl ?_
        refine gX4_get X 0 rfl 1 (by decide) uw312 rfl dX4_readStall_95 ?_
        refine g_iload_n X dX4_readStall_98 3 rfl ?_
        refine g_iload X dX4_readStall_99 2 rfl ?_
        refine g_iast X 1 0 rfl rfl (by omega) (by decide) dX4_readStall_101 (fun upper_101 e101 => ?_)
        have r_upper_101 : RA (-2147483648) 2147483647 upper_101 := by rw [e101]; exact RA_up r_v_upper (by omega)
        refine g_ws (ws2 := ((wX4 cI cB cJ h q t90 v_day v_x v_sales v_timesSoldOut v_soldOutToday upper_101 v_lower v_money v_soldOut) ++ (wX7 cI cB cJ h_tp q_tp v_tp_length v_tp_end tp_at_56 tp_fault_56 tp_faultAt_56 v_tp_bytes v_tp_taken))) rfl ?_
        refine g_aload_n X dX4_readStall_102 5 rfl ?_
        refine gX4_get X 0 rfl 2 (by decide) uw315 rfl dX4_readStall_103 ?_
        refine g_iload_n X dX4_readStall_106 3 rfl ?_
        refine g_iload X dX4_readStall_107 0 rfl ?_
        refine g_iast X 2 0 rfl rfl (by omega) (by decide) dX4_readStall_109 (fun lower_109 e109 => ?_)
        have r_lower_109 : RA (-2147483648) 2147483647 lower_109 := by rw [e109]; exact RA_up r_v_lower (by omega)
        refine g_ws (ws2 := ((wX4 cI cB cJ h q t90 v_day v_x v_sales v_timesSoldOut v_soldOutToday upper_101 lower_109 v_money v_soldOut) ++ (wX7 cI cB cJ h_tp q_tp v_tp_length v_tp_end tp_at_56 tp_fault_56 tp_faultAt_56 v_tp_bytes v_tp_taken))) rfl ?_
        exact hQ _ _ _ dX4_readStall_110 ⟨t90, upper_101, lower_109, tp_at_56, tp_fault_56, tp_faultAt_56, (by omega), r_upper_101, r_lower_109, (by omega), (by omega), (by omega), (by first | assumption | omega), (by exact hT7), (by first | exact fun h => ⟨hk2.1, by rw [e90, e89, hk2.2]; rfl⟩ | exact fun h => absurd h (by omega)), (by intro h; first | rfl | (exfalso; omega)), rfl⟩
    · refine g_aload_n X dX4_readStall_68 6 rfl ?_
      refine g_iconst X dX4_readStall_69 ?_
      refine g_iload X dX4_readStall_70 1 rfl ?_
      refine g_callVVw X (c_X7_fail l D cI cB cJ h_tp q_tp (p0 := 3) (p1 := tp_at_45) (by omega) (by omega) (by first | assumption | omega) (by first | assumption | omega) (by first | assumption | omega) (by first | assumption | omega)) [5, 6, 7] rfl rfl rfl cv_X7_fail uw692 ⟨rfl, rfl, by decide, by decide⟩ 0 rfl rfl rfl rfl rfl (Nat.le_of_ble_eq_true rfl) ⟨Nat.zero_le _, Nat.zero_le _⟩ dX4_readStall_72 (fun ws72 k72 => ?_)
      obtain ⟨tp_fault_72, tp_faultAt_72, kr_tp_fault_72, kr_tp_faultAt_72, kp0_72, kp1_72, rfl⟩ := k72
      refine ⟨rfl, ?_⟩
      refine g_ws (ws2 := ((wX4 cI cB cJ h q v_told v_day v_x v_sales v_timesSoldOut v_soldOutToday v_upper v_lower v_money v_soldOut) ++ (wX7 cI cB cJ h_tp q_tp v_tp_length v_tp_end tp_at_56 tp_fault_72 tp_faultAt_72 v_tp_bytes v_tp_taken))) rfl ?_
      have hT3 : TG v_tp_fault v_tp_faultAt v_tp_at tp_fault_32 tp_faultAt_32 tp_at_32 (st2 (sgP v_tp_end v_tp_bytes) v_told v_tp_at) (v_tp_at + 1 + 1) := TG.trans (psC (sgP v_tp_end v_tp_bytes) 58) (fun v_x => v_x + 1) hT2 kp3_32
      have hT4 : TG v_tp_fault v_tp_faultAt v_tp_at tp_fault_37 tp_faultAt_37 tp_at_37 (st3 (sgP v_tp_end v_tp_bytes) v_told v_tp_at) (sQ2 (sgP v_tp_end v_tp_bytes) v_tp_at) := TG.trans (aC (sgP v_tp_end v_tp_bytes) 4) (aQ (sgP v_tp_end v_tp_bytes) 4) hT3 kp6_37
      have hT5 : TG v_tp_fault v_tp_faultAt v_tp_at tp_fault_45 tp_faultAt_45 tp_at_45 (st4 (sgP v_tp_end v_tp_bytes) v_told v_tp_at) (sQ2 (sgP v_tp_end v_tp_bytes) v_tp_at + 1) := TG.trans (psC (sgP v_tp_end v_tp_bytes) 45) (fun v_x => v_x + 1) hT4 kp3_45
      have hT6 : TG v_tp_fault v_tp_faultAt v_tp_at tp_fault_56 tp_faultAt_56 tp_at_56 (st5 (sgP v_tp_end v_tp_bytes) v_told v_tp_at) (stQ (sgP v_tp_end v_tp_bytes) v_tp_at) := TG.trans (aC (sgP v_tp_end v_tp_bytes) 4) (aQ (sgP v_tp_end v_tp_bytes) 4) hT5 kp6_56
      have hZ : tp_fault_56 = 0 → t37 = aV (sgP v_tp_end v_tp_bytes) 4 (v_tp_at + 1 + 1) ∧ t56 = aV (sgP v_tp_end v_tp_bytes) 4 (sQ2 (sgP v_tp_end v_tp_bytes) v_tp_at + 1) ∧ tp_at_45 = sQ2 (sgP v_tp_end v_tp_bytes) v_tp_at + 1 := fun h => by have h1 := kp7_56 h; have h2 := TG.at0 kp3_45 h1.1; have h3 := kp7_37 h2.1; have h4 := TG.at0 hT3 h3.1; have h5 := TG.at0 hT5 h1.1; exact ⟨h3.2.trans (congrArg _ h4.2.2), h1.2.trans (congrArg _ h5.2.2), h5.2.2⟩
      have hT7 : TG v_tp_fault v_tp_faultAt v_tp_at tp_fault_72 tp_faultAt_72 tp_at_56 (stC (sgP v_tp_end v_tp_bytes) v_told v_tp_at) (stQ (sgP v_tp_end v_tp_bytes) v_tp_at) := TG.trans (fun _ => ltC (aV (sgP v_tp_end v_tp_bytes) 4 (v_tp_at + 1 + 1)) (aV (sgP v_tp_end v_tp_bytes) 4 (sQ2 (sgP v_tp_end v_tp_bytes) v_tp_at + 1)) (sQ2 (sgP v_tp_end v_tp_bytes) v_tp_at + 1)) (fun v_x => v_x) hT6 (by first | exact TG.k _ kp1_72 (fun h => by have h1 := hZ h; have h2 := ltC_e (aV (sgP v_tp_end v_tp_bytes) 4 (v_tp_at + 1 + 1)) (aV (sgP v_tp_end v_tp_bytes) 4 (sQ2 (sgP v_tp_end v_tp_bytes) v_tp_at + 1)) (sQ2 (sgP v_tp_end v_tp_bytes) v_tp_at + 1); omega) | exact TG.k _ (TG.id0 _ _ _) (fun h => by have h1 := hZ h; have h2 := ltC_e (aV (sgP v_tp_end v_tp_bytes) 4 (v_tp_at + 1 + 1)) (aV (sgP v_tp_end v_tp_bytes) 4 (sQ2 (sgP v_tp_end v_tp_bytes) v_tp_at + 1)) (sQ2 (sgP v_tp_end v_tp_bytes) v_tp_at + 1); omega))
      refine g_aload_n X dX4_readStall_75 6 rfl ?_
      refine g_callVIw X (c_X7_hasFailed l D cI cB cJ h_tp q_tp  (by omega)) [5, 6, 7] rfl rfl rfl cv_X7_hasFailed uw695 ⟨rfl, rfl, by decide, by decide⟩ 0 rfl rfl rfl rfl rfl (Nat.le_of_ble_eq_true rfl) ⟨Nat.zero_le _, Nat.zero_le _⟩ dX4_readStall_76 (fun t76 ws76 k76 => ?_)
      obtain ⟨kb_76, ⟨kp0_76, rfl⟩⟩ := k76
      refine ⟨rfl, ?_⟩
      refine g_ws (ws2 := ((wX4 cI cB cJ h q v_told v_day v_x v_sales v_timesSoldOut v_soldOutToday v_upper v_lower v_money v_soldOut) ++ (wX7 cI cB cJ h_tp q_tp v_tp_length v_tp_end tp_at_56 tp_fault_72 tp_faultAt_72 v_tp_bytes v_tp_taken))) rfl ?_
      refine g_if_ne X (tgt := 110) dX4_readStall_79 (by decide) (by omega) (fun c79 => ?_) (fun c79 => ?_)
      · replace kb_76 := kb_76.resolve_left (fun h => c79 h)
        replace kp0_76 := kp0_76.resolve_right (fun h => c79 h.1)
        exact hQ _ _ _ dX4_readStall_110 ⟨v_told, v_upper, v_lower, tp_at_56, tp_fault_72, tp_faultAt_72, (by omega), r_v_upper, r_v_lower, (by omega), (by omega), (by omega), (by first | assumption | omega), (by exact hT7), (by first | exact fun h => ⟨hk2.1, by rw [e90, e89, hk2.2]; rfl⟩ | exact fun h => absurd h (by omega)), (by intro h; first | rfl | (exfalso; omega)), rfl⟩
      · clear kb_76
        replace kp0_76 := (kp0_76.resolve_left (fun h => absurd h.1 (by omega))).2
        have hk : tp_fault_10 = 0 := by omega
        have hk2 := kp6_10 hk
        have hk3 := kp1_10 hk
        refine g_aload_n X dX4_readStall_82 5 rfl ?_
        refine g_dup X rfl dX4_readStall_83 ?_
        refine gX4_get X 0 rfl 0 (by decide) uw310 rfl dX4_readStall_84 ?_
        refine g_iconst X dX4_readStall_87 ?_
        refine g_iload_n X dX4_readStall_88 3 rfl ?_
        refine g_ishl X dX4_readStall_89 ?_
        refine g_nm (fun t89 e89 => ?_)
        have r89 := z_shl1_7 t10 (by omega); rw [← e89] at r89
        refine g_ior X dX4_readStall_90 ?_
        refine g_nm (fun t90 e90 => ?_)
        have r90 := z_ior_255 v_told t89 (by omega) (by omega); rw [← e90] at r90
        refine gX4_put X 0 rfl 0 (by decide) uw310 rfl rfl rfl (Nat.le_of_ble_eq_true rfl) dX4_readStall_91 (ws2 := ((wX4 cI cB cJ h q t90 v_day v_x v_sales v_timesSoldOut v_soldOutToday v_upper v_lower v_money v_soldOut) ++ (wX7 cI cB cJ h_tp q_tp v_tp_length v_tp_end tp_at_56 tp_fault_72 tp_faultAt_72 v_tp_bytes v_tp_taken))) rfl ?_
        refine g_aload_n X dX4_readStall_94 5 rfl ?_
        refine gX4_get X 0 rfl 1 (by decide) uw312 rfl dX4_readStall_95 ?_
        refine g_iload_n X dX4_readStall_98 3 rfl ?_
        refine g_iload X dX4_readStall_99 2 rfl ?_
        refine g_iast X 1 0 rfl rfl (by omega) (by decide) dX4_readStall_101 (fun upper_101 e101 => ?_)
        have r_upper_101 : RA (-2147483648) 2147483647 upper_101 := by rw [e101]; exact RA_up r_v_upper (by omega)
        refine g_ws (ws2 := ((wX4 cI cB cJ h q t90 v_day v_x v_sales v_timesSoldOut v_soldOutToday upper_101 v_lower v_money v_soldOut) ++ (wX7 cI cB cJ h_tp q_tp v_tp_length v_tp_end tp_at_56 tp_fault_72 tp_faultAt_72 v_tp_bytes v_tp_taken))) rfl ?_
        refine g_aload_n X dX4_readStall_102 5 rfl ?_
        refine gX4_get X 0 rfl 2 (by decide) uw315 rfl dX4_readStall_103 ?_
        refine g_iload_n X dX4_readStall_106 3 rfl ?_
        refine g_iload X dX4_readStall_107 0 rfl ?_
        refine g_iast X 2 0 rfl rfl (by omega) (by decide) dX4_readStall_109 (fun lower_109 e109 => ?_)
        have r_lower_109 : RA (-2147483648) 2147483647 lower_109 := by rw [e109]; exact RA_up r_v_lower (by omega)
        refine g_ws (ws2 := ((wX4 cI cB cJ h q t90 v_day v_x v_sales v_timesSoldOut v_soldOutToday upper_101 lower_109 v_money v_soldOut) ++ (wX7 cI cB cJ h_tp q_tp v_tp_length v_tp_end tp_at_56 tp_fault_72 tp_faultAt_72 v_tp_bytes v_tp_taken))) rfl ?_
        exact hQ _ _ _ dX4_readStall_110 ⟨t90, upper_101, lower_109, tp_at_56, tp_fault_72, tp_faultAt_72, (by omega), r_upper_101, r_lower_109, (by omega), (by omega), (by omega), (by first | assumption | omega), (by exact hT7), (by first | exact fun h => ⟨hk2.1, by rw [e90, e89, hk2.2]; rfl⟩ | exact fun h => absurd h (by omega)), (by intro h; first | rfl | (exfalso; omega)), rfl⟩
set_option maxHeartbeats 600000 in
set_option maxRecDepth 100000 in
theorem c_X4_readStock (l : Launch) (D : va_G) (cI cB cJ : ClassId) (h : Nat) (q : Nat → Nat) (h_tp : Nat) (q_tp : Nat → Nat) {v_told v_day v_x v_sales v_timesSoldOut v_soldOutToday v_tp_length v_tp_end v_tp_at v_tp_fault v_tp_faultAt : Int} {v_upper v_lower v_money v_soldOut v_tp_bytes v_tp_taken : Nat → Int} {p1 : Int} (kr_v_told : 0 ≤ v_told ∧ v_told ≤ 255) (r_v_upper : RA (-2147483648) 2147483647 v_upper) (r_v_lower : RA (-2147483648) 2147483647 v_lower) (r_v_money : RA (-2147483648) 2147483647 v_money) (r_v_soldOut : RA (-2147483648) 2147483647 v_soldOut) (kr_v_tp_length : 0 ≤ v_tp_length ∧ v_tp_length ≤ 260) (kr_v_tp_end : 0 ≤ v_tp_end ∧ v_tp_end ≤ 260) (kr_v_tp_at : 0 ≤ v_tp_at ∧ v_tp_at ≤ 260) (kr_v_tp_fault : 0 ≤ v_tp_fault ∧ v_tp_fault ≤ 8) (kr_v_tp_faultAt : 0 ≤ v_tp_faultAt ∧ v_tp_faultAt ≤ 260) (r_v_tp_bytes : RA 0 255 v_tp_bytes) (hp0 : IR p1) (hp1 : 0 ≤ p1 ∧ p1 ≤ 260) (hp2 : p1 ≤ v_tp_length) : CtI l yX4_readStock cX4_readStock 4 (some .int) ⟨3, 0, 0, 71⟩ D (TY cI cB cJ) ((wX4 cI cB cJ h q v_told v_day v_x v_sales v_timesSoldOut v_soldOutToday v_upper v_lower v_money v_soldOut) ++ (wX7 cI cB cJ h_tp q_tp v_tp_length v_tp_end v_tp_at v_tp_fault v_tp_faultAt v_tp_bytes v_tp_taken)) [.ref h, .ref h_tp, vI p1] (fun z ws' => ∃ n_told : Int, ∃ n_upper : Nat → Int, ∃ n_lower : Nat → Int, ∃ n_money : Nat → Int, ∃ n_soldOut : Nat → Int, ∃ n_tp_end : Int, ∃ n_tp_at : Int, ∃ n_tp_fault : Int, ∃ n_tp_faultAt : Int, (0 ≤ n_told ∧ n_told ≤ 255) ∧ (RA (-2147483648) 2147483647 n_upper) ∧ (RA (-2147483648) 2147483647 n_lower) ∧ (RA (-2147483648) 2147483647 n_money) ∧ (RA (-2147483648) 2147483647 n_soldOut) ∧ (0 ≤ n_tp_end ∧ n_tp_end ≤ 260) ∧ (0 ≤ n_tp_at ∧ n_tp_at ≤ 260) ∧ (0 ≤ n_tp_fault ∧ n_tp_fault ≤ 8) ∧ (0 ≤ n_tp_faultAt ∧ n_tp_faultAt ≤ 260) ∧ (IR z) ∧ (z = skA (sgP p1 v_tp_bytes) p1) ∧ (ws' = ((wX4 cI cB cJ h q n_told v_day v_x v_sales v_timesSoldOut v_soldOutToday n_upper n_lower n_money n_soldOut) ++ (wX7 cI cB cJ h_tp q_tp v_tp_length n_tp_end n_tp_at n_tp_fault n_tp_faultAt v_tp_bytes v_tp_taken)))) := by
  refine hdrI (own := RX4) rfl (by decide +kernel) (Nat.le_of_ble_eq_true rfl) ?_
  intro p e s m args below meth c Q A X hQ
  refine g_lvE (lv2 := [(0, .ref h), (1, .ref h_tp), (2, vI p1)]) rfl ?_
  refine g_aload_n X dX4_readStock_0 0 rfl ?_
  refine g_callVVw X (c_X4_forgetStalls l D cI cB cJ h q  (by omega) r_v_upper r_v_lower r_v_money r_v_soldOut) [0, 1, 2, 3, 4] rfl rfl rfl cv_X4_forgetStalls uw673 ⟨rfl, rfl, by decide, by decide⟩ 0 rfl rfl rfl rfl rfl (Nat.le_of_ble_eq_true rfl) ⟨Nat.zero_le _, Nat.zero_le _⟩ dX4_readStock_1 (fun ws1 k1 => ?_)
  obtain ⟨told_1, upper_1, lower_1, money_1, soldOut_1, kr_told_1, r_upper_1, r_lower_1, r_money_1, r_soldOut_1, kp0_1, rfl⟩ := k1
  refine ⟨rfl, ?_⟩
  refine g_ws (ws2 := ((wX4 cI cB cJ h q told_1 v_day v_x v_sales v_timesSoldOut v_soldOutToday upper_1 lower_1 money_1 soldOut_1) ++ (wX7 cI cB cJ h_tp q_tp v_tp_length v_tp_end v_tp_at v_tp_fault v_tp_faultAt v_tp_bytes v_tp_taken))) rfl ?_
  refine g_aload_n X dX4_readStock_4 1 rfl ?_
  refine g_iload_n X dX4_readStock_5 2 rfl ?_
  refine g_callVVw X (c_X7_begin l D cI cB cJ h_tp q_tp (p0 := p1) (by omega) (by omega) (by omega) (by omega) (by omega) (by first | assumption | omega) (by first | assumption | omega)) [5, 6, 7] rfl rfl rfl cv_X7_begin uw678 ⟨rfl, rfl, by decide, by decide⟩ 0 rfl rfl rfl rfl rfl (Nat.le_of_ble_eq_true rfl) ⟨Nat.zero_le _, Nat.zero_le _⟩ dX4_readStock_6 (fun ws6 k6 => ?_)
  obtain ⟨tp_end_6, tp_at_6, tp_fault_6, tp_faultAt_6, kr_tp_end_6, kr_tp_at_6, kr_tp_fault_6, kr_tp_faultAt_6, kp0_6, kp1_6, kp2_6, kp3_6, kp4_6, rfl⟩ := k6
  refine ⟨rfl, ?_⟩
  refine g_ws (ws2 := ((wX4 cI cB cJ h q told_1 v_day v_x v_sales v_timesSoldOut v_soldOutToday upper_1 lower_1 money_1 soldOut_1) ++ (wX7 cI cB cJ h_tp q_tp v_tp_length tp_end_6 tp_at_6 tp_fault_6 tp_faultAt_6 v_tp_bytes v_tp_taken))) rfl ?_
  have hE : tp_end_6 = p1 := by omega
  refine g_iconst X dX4_readStock_9 ?_
  refine g_istore_n X (lv' := [(3, vI 0), (0, .ref h), (1, .ref h_tp), (2, vI p1)]) dX4_readStock_10 (by decide) rfl ?_
  have L11 : ∀ (n : Nat) (x3_11 : Int) (told_11 : Int) (tp_at_11 : Int) (tp_fault_11 : Int) (tp_faultAt_11 : Int) (upper_11 : Nat → Int) (lower_11 : Nat → Int), (0 ≤ told_11 ∧ told_11 ≤ 255) → (0 ≤ tp_at_11 ∧ tp_at_11 ≤ 260) → (0 ≤ tp_fault_11 ∧ tp_fault_11 ≤ 8) → (0 ≤ tp_faultAt_11 ∧ tp_faultAt_11 ≤ 260) → (RA (-2147483648) 2147483647 upper_11) → (RA (-2147483648) 2147483647 lower_11) → (0 ≤ x3_11 ∧ x3_11 ≤ 9) → (tp_at_11 ≤ tp_end_6) → (SKI (sgP p1 v_tp_bytes) p1 tp_fault_11 tp_faultAt_11 tp_at_11 told_11 x3_11) → (9 - x3_11).toNat < n → GG p l e ⟨3, 0, 0, 71⟩ s m args below meth c 0 0 Q D A s.heap 4 ((wX4 cI cB cJ h q told_11 v_day v_x v_sales v_timesSoldOut v_soldOutToday upper_11 lower_11 money_1 soldOut_1) ++ (wX7 cI cB cJ h_tp q_tp v_tp_length tp_end_6 tp_at_11 tp_fault_11 tp_faultAt_11 v_tp_bytes v_tp_taken)) 11 [(0, .ref h), (1, .ref h_tp), (3, vI x3_11)] [] := by
    intro n
    induction n with
    | zero => intros; exfalso; omega
    | succ n ih11 =>
      intro x3_11 told_11 tp_at_11 tp_fault_11 tp_faultAt_11 upper_11 lower_11 kr_told_11 kr_tp_at_11 kr_tp_fault_11 kr_tp_faultAt_11 r_upper_11 r_lower_11 w11_0 w11_1 w11_2 wm11
      refine g_iload_n X dX4_readStock_11 2 rfl ?_
      refine g_bipush X (z := 8) dX4_readStock_12 (by decide) ?_
      refine g_icmp_gt X (tgt := 44) dX4_readStock_14 (by decide) (by omega) (by omega) (fun c14 => ?_) (fun c14 => ?_)
      · have hA : (tp_fault_11 = 0 ∧ skA (sgP p1 v_tp_bytes) p1 = cnZ told_11) ∨ (tp_fault_11 ≠ 0 ∧ skA (sgP p1 v_tp_bytes) p1 = -1000 * tp_fault_11 - tp_faultAt_11) := by first | exact SKI.over w11_2 (by omega) (by omega) (by omega) kp1_19 kp2_19 (by omega) | exact SKI.out w11_2 (by omega) (by omega)
        refine g_aload_n X dX4_readStock_44 1 rfl ?_
        refine g_aload_n X dX4_readStock_45 0 rfl ?_
        refine gX4_get X 0 rfl 0 (by decide) uw310 rfl dX4_readStock_46 ?_
        refine g_callSIE X (c_J6_bitCount_0f7a4 l D cI cB cJ (p0 := told_11) (by first | assumption | omega)) cv_J6_bitCount_0f7a4 uw697 ⟨rfl, rfl, by decide, by decide⟩ rfl rfl (Nat.le_of_ble_eq_true rfl) ⟨Nat.zero_le _, Nat.zero_le _⟩ dX4_readStock_49 (fun t49 ws49 k49 => ?_)
        obtain ⟨kp0_49, kp1_49, rfl⟩ := k49
        refine g_callVIw X (c_X7_answer l D cI cB cJ h_tp q_tp (p0 := t49) (by omega) (by omega) (by first | assumption | omega)) [5, 6, 7] rfl rfl rfl cv_X7_answer uw703 ⟨rfl, rfl, by decide, by decide⟩ 0 rfl rfl rfl rfl rfl (Nat.le_of_ble_eq_true rfl) ⟨Nat.zero_le _, Nat.zero_le _⟩ dX4_readStock_52 (fun t52 ws52 k52 => ?_)
        obtain ⟨kp0_52, rfl⟩ := k52
        refine ⟨rfl, ?_⟩
        refine g_ws (ws2 := ((wX4 cI cB cJ h q told_11 v_day v_x v_sales v_timesSoldOut v_soldOutToday upper_11 lower_11 money_1 soldOut_1) ++ (wX7 cI cB cJ h_tp q_tp v_tp_length tp_end_6 tp_at_11 tp_fault_11 tp_faultAt_11 v_tp_bytes v_tp_taken))) rfl ?_
        exact hQ _ _ _ _ dX4_readStock_55 ⟨told_11, upper_11, lower_11, money_1, soldOut_1, tp_end_6, tp_at_11, tp_fault_11, tp_faultAt_11, (by omega), r_upper_11, r_lower_11, r_money_1, r_soldOut_1, (by omega), (by omega), (by omega), (by omega), (by first | assumption | omega), (by first | assumption | omega), rfl⟩
      · refine g_aload_n X dX4_readStock_17 0 rfl ?_
        refine g_aload_n X dX4_readStock_18 1 rfl ?_
        refine g_callVV0 X (c_X4_readStall l D cI cB cJ h q h_tp q_tp  (by omega) r_upper_11 r_lower_11 (by omega) (by omega) (by omega) (by omega) r_v_tp_bytes (by first | assumption | omega)) cv_X4_readStall uw679 ⟨rfl, rfl, by decide, by decide⟩ 0 rfl rfl rfl rfl rfl (Nat.le_of_ble_eq_true rfl) ⟨Nat.zero_le _, Nat.zero_le _⟩ dX4_readStock_19 (fun ws19 k19 => ?_)
        obtain ⟨told_19, upper_19, lower_19, tp_at_19, tp_fault_19, tp_faultAt_19, kr_told_19, r_upper_19, r_lower_19, kr_tp_at_19, kr_tp_fault_19, kr_tp_faultAt_19, kp0_19, kp1_19, kp2_19, kp3_19, rfl⟩ := k19
        rw [hE] at kp1_19 kp2_19
        refine g_aload_n X dX4_readStock_22 1 rfl ?_
        refine g_callVIw X (c_X7_isOver l D cI cB cJ h_tp q_tp  (by omega) (by omega) (by omega)) [5, 6, 7] rfl rfl rfl cv_X7_isOver uw696 ⟨rfl, rfl, by decide, by decide⟩ 0 rfl rfl rfl rfl rfl (Nat.le_of_ble_eq_true rfl) ⟨Nat.zero_le _, Nat.zero_le _⟩ dX4_readStock_23 (fun t23 ws23 k23 => ?_)
        obtain ⟨kb_23, ⟨kp0_23, rfl⟩⟩ := k23
        refine ⟨rfl, ?_⟩
        refine g_ws (ws2 := ((wX4 cI cB cJ h q told_19 v_day v_x v_sales v_timesSoldOut v_soldOutToday upper_19 lower_19 money_1 soldOut_1) ++ (wX7 cI cB cJ h_tp q_tp v_tp_length tp_end_6 tp_at_19 tp_fault_19 tp_faultAt_19 v_tp_bytes v_tp_taken))) rfl ?_
        refine g_if_eq X (tgt := 32) dX4_readStock_26 (by decide) (by omega) (fun c26 => ?_) (fun c26 => ?_)
        · clear kb_23
          replace kp0_23 := (kp0_23.resolve_left (fun h => absurd h.1 (by omega))).2
          refine g_aload_n X dX4_readStock_32 1 rfl ?_
          refine g_bipush X (z := 59) dX4_readStock_33 (by decide) ?_
          refine g_callVVw X (c_X7_pass l D cI cB cJ h_tp q_tp (p0 := 59) (by omega) (by omega) (by omega) (by omega) r_v_tp_bytes (by first | assumption | omega) (by first | assumption | omega) (by first | assumption | omega)) [5, 6, 7] rfl rfl rfl cv_X7_pass uw693 ⟨rfl, rfl, by decide, by decide⟩ 0 rfl rfl rfl rfl rfl (Nat.le_of_ble_eq_true rfl) ⟨Nat.zero_le _, Nat.zero_le _⟩ dX4_readStock_35 (fun ws35 k35 => ?_)
          obtain ⟨tp_at_35, tp_fault_35, tp_faultAt_35, kr_tp_at_35, kr_tp_fault_35, kr_tp_faultAt_35, kp0_35, kp1_35, kp2_35, kp3_35, rfl⟩ := k35
          refine ⟨rfl, ?_⟩
          refine g_ws (ws2 := ((wX4 cI cB cJ h q told_19 v_day v_x v_sales v_timesSoldOut v_soldOutToday upper_19 lower_19 money_1 soldOut_1) ++ (wX7 cI cB cJ h_tp q_tp v_tp_length tp_end_6 tp_at_35 tp_fault_35 tp_faultAt_35 v_tp_bytes v_tp_taken))) rfl ?_
          refine g_iinc X (lv' := [(3, vI (x3_11 + 1)), (0, .ref h), (1, .ref h_tp)]) dX4_readStock_38 2 rfl (by decide) rfl ?_
          refine g_goto X (tgt := 11) dX4_readStock_41 (by decide) ?_
          rw [hE] at kp3_35
          refine g_lv [1, 2, 0] rfl ?_
          exact ih11 (x3_11 + 1) told_19 tp_at_35 tp_fault_35 tp_faultAt_35 upper_19 lower_19 (by omega) (by omega) (by omega) (by omega) r_upper_19 r_lower_19 (by first | assumption | omega) (by first | assumption | omega) (by first | exact SKI.ini (by omega) (by omega) (by omega) rfl | exact SKI.step w11_2 (by omega) (by omega) (by omega) (by omega) kp1_19 kp2_19 (by omega) kp3_35 rfl) (by omega)
        · replace kb_23 := kb_23.resolve_left (fun h => c26 h)
          replace kp0_23 := kp0_23.resolve_right (fun h => c26 h.1)
          refine g_goto X (tgt := 44) dX4_readStock_29 (by decide) ?_
          have hA : (tp_fault_19 = 0 ∧ skA (sgP p1 v_tp_bytes) p1 = cnZ told_19) ∨ (tp_fault_19 ≠ 0 ∧ skA (sgP p1 v_tp_bytes) p1 = -1000 * tp_fault_19 - tp_faultAt_19) := by first | exact SKI.over w11_2 (by omega) (by omega) (by omega) kp1_19 kp2_19 (by omega) | exact SKI.out w11_2 (by omega) (by omega)
          refine g_aload_n X dX4_readStock_44 1 rfl ?_
          refine g_aload_n X dX4_readStock_45 0 rfl ?_
          refine gX4_get X 0 rfl 0 (by decide) uw310 rfl dX4_readStock_46 ?_
          refine g_callSIE X (c_J6_bitCount_0f7a4 l D cI cB cJ (p0 := told_19) (by first | assumption | omega)) cv_J6_bitCount_0f7a4 uw697 ⟨rfl, rfl, by decide, by decide⟩ rfl rfl (Nat.le_of_ble_eq_true rfl) ⟨Nat.zero_le _, Nat.zero_le _⟩ dX4_readStock_49 (fun t49 ws49 k49 => ?_)
          obtain ⟨kp0_49, kp1_49, rfl⟩ := k49
          refine g_callVIw X (c_X7_answer l D cI cB cJ h_tp q_tp (p0 := t49) (by omega) (by omega) (by first | assumption | omega)) [5, 6, 7] rfl rfl rfl cv_X7_answer uw703 ⟨rfl, rfl, by decide, by decide⟩ 0 rfl rfl rfl rfl rfl (Nat.le_of_ble_eq_true rfl) ⟨Nat.zero_le _, Nat.zero_le _⟩ dX4_readStock_52 (fun t52 ws52 k52 => ?_)
          obtain ⟨kp0_52, rfl⟩ := k52
          refine ⟨rfl, ?_⟩
          refine g_ws (ws2 := ((wX4 cI cB cJ h q told_19 v_day v_x v_sales v_timesSoldOut v_soldOutToday upper_19 lower_19 money_1 soldOut_1) ++ (wX7 cI cB cJ h_tp q_tp v_tp_length tp_end_6 tp_at_19 tp_fault_19 tp_faultAt_19 v_tp_bytes v_tp_taken))) rfl ?_
          exact hQ _ _ _ _ dX4_readStock_55 ⟨told_19, upper_19, lower_19, money_1, soldOut_1, tp_end_6, tp_at_19, tp_fault_19, tp_faultAt_19, (by omega), r_upper_19, r_lower_19, r_money_1, r_soldOut_1, (by omega), (by omega), (by omega), (by omega), (by first | assumption | omega), (by first | assumption | omega), rfl⟩
  refine g_lv [1, 2, 0] rfl ?_
  exact L11 _ 0 told_1 tp_at_6 tp_fault_6 tp_faultAt_6 upper_1 lower_1 (by omega) (by omega) (by omega) (by omega) r_upper_1 r_lower_1 (by first | assumption | omega) (by first | assumption | omega) (by first | exact SKI.ini (by omega) (by omega) (by omega) rfl | exact SKI.step w11_2 (by omega) (by omega) (by omega) (by omega) kp1_19 kp2_19 (by omega) kp3_35 rfl) (Nat.lt_succ_self _)
set_option maxHeartbeats 600000 in
set_option maxRecDepth 100000 in
theorem c_X4_draw (l : Launch) (D : va_G) (cI cB cJ : ClassId) (h : Nat) (q : Nat → Nat) {v_told v_day v_x v_sales v_timesSoldOut v_soldOutToday : Int} {v_upper v_lower v_money v_soldOut : Nat → Int} (kr_v_x : 0 ≤ v_x ∧ v_x ≤ 65535) : CtI l yX4_draw cX4_draw 1 (some .int) ⟨0, 0, 0, 0⟩ D (TY cI cB cJ) (wX4 cI cB cJ h q v_told v_day v_x v_sales v_timesSoldOut v_soldOutToday v_upper v_lower v_money v_soldOut) [.ref h] (fun z ws' => ∃ n_x : Int, (0 ≤ n_x ∧ n_x ≤ 65535) ∧ (0 ≤ z ∧ z ≤ 9) ∧ (ws' = (wX4 cI cB cJ h q v_told v_day n_x v_sales v_timesSoldOut v_soldOutToday v_upper v_lower v_money v_soldOut))) := by
  refine hdrI (own := RX4) rfl (by decide +kernel) (Nat.le_of_ble_eq_true rfl) ?_
  intro p e s m args below meth c Q A X hQ
  refine g_lvE (lv2 := [(0, .ref h)]) rfl ?_
  refine g_aload_n X dX4_draw_0 0 rfl ?_
  refine g_sipush X (z := 25173) dX4_draw_1 (by decide) ?_
  refine g_aload_n X dX4_draw_4 0 rfl ?_
  refine gX4_get X 0 rfl 6 (by decide) uw327 rfl dX4_draw_5 ?_
  refine g_imul X dX4_draw_8 ?_
  refine g_sipush X (z := 13849) dX4_draw_9 (by decide) ?_
  refine g_iadd X dX4_draw_12 ?_
  refine g_ldc X (z := 65536) dX4_draw_13 uw1056 (by decide) ?_
  refine g_irem X dX4_draw_15 (by omega) (by omega) ?_
  refine g_nm (fun t15 e15 => ?_)
  have r15 : 0 ≤ t15 ∧ ((0 : Int) < 65536 → t15 < 65536) := by rw [e15]; exact ⟨Int.emod_nonneg _ (by omega), fun h => Int.emod_lt_of_pos _ h⟩
  refine gX4_put X 0 rfl 6 (by decide) uw327 rfl rfl rfl (Nat.le_of_ble_eq_true rfl) dX4_draw_16 (ws2 := (wX4 cI cB cJ h q v_told v_day t15 v_sales v_timesSoldOut v_soldOutToday v_upper v_lower v_money v_soldOut)) rfl ?_
  refine g_aload_n X dX4_draw_19 0 rfl ?_
  refine gX4_get X 0 rfl 6 (by decide) uw327 rfl dX4_draw_20 ?_
  refine g_bipush X (z := 10) dX4_draw_23 (by decide) ?_
  refine g_irem X dX4_draw_25 (by omega) (by omega) ?_
  refine g_nm (fun t25 e25 => ?_)
  have r25 : 0 ≤ t25 ∧ ((0 : Int) < 10 → t25 < 10) := by rw [e25]; exact ⟨Int.emod_nonneg _ (by omega), fun h => Int.emod_lt_of_pos _ h⟩
  exact hQ _ _ _ _ dX4_draw_26 ⟨t15, (by omega), (by first | assumption | omega), rfl⟩
