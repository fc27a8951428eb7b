def PS_X3_readFactor (lev : Nat) : Prop := ∀ (l : Launch) (D : va_G) (cI cB cJ : ClassId) (h : Nat) (q : Nat → Nat) (h_tp : Nat) (q_tp : Nat → Nat) (h_lw : Nat) (q_lw : Nat → Nat) {v_tp_length v_tp_end v_tp_at v_tp_fault v_tp_faultAt v_lw_size v_lw_length v_lw_height : Int} {v_tp_bytes v_tp_taken v_lw_letter v_lw_valueAt v_lw_testAt v_lw_endAt v_lw_sign v_lw_beside v_lw_seen v_lw_stack : Nat → Int} (p0 : Int) (kr_v_tp_end : 0 ≤ v_tp_end ∧ v_tp_end ≤ 260) (kr_v_tp_at : 0 ≤ v_tp_at ∧ v_tp_at ≤ 260) (kr_v_tp_fault : 0 ≤ v_tp_fault ∧ v_tp_fault ≤ 8) (kr_v_tp_faultAt : 0 ≤ v_tp_faultAt ∧ v_tp_faultAt ≤ 260) (r_v_tp_bytes : RA 0 255 v_tp_bytes) (kr_v_lw_length : 0 ≤ v_lw_length ∧ v_lw_length ≤ 256) (r_v_lw_sign : RA (-2147483648) 2147483647 v_lw_sign) (r_v_lw_beside : RA 0 99999 v_lw_beside) (hp0 : IR p0) (hp1 : 0 ≤ p0 ∧ p0 ≤ 6) (hp2 : v_lw_length ≤ v_tp_at) (hp3 : v_tp_at ≤ v_tp_end) (hp4 : v_tp_end ≤ 240) (hp5 : LInv v_lw_sign v_lw_beside) (hp6 : 6 - p0 ≤ (lev : Int)), CtV l yX3_readFactor cX3_readFactor 3 none ⟨12 + 4 * lev, 0, 0, 400 + 75 * lev⟩ D (TY cI cB cJ) ((wX3 cI cB cJ h q h_tp (.ref h_lw)) ++ (wX7 cI cB cJ h_tp q_tp v_tp_length v_tp_end v_tp_at v_tp_fault v_tp_faultAt v_tp_bytes v_tp_taken) ++ (wX2 cI cB cJ h_lw q_lw v_lw_size v_lw_length v_lw_height v_lw_letter v_lw_valueAt v_lw_testAt v_lw_endAt v_lw_sign v_lw_beside v_lw_seen v_lw_stack)) [.ref h, vI p0] (fun ws' => ∃ n_tp_at : Int, ∃ n_tp_fault : Int, ∃ n_tp_faultAt : Int, ∃ n_lw_length : Int, ∃ n_lw_sign : Nat → Int, ∃ n_lw_beside : Nat → Int, (0 ≤ n_tp_at ∧ n_tp_at ≤ 260) ∧ (0 ≤ n_tp_fault ∧ n_tp_fault ≤ 8) ∧ (0 ≤ n_tp_faultAt ∧ n_tp_faultAt ≤ 260) ∧ (0 ≤ n_lw_length ∧ n_lw_length ≤ 256) ∧ (RA (-2147483648) 2147483647 n_lw_sign) ∧ (RA 0 99999 n_lw_beside) ∧ (v_tp_at ≤ n_tp_at) ∧ (n_tp_at ≤ v_tp_end) ∧ (v_lw_length ≤ n_lw_length) ∧ (LInv n_lw_sign n_lw_beside) ∧ (Same v_lw_length v_lw_sign n_lw_sign) ∧ (v_tp_fault ≠ 0 → n_tp_fault ≠ 0) ∧ (n_lw_length - n_tp_at ≤ v_lw_length - v_tp_at) ∧ (ws' = ((wX3 cI cB cJ h q h_tp (.ref h_lw)) ++ (wX7 cI cB cJ h_tp q_tp v_tp_length v_tp_end n_tp_at n_tp_fault n_tp_faultAt v_tp_bytes v_tp_taken) ++ (wX2 cI cB cJ h_lw q_lw v_lw_size n_lw_length v_lw_height v_lw_letter v_lw_valueAt v_lw_testAt v_lw_endAt n_lw_sign n_lw_beside v_lw_seen v_lw_stack))))
def PS_X3_readTerm (lev : Nat) : Prop := ∀ (l : Launch) (D : va_G) (cI cB cJ : ClassId) (h : Nat) (q : Nat → Nat) (h_tp : Nat) (q_tp : Nat → Nat) (h_lw : Nat) (q_lw : Nat → Nat) {v_tp_length v_tp_end v_tp_at v_tp_fault v_tp_faultAt v_lw_size v_lw_length v_lw_height : Int} {v_tp_bytes v_tp_taken v_lw_letter v_lw_valueAt v_lw_testAt v_lw_endAt v_lw_sign v_lw_beside v_lw_seen v_lw_stack : Nat → Int} (p0 : Int) (kr_v_tp_end : 0 ≤ v_tp_end ∧ v_tp_end ≤ 260) (kr_v_tp_at : 0 ≤ v_tp_at ∧ v_tp_at ≤ 260) (kr_v_tp_fault : 0 ≤ v_tp_fault ∧ v_tp_fault ≤ 8) (kr_v_tp_faultAt : 0 ≤ v_tp_faultAt ∧ v_tp_faultAt ≤ 260) (r_v_tp_bytes : RA 0 255 v_tp_bytes) (kr_v_lw_length : 0 ≤ v_lw_length ∧ v_lw_length ≤ 256) (r_v_lw_sign : RA (-2147483648) 2147483647 v_lw_sign) (r_v_lw_beside : RA 0 99999 v_lw_beside) (hp0 : IR p0) (hp1 : 0 ≤ p0 ∧ p0 ≤ 6) (hp2 : v_lw_length ≤ v_tp_at) (hp3 : v_tp_at ≤ v_tp_end) (hp4 : v_tp_end ≤ 240) (hp5 : LInv v_lw_sign v_lw_beside) (hp6 : 6 - p0 ≤ (lev : Int)), CtV l yX3_readTerm cX3_readTerm 4 none ⟨13 + 4 * lev, 0, 0, 425 + 75 * lev⟩ D (TY cI cB cJ) ((wX3 cI cB cJ h q h_tp (.ref h_lw)) ++ (wX7 cI cB cJ h_tp q_tp v_tp_length v_tp_end v_tp_at v_tp_fault v_tp_faultAt v_tp_bytes v_tp_taken) ++ (wX2 cI cB cJ h_lw q_lw v_lw_size v_lw_length v_lw_height v_lw_letter v_lw_valueAt v_lw_testAt v_lw_endAt v_lw_sign v_lw_beside v_lw_seen v_lw_stack)) [.ref h, vI p0] (fun ws' => ∃ n_tp_at : Int, ∃ n_tp_fault : Int, ∃ n_tp_faultAt : Int, ∃ n_lw_length : Int, ∃ n_lw_sign : Nat → Int, ∃ n_lw_beside : Nat → Int, (0 ≤ n_tp_at ∧ n_tp_at ≤ 260) ∧ (0 ≤ n_tp_fault ∧ n_tp_fault ≤ 8) ∧ (0 ≤ n_tp_faultAt ∧ n_tp_faultAt ≤ 260) ∧ (0 ≤ n_lw_length ∧ n_lw_length ≤ 256) ∧ (RA (-2147483648) 2147483647 n_lw_sign) ∧ (RA 0 99999 n_lw_beside) ∧ (v_tp_at ≤ n_tp_at) ∧ (n_tp_at ≤ v_tp_end) ∧ (v_lw_length ≤ n_lw_length) ∧ (LInv n_lw_sign n_lw_beside) ∧ (Same v_lw_length v_lw_sign n_lw_sign) ∧ (v_tp_fault ≠ 0 → n_tp_fault ≠ 0) ∧ (n_lw_length - n_tp_at ≤ v_lw_length - v_tp_at) ∧ (ws' = ((wX3 cI cB cJ h q h_tp (.ref h_lw)) ++ (wX7 cI cB cJ h_tp q_tp v_tp_length v_tp_end n_tp_at n_tp_fault n_tp_faultAt v_tp_bytes v_tp_taken) ++ (wX2 cI cB cJ h_lw q_lw v_lw_size n_lw_length v_lw_height v_lw_letter v_lw_valueAt v_lw_testAt v_lw_endAt n_lw_sign n_lw_beside v_lw_seen v_lw_stack))))
def PS_X3_readSum (lev : Nat) : Prop := ∀ (l : Launch) (D : va_G) (cI cB cJ : ClassId) (h : Nat) (q : Nat → Nat) (h_tp : Nat) (q_tp : Nat → Nat) (h_lw : Nat) (q_lw : Nat → Nat) {v_tp_length v_tp_end v_tp_at v_tp_fault v_tp_faultAt v_lw_size v_lw_length v_lw_height : Int} {v_tp_bytes v_tp_taken v_lw_letter v_lw_valueAt v_lw_testAt v_lw_endAt v_lw_sign v_lw_beside v_lw_seen v_lw_stack : Nat → Int} (p0 : Int) (kr_v_tp_end : 0 ≤ v_tp_end ∧ v_tp_end ≤ 260) (kr_v_tp_at : 0 ≤ v_tp_at ∧ v_tp_at ≤ 260) (kr_v_tp_fault : 0 ≤ v_tp_fault ∧ v_tp_fault ≤ 8) (kr_v_tp_faultAt : 0 ≤ v_tp_faultAt ∧ v_tp_faultAt ≤ 260) (r_v_tp_bytes : RA 0 255 v_tp_bytes) (kr_v_lw_length : 0 ≤ v_lw_length ∧ v_lw_length ≤ 256) (r_v_lw_sign : RA (-2147483648) 2147483647 v_lw_sign) (r_v_lw_beside : RA 0 99999 v_lw_beside) (hp0 : IR p0) (hp1 : 0 ≤ p0 ∧ p0 ≤ 6) (hp2 : v_lw_length ≤ v_tp_at) (hp3 : v_tp_at ≤ v_tp_end) (hp4 : v_tp_end ≤ 240) (hp5 : LInv v_lw_sign v_lw_beside) (hp6 : 6 - p0 ≤ (lev : Int)), CtV l yX3_readSum cX3_readSum 4 none ⟨14 + 4 * lev, 0, 0, 450 + 75 * lev⟩ D (TY cI cB cJ) ((wX3 cI cB cJ h q h_tp (.ref h_lw)) ++ (wX7 cI cB cJ h_tp q_tp v_tp_length v_tp_end v_tp_at v_tp_fault v_tp_faultAt v_tp_bytes v_tp_taken) ++ (wX2 cI cB cJ h_lw q_lw v_lw_size v_lw_length v_lw_height v_lw_letter v_lw_valueAt v_lw_testAt v_lw_endAt v_lw_sign v_lw_beside v_lw_seen v_lw_stack)) [.ref h, vI p0] (fun ws' => ∃ n_tp_at : Int, ∃ n_tp_fault : Int, ∃ n_tp_faultAt : Int, ∃ n_lw_length : Int, ∃ n_lw_sign : Nat → Int, ∃ n_lw_beside : Nat → Int, (0 ≤ n_tp_at ∧ n_tp_at ≤ 260) ∧ (0 ≤ n_tp_fault ∧ n_tp_fault ≤ 8) ∧ (0 ≤ n_tp_faultAt ∧ n_tp_faultAt ≤ 260) ∧ (0 ≤ n_lw_length ∧ n_lw_length ≤ 256) ∧ (RA (-2147483648) 2147483647 n_lw_sign) ∧ (RA 0 99999 n_lw_beside) ∧ (v_tp_at ≤ n_tp_at) ∧ (n_tp_at ≤ v_tp_end) ∧ (v_lw_length ≤ n_lw_length) ∧ (LInv n_lw_sign n_lw_beside) ∧ (Same v_lw_length v_lw_sign n_lw_sign) ∧ (v_tp_fault ≠ 0 → n_tp_fault ≠ 0) ∧ (n_lw_length - n_tp_at ≤ v_lw_length - v_tp_at) ∧ (ws' = ((wX3 cI cB cJ h q h_tp (.ref h_lw)) ++ (wX7 cI cB cJ h_tp q_tp v_tp_length v_tp_end n_tp_at n_tp_fault n_tp_faultAt v_tp_bytes v_tp_taken) ++ (wX2 cI cB cJ h_lw q_lw v_lw_size n_lw_length v_lw_height v_lw_letter v_lw_valueAt v_lw_testAt v_lw_endAt n_lw_sign n_lw_beside v_lw_seen v_lw_stack))))
def PS_X0_waysToWeigh (lev : Nat) : Prop := ∀ (l : Launch) (D : va_G) (cI cB cJ : ClassId) (r_di : Nat) (r_we : Nat) {v_di v_we : Nat → Int} (p2 p3 p4 : Int) (r_v_di : RA (-2147483648) 2147483647 v_di) (r_v_we : RA (-2147483648) 2147483647 v_we) (hp0 : IR p2) (hp1 : IR p3) (hp2 : IR p4) (hp3 : 0 ≤ p3 ∧ p3 ≤ 4095) (hp4 : 0 ≤ p4 ∧ p4 ≤ 9) (hp5 : cnt p3.toNat ≤ lev), CtI l yX0_waysToWeigh cX0_waysToWeigh 9 (some .int) ⟨8 + lev, 0, 0, 200 + 30 * lev⟩ D (TY cI cB cJ) ((wA cI 144 r_di v_di) ++ (wA cI 4096 r_we v_we)) [.ref r_di, .ref r_we, vI p2, vI p3, vI p4] (fun z ws' => ∃ n_we : Nat → Int, (RA (-2147483648) 2147483647 n_we) ∧ (IR z) ∧ (ws' = ((wA cI 144 r_di v_di) ++ (wA cI 4096 r_we n_we))))
def PS_X8_grow (lev : Nat) : Prop := ∀ (l : Launch) (D : va_G) (cI cB cJ : ClassId) (h : Nat) (q : Nat → Nat) {v_lines v_many : Int} {v_least v_edges : Nat → Int} (p1 p2 : Int) (kr_v_lines : 0 ≤ v_lines ∧ v_lines ≤ 4) (kr_v_many : (-2147483648) ≤ v_many ∧ v_many ≤ 2147483647) (r_v_least : RA (-2147483648) 2147483647 v_least) (r_v_edges : RA (-2147483648) 2147483647 v_edges) (hp0 : IR p1) (hp1 : IR p2) (hp2 : 1 ≤ v_lines ∧ v_lines ≤ 4) (hp3 : 0 ≤ p1 ∧ p1 < v_lines) (hp4 : v_lines - p1 ≤ (lev : Int)), CtV l yX8_grow cX8_grow 6 none ⟨6 + lev, 0, 0, 200 + 40 * lev⟩ D (TY cI cB cJ) (wX8 cI cB cJ h q v_lines v_many v_least v_edges) [.ref h, vI p1, vI p2] (fun ws' => ∃ n_many : Int, ∃ n_least : Nat → Int, ∃ n_edges : Nat → Int, ((-2147483648) ≤ n_many ∧ n_many ≤ 2147483647) ∧ (RA (-2147483648) 2147483647 n_least) ∧ (RA (-2147483648) 2147483647 n_edges) ∧ (ws' = (wX8 cI cB cJ h q v_lines n_many n_least n_edges)))
set_option maxHeartbeats 600000 in
set_option maxRecDepth 100000 in
theorem c_X3_isOfTerm (l : Launch) (D : va_G) (cI cB cJ : ClassId) {p0 : Int} (hp0 : IR p0) : CtI l yX3_isOfTerm cX3_isOfTerm 1 (some .boolean) ⟨0, 0, 0, 0⟩ D (TY cI cB cJ) [] [vI p0] (fun z ws' => (z = 0 ∨ z = 1) ∧ ((z = 1 ∧ (p0 = 42 ∨ p0 = 47 ∨ p0 = 37)) ∨ (z = 0 ∧ p0 ≠ 42 ∧ p0 ≠ 47 ∧ p0 ≠ 37)) ∧ (ws' = [])) := by
  refine hdrZ (own := RX3) rfl (by decide +kernel) (Nat.le_of_ble_eq_true rfl) ?_
  intro p e s m args below meth c Q A X hQ
  refine g_lvE (lv2 := [(0, vI p0)]) rfl ?_
  refine g_iload_n X dX3_isOfTerm_0 0 rfl ?_
  refine g_bipush X (z := 42) dX3_isOfTerm_1 (by decide) ?_
  refine g_icmp_eq X (tgt := 18) dX3_isOfTerm_3 (by decide) (by omega) (by omega) (fun c3 => ?_) (fun c3 => ?_)
  · refine g_iconst X dX3_isOfTerm_18 ?_
    refine g_goto X (tgt := 23) dX3_isOfTerm_19 (by decide) ?_
    exact hQ _ _ _ _ dX3_isOfTerm_23 ⟨by omega, ⟨(by first | assumption | omega), rfl⟩⟩
  · refine g_iload_n X dX3_isOfTerm_6 0 rfl ?_
    refine g_bipush X (z := 47) dX3_isOfTerm_7 (by decide) ?_
    refine g_icmp_eq X (tgt := 18) dX3_isOfTerm_9 (by decide) (by omega) (by omega) (fun c9 => ?_) (fun c9 => ?_)
    · refine g_iconst X dX3_isOfTerm_18 ?_
      refine g_goto X (tgt := 23) dX3_isOfTerm_19 (by decide) ?_
      exact hQ _ _ _ _ dX3_isOfTerm_23 ⟨by omega, ⟨(by first | assumption | omega), rfl⟩⟩
    · refine g_iload_n X dX3_isOfTerm_12 0 rfl ?_
      refine g_bipush X (z := 37) dX3_isOfTerm_13 (by decide) ?_
      refine g_icmp_ne X (tgt := 22) dX3_isOfTerm_15 (by decide) (by omega) (by omega) (fun c15 => ?_) (fun c15 => ?_)
      · refine g_iconst X dX3_isOfTerm_22 ?_
        exact hQ _ _ _ _ dX3_isOfTerm_23 ⟨by omega, ⟨(by first | assumption | omega), rfl⟩⟩
      · refine g_iconst X dX3_isOfTerm_18 ?_
        refine g_goto X (tgt := 23) dX3_isOfTerm_19 (by decide) ?_
        exact hQ _ _ _ _ dX3_isOfTerm_23 ⟨by omega, ⟨(by first | assumption | omega), rfl⟩⟩
set_option maxHeartbeats 600000 in
set_option maxRecDepth 100000 in
theorem c_X3_open (l : Launch) (D : va_G) (cI cB cJ : ClassId) (h : Nat) (q : Nat → Nat) (h_tp : Nat) (q_tp : Nat → Nat) {o_law : Value} {v_tp_length v_tp_end v_tp_at v_tp_fault v_tp_faultAt : Int} {v_tp_bytes v_tp_taken : Nat → Int} {p0 : Int} (kr_v_tp_end : 0 ≤ v_tp_end ∧ v_tp_end ≤ 260) (kr_v_tp_at : 0 ≤ v_tp_at ∧ v_tp_at ≤ 260) (kr_v_tp_fault : 0 ≤ v_tp_fault ∧ v_tp_fault ≤ 8) (kr_v_tp_faultAt : 0 ≤ v_tp_faultAt ∧ v_tp_faultAt ≤ 260) (hp0 : IR p0) (hp1 : v_tp_fault = 0 ∧ v_tp_at < v_tp_end) (hp2 : 0 ≤ p0 ∧ p0 ≤ 6) : CtI l yX3_open cX3_open 2 (some .int) ⟨1, 0, 0, 22⟩ D (TY cI cB cJ) ((wX3 cI cB cJ h q h_tp o_law) ++ (wX7 cI cB cJ h_tp q_tp v_tp_length v_tp_end v_tp_at v_tp_fault v_tp_faultAt v_tp_bytes v_tp_taken)) [.ref h, vI p0] (fun z ws' => ∃ n_tp_at : Int, ∃ n_tp_fault : Int, ∃ n_tp_faultAt : Int, (0 ≤ n_tp_at ∧ n_tp_at ≤ 260) ∧ (0 ≤ n_tp_fault ∧ n_tp_fault ≤ 8) ∧ (0 ≤ n_tp_faultAt ∧ n_tp_faultAt ≤ 260) ∧ ((p0 = 6 ∧ z = p0 ∧ n_tp_at = v_tp_at ∧ n_tp_fault ≠ 0) ∨ (p0 < 6 ∧ z = p0 + 1 ∧ n_tp_at = v_tp_at + 1 ∧ n_tp_fault = 0)) ∧ (ws' = ((wX3 cI cB cJ h q h_tp o_law) ++ (wX7 cI cB cJ h_tp q_tp v_tp_length v_tp_end n_tp_at n_tp_fault n_tp_faultAt v_tp_bytes v_tp_taken)))) := by
  refine hdrI (own := RX3) rfl (by decide +kernel) (Nat.le_of_ble_eq_true rfl) ?_
  intro p e s m args below meth c Q A X hQ
  refine g_lvE (lv2 := [(0, .ref h), (1, vI p0)]) rfl ?_
  refine g_iload_n X dX3_open_0 1 rfl ?_
  refine g_bipush X (z := 6) dX3_open_1 (by decide) ?_
  refine g_icmp_lt X (tgt := 23) dX3_open_3 (by decide) (by omega) (by omega) (fun c3 => ?_) (fun c3 => ?_)
  · refine g_aload_n X dX3_open_23 0 rfl ?_
    refine gX3_get X 0 rfl 0 (by decide) uw242 rfl dX3_open_24 ?_
    refine g_callVVw X (c_X7_step l D cI cB cJ h_tp q_tp  (by omega) (by omega) (by omega) (by first | assumption | omega)) [1, 2, 3] rfl rfl rfl cv_X7_step uw505 ⟨rfl, rfl, by decide, by decide⟩ 0 rfl rfl rfl rfl rfl (Nat.le_of_ble_eq_true rfl) ⟨Nat.zero_le _, Nat.zero_le _⟩ dX3_open_27 (fun ws27 k27 => ?_)
    obtain ⟨tp_at_27, kr_tp_at_27, kp0_27, kp1_27, rfl⟩ := k27
    refine ⟨rfl, ?_⟩
    refine g_ws (ws2 := ((wX3 cI cB cJ h q h_tp o_law) ++ (wX7 cI cB cJ h_tp q_tp v_tp_length v_tp_end tp_at_27 v_tp_fault v_tp_faultAt v_tp_bytes v_tp_taken))) rfl ?_
    refine g_iload_n X dX3_open_30 1 rfl ?_
    refine g_iconst X dX3_open_31 ?_
    refine g_iadd X dX3_open_32 ?_
    exact hQ _ _ _ _ dX3_open_33 ⟨tp_at_27, v_tp_fault, v_tp_faultAt, (by omega), (by omega), (by omega), (by first | assumption | omega), rfl⟩
  · refine g_aload_n X dX3_open_6 0 rfl ?_
    refine gX3_get X 0 rfl 0 (by decide) uw242 rfl dX3_open_7 ?_
    refine g_iconst X dX3_open_10 ?_
    refine g_aload_n X dX3_open_11 0 rfl ?_
    refine gX3_get X 0 rfl 0 (by decide) uw242 rfl dX3_open_12 ?_
    refine gN_get X (T := TX7) 1 rfl rfl inU_X7 4 (by decide) nw140 rfl rfl dX3_open_15 ?_
    refine g_callVVw X (c_X7_fail l D cI cB cJ h_tp q_tp (p0 := 5) (p1 := v_tp_at) (by omega) (by omega) (by first | assumption | omega) (by first | assumption | omega) (by first | assumption | omega) (by first | assumption | omega)) [1, 2, 3] rfl rfl rfl cv_X7_fail uw501 ⟨rfl, rfl, by decide, by decide⟩ 0 rfl rfl rfl rfl rfl (Nat.le_of_ble_eq_true rfl) ⟨Nat.zero_le _, Nat.zero_le _⟩ dX3_open_18 (fun ws18 k18 => ?_)
    obtain ⟨tp_fault_18, tp_faultAt_18, kr_tp_fault_18, kr_tp_faultAt_18, kp0_18, kp1_18, rfl⟩ := k18
    refine ⟨rfl, ?_⟩
    refine g_ws (ws2 := ((wX3 cI cB cJ h q h_tp o_law) ++ (wX7 cI cB cJ h_tp q_tp v_tp_length v_tp_end v_tp_at tp_fault_18 tp_faultAt_18 v_tp_bytes v_tp_taken))) rfl ?_
    refine g_iload_n X dX3_open_21 1 rfl ?_
    exact hQ _ _ _ _ dX3_open_22 ⟨v_tp_at, tp_fault_18, tp_faultAt_18, (by omega), (by omega), (by omega), (by first | assumption | omega), rfl⟩
set_option maxHeartbeats 600000 in
set_option maxRecDepth 100000 in
theorem c_X3_readLetter (l : Launch) (D : va_G) (cI cB cJ : ClassId) (h : Nat) (q : Nat → Nat) (h_tp : Nat) (q_tp : Nat → Nat) (h_lw : Nat) (q_lw : Nat → Nat) {v_tp_length v_tp_end v_tp_at v_tp_fault v_tp_faultAt v_lw_size v_lw_length v_lw_height : Int} {v_tp_bytes v_tp_taken v_lw_letter v_lw_valueAt v_lw_testAt v_lw_endAt v_lw_sign v_lw_beside v_lw_seen v_lw_stack : Nat → Int} (kr_v_tp_end : 0 ≤ v_tp_end ∧ v_tp_end ≤ 260) (kr_v_tp_at : 0 ≤ v_tp_at ∧ v_tp_at ≤ 260) (kr_v_tp_fault : 0 ≤ v_tp_fault ∧ v_tp_fault ≤ 8) (kr_v_tp_faultAt : 0 ≤ v_tp_faultAt ∧ v_tp_faultAt ≤ 260) (r_v_tp_bytes : RA 0 255 v_tp_bytes) (kr_v_lw_length : 0 ≤ v_lw_length ∧ v_lw_length ≤ 256) (r_v_lw_sign : RA (-2147483648) 2147483647 v_lw_sign) (r_v_lw_beside : RA 0 99999 v_lw_beside) (hp0 : v_lw_length ≤ v_tp_at) (hp1 : v_tp_at ≤ v_tp_end) (hp2 : v_tp_end ≤ 240) (hp3 : LInv v_lw_sign v_lw_beside) : CtV l yX3_readLetter cX3_readLetter 2 none ⟨10, 0, 0, 300⟩ D (TY cI cB cJ) ((wX3 cI cB cJ h q h_tp (.ref h_lw)) ++ (wX7 cI cB cJ h_tp q_tp v_tp_length v_tp_end v_tp_at v_tp_fault v_tp_faultAt v_tp_bytes v_tp_taken) ++ (wX2 cI cB cJ h_lw q_lw v_lw_size v_lw_length v_lw_height v_lw_letter v_lw_valueAt v_lw_testAt v_lw_endAt v_lw_sign v_lw_beside v_lw_seen v_lw_stack)) [.ref h] (fun ws' => ∃ n_tp_at : Int, ∃ n_tp_fault : Int, ∃ n_tp_faultAt : Int, ∃ n_lw_length : Int, ∃ n_lw_sign : Nat → Int, ∃ n_lw_beside : Nat → Int, (0 ≤ n_tp_at ∧ n_tp_at ≤ 260) ∧ (0 ≤ n_tp_fault ∧ n_tp_fault ≤ 8) ∧ (0 ≤ n_tp_faultAt ∧ n_tp_faultAt ≤ 260) ∧ (0 ≤ n_lw_length ∧ n_lw_length ≤ 256) ∧ (RA (-2147483648) 2147483647 n_lw_sign) ∧ (RA 0 99999 n_lw_beside) ∧ (v_tp_at ≤ n_tp_at) ∧ (n_tp_at ≤ v_tp_end) ∧ (v_lw_length ≤ n_lw_length) ∧ (LInv n_lw_sign n_lw_beside) ∧ (Same v_lw_length v_lw_sign n_lw_sign) ∧ (v_tp_fault ≠ 0 → n_tp_fault ≠ 0) ∧ (n_lw_length - n_tp_at ≤ v_lw_length - v_tp_at) ∧ (ws' = ((wX3 cI cB cJ h q h_tp (.ref h_lw)) ++ (wX7 cI cB cJ h_tp q_tp v_tp_length v_tp_end n_tp_at n_tp_fault n_tp_faultAt v_tp_bytes v_tp_taken) ++ (wX2 cI cB cJ h_lw q_lw v_lw_size n_lw_length v_lw_height v_lw_letter v_lw_valueAt v_lw_testAt v_lw_endAt n_lw_sign n_lw_beside v_lw_seen v_lw_stack)))) := by
  refine hdrV (own := RX3) rfl (by decide +kernel) (Nat.le_of_ble_eq_true rfl) ?_
  intro p e s m args below meth c Q A X hQ
  refine g_lvE (lv2 := [(0, .ref h)]) rfl ?_
  refine g_iconst X dX3_readLetter_0 ?_
  refine g_istore_n X (lv' := [(1, vI 0), (0, .ref h)]) dX3_readLetter_1 (by decide) rfl ?_
  have L2 : ∀ (n : Nat) (x1_2 : Int), (0 ≤ x1_2 ∧ x1_2 ≤ 9) → (9 - x1_2).toNat < n → GG p l e ⟨10, 0, 0, 300⟩ s m args below meth c 0 0 Q D A s.heap 2 ((wX3 cI cB cJ h q h_tp (.ref h_lw)) ++ (wX7 cI cB cJ h_tp q_tp v_tp_length v_tp_end v_tp_at v_tp_fault v_tp_faultAt v_tp_bytes v_tp_taken) ++ (wX2 cI cB cJ h_lw q_lw v_lw_size v_lw_length v_lw_height v_lw_letter v_lw_valueAt v_lw_testAt v_lw_endAt v_lw_sign v_lw_beside v_lw_seen v_lw_stack)) 2 [(0, .ref h), (1, vI x1_2)] [] := by
    intro n
    induction n with
    | zero => intros; exfalso; omega
    | succ n ih2 =>
      intro x1_2 w2_0 wm2
      refine g_iload_n X dX3_readLetter_2 1 rfl ?_
      refine g_ldcS X (Or.inr ⟨rfl, rfl⟩) dX3_readLetter_3 (fun a3 hS3 => ?_)
      refine g_strlen X hS3 cv_J0_length_8abf5 uw553 ⟨by decide, by decide⟩ (Nat.le_of_ble_eq_true rfl) ⟨Nat.zero_le _, Nat.zero_le _⟩ dX3_readLetter_5 ?_
      refine g_icmp_ge X (tgt := 52) dX3_readLetter_8 (by decide) (by omega) (by omega) (fun c8 => ?_) (fun c8 => ?_)
      · refine g_aload_n X dX3_readLetter_52 0 rfl ?_
        refine gX3_get X 0 rfl 0 (by decide) uw242 rfl dX3_readLetter_53 ?_
        refine g_iconst X dX3_readLetter_56 ?_
        refine g_aload_n X dX3_readLetter_57 0 rfl ?_
        refine gX3_get X 0 rfl 0 (by decide) uw242 rfl dX3_readLetter_58 ?_
        refine gN_get X (T := TX7) 1 rfl rfl inU_X7 4 (by decide) nw140 rfl rfl dX3_readLetter_61 ?_
        refine g_callVVw X (c_X7_fail l D cI cB cJ h_tp q_tp (p0 := 1) (p1 := v_tp_at) (by omega) (by omega) (by first | assumption | omega) (by first | assumption | omega) (by first | assumption | omega) (by first | assumption | omega)) [1, 2, 3] rfl rfl rfl cv_X7_fail uw501 ⟨rfl, rfl, (by dsimp only; omega), (by dsimp only; omega)⟩ 0 rfl rfl rfl rfl rfl (Nat.le_of_ble_eq_true rfl) ⟨Nat.zero_le _, Nat.zero_le _⟩ dX3_readLetter_64 (fun ws64 k64 => ?_)
        obtain ⟨tp_fault_64, tp_faultAt_64, kr_tp_fault_64, kr_tp_faultAt_64, kp0_64, kp1_64, rfl⟩ := k64
        refine ⟨rfl, ?_⟩
        refine g_ws (ws2 := ((wX3 cI cB cJ h q h_tp (.ref h_lw)) ++ (wX7 cI cB cJ h_tp q_tp v_tp_length v_tp_end v_tp_at tp_fault_64 tp_faultAt_64 v_tp_bytes v_tp_taken) ++ (wX2 cI cB cJ h_lw q_lw v_lw_size v_lw_length v_lw_height v_lw_letter v_lw_valueAt v_lw_testAt v_lw_endAt v_lw_sign v_lw_beside v_lw_seen v_lw_stack))) rfl ?_
        exact hQ _ _ _ dX3_readLetter_67 ⟨v_tp_at, tp_fault_64, tp_faultAt_64, v_lw_length, v_lw_sign, v_lw_beside, (by omega), (by omega), (by omega), (by omega), r_v_lw_sign, r_v_lw_beside, (by first | assumption | omega), (by first | assumption | omega), (by first | assumption | omega), (by first | assumption | (rw [kp2_41, kp3_41]; exact LInv.up hp3 _ _ _ (fun h => by omega))), (by first | assumption | exact Same.refl _ _ | (rw [kp2_41]; exact Same.up (Same.refl _ _) (by omega))), (by first | assumption | omega), (by first | assumption | omega), rfl⟩
      · refine g_aload_n X dX3_readLetter_11 0 rfl ?_
        refine gX3_get X 0 rfl 0 (by decide) uw242 rfl dX3_readLetter_12 ?_
        refine g_callVIw X (c_X7_sign l D cI cB cJ h_tp q_tp  (by omega) (by omega) (by omega) r_v_tp_bytes) [1, 2, 3] rfl rfl rfl cv_X7_sign uw497 ⟨rfl, rfl, (by dsimp only; omega), (by dsimp only; omega)⟩ 0 rfl rfl rfl rfl rfl (Nat.le_of_ble_eq_true rfl) ⟨Nat.zero_le _, Nat.zero_le _⟩ dX3_readLetter_15 (fun t15 ws15 k15 => ?_)
        obtain ⟨kp0_15, kp1_15, kp2_15, rfl⟩ := k15
        refine ⟨rfl, ?_⟩
        refine g_ws (ws2 := ((wX3 cI cB cJ h q h_tp (.ref h_lw)) ++ (wX7 cI cB cJ h_tp q_tp v_tp_length v_tp_end v_tp_at v_tp_fault v_tp_faultAt v_tp_bytes v_tp_taken) ++ (wX2 cI cB cJ h_lw q_lw v_lw_size v_lw_length v_lw_height v_lw_letter v_lw_valueAt v_lw_testAt v_lw_endAt v_lw_sign v_lw_beside v_lw_seen v_lw_stack))) rfl ?_
        refine g_ldcS X (Or.inr ⟨rfl, rfl⟩) dX3_readLetter_18 (fun a18 hS18 => ?_)
        refine g_iload_n X dX3_readLetter_20 1 rfl ?_
        refine g_charAt X hS18 cv_J0_charAt_5068e uw554 ⟨by decide, by decide⟩ (by omega) (Nat.le_of_ble_eq_true rfl) ⟨Nat.zero_le _, Nat.zero_le _⟩ dX3_readLetter_21 (fun t21 r21 => ?_)
        refine g_icmp_ne X (tgt := 46) dX3_readLetter_24 (by decide) (by omega) (by omega) (fun c24 => ?_) (fun c24 => ?_)
        · refine g_iinc X (lv' := [(1, vI (x1_2 + 1)), (0, .ref h)]) dX3_readLetter_46 1 rfl (by decide) rfl ?_
          refine g_goto X (tgt := 2) dX3_readLetter_49 (by decide) ?_
          refine g_lv [1, 0] rfl ?_
          exact ih2 (x1_2 + 1) (by first | assumption | omega) (by omega)
        · refine g_aload_n X dX3_readLetter_27 0 rfl ?_
          refine gX3_get X 0 rfl 0 (by decide) uw242 rfl dX3_readLetter_28 ?_
          refine g_callVVw X (c_X7_step l D cI cB cJ h_tp q_tp  (by omega) (by omega) (by omega) (by first | assumption | omega)) [1, 2, 3] rfl rfl rfl cv_X7_step uw505 ⟨rfl, rfl, (by dsimp only; omega), (by dsimp only; omega)⟩ 0 rfl rfl rfl rfl rfl (Nat.le_of_ble_eq_true rfl) ⟨Nat.zero_le _, Nat.zero_le _⟩ dX3_readLetter_31 (fun ws31 k31 => ?_)
          obtain ⟨tp_at_31, kr_tp_at_31, kp0_31, kp1_31, rfl⟩ := k31
          refine ⟨rfl, ?_⟩
          refine g_ws (ws2 := ((wX3 cI cB cJ h q h_tp (.ref h_lw)) ++ (wX7 cI cB cJ h_tp q_tp v_tp_length v_tp_end tp_at_31 v_tp_fault v_tp_faultAt v_tp_bytes v_tp_taken) ++ (wX2 cI cB cJ h_lw q_lw v_lw_size v_lw_length v_lw_height v_lw_letter v_lw_valueAt v_lw_testAt v_lw_endAt v_lw_sign v_lw_beside v_lw_seen v_lw_stack))) rfl ?_
          refine g_aload_n X dX3_readLetter_34 0 rfl ?_
          refine gX3_get X 0 rfl 1 (by decide) uw243 rfl dX3_readLetter_35 ?_
          refine g_bipush X (z := 97) dX3_readLetter_38 (by decide) ?_
          refine g_iload_n X dX3_readLetter_40 1 rfl ?_
          refine g_callVIw X (c_X2_add l D cI cB cJ h_lw q_lw (p0 := 97) (p1 := x1_2) (by omega) r_v_lw_sign r_v_lw_beside (by first | assumption | omega) (by first | assumption | omega) (by first | assumption | omega) (by first | assumption | omega)) [4, 5, 6, 7, 8, 9, 10, 11, 12] rfl rfl rfl cv_X2_add uw544 ⟨rfl, rfl, (by dsimp only; omega), (by dsimp only; omega)⟩ 0 rfl rfl rfl rfl rfl (Nat.le_of_ble_eq_true rfl) ⟨Nat.zero_le _, Nat.zero_le _⟩ dX3_readLetter_41 (fun t41 ws41 k41 => ?_)
          obtain ⟨lw_length_41, lw_sign_41, lw_beside_41, kr_lw_length_41, r_lw_sign_41, r_lw_beside_41, kp0_41, kp1_41, kp2_41, kp3_41, rfl⟩ := k41
          refine ⟨rfl, ?_⟩
          refine g_ws (ws2 := ((wX3 cI cB cJ h q h_tp (.ref h_lw)) ++ (wX7 cI cB cJ h_tp q_tp v_tp_length v_tp_end tp_at_31 v_tp_fault v_tp_faultAt v_tp_bytes v_tp_taken) ++ (wX2 cI cB cJ h_lw q_lw v_lw_size lw_length_41 v_lw_height v_lw_letter v_lw_valueAt v_lw_testAt v_lw_endAt lw_sign_41 lw_beside_41 v_lw_seen v_lw_stack))) rfl ?_
          refine g_pop X rfl dX3_readLetter_44 ?_
          exact hQ _ _ _ dX3_readLetter_45 ⟨tp_at_31, v_tp_fault, v_tp_faultAt, lw_length_41, lw_sign_41, lw_beside_41, (by omega), (by omega), (by omega), (by omega), r_lw_sign_41, r_lw_beside_41, (by first | assumption | omega), (by first | assumption | omega), (by first | assumption | omega), (by first | assumption | (rw [kp2_41, kp3_41]; exact LInv.up hp3 _ _ _ (fun h => by omega))), (by first | assumption | exact Same.refl _ _ | (rw [kp2_41]; exact Same.up (Same.refl _ _) (by omega))), (by first | assumption | omega), (by first | assumption | omega), rfl⟩
  refine g_lv [1, 0] rfl ?_
  exact L2 _ 0 (by first | assumption | omega) (Nat.lt_succ_self _)
set_option maxHeartbeats 600000 in
set_option maxRecDepth 100000 in
theorem r_X3_readFactor (lev : Nat) (IH : ∀ m : Nat, lev = m + 1 → PS_X3_readSum m) : PS_X3_readFactor lev := by
  intro l D cI cB cJ h q h_tp q_tp h_lw q_lw v_tp_length v_tp_end v_tp_at v_tp_fault v_tp_faultAt v_lw_size v_lw_length v_lw_height v_tp_bytes v_tp_taken v_lw_letter v_lw_valueAt v_lw_testAt v_lw_endAt v_lw_sign v_lw_beside v_lw_seen v_lw_stack p0 kr_v_tp_end kr_v_tp_at kr_v_tp_fault kr_v_tp_faultAt r_v_tp_bytes kr_v_lw_length r_v_lw_sign r_v_lw_beside hp0 hp1 hp2 hp3 hp4 hp5 hp6
  refine hdrV (own := RX3) rfl (by decide +kernel) (Nat.le_of_ble_eq_true rfl) ?_
  intro p e s m args below meth c Q A X hQ
  refine g_lvE (lv2 := [(0, .ref h), (1, vI p0)]) rfl ?_
  refine g_aload_n X dX3_readFactor_0 0 rfl ?_
  refine gX3_get X 0 rfl 0 (by decide) uw242 rfl dX3_readFactor_1 ?_
  refine g_callVIw X (c_X7_sign l D cI cB cJ h_tp q_tp  (by omega) (by omega) (by omega) r_v_tp_bytes) [1, 2, 3] rfl rfl rfl cv_X7_sign uw497 ⟨rfl, rfl, (by dsimp only; omega), (by dsimp only; omega)⟩ 0 rfl rfl rfl rfl rfl (Nat.le_of_ble_eq_true rfl) ⟨Nat.zero_le _, Nat.zero_le _⟩ dX3_readFactor_4 (fun t4 ws4 k4 => ?_)
  obtain ⟨kp0_4, kp1_4, kp2_4, rfl⟩ := k4
  refine ⟨rfl, ?_⟩
  refine g_ws (ws2 := ((wX3 cI cB cJ h q h_tp (.ref h_lw)) ++ (wX7 cI cB cJ h_tp q_tp v_tp_length v_tp_end v_tp_at v_tp_fault v_tp_faultAt v_tp_bytes v_tp_taken) ++ (wX2 cI cB cJ h_lw q_lw v_lw_size v_lw_length v_lw_height v_lw_letter v_lw_valueAt v_lw_testAt v_lw_endAt v_lw_sign v_lw_beside v_lw_seen v_lw_stack))) rfl ?_
  refine g_bipush X (z := 91) dX3_readFactor_7 (by decide) ?_
  refine g_icmp_ne X (tgt := 45) dX3_readFactor_9 (by decide) (by omega) (by omega) (fun c9 => ?_) (fun c9 => ?_)
  · refine g_aload_n X dX3_readFactor_45 0 rfl ?_
    refine gX3_get X 0 rfl 0 (by decide) uw242 rfl dX3_readFactor_46 ?_
    refine g_callVIw X (c_X7_sign l D cI cB cJ h_tp q_tp  (by omega) (by omega) (by omega) r_v_tp_bytes) [1, 2, 3] rfl rfl rfl cv_X7_sign uw497 ⟨rfl, rfl, (by dsimp only; omega), (by dsimp only; omega)⟩ 0 rfl rfl rfl rfl rfl (Nat.le_of_ble_eq_true rfl) ⟨Nat.zero_le _, Nat.zero_le _⟩ dX3_readFactor_49 (fun t49 ws49 k49 => ?_)
    obtain ⟨kp0_49, kp1_49, kp2_49, rfl⟩ := k49
    refine ⟨rfl, ?_⟩
    refine g_ws (ws2 := ((wX3 cI cB cJ h q h_tp (.ref h_lw)) ++ (wX7 cI cB cJ h_tp q_tp v_tp_length v_tp_end v_tp_at v_tp_fault v_tp_faultAt v_tp_bytes v_tp_taken) ++ (wX2 cI cB cJ h_lw q_lw v_lw_size v_lw_length v_lw_height v_lw_letter v_lw_valueAt v_lw_testAt v_lw_endAt v_lw_sign v_lw_beside v_lw_seen v_lw_stack))) rfl ?_
    refine g_callSIE X (c_X7_isDigit l D cI cB cJ (p0 := t49) (by first | assumption | omega)) cv_X7_isDigit uw536 ⟨rfl, rfl, (by dsimp only; omega), (by dsimp only; omega)⟩ rfl rfl (Nat.le_of_ble_eq_true rfl) ⟨Nat.zero_le _, Nat.zero_le _⟩ dX3_readFactor_52 (fun t52 ws52 k52 => ?_)
    obtain ⟨kb_52, ⟨kp0_52, rfl⟩⟩ := k52
    refine g_if_eq X (tgt := 79) dX3_readFactor_55 (by decide) (by omega) (fun c55 => ?_) (fun c55 => ?_)
    · clear kb_52
      replace kp0_52 := (kp0_52.resolve_left (fun h => absurd h.1 (by omega))).2
      refine g_aload_n X dX3_readFactor_79 0 rfl ?_
      refine g_callVV0 X (c_X3_readLetter l D cI cB cJ h q h_tp q_tp h_lw q_lw  (by omega) (by omega) (by omega) (by omega) r_v_tp_bytes (by omega) r_v_lw_sign r_v_lw_beside (by first | assumption | omega) (by first | assumption | omega) (by first | assumption | omega) (by first | assumption | omega)) cv_X3_readLetter uw548 ⟨rfl, rfl, (by dsimp only; omega), (by dsimp only; omega)⟩ 0 rfl rfl rfl rfl rfl (Nat.le_of_ble_eq_true rfl) ⟨Nat.zero_le _, Nat.zero_le _⟩ dX3_readFactor_80 (fun ws80 k80 => ?_)
      obtain ⟨tp_at_80, tp_fault_80, tp_faultAt_80, lw_length_80, lw_sign_80, lw_beside_80, kr_tp_at_80, kr_tp_fault_80, kr_tp_faultAt_80, kr_lw_length_80, r_lw_sign_80, r_lw_beside_80, kp0_80, kp1_80, kp2_80, kp3_80, kp4_80, kp5_80, kp6_80, rfl⟩ := k80
      exact hQ _ _ _ dX3_readFactor_83 ⟨tp_at_80, tp_fault_80, tp_faultAt_80, lw_length_80, lw_sign_80, lw_beside_80, (by omega), (by omega), (by omega), (by omega), r_lw_sign_80, r_lw_beside_80, (by first | assumption | omega), (by first | assumption | omega), (by first | assumption | omega), (by first | assumption | (rw [kp2_72, kp3_72]; exact LInv.up hp5 _ _ _ (fun h => by omega))), (by first | assumption | exact Same.refl _ _ | (rw [kp2_72]; exact Same.up (Same.refl _ _) (by omega))), (by first | assumption | omega), (by first | assumption | omega), rfl⟩
    · replace kb_52 := kb_52.resolve_left (fun h => c55 h)
      replace kp0_52 := kp0_52.resolve_right (fun h => c55 h.1)
      refine g_aload_n X dX3_readFactor_58 0 rfl ?_
      refine gX3_get X 0 rfl 1 (by decide) uw243 rfl dX3_readFactor_59 ?_
      refine g_bipush X (z := 48) dX3_readFactor_62 (by decide) ?_
      refine g_aload_n X dX3_readFactor_64 0 rfl ?_
      refine gX3_get X 0 rfl 0 (by decide) uw242 rfl dX3_readFactor_65 ?_
      refine g_iconst X dX3_readFactor_68 ?_
      refine g_callVIw X (c_X7_number l D cI cB cJ h_tp q_tp (p0 := 5) (by omega) (by omega) (by omega) (by omega) r_v_tp_bytes (by first | assumption | omega) (by first | assumption | omega) (by first | assumption | omega)) [1, 2, 3] rfl rfl rfl cv_X7_number uw539 ⟨rfl, rfl, (by dsimp only; omega), (by dsimp only; omega)⟩ 0 rfl rfl rfl rfl rfl (Nat.le_of_ble_eq_true rfl) ⟨Nat.zero_le _, Nat.zero_le _⟩ dX3_readFactor_69 (fun t69 ws69 k69 => ?_)
      obtain ⟨tp_at_69, tp_fault_69, tp_faultAt_69, kr_tp_at_69, kr_tp_fault_69, kr_tp_faultAt_69, kp0_69, kp1_69, kp2_69, kp3_69, kp4_69, kp5_69, kp6_69, kp7_69, rfl⟩ := k69
      refine ⟨rfl, ?_⟩
      refine g_ws (ws2 := ((wX3 cI cB cJ h q h_tp (.ref h_lw)) ++ (wX7 cI cB cJ h_tp q_tp v_tp_length v_tp_end tp_at_69 tp_fault_69 tp_faultAt_69 v_tp_bytes v_tp_taken) ++ (wX2 cI cB cJ h_lw q_lw v_lw_size v_lw_length v_lw_height v_lw_letter v_lw_valueAt v_lw_testAt v_lw_endAt v_lw_sign v_lw_beside v_lw_seen v_lw_stack))) rfl ?_
      refine g_callVIw X (c_X2_add l D cI cB cJ h_lw q_lw (p0 := 48) (p1 := t69) (by omega) r_v_lw_sign r_v_lw_beside (by first | assumption | omega) (by first | assumption | omega) (by first | assumption | omega) (by first | assumption | omega)) [4, 5, 6, 7, 8, 9, 10, 11, 12] rfl rfl rfl cv_X2_add uw544 ⟨rfl, rfl, (by dsimp only; omega), (by dsimp only; omega)⟩ 0 rfl rfl rfl rfl rfl (Nat.le_of_ble_eq_true rfl) ⟨Nat.zero_le _, Nat.zero_le _⟩ dX3_readFactor_72 (fun t72 ws72 k72 => ?_)
      obtain ⟨lw_length_72, lw_sign_72, lw_beside_72, kr_lw_length_72, r_lw_sign_72, r_lw_beside_72, kp0_72, kp1_72, kp2_72, kp3_72, rfl⟩ := k72
      refine ⟨rfl, ?_⟩
      refine g_ws (ws2 := ((wX3 cI cB cJ h q h_tp (.ref h_lw)) ++ (wX7 cI cB cJ h_tp q_tp v_tp_length v_tp_end tp_at_69 tp_fault_69 tp_faultAt_69 v_tp_bytes v_tp_taken) ++ (wX2 cI cB cJ h_lw q_lw v_lw_size lw_length_72 v_lw_height v_lw_letter v_lw_valueAt v_lw_testAt v_lw_endAt lw_sign_72 lw_beside_72 v_lw_seen v_lw_stack))) rfl ?_
      refine g_pop X rfl dX3_readFactor_75 ?_
      refine g_goto X (tgt := 83) dX3_readFactor_76 (by decide) ?_
      exact hQ _ _ _ dX3_readFactor_83 ⟨tp_at_69, tp_fault_69, tp_faultAt_69, lw_length_72, lw_sign_72, lw_beside_72, (by omega), (by omega), (by omega), (by omega), r_lw_sign_72, r_lw_beside_72, (by first | assumption | omega), (by first | assumption | omega), (by first | assumption | omega), (by first | assumption | (rw [kp2_72, kp3_72]; exact LInv.up hp5 _ _ _ (fun h => by omega))), (by first | assumption | exact Same.refl _ _ | (rw [kp2_72]; exact Same.up (Same.refl _ _) (by omega))), (by first | assumption | omega), (by first | assumption | omega), rfl⟩
  · refine g_aload_n X dX3_readFactor_12 0 rfl ?_
    refine g_iload_n X dX3_readFactor_13 1 rfl ?_
    refine g_callVIw X (c_X3_open l D cI cB cJ h q h_tp q_tp (p0 := p0) (by omega) (by omega) (by omega) (by omega) (by first | assumption | omega) (by first | assumption | omega) (by first | assumption | omega)) [0, 1, 2, 3] rfl rfl rfl cv_X3_open uw521 ⟨rfl, rfl, (by dsimp only; omega), (by dsimp only; omega)⟩ 0 rfl rfl rfl rfl rfl (Nat.le_of_ble_eq_true rfl) ⟨Nat.zero_le _, Nat.zero_le _⟩ dX3_readFactor_14 (fun t14 ws14 k14 => ?_)
    obtain ⟨tp_at_14, tp_fault_14, tp_faultAt_14, kr_tp_at_14, kr_tp_fault_14, kr_tp_faultAt_14, kp0_14, rfl⟩ := k14
    refine ⟨rfl, ?_⟩
    refine g_ws (ws2 := ((wX3 cI cB cJ h q h_tp (.ref h_lw)) ++ (wX7 cI cB cJ h_tp q_tp v_tp_length v_tp_end tp_at_14 tp_fault_14 tp_faultAt_14 v_tp_bytes v_tp_taken) ++ (wX2 cI cB cJ h_lw q_lw v_lw_size v_lw_length v_lw_height v_lw_letter v_lw_valueAt v_lw_testAt v_lw_endAt v_lw_sign v_lw_beside v_lw_seen v_lw_stack))) rfl ?_
    refine g_istore_n X (lv' := [(2, vI t14), (0, .ref h), (1, vI p0)]) dX3_readFactor_17 (by decide) rfl ?_
    refine g_aload_n X dX3_readFactor_18 1 rfl ?_
    refine gX3_get X 0 rfl 0 (by decide) uw242 rfl dX3_readFactor_19 ?_
    refine g_callVIw X (c_X7_hasFailed l D cI cB cJ h_tp q_tp  (by omega)) [1, 2, 3] rfl rfl rfl cv_X7_hasFailed uw525 ⟨rfl, rfl, (by dsimp only; omega), (by dsimp only; omega)⟩ 0 rfl rfl rfl rfl rfl (Nat.le_of_ble_eq_true rfl) ⟨Nat.zero_le _, Nat.zero_le _⟩ dX3_readFactor_22 (fun t22 ws22 k22 => ?_)
    obtain ⟨kb_22, ⟨kp0_22, rfl⟩⟩ := k22
    refine ⟨rfl, ?_⟩
    refine g_ws (ws2 := ((wX3 cI cB cJ h q h_tp (.ref h_lw)) ++ (wX7 cI cB cJ h_tp q_tp v_tp_length v_tp_end tp_at_14 tp_fault_14 tp_faultAt_14 v_tp_bytes v_tp_taken) ++ (wX2 cI cB cJ h_lw q_lw v_lw_size v_lw_length v_lw_height v_lw_letter v_lw_valueAt v_lw_testAt v_lw_endAt v_lw_sign v_lw_beside v_lw_seen v_lw_stack))) rfl ?_
    refine g_if_ne X (tgt := 42) dX3_readFactor_25 (by decide) (by omega) (fun c25 => ?_) (fun c25 => ?_)
    · replace kb_22 := kb_22.resolve_left (fun h => c25 h)
      replace kp0_22 := kp0_22.resolve_right (fun h => c25 h.1)
      refine g_goto X (tgt := 83) dX3_readFactor_42 (by decide) ?_
      exact hQ _ _ _ dX3_readFactor_83 ⟨tp_at_14, tp_fault_14, tp_faultAt_14, v_lw_length, v_lw_sign, v_lw_beside, (by omega), (by omega), (by omega), (by omega), r_v_lw_sign, r_v_lw_beside, (by first | assumption | omega), (by first | assumption | omega), (by first | assumption | omega), (by first | assumption | (rw [kp2_72, kp3_72]; exact LInv.up hp5 _ _ _ (fun h => by omega))), (by first | assumption | exact Same.refl _ _ | (rw [kp2_72]; exact Same.up (Same.refl _ _) (by omega))), (by first | assumption | omega), (by first | assumption | omega), rfl⟩
    · clear kb_22
      replace kp0_22 := (kp0_22.resolve_left (fun h => absurd h.1 (by omega))).2
      obtain ⟨mm, rfl⟩ : ∃ mm, lev = mm + 1 := ⟨lev - 1, by omega⟩
      refine g_aload_n X dX3_readFactor_28 1 rfl ?_
      refine g_iload_n X dX3_readFactor_29 0 rfl ?_
      refine g_callVV0 X (IH mm rfl l D cI cB cJ h q h_tp q_tp h_lw q_lw t14 (by omega) (by omega) (by omega) (by omega) r_v_tp_bytes (by omega) r_v_lw_sign r_v_lw_beside (by first | assumption | omega) (by first | assumption | omega) (by first | assumption | omega) (by first | assumption | omega) (by first | assumption | omega) (by first | assumption | omega) (by first | assumption | omega)) cv_X3_readSum uw509 ⟨rfl, rfl, (by dsimp only; omega), (by dsimp only; omega)⟩ 0 rfl rfl rfl rfl rfl (Nat.le_of_ble_eq_true rfl) ⟨Nat.zero_le _, Nat.zero_le _⟩ dX3_readFactor_30 (fun ws30 k30 => ?_)
      obtain ⟨tp_at_30, tp_fault_30, tp_faultAt_30, lw_length_30, lw_sign_30, lw_beside_30, kr_tp_at_30, kr_tp_fault_30, kr_tp_faultAt_30, kr_lw_length_30, r_lw_sign_30, r_lw_beside_30, kp0_30, kp1_30, kp2_30, kp3_30, kp4_30, kp5_30, kp6_30, rfl⟩ := k30
      refine g_aload_n X dX3_readFactor_33 1 rfl ?_
      refine gX3_get X 0 rfl 0 (by decide) uw242 rfl dX3_readFactor_34 ?_
      refine g_bipush X (z := 93) dX3_readFactor_37 (by decide) ?_
      refine g_callVVw X (c_X7_pass l D cI cB cJ h_tp q_tp (p0 := 93) (by omega) (by omega) (by omega) (by omega) r_v_tp_bytes (by first | assumption | omega) (by first | assumption | omega) (by first | assumption | omega)) [1, 2, 3] rfl rfl rfl cv_X7_pass uw529 ⟨rfl, rfl, (by dsimp only; omega), (by dsimp only; omega)⟩ 0 rfl rfl rfl rfl rfl (Nat.le_of_ble_eq_true rfl) ⟨Nat.zero_le _, Nat.zero_le _⟩ dX3_readFactor_39 (fun ws39 k39 => ?_)
      obtain ⟨tp_at_39, tp_fault_39, tp_faultAt_39, kr_tp_at_39, kr_tp_fault_39, kr_tp_faultAt_39, kp0_39, kp1_39, kp2_39, kp3_39, rfl⟩ := k39
      refine ⟨rfl, ?_⟩
      refine g_ws (ws2 := ((wX3 cI cB cJ h q h_tp (.ref h_lw)) ++ (wX7 cI cB cJ h_tp q_tp v_tp_length v_tp_end tp_at_39 tp_fault_39 tp_faultAt_39 v_tp_bytes v_tp_taken) ++ (wX2 cI cB cJ h_lw q_lw v_lw_size lw_length_30 v_lw_height v_lw_letter v_lw_valueAt v_lw_testAt v_lw_endAt lw_sign_30 lw_beside_30 v_lw_seen v_lw_stack))) rfl ?_
      refine g_goto X (tgt := 83) dX3_readFactor_42 (by decide) ?_
      exact hQ _ _ _ dX3_readFactor_83 ⟨tp_at_39, tp_fault_39, tp_faultAt_39, lw_length_30, lw_sign_30, lw_beside_30, (by omega), (by omega), (by omega), (by omega), r_lw_sign_30, r_lw_beside_30, (by first | assumption | omega), (by first | assumption | omega), (by first | assumption | omega), (by first | assumption | (rw [kp2_72, kp3_72]; exact LInv.up hp5 _ _ _ (fun h => by omega))), (by first | assumption | exact Same.refl _ _ | (rw [kp2_72]; exact Same.up (Same.refl _ _) (by omega))), (by first | assumption | omega), (by first | assumption | omega), rfl⟩
set_option maxHeartbeats 600000 in
set_option maxRecDepth 100000 in
theorem r_X3_readTerm (lev : Nat) (HF : PS_X3_readFactor lev) : PS_X3_readTerm lev := by
  intro l D cI cB cJ h q h_tp q_tp h_lw q_lw v_tp_length v_tp_end v_tp_at v_tp_fault v_tp_faultAt v_lw_size v_lw_length v_lw_height v_tp_bytes v_tp_taken v_lw_letter v_lw_valueAt v_lw_testAt v_lw_endAt v_lw_sign v_lw_beside v_lw_seen v_lw_stack p0 kr_v_tp_end kr_v_tp_at kr_v_tp_fault kr_v_tp_faultAt r_v_tp_bytes kr_v_lw_length r_v_lw_sign r_v_lw_beside hp0 hp1 hp2 hp3 hp4 hp5 hp6
  refine hdrV (own := RX3) rfl (by decide +kernel) (Nat.le_of_ble_eq_true rfl) ?_
  intro p e s m args below meth c Q A X hQ
  refine g_lvE (lv2 := [(0, .ref h), (1, vI p0)]) rfl ?_
  refine g_aload_n X dX3_readTerm_0 0 rfl ?_
  refine g_iload_n X dX3_readTerm_1 1 rfl ?_
  refine g_callVV0 X (HF l D cI cB cJ h q h_tp q_tp h_lw q_lw p0 (by omega) (by omega) (by omega) (by omega) r_v_tp_bytes (by omega) r_v_lw_sign r_v_lw_beside (by first | assumption | omega) (by first | assumption | omega) (by first | assumption | omega) (by first | assumption | omega) (by first | assumption | omega) (by first | assumption | omega) (by first | assumption | omega)) cv_X3_readFactor uw517 ⟨rfl, rfl, (by dsimp only; omega), (by dsimp only; omega)⟩ 0 rfl rfl rfl rfl rfl (Nat.le_of_ble_eq_true rfl) ⟨Nat.zero_le _, Nat.zero_le _⟩ dX3_readTerm_2 (fun ws2 k2 => ?_)
  obtain ⟨tp_at_2, tp_fault_2, tp_faultAt_2, lw_length_2, lw_sign_2, lw_beside_2, kr_tp_at_2, kr_tp_fault_2, kr_tp_faultAt_2, kr_lw_length_2, r_lw_sign_2, r_lw_beside_2, kp0_2, kp1_2, kp2_2, kp3_2, kp4_2, kp5_2, kp6_2, rfl⟩ := k2
  refine g_iconst X dX3_readTerm_5 ?_
  refine g_istore_n X (lv' := [(2, vI 0), (0, .ref h), (1, vI p0)]) dX3_readTerm_6 (by decide) rfl ?_
  have L7 : ∀ (n : Nat) (x2_7 : Int) (tp_at_7 : Int) (tp_fault_7 : Int) (tp_faultAt_7 : Int) (lw_length_7 : Int) (lw_sign_7 : Nat → Int) (lw_beside_7 : Nat → Int), (0 ≤ tp_at_7 ∧ tp_at_7 ≤ 260) → (0 ≤ tp_fault_7 ∧ tp_fault_7 ≤ 8) → (0 ≤ tp_faultAt_7 ∧ tp_faultAt_7 ≤ 260) → (0 ≤ lw_length_7 ∧ lw_length_7 ≤ 256) → (RA (-2147483648) 2147483647 lw_sign_7) → (RA 0 99999 lw_beside_7) → (0 ≤ x2_7 ∧ x2_7 ≤ 240) → (v_tp_at ≤ tp_at_7) → (tp_at_7 ≤ v_tp_end) → (v_lw_length ≤ lw_length_7) → (LInv lw_sign_7 lw_beside_7) → (Same v_lw_length v_lw_sign lw_sign_7) → (v_tp_fault ≠ 0 → tp_fault_7 ≠ 0) → (lw_length_7 - tp_at_7 ≤ v_lw_length - v_tp_at) → (240 - x2_7).toNat < n → GG p l e ⟨13 + 4 * lev, 0, 0, 425 + 75 * lev⟩ s m args below meth c 0 0 Q D A s.heap 4 ((wX3 cI cB cJ h q h_tp (.ref h_lw)) ++ (wX7 cI cB cJ h_tp q_tp v_tp_length v_tp_end tp_at_7 tp_fault_7 tp_faultAt_7 v_tp_bytes v_tp_taken) ++ (wX2 cI cB cJ h_lw q_lw v_lw_size lw_length_7 v_lw_height v_lw_letter v_lw_valueAt v_lw_testAt v_lw_endAt lw_sign_7 lw_beside_7 v_lw_seen v_lw_stack)) 7 [(0, .ref h), (1, vI p0), (2, vI x2_7)] [] := by
    intro n
    induction n with
    | zero => intros; exfalso; omega
    | succ n ih7 =>
      intro x2_7 tp_at_7 tp_fault_7 tp_faultAt_7 lw_length_7 lw_sign_7 lw_beside_7 kr_tp_at_7 kr_tp_fault_7 kr_tp_faultAt_7 kr_lw_length_7 r_lw_sign_7 r_lw_beside_7 w7_0 w7_1 w7_2 w7_3 w7_4 w7_5 w7_6 w7_7 wm7
      refine g_iload_n X dX3_readTerm_7 2 rfl ?_
      refine g_sipush X (z := 240) dX3_readTerm_8 (by decide) ?_
      refine g_icmp_ge X (tgt := 63) dX3_readTerm_11 (by decide) (by omega) (by omega) (fun c11 => ?_) (fun c11 => ?_)
      · exact hQ _ _ _ dX3_readTerm_63 ⟨tp_at_7, tp_fault_7, tp_faultAt_7, lw_length_7, lw_sign_7, lw_beside_7, (by omega), (by omega), (by omega), (by omega), r_lw_sign_7, r_lw_beside_7, (by first | assumption | omega), (by first | assumption | omega), (by first | assumption | omega), (by first | assumption | omega), (by first | assumption | omega), (by first | assumption | omega), (by first | assumption | omega), rfl⟩
      · refine g_aload_n X dX3_readTerm_14 0 rfl ?_
        refine gX3_get X 0 rfl 0 (by decide) uw242 rfl dX3_readTerm_15 ?_
        refine g_callVIw X (c_X7_sign l D cI cB cJ h_tp q_tp  (by omega) (by omega) (by omega) r_v_tp_bytes) [1, 2, 3] rfl rfl rfl cv_X7_sign uw497 ⟨rfl, rfl, (by dsimp only; omega), (by dsimp only; omega)⟩ 0 rfl rfl rfl rfl rfl (Nat.le_of_ble_eq_true rfl) ⟨Nat.zero_le _, Nat.zero_le _⟩ dX3_readTerm_18 (fun t18 ws18 k18 => ?_)
        obtain ⟨kp0_18, kp1_18, kp2_18, rfl⟩ := k18
        refine ⟨rfl, ?_⟩
        refine g_ws (ws2 := ((wX3 cI cB cJ h q h_tp (.ref h_lw)) ++ (wX7 cI cB cJ h_tp q_tp v_tp_length v_tp_end tp_at_7 tp_fault_7 tp_faultAt_7 v_tp_bytes v_tp_taken) ++ (wX2 cI cB cJ h_lw q_lw v_lw_size lw_length_7 v_lw_height v_lw_letter v_lw_valueAt v_lw_testAt v_lw_endAt lw_sign_7 lw_beside_7 v_lw_seen v_lw_stack))) rfl ?_
        refine g_callSIE X (c_X3_isOfTerm l D cI cB cJ (p0 := t18) (by first | assumption | omega)) cv_X3_isOfTerm uw592 ⟨rfl, rfl, (by dsimp only; omega), (by dsimp only; omega)⟩ rfl rfl (Nat.le_of_ble_eq_true rfl) ⟨Nat.zero_le _, Nat.zero_le _⟩ dX3_readTerm_21 (fun t21 ws21 k21 => ?_)
        obtain ⟨kb_21, ⟨kp0_21, rfl⟩⟩ := k21
        refine g_if_eq X (tgt := 63) dX3_readTerm_24 (by decide) (by omega) (fun c24 => ?_) (fun c24 => ?_)
        · clear kb_21
          replace kp0_21 := (kp0_21.resolve_left (fun h => absurd h.1 (by omega))).2
          exact hQ _ _ _ dX3_readTerm_63 ⟨tp_at_7, tp_fault_7, tp_faultAt_7, lw_length_7, lw_sign_7, lw_beside_7, (by omega), (by omega), (by omega), (by omega), r_lw_sign_7, r_lw_beside_7, (by first | assumption | omega), (by first | assumption | omega), (by first | assumption | omega), (by first | assumption | omega), (by first | assumption | omega), (by first | assumption | omega), (by first | assumption | omega), rfl⟩
        · replace kb_21 := kb_21.resolve_left (fun h => c24 h)
          replace kp0_21 := kp0_21.resolve_right (fun h => c24 h.1)
          refine g_aload_n X dX3_readTerm_27 0 rfl ?_
          refine gX3_get X 0 rfl 0 (by decide) uw242 rfl dX3_readTerm_28 ?_
          refine g_callVIw X (c_X7_sign l D cI cB cJ h_tp q_tp  (by omega) (by omega) (by omega) r_v_tp_bytes) [1, 2, 3] rfl rfl rfl cv_X7_sign uw497 ⟨rfl, rfl, (by dsimp only; omega), (by dsimp only; omega)⟩ 0 rfl rfl rfl rfl rfl (Nat.le_of_ble_eq_true rfl) ⟨Nat.zero_le _, Nat.zero_le _⟩ dX3_readTerm_31 (fun t31 ws31 k31 => ?_)
          obtain ⟨kp0_31, kp1_31, kp2_31, rfl⟩ := k31
          refine ⟨rfl, ?_⟩
          refine g_ws (ws2 := ((wX3 cI cB cJ h q h_tp (.ref h_lw)) ++ (wX7 cI cB cJ h_tp q_tp v_tp_length v_tp_end tp_at_7 tp_fault_7 tp_faultAt_7 v_tp_bytes v_tp_taken) ++ (wX2 cI cB cJ h_lw q_lw v_lw_size lw_length_7 v_lw_height v_lw_letter v_lw_valueAt v_lw_testAt v_lw_endAt lw_sign_7 lw_beside_7 v_lw_seen v_lw_stack))) rfl ?_
          refine g_istore_n X (lv' := [(3, vI t31), (0, .ref h), (1, vI p0), (2, vI x2_7)]) dX3_readTerm_34 (by decide) rfl ?_
          refine g_aload_n X dX3_readTerm_35 1 rfl ?_
          refine gX3_get X 0 rfl 0 (by decide) uw242 rfl dX3_readTerm_36 ?_
          refine g_callVVw X (c_X7_step l D cI cB cJ h_tp q_tp  (by omega) (by omega) (by omega) (by first | assumption | omega)) [1, 2, 3] rfl rfl rfl cv_X7_step uw505 ⟨rfl, rfl, (by dsimp only; omega), (by dsimp only; omega)⟩ 0 rfl rfl rfl rfl rfl (Nat.le_of_ble_eq_true rfl) ⟨Nat.zero_le _, Nat.zero_le _⟩ dX3_readTerm_39 (fun ws39 k39 => ?_)
          obtain ⟨tp_at_39, kr_tp_at_39, kp0_39, kp1_39, rfl⟩ := k39
          refine ⟨rfl, ?_⟩
          refine g_ws (ws2 := ((wX3 cI cB cJ h q h_tp (.ref h_lw)) ++ (wX7 cI cB cJ h_tp q_tp v_tp_length v_tp_end tp_at_39 tp_fault_7 tp_faultAt_7 v_tp_bytes v_tp_taken) ++ (wX2 cI cB cJ h_lw q_lw v_lw_size lw_length_7 v_lw_height v_lw_letter v_lw_valueAt v_lw_testAt v_lw_endAt lw_sign_7 lw_beside_7 v_lw_seen v_lw_stack))) rfl ?_
          refine g_aload_n X dX3_readTerm_42 1 rfl ?_
          refine g_iload_n X dX3_readTerm_43 2 rfl ?_
          refine g_callVV0 X (HF l D cI cB cJ h q h_tp q_tp h_lw q_lw p0 (by omega) (by omega) (by omega) (by omega) r_v_tp_bytes (by omega) r_lw_sign_7 r_lw_beside_7 (by first | assumption | omega) (by first | assumption | omega) (by first | assumption | omega) (by first | assumption | omega) (by first | assumption | omega) (by first | assumption | omega) (by first | assumption | omega)) cv_X3_readFactor uw517 ⟨rfl, rfl, (by dsimp only; omega), (by dsimp only; omega)⟩ 0 rfl rfl rfl rfl rfl (Nat.le_of_ble_eq_true rfl) ⟨Nat.zero_le _, Nat.zero_le _⟩ dX3_readTerm_44 (fun ws44 k44 => ?_)
          obtain ⟨tp_at_44, tp_fault_44, tp_faultAt_44, lw_length_44, lw_sign_44, lw_beside_44, kr_tp_at_44, kr_tp_fault_44, kr_tp_faultAt_44, kr_lw_length_44, r_lw_sign_44, r_lw_beside_44, kp0_44, kp1_44, kp2_44, kp3_44, kp4_44, kp5_44, kp6_44, rfl⟩ := k44
          refine g_aload_n X dX3_readTerm_47 1 rfl ?_
          refine gX3_get X 0 rfl 1 (by decide) uw243 rfl dX3_readTerm_48 ?_
          refine g_iload_n X dX3_readTerm_51 0 rfl ?_
          refine g_iconst X dX3_readTerm_52 ?_
          refine g_callVIw X (c_X2_add l D cI cB cJ h_lw q_lw (p0 := t31) (p1 := 0) (by omega) r_lw_sign_44 r_lw_beside_44 (by first | assumption | omega) (by first | assumption | omega) (by first | assumption | omega) (by first | assumption | omega)) [4, 5, 6, 7, 8, 9, 10, 11, 12] rfl rfl rfl cv_X2_add uw544 ⟨rfl, rfl, (by dsimp only; omega), (by dsimp only; omega)⟩ 0 rfl rfl rfl rfl rfl (Nat.le_of_ble_eq_true rfl) ⟨Nat.zero_le _, Nat.zero_le _⟩ dX3_readTerm_53 (fun t53 ws53 k53 => ?_)
          obtain ⟨lw_length_53, lw_sign_53, lw_beside_53, kr_lw_length_53, r_lw_sign_53, r_lw_beside_53, kp0_53, kp1_53, kp2_53, kp3_53, rfl⟩ := k53
          refine ⟨rfl, ?_⟩
          refine g_ws (ws2 := ((wX3 cI cB cJ h q h_tp (.ref h_lw)) ++ (wX7 cI cB cJ h_tp q_tp v_tp_length v_tp_end tp_at_44 tp_fault_44 tp_faultAt_44 v_tp_bytes v_tp_taken) ++ (wX2 cI cB cJ h_lw q_lw v_lw_size lw_length_53 v_lw_height v_lw_letter v_lw_valueAt v_lw_testAt v_lw_endAt lw_sign_53 lw_beside_53 v_lw_seen v_lw_stack))) rfl ?_
          refine g_pop X rfl dX3_readTerm_56 ?_
          refine g_iinc X (lv' := [(2, vI (x2_7 + 1)), (3, vI t31), (0, .ref h), (1, vI p0)]) dX3_readTerm_57 3 rfl (by decide) rfl ?_
          refine g_goto X (tgt := 7) dX3_readTerm_60 (by decide) ?_
          refine g_lv [2, 3, 0] rfl ?_
          exact ih7 (x2_7 + 1) tp_at_44 tp_fault_44 tp_faultAt_44 lw_length_53 lw_sign_53 lw_beside_53 (by omega) (by omega) (by omega) (by omega) r_lw_sign_53 r_lw_beside_53 (by first | assumption | omega) (by first | assumption | omega) (by first | assumption | omega) (by first | assumption | omega) (by first | assumption | (rw [kp2_53, kp3_53]; exact LInv.up kp3_44 _ _ _ (fun h => by omega))) (by first | assumption | exact Same.refl _ _ | (rw [kp2_53]; exact Same.up (Same.trans w7_5 kp4_44 (by omega)) (by omega))) (by first | assumption | omega) (by first | assumption | omega) (by omega)
  refine g_lv [1, 2, 0] rfl ?_
  exact L7 _ 0 tp_at_2 tp_fault_2 tp_faultAt_2 lw_length_2 lw_sign_2 lw_beside_2 (by omega) (by omega) (by omega) (by omega) r_lw_sign_2 r_lw_beside_2 (by first | assumption | omega) (by first | assumption | omega) (by first | assumption | omega) (by first | assumption | omega) (by first | assumption | (rw [kp2_53, kp3_53]; exact LInv.up kp3_44 _ _ _ (fun h => by omega))) (by first | assumption | exact Same.refl _ _ | (rw [kp2_53]; exact Same.up (Same.trans w7_5 kp4_44 (by omega)) (by omega))) (by first | assumption | omega) (by first | assumption | omega) (Nat.lt_succ_self _)
set_option maxHeartbeats 600000 in
set_option maxRecDepth 100000 in
theorem r_X3_readSum (lev : Nat) (HT : PS_X3_readTerm lev) : PS_X3_readSum lev := by
  intro l D cI cB cJ h q h_tp q_tp h_lw q_lw v_tp_length v_tp_end v_tp_at v_tp_fault v_tp_faultAt v_lw_size v_lw_length v_lw_height v_tp_bytes v_tp_taken v_lw_letter v_lw_valueAt v_lw_testAt v_lw_endAt v_lw_sign v_lw_beside v_lw_seen v_lw_stack p0 kr_v_tp_end kr_v_tp_at kr_v_tp_fault kr_v_tp_faultAt r_v_tp_bytes kr_v_lw_length r_v_lw_sign r_v_lw_beside hp0 hp1 hp2 hp3 hp4 hp5 hp6
  refine hdrV (own := RX3) rfl (by decide +kernel) (Nat.le_of_ble_eq_true rfl) ?_
  intro p e s m args below meth c Q A X hQ
  refine g_lvE (lv2 := [(0, .ref h), (1, vI p0)]) rfl ?_
  refine g_aload_n X dX3_readSum_0 0 rfl ?_
  refine g_iload_n X dX3_readSum_1 1 rfl ?_
  refine g_callVV0 X (HT l D cI cB cJ h q h_tp q_tp h_lw q_lw p0 (by omega) (by omega) (by omega) (by omega) r_v_tp_bytes (by omega) r_v_lw_sign r_v_lw_beside (by first | assumption | omega) (by first | assumption | omega) (by first | assumption | omega) (by first | assumption | omega) (by first | assumption | omega) (by first | assumption | omega) (by first | assumption | omega)) cv_X3_readTerm uw513 ⟨rfl, rfl, (by dsimp only; omega), (by dsimp only; omega)⟩ 0 rfl rfl rfl rfl rfl (Nat.le_of_ble_eq_true rfl) ⟨Nat.zero_le _, Nat.zero_le _⟩ dX3_readSum_2 (fun ws2 k2 => ?_)
  obtain ⟨tp_at_2, tp_fault_2, tp_faultAt_2, lw_length_2, lw_sign_2, lw_beside_2, kr_tp_at_2, kr_tp_fault_2, kr_tp_faultAt_2, kr_lw_length_2, r_lw_sign_2, r_lw_beside_2, kp0_2, kp1_2, kp2_2, kp3_2, kp4_2, kp5_2, kp6_2, rfl⟩ := k2
  refine g_iconst X dX3_readSum_5 ?_
  refine g_istore_n X (lv' := [(2, vI 0), (0, .ref h), (1, vI p0)]) dX3_readSum_6 (by decide) rfl ?_
  have L7 : ∀ (n : Nat) (x2_7 : Int) (tp_at_7 : Int) (tp_fault_7 : Int) (tp_faultAt_7 : Int) (lw_length_7 : Int) (lw_sign_7 : Nat → Int) (lw_beside_7 : Nat → Int), (0 ≤ tp_at_7 ∧ tp_at_7 ≤ 260) → (0 ≤ tp_fault_7 ∧ tp_fault_7 ≤ 8) → (0 ≤ tp_faultAt_7 ∧ tp_faultAt_7 ≤ 260) → (0 ≤ lw_length_7 ∧ lw_length_7 ≤ 256) → (RA (-2147483648) 2147483647 lw_sign_7) → (RA 0 99999 lw_beside_7) → (0 ≤ x2_7 ∧ x2_7 ≤ 240) → (v_tp_at ≤ tp_at_7) → (tp_at_7 ≤ v_tp_end) → (v_lw_length ≤ lw_length_7) → (LInv lw_sign_7 lw_beside_7) → (Same v_lw_length v_lw_sign lw_sign_7) → (v_tp_fault ≠ 0 → tp_fault_7 ≠ 0) → (lw_length_7 - tp_at_7 ≤ v_lw_length - v_tp_at) → (240 - x2_7).toNat < n → GG p l e ⟨14 + 4 * lev, 0, 0, 450 + 75 * lev⟩ s m args below meth c 0 0 Q D A s.heap 4 ((wX3 cI cB cJ h q h_tp (.ref h_lw)) ++ (wX7 cI cB cJ h_tp q_tp v_tp_length v_tp_end tp_at_7 tp_fault_7 tp_faultAt_7 v_tp_bytes v_tp_taken) ++ (wX2 cI cB cJ h_lw q_lw v_lw_size lw_length_7 v_lw_height v_lw_letter v_lw_valueAt v_lw_testAt v_lw_endAt lw_sign_7 lw_beside_7 v_lw_seen v_lw_stack)) 7 [(0, .ref h), (1, vI p0), (2, vI x2_7)] [] := by
    intro n
    induction n with
    | zero => intros; exfalso; omega
    | succ n ih7 =>
      intro x2_7 tp_at_7 tp_fault_7 tp_faultAt_7 lw_length_7 lw_sign_7 lw_beside_7 kr_tp_at_7 kr_tp_fault_7 kr_tp_faultAt_7 kr_lw_length_7 r_lw_sign_7 r_lw_beside_7 w7_0 w7_1 w7_2 w7_3 w7_4 w7_5 w7_6 w7_7 wm7
      refine g_iload_n X dX3_readSum_7 2 rfl ?_
      refine g_sipush X (z := 240) dX3_readSum_8 (by decide) ?_
      refine g_icmp_ge X (tgt := 74) dX3_readSum_11 (by decide) (by omega) (by omega) (fun c11 => ?_) (fun c11 => ?_)
      · exact hQ _ _ _ dX3_readSum_74 ⟨tp_at_7, tp_fault_7, tp_faultAt_7, lw_length_7, lw_sign_7, lw_beside_7, (by omega), (by omega), (by omega), (by omega), r_lw_sign_7, r_lw_beside_7, (by first | assumption | omega), (by first | assumption | omega), (by first | assumption | omega), (by first | assumption | omega), (by first | assumption | omega), (by first | assumption | omega), (by first | assumption | omega), rfl⟩
      · refine g_aload_n X dX3_readSum_14 0 rfl ?_
        refine gX3_get X 0 rfl 0 (by decide) uw242 rfl dX3_readSum_15 ?_
        refine g_callVIw X (c_X7_sign l D cI cB cJ h_tp q_tp  (by omega) (by omega) (by omega) r_v_tp_bytes) [1, 2, 3] rfl rfl rfl cv_X7_sign uw497 ⟨rfl, rfl, (by dsimp only; omega), (by dsimp only; omega)⟩ 0 rfl rfl rfl rfl rfl (Nat.le_of_ble_eq_true rfl) ⟨Nat.zero_le _, Nat.zero_le _⟩ dX3_readSum_18 (fun t18 ws18 k18 => ?_)
        obtain ⟨kp0_18, kp1_18, kp2_18, rfl⟩ := k18
        refine ⟨rfl, ?_⟩
        refine g_ws (ws2 := ((wX3 cI cB cJ h q h_tp (.ref h_lw)) ++ (wX7 cI cB cJ h_tp q_tp v_tp_length v_tp_end tp_at_7 tp_fault_7 tp_faultAt_7 v_tp_bytes v_tp_taken) ++ (wX2 cI cB cJ h_lw q_lw v_lw_size lw_length_7 v_lw_height v_lw_letter v_lw_valueAt v_lw_testAt v_lw_endAt lw_sign_7 lw_beside_7 v_lw_seen v_lw_stack))) rfl ?_
        refine g_bipush X (z := 43) dX3_readSum_21 (by decide) ?_
        refine g_icmp_eq X (tgt := 38) dX3_readSum_23 (by decide) (by omega) (by omega) (fun c23 => ?_) (fun c23 => ?_)
        · refine g_aload_n X dX3_readSum_38 0 rfl ?_
          refine gX3_get X 0 rfl 0 (by decide) uw242 rfl dX3_readSum_39 ?_
          refine g_callVIw X (c_X7_sign l D cI cB cJ h_tp q_tp  (by omega) (by omega) (by omega) r_v_tp_bytes) [1, 2, 3] rfl rfl rfl cv_X7_sign uw497 ⟨rfl, rfl, (by dsimp only; omega), (by dsimp only; omega)⟩ 0 rfl rfl rfl rfl rfl (Nat.le_of_ble_eq_true rfl) ⟨Nat.zero_le _, Nat.zero_le _⟩ dX3_readSum_42 (fun t42 ws42 k42 => ?_)
          obtain ⟨kp0_42, kp1_42, kp2_42, rfl⟩ := k42
          refine ⟨rfl, ?_⟩
          refine g_ws (ws2 := ((wX3 cI cB cJ h q h_tp (.ref h_lw)) ++ (wX7 cI cB cJ h_tp q_tp v_tp_length v_tp_end tp_at_7 tp_fault_7 tp_faultAt_7 v_tp_bytes v_tp_taken) ++ (wX2 cI cB cJ h_lw q_lw v_lw_size lw_length_7 v_lw_height v_lw_letter v_lw_valueAt v_lw_testAt v_lw_endAt lw_sign_7 lw_beside_7 v_lw_seen v_lw_stack))) rfl ?_
          refine g_istore_n X (lv' := [(3, vI t42), (0, .ref h), (1, vI p0), (2, vI x2_7)]) dX3_readSum_45 (by decide) rfl ?_
          refine g_aload_n X dX3_readSum_46 1 rfl ?_
          refine gX3_get X 0 rfl 0 (by decide) uw242 rfl dX3_readSum_47 ?_
          refine g_callVVw X (c_X7_step l D cI cB cJ h_tp q_tp  (by omega) (by omega) (by omega) (by first | assumption | omega)) [1, 2, 3] rfl rfl rfl cv_X7_step uw505 ⟨rfl, rfl, (by dsimp only; omega), (by dsimp only; omega)⟩ 0 rfl rfl rfl rfl rfl (Nat.le_of_ble_eq_true rfl) ⟨Nat.zero_le _, Nat.zero_le _⟩ dX3_readSum_50 (fun ws50 k50 => ?_)
          obtain ⟨tp_at_50, kr_tp_at_50, kp0_50, kp1_50, rfl⟩ := k50
          refine ⟨rfl, ?_⟩
          refine g_ws (ws2 := ((wX3 cI cB cJ h q h_tp (.ref h_lw)) ++ (wX7 cI cB cJ h_tp q_tp v_tp_length v_tp_end tp_at_50 tp_fault_7 tp_faultAt_7 v_tp_bytes v_tp_taken) ++ (wX2 cI cB cJ h_lw q_lw v_lw_size lw_length_7 v_lw_height v_lw_letter v_lw_valueAt v_lw_testAt v_lw_endAt lw_sign_7 lw_beside_7 v_lw_seen v_lw_stack))) rfl ?_
          refine g_aload_n X dX3_readSum_53 1 rfl ?_
          refine g_iload_n X dX3_readSum_54 2 rfl ?_
          refine g_callVV0 X (HT l D cI cB cJ h q h_tp q_tp h_lw q_lw p0 (by omega) (by omega) (by omega) (by omega) r_v_tp_bytes (by omega) r_lw_sign_7 r_lw_beside_7 (by first | assumption | omega) (by first | assumption | omega) (by first | assumption | omega) (by first | assumption | omega) (by first | assumption | omega) (by first | assumption | omega) (by first | assumption | omega)) cv_X3_readTerm uw513 ⟨rfl, rfl, (by dsimp only; omega), (by dsimp only; omega)⟩ 0 rfl rfl rfl rfl rfl (Nat.le_of_ble_eq_true rfl) ⟨Nat.zero_le _, Nat.zero_le _⟩ dX3_readSum_55 (fun ws55 k55 => ?_)
          obtain ⟨tp_at_55, tp_fault_55, tp_faultAt_55, lw_length_55, lw_sign_55, lw_beside_55, kr_tp_at_55, kr_tp_fault_55, kr_tp_faultAt_55, kr_lw_length_55, r_lw_sign_55, r_lw_beside_55, kp0_55, kp1_55, kp2_55, kp3_55, kp4_55, kp5_55, kp6_55, rfl⟩ := k55
          refine g_aload_n X dX3_readSum_58 1 rfl ?_
          refine gX3_get X 0 rfl 1 (by decide) uw243 rfl dX3_readSum_59 ?_
          refine g_iload_n X dX3_readSum_62 0 rfl ?_
          refine g_iconst X dX3_readSum_63 ?_
          refine g_callVIw X (c_X2_add l D cI cB cJ h_lw q_lw (p0 := t42) (p1 := 0) (by omega) r_lw_sign_55 r_lw_beside_55 (by first | assumption | omega) (by first | assumption | omega) (by first | assumption | omega) (by first | assumption | omega)) [4, 5, 6, 7, 8, 9, 10, 11, 12] rfl rfl rfl cv_X2_add uw544 ⟨rfl, rfl, (by dsimp only; omega), (by dsimp only; omega)⟩ 0 rfl rfl rfl rfl rfl (Nat.le_of_ble_eq_true rfl) ⟨Nat.zero_le _, Nat.zero_le _⟩ dX3_readSum_64 (fun t64 ws64 k64 => ?_)
          obtain ⟨lw_length_64, lw_sign_64, lw_beside_64, kr_lw_length_64, r_lw_sign_64, r_lw_beside_64, kp0_64, kp1_64, kp2_64, kp3_64, rfl⟩ := k64
          refine ⟨rfl, ?_⟩
          refine g_ws (ws2 := ((wX3 cI cB cJ h q h_tp (.ref h_lw)) ++ (wX7 cI cB cJ h_tp q_tp v_tp_length v_tp_end tp_at_55 tp_fault_55 tp_faultAt_55 v_tp_bytes v_tp_taken) ++ (wX2 cI cB cJ h_lw q_lw v_lw_size lw_length_64 v_lw_height v_lw_letter v_lw_valueAt v_lw_testAt v_lw_endAt lw_sign_64 lw_beside_64 v_lw_seen v_lw_stack))) rfl ?_
          refine g_pop X rfl dX3_readSum_67 ?_
          refine g_iinc X (lv' := [(2, vI (x2_7 + 1)), (3, vI t42), (0, .ref h), (1, vI p0)]) dX3_readSum_68 3 rfl (by decide) rfl ?_
          refine g_goto X (tgt := 7) dX3_readSum_71 (by decide) ?_
          refine g_lv [2, 3, 0] rfl ?_
          exact ih7 (x2_7 + 1) tp_at_55 tp_fault_55 tp_faultAt_55 lw_length_64 lw_sign_64 lw_beside_64 (by omega) (by omega) (by omega) (by omega) r_lw_sign_64 r_lw_beside_64 (by first | assumption | omega) (by first | assumption | omega) (by first | assumption | omega) (by first | assumption | omega) (by first | assumption | (rw [kp2_64, kp3_64]; exact LInv.up kp3_55 _ _ _ (fun h => by omega))) (by first | assumption | exact Same.refl _ _ | (rw [kp2_64]; exact Same.up (Same.trans w7_5 kp4_55 (by omega)) (by omega))) (by first | assumption | omega) (by first | assumption | omega) (by omega)
        · refine g_aload_n X dX3_readSum_26 0 rfl ?_
          refine gX3_get X 0 rfl 0 (by decide) uw242 rfl dX3_readSum_27 ?_
          refine g_callVIw X (c_X7_sign l D cI cB cJ h_tp q_tp  (by omega) (by omega) (by omega) r_v_tp_bytes) [1, 2, 3] rfl rfl rfl cv_X7_sign uw497 ⟨rfl, rfl, (by dsimp only; omega), (by dsimp only; omega)⟩ 0 rfl rfl rfl rfl rfl (Nat.le_of_ble_eq_true rfl) ⟨Nat.zero_le _, Nat.zero_le _⟩ dX3_readSum_30 (fun t30 ws30 k30 => ?_)
          obtain ⟨kp0_30, kp1_30, kp2_30, rfl⟩ := k30
          refine ⟨rfl, ?_⟩
          refine g_ws (ws2 := ((wX3 cI cB cJ h q h_tp (.ref h_lw)) ++ (wX7 cI cB cJ h_tp q_tp v_tp_length v_tp_end tp_at_7 tp_fault_7 tp_faultAt_7 v_tp_bytes v_tp_taken) ++ (wX2 cI cB cJ h_lw q_lw v_lw_size lw_length_7 v_lw_height v_lw_letter v_lw_valueAt v_lw_testAt v_lw_endAt lw_sign_7 lw_beside_7 v_lw_seen v_lw_stack))) rfl ?_
          refine g_bipush X (z := 45) dX3_readSum_33 (by decide) ?_
          refine g_icmp_ne X (tgt := 74) dX3_readSum_35 (by decide) (by omega) (by omega) (fun c35 => ?_) (fun c35 => ?_)
          · exact hQ _ _ _ dX3_readSum_74 ⟨tp_at_7, tp_fault_7, tp_faultAt_7, lw_length_7, lw_sign_7, lw_beside_7, (by omega), (by omega), (by omega), (by omega), r_lw_sign_7, r_lw_beside_7, (by first | assumption | omega), (by first | assumption | omega), (by first | assumption | omega), (by first | assumption | omega), (by first | assumption | omega), (by first | assumption | omega), (by first | assumption | omega), rfl⟩
          · refine g_aload_n X dX3_readSum_38 0 rfl ?_
            refine gX3_get X 0 rfl 0 (by decide) uw242 rfl dX3_readSum_39 ?_
            refine g_callVIw X (c_X7_sign l D cI cB cJ h_tp q_tp  (by omega) (by omega) (by omega) r_v_tp_bytes) [1, 2, 3] rfl rfl rfl cv_X7_sign uw497 ⟨rfl, rfl, (by dsimp only; omega), (by dsimp only; omega)⟩ 0 rfl rfl rfl rfl rfl (Nat.le_of_ble_eq_true rfl) ⟨Nat.zero_le _, Nat.zero_le _⟩ dX3_readSum_42 (fun t42 ws42 k42 => ?_)
            obtain ⟨kp0_42, kp1_42, kp2_42, rfl⟩ := k42
            refine ⟨rfl, ?_⟩
            refine g_ws (ws2 := ((wX3 cI cB cJ h q h_tp (.ref h_lw)) ++ (wX7 cI cB cJ h_tp q_tp v_tp_length v_tp_end tp_at_7 tp_fault_7 tp_faultAt_7 v_tp_bytes v_tp_taken) ++ (wX2 cI cB cJ h_lw q_lw v_lw_size lw_length_7 v_lw_height v_lw_letter v_lw_valueAt v_lw_testAt v_lw_endAt lw_sign_7 lw_beside_7 v_lw_seen v_lw_stack))) rfl ?_
            refine g_istore_n X (lv' := [(3, vI t42), (0, .ref h), (1, vI p0), (2, vI x2_7)]) dX3_readSum_45 (by decide) rfl ?_
            refine g_aload_n X dX3_readSum_46 1 rfl ?_
            refine gX3_get X 0 rfl 0 (by decide) uw242 rfl dX3_readSum_47 ?_
            refine g_callVVw X (c_X7_step l D cI cB cJ h_tp q_tp  (by omega) (by omega) (by omega) (by first | assumption | omega)) [1, 2, 3] rfl rfl rfl cv_X7_step uw505 ⟨rfl, rfl, (by dsimp only; omega), (by dsimp only; omega)⟩ 0 rfl rfl rfl rfl rfl (Nat.le_of_ble_eq_true rfl) ⟨Nat.zero_le _, Nat.zero_le _⟩ dX3_readSum_50 (fun ws50 k50 => ?_)
            obtain ⟨tp_at_50, kr_tp_at_50, kp0_50, kp1_50, rfl⟩ := k50
            refine ⟨rfl, ?_⟩
            refine g_ws (ws2 := ((wX3 cI cB cJ h q h_tp (.ref h_lw)) ++ (wX7 cI cB cJ h_tp q_tp v_tp_length v_tp_end tp_at_50 tp_fault_7 tp_faultAt_7 v_tp_bytes v_tp_taken) ++ (wX2 cI cB cJ h_lw q_lw v_lw_size lw_length_7 v_lw_height v_lw_letter v_lw_valueAt v_lw_testAt v_lw_endAt lw_sign_7 lw_beside_7 v_lw_seen v_lw_stack))) rfl ?_
            refine g_aload_n X dX3_readSum_53 1 rfl ?_
            refine g_iload_n X dX3_readSum_54 2 rfl ?_
            refine g_callVV0 X (HT l D cI cB cJ h q h_tp q_tp h_lw q_lw p0 (by omega) (by omega) (by omega) (by omega) r_v_tp_bytes (by omega) r_lw_sign_7 r_lw_beside_7 (by first | assumption | omega) (by first | assumption | omega) (by first | assumption | omega) (by first | assumption | omega) (by first | assumption | omega) (by first | assumption | omega) (by first | assumption | omega)) cv_X3_readTerm uw513 ⟨rfl, rfl, (by dsimp only; omega), (by dsimp only; omega)⟩ 0 rfl rfl rfl rfl rfl (Nat.le_of_ble_eq_true rfl) ⟨Nat.zero_le _, Nat.zero_le _⟩ dX3_readSum_55 (fun ws55 k55 => ?_)
            obtain ⟨tp_at_55, tp_fault_55, tp_faultAt_55, lw_length_55, lw_sign_55, lw_beside_55, kr_tp_at_55, kr_tp_fault_55, kr_tp_faultAt_55, kr_lw_length_55, r_lw_sign_55, r_lw_beside_55, kp0_55, kp1_55, kp2_55, kp3_55, kp4_55, kp5_55, kp6_55, rfl⟩ := k55
            refine g_aload_n X dX3_readSum_58 1 rfl ?_
            refine gX3_get X 0 rfl 1 (by decide) uw243 rfl dX3_readSum_59 ?_
            refine g_iload_n X dX3_readSum_62 0 rfl ?_
            refine g_iconst X dX3_readSum_63 ?_
            refine g_callVIw X (c_X2_add l D cI cB cJ h_lw q_lw (p0 := t42) (p1 := 0) (by omega) r_lw_sign_55 r_lw_beside_55 (by first | assumption | omega) (by first | assumption | omega) (by first | assumption | omega) (by first | assumption | omega)) [4, 5, 6, 7, 8, 9, 10, 11, 12] rfl rfl rfl cv_X2_add uw544 ⟨rfl, rfl, (by dsimp only; omega), (by dsimp only; omega)⟩ 0 rfl rfl rfl rfl rfl (Nat.le_of_ble_eq_true rfl) ⟨Nat.zero_le _, Nat.zero_le _⟩ dX3_readSum_64 (fun t64 ws64 k64 => ?_)
            obtain ⟨lw_length_64, lw_sign_64, lw_beside_64, kr_lw_length_64, r_lw_sign_64, r_lw_beside_64, kp0_64, kp1_64, kp2_64, kp3_64, rfl⟩ := k64
            refine ⟨rfl, ?_⟩
            refine g_ws (ws2 := ((wX3 cI cB cJ h q h_tp (.ref h_lw)) ++ (wX7 cI cB cJ h_tp q_tp v_tp_length v_tp_end tp_at_55 tp_fault_55 tp_faultAt_55 v_tp_bytes v_tp_taken) ++ (wX2 cI cB cJ h_lw q_lw v_lw_size lw_length_64 v_lw_height v_lw_letter v_lw_valueAt v_lw_testAt v_lw_endAt lw_sign_64 lw_beside_64 v_lw_seen v_lw_stack))) rfl ?_
            refine g_pop X rfl dX3_readSum_67 ?_
            refine g_iinc X (lv' := [(2, vI (x2_7 + 1)), (3, vI t42), (0, .ref h), (1, vI p0)]) dX3_readSum_68 3 rfl (by decide) rfl ?_
            refine g_goto X (tgt := 7) dX3_readSum_71 (by decide) ?_
            refine g_lv [2, 3, 0] rfl ?_
            exact ih7 (x2_7 + 1) tp_at_55 tp_fault_55 tp_faultAt_55 lw_length_64 lw_sign_64 lw_beside_64 (by omega) (by omega) (by omega) (by omega) r_lw_sign_64 r_lw_beside_64 (by first | assumption | omega) (by first | assumption | omega) (by first | assumption | omega) (by first | assumption | omega) (by first | assumption | (rw [kp2_64, kp3_64]; exact LInv.up kp3_55 _ _ _ (fun h => by omega))) (by first | assumption | exact Same.refl _ _ | (rw [kp2_64]; exact Same.up (Same.trans w7_5 kp4_55 (by omega)) (by omega))) (by first | assumption | omega) (by first | assumption | omega) (by omega)
  refine g_lv [1, 2, 0] rfl ?_
  exact L7 _ 0 tp_at_2 tp_fault_2 tp_faultAt_2 lw_length_2 lw_sign_2 lw_beside_2 (by omega) (by omega) (by omega) (by omega) r_lw_sign_2 r_lw_beside_2 (by first | assumption | omega) (by first | assumption | omega) (by first | assumption | omega) (by first | assumption | omega) (by first | assumption | (rw [kp2_64, kp3_64]; exact LInv.up kp3_55 _ _ _ (fun h => by omega))) (by first | assumption | exact Same.refl _ _ | (rw [kp2_64]; exact Same.up (Same.trans w7_5 kp4_55 (by omega)) (by omega))) (by first | assumption | omega) (by first | assumption | omega) (Nat.lt_succ_self _)
set_option maxHeartbeats 600000 in
set_option maxRecDepth 100000 in
theorem c_X9_lowestIn_c (l : Launch) (D : va_G) (cI cB cJ : ClassId) {p0 : Int} (hp0 : IR p0) (hp1 : 1 ≤ p0 ∧ p0 ≤ 4095) : CtI l yX9_lowestIn cX9_lowestIn 2 (some .int) ⟨1, 0, 0, 21⟩ D (TY cI cB cJ) [] [vI p0] (fun z ws' => (0 ≤ z ∧ z ≤ 11) ∧ (z_iand (z_iushr p0 z) 1 ≠ 0) ∧ (ws' = [])) := by
  refine hdrI (own := RX9) rfl (by decide +kernel) (Nat.le_of_ble_eq_true rfl) ?_
  intro p e s m args below meth c Q A X hQ
  refine g_lvE (lv2 := [(0, vI p0)]) rfl ?_
  obtain ⟨k0, hk0, hk1, hk2⟩ := lowI_ex p0 (by omega)
  refine g_iconst X dX9_lowestIn_0 ?_
  refine g_istore_n X (lv' := [(1, vI 0), (0, vI p0)]) dX9_lowestIn_1 (by decide) rfl ?_
  have L2 : ∀ (n : Nat) (x1_2 : Int), (0 ≤ x1_2 ∧ x1_2 ≤ k0) → (k0 + 1 - x1_2).toNat < n → GG p l e ⟨1, 0, 0, 21⟩ s m args below meth c 0 0 Q D A s.heap 2 [] 2 [(0, vI p0), (1, vI x1_2)] [] := by
    intro n
    induction n with
    | zero => intros; exfalso; omega
    | succ n ih2 =>
      intro x1_2 w2_0 wm2
      have hq7 : x1_2 = k0 → z_iand (z_iushr p0 x1_2) 1 = z_iand (z_iushr p0 k0) 1 := fun h => by rw [h]
      refine g_iload_n X dX9_lowestIn_2 1 rfl ?_
      refine g_bipush X (z := 31) dX9_lowestIn_3 (by decide) ?_
      refine g_icmp_ge X (tgt := 22) dX9_lowestIn_5 (by decide) (by omega) (by omega) (fun c5 => ?_) (fun c5 => ?_)
      · refine g_iload_n X dX9_lowestIn_22 1 rfl ?_
        exact hQ _ _ _ _ dX9_lowestIn_23 ⟨(by first | assumption | omega), (by first | assumption | omega), rfl⟩
      · refine g_iload_n X dX9_lowestIn_8 0 rfl ?_
        refine g_iload_n X dX9_lowestIn_9 1 rfl ?_
        refine g_callSIE X (c_X9_isIn l D cI cB cJ (p0 := p0) (p1 := x1_2) (by first | assumption | omega) (by first | assumption | omega)) cv_X9_isIn uw776 ⟨rfl, rfl, by decide, by decide⟩ rfl rfl (Nat.le_of_ble_eq_true rfl) ⟨Nat.zero_le _, Nat.zero_le _⟩ dX9_lowestIn_10 (fun t10 ws10 k10 => ?_)
        obtain ⟨kb_10, ⟨kp0_10, rfl⟩⟩ := k10
        refine g_if_ne X (tgt := 22) dX9_lowestIn_13 (by decide) (by omega) (fun c13 => ?_) (fun c13 => ?_)
        · refine g_iload_n X dX9_lowestIn_22 1 rfl ?_
          exact hQ _ _ _ _ dX9_lowestIn_23 ⟨(by first | assumption | omega), (by first | assumption | omega), rfl⟩
        · refine g_iinc X (lv' := [(1, vI (x1_2 + 1)), (0, vI p0)]) dX9_lowestIn_16 1 rfl (by decide) rfl ?_
          refine g_goto X (tgt := 2) dX9_lowestIn_19 (by decide) ?_
          refine g_lv [1, 0] rfl ?_
          exact ih2 (x1_2 + 1) (by first | assumption | omega) (by omega)
  refine g_lv [1, 0] rfl ?_
  exact L2 _ 0 (by first | assumption | omega) (Nat.lt_succ_self _)
set_option maxHeartbeats 600000 in
set_option maxRecDepth 100000 in
theorem r_X0_waysToWeigh (lev : Nat) (IH : ∀ m : Nat, lev = m + 1 → PS_X0_waysToWeigh m) : PS_X0_waysToWeigh lev := by
  intro l D cI cB cJ r_di r_we v_di v_we p2 p3 p4 r_v_di r_v_we hp0 hp1 hp2 hp3 hp4 hp5
  refine hdrI (own := RX0) rfl (by decide +kernel) (Nat.le_of_ble_eq_true rfl) ?_
  intro p e s m args below meth c Q A X hQ
  refine g_lvE (lv2 := [(0, .ref r_di), (1, .ref r_we), (2, vI p2), (3, vI p3), (4, vI p4)]) rfl ?_
  refine g_iload_n X dX0_waysToWeigh_0 3 rfl ?_
  refine g_if_ne X (tgt := 6) dX0_waysToWeigh_1 (by decide) (by omega) (fun c1 => ?_) (fun c1 => ?_)
  · refine g_iload_n X dX0_waysToWeigh_6 3 rfl ?_
    refine g_callSNIE X (c_X9_lowestIn_c l D cI cB cJ (p0 := p3) (by first | assumption | omega) (by first | assumption | omega)) cv_X9_lowestIn nw854 ⟨rfl, rfl, (by dsimp only; omega), (by dsimp only; omega)⟩ rfl rfl (Nat.le_of_ble_eq_true rfl) ⟨Nat.zero_le _, Nat.zero_le _⟩ dX0_waysToWeigh_7 (fun t7 ws7 k7 => ?_)
    obtain ⟨kp0_7, kp1_7, rfl⟩ := k7
    refine g_istore X (lv' := [(5, vI t7), (0, .ref r_di), (1, .ref r_we), (2, vI p2), (3, vI p3), (4, vI p4)]) dX0_waysToWeigh_10 (by decide) rfl ?_
    refine g_iconst X dX0_waysToWeigh_12 ?_
    refine g_iload X dX0_waysToWeigh_13 0 rfl ?_
    refine g_ishl X dX0_waysToWeigh_15 ?_
    refine g_nm (fun t15 e15 => ?_)
    have r15 : IR t15 := by rw [e15]; exact z_ir _
    refine g_istore X (lv' := [(6, vI t15), (5, vI t7), (0, .ref r_di), (1, .ref r_we), (2, vI p2), (3, vI p3), (4, vI p4)]) dX0_waysToWeigh_16 (by decide) rfl ?_
    refine g_iconst X dX0_waysToWeigh_18 ?_
    refine g_istore X (lv' := [(7, vI 0), (6, vI t15), (5, vI t7), (0, .ref r_di), (1, .ref r_we), (2, vI p2), (3, vI p3), (4, vI p4)]) dX0_waysToWeigh_19 (by decide) rfl ?_
    refine g_iconst X dX0_waysToWeigh_21 ?_
    refine g_istore X (lv' := [(8, vI 0), (7, vI 0), (6, vI t15), (5, vI t7), (0, .ref r_di), (1, .ref r_we), (2, vI p2), (3, vI p3), (4, vI p4)]) dX0_waysToWeigh_22 (by decide) rfl ?_
    have L24 : ∀ (n : Nat) (x7_24 : Int) (x8_24 : Int) (we_24 : Nat → Int), (RA (-2147483648) 2147483647 we_24) → (0 ≤ x8_24 ∧ x8_24 ≤ p4 + 1) → (IR x7_24) → (p4 + 1 - x8_24).toNat < n → GG p l e ⟨8 + lev, 0, 0, 200 + 30 * lev⟩ s m args below meth c 0 0 Q D A s.heap 9 ((wA cI 144 r_di v_di) ++ (wA cI 4096 r_we we_24)) 24 [(0, .ref r_di), (1, .ref r_we), (2, vI p2), (3, vI p3), (4, vI p4), (5, vI t7), (6, vI t15), (7, vI x7_24), (8, vI x8_24)] [] := by
      intro n
      induction n with
      | zero => intros; exfalso; omega
      | succ n ih24 =>
        intro x7_24 x8_24 we_24 r_we_24 w24_0 w24_1 wm24
        refine g_iload X dX0_waysToWeigh_24 8 rfl ?_
        refine g_iload X dX0_waysToWeigh_26 4 rfl ?_
        refine g_icmp_gt X (tgt := 76) dX0_waysToWeigh_28 (by decide) (by omega) (by omega) (fun c28 => ?_) (fun c28 => ?_)
        · refine g_iload X dX0_waysToWeigh_76 7 rfl ?_
          exact hQ _ _ _ _ dX0_waysToWeigh_78 ⟨we_24, r_we_24, (by omega), rfl⟩
        · refine g_aload_n X dX0_waysToWeigh_31 1 rfl ?_
          refine g_iload X dX0_waysToWeigh_32 5 rfl ?_
          refine g_iload X dX0_waysToWeigh_34 8 rfl ?_
          refine g_iast X 1 0 rfl rfl (by omega) (by decide) dX0_waysToWeigh_36 (fun we_36 e36 => ?_)
          have r_we_36 : RA (-2147483648) 2147483647 we_36 := by rw [e36]; exact RA_up r_we_24 (by omega)
          refine g_ws (ws2 := ((wA cI 144 r_di v_di) ++ (wA cI 4096 r_we we_36))) rfl ?_
          refine g_aload_n X dX0_waysToWeigh_37 0 rfl ?_
          refine g_aload_n X dX0_waysToWeigh_38 1 rfl ?_
          refine g_iload_n X dX0_waysToWeigh_39 2 rfl ?_
          refine g_iload X dX0_waysToWeigh_40 5 rfl ?_
          refine g_callSI0 X (c_X0_fits l D cI cB cJ r_di r_we (p2 := p2) (p3 := t7) r_v_di r_we_36 (by first | assumption | omega) (by first | assumption | omega) (by first | assumption | omega)) cv_X0_fits uw855 ⟨rfl, rfl, (by dsimp only; omega), (by dsimp only; omega)⟩ rfl rfl (Nat.le_of_ble_eq_true rfl) ⟨Nat.zero_le _, Nat.zero_le _⟩ dX0_waysToWeigh_42 (fun t42 ws42 k42 => ?_)
          obtain ⟨kb_42, rfl⟩ := k42
          refine g_if_eq X (tgt := 70) dX0_waysToWeigh_45 (by decide) (by omega) (fun c45 => ?_) (fun c45 => ?_)
          · refine g_iinc X (lv' := [(8, vI (x8_24 + 1)), (0, .ref r_di), (1, .ref r_we), (2, vI p2), (3, vI p3), (4, vI p4), (5, vI t7), (6, vI t15), (7, vI x7_24)]) dX0_waysToWeigh_70 8 rfl (by decide) rfl ?_
            refine g_goto X (tgt := 24) dX0_waysToWeigh_73 (by decide) ?_
            refine g_lv [1, 2, 3, 4, 5, 6, 7, 8, 0] rfl ?_
            exact ih24 x7_24 (x8_24 + 1) we_36 r_we_36 (by first | assumption | omega) (by first | assumption | omega) (by omega)
          · obtain ⟨mm, rfl⟩ : ∃ mm, lev = mm + 1 := ⟨lev - 1, by have := cnt_pos p3 (by omega); omega⟩
            refine g_iload X dX0_waysToWeigh_48 7 rfl ?_
            refine g_aload_n X dX0_waysToWeigh_50 0 rfl ?_
            refine g_aload_n X dX0_waysToWeigh_51 1 rfl ?_
            refine g_iload_n X dX0_waysToWeigh_52 2 rfl ?_
            refine g_iload X dX0_waysToWeigh_53 6 rfl ?_
            refine g_ior X dX0_waysToWeigh_55 ?_
            refine g_nm (fun t55 e55 => ?_)
            have r55 : IR t55 := by rw [e55]; exact z_ir _
            refine g_iload_n X dX0_waysToWeigh_56 3 rfl ?_
            refine g_iload X dX0_waysToWeigh_57 6 rfl ?_
            refine g_iconst X dX0_waysToWeigh_59 ?_
            refine g_ixor X dX0_waysToWeigh_60 ?_
            refine g_nm (fun t60 e60 => ?_)
            have r60 : IR t60 := by rw [e60]; exact z_ir _
            refine g_iand X dX0_waysToWeigh_61 ?_
            refine g_nm (fun t61 e61 => ?_)
            have r61 : IR t61 := by rw [e61]; exact z_ir _
            refine g_iload X dX0_waysToWeigh_62 4 rfl ?_
            have hc := cnt_low p3 t7 (by omega) kp0_7 kp1_7
            rw [← e15, ← e60, ← e61] at hc
            refine g_callSI0 X (IH mm rfl l D cI cB cJ r_di r_we t55 t61 p4 r_v_di r_we_36 (by first | assumption | omega) (by first | assumption | omega) (by first | assumption | omega) (by first | assumption | omega) (by first | assumption | omega) (by first | assumption | omega)) cv_X0_waysToWeigh uw858 ⟨rfl, rfl, (by dsimp only; omega), (by dsimp only; omega)⟩ rfl rfl (Nat.le_of_ble_eq_true rfl) ⟨Nat.zero_le _, Nat.zero_le _⟩ dX0_waysToWeigh_64 (fun t64 ws64 k64 => ?_)
            obtain ⟨we_64, r_we_64, kp0_64, rfl⟩ := k64
            refine g_iadd X dX0_waysToWeigh_67 ?_
            refine g_nr (fun t67 e67 r67 => ?_)
            refine g_istore X (lv' := [(7, vI t67), (0, .ref r_di), (1, .ref r_we), (2, vI p2), (3, vI p3), (4, vI p4), (5, vI t7), (6, vI t15), (8, vI x8_24)]) dX0_waysToWeigh_68 (by decide) rfl ?_
            refine g_iinc X (lv' := [(8, vI (x8_24 + 1)), (7, vI t67), (0, .ref r_di), (1, .ref r_we), (2, vI p2), (3, vI p3), (4, vI p4), (5, vI t7), (6, vI t15)]) dX0_waysToWeigh_70 8 rfl (by decide) rfl ?_
            refine g_goto X (tgt := 24) dX0_waysToWeigh_73 (by decide) ?_
            refine g_lv [2, 3, 4, 5, 6, 7, 8, 1, 0] rfl ?_
            exact ih24 t67 (x8_24 + 1) we_64 r_we_64 (by first | assumption | omega) (by first | assumption | omega) (by omega)
    refine g_lv [4, 5, 6, 7, 8, 3, 2, 1, 0] rfl ?_
    exact L24 _ 0 0 v_we r_v_we (by first | assumption | omega) (by first | assumption | omega) (Nat.lt_succ_self _)
  · refine g_iconst X dX0_waysToWeigh_4 ?_
    exact hQ _ _ _ _ dX0_waysToWeigh_5 ⟨v_we, r_v_we, (by omega), rfl⟩
set_option maxHeartbeats 600000 in
set_option maxRecDepth 100000 in
theorem r_X8_grow (lev : Nat) (IH : ∀ m : Nat, lev = m + 1 → PS_X8_grow m) : PS_X8_grow lev := by
  intro l D cI cB cJ h q v_lines v_many v_least v_edges p1 p2 kr_v_lines kr_v_many r_v_least r_v_edges hp0 hp1 hp2 hp3 hp4
  refine hdrV (own := RX8) rfl (by decide +kernel) (Nat.le_of_ble_eq_true rfl) ?_
  intro p e s m args below meth c Q A X hQ
  refine g_lvE (lv2 := [(0, .ref h), (1, vI p1), (2, vI p2)]) rfl ?_
  refine g_aload_n X dX8_grow_0 0 rfl ?_
  refine gX8_get X 0 rfl 0 (by decide) uw362 rfl dX8_grow_1 ?_
  refine g_aload_n X dX8_grow_4 0 rfl ?_
  refine gX8_get X 0 rfl 0 (by decide) uw362 rfl dX8_grow_5 ?_
  refine g_iconst X dX8_grow_8 ?_
  refine g_iadd X dX8_grow_9 ?_
  refine g_imul X dX8_grow_10 ?_
  refine g_nm (fun t10 e10 => ?_)
  have hm : 0 ≤ t10 ∧ t10 ≤ 20 := by rcases (show v_lines = 1 ∨ v_lines = 2 ∨ v_lines = 3 ∨ v_lines = 4 by omega) with h | h | h | h <;> (rw [e10, h]; decide)
  refine g_iconst X dX8_grow_11 ?_
  refine g_idiv X dX8_grow_12 (by omega) (by omega) ?_
  refine g_nm (fun t12 e12 => ?_)
  refine g_istore_n X (lv' := [(3, vI t12), (0, .ref h), (1, vI p1), (2, vI p2)]) dX8_grow_13 (by decide) rfl ?_
  refine g_iconst X dX8_grow_14 ?_
  refine g_istore X (lv' := [(4, vI 1), (3, vI t12), (0, .ref h), (1, vI p1), (2, vI p2)]) dX8_grow_15 (by decide) rfl ?_
  have L17 : ∀ (n : Nat) (x4_17 : Int) (many_17 : Int) (least_17 : Nat → Int) (edges_17 : Nat → Int), ((-2147483648) ≤ many_17 ∧ many_17 ≤ 2147483647) → (RA (-2147483648) 2147483647 least_17) → (RA (-2147483648) 2147483647 edges_17) → (1 ≤ x4_17 ∧ x4_17 ≤ t12 + 1) → (t12 + 1 - x4_17).toNat < n → GG p l e ⟨6 + lev, 0, 0, 200 + 40 * lev⟩ s m args below meth c 0 0 Q D A s.heap 6 (wX8 cI cB cJ h q v_lines many_17 least_17 edges_17) 17 [(0, .ref h), (1, vI p1), (2, vI p2), (3, vI t12), (4, vI x4_17)] [] := by
    intro n
    induction n with
    | zero => intros; exfalso; omega
    | succ n ih17 =>
      intro x4_17 many_17 least_17 edges_17 kr_many_17 r_least_17 r_edges_17 w17_0 wm17
      refine g_iload X dX8_grow_17 4 rfl ?_
      refine g_iload_n X dX8_grow_19 3 rfl ?_
      refine g_icmp_gt X (tgt := 77) dX8_grow_20 (by decide) (by omega) (by omega) (fun c20 => ?_) (fun c20 => ?_)
      · exact hQ _ _ _ dX8_grow_77 ⟨many_17, least_17, edges_17, (by omega), r_least_17, r_edges_17, rfl⟩
      · refine g_aload_n X dX8_grow_23 0 rfl ?_
        refine g_iload_n X dX8_grow_24 1 rfl ?_
        refine g_iload X dX8_grow_25 4 rfl ?_
        refine g_iload_n X dX8_grow_27 2 rfl ?_
        refine g_callVI0 X (c_X8_put l D cI cB cJ h q (p0 := p1) (p1 := x4_17) (p2 := p2) r_edges_17 (by first | assumption | omega) (by first | assumption | omega) (by first | assumption | omega) (by first | assumption | omega)) cv_X8_put uw936 ⟨rfl, rfl, (by dsimp only; omega), (by dsimp only; omega)⟩ 0 rfl rfl rfl rfl rfl (Nat.le_of_ble_eq_true rfl) ⟨Nat.zero_le _, Nat.zero_le _⟩ dX8_grow_28 (fun t28 ws28 k28 => ?_)
        obtain ⟨edges_28, r_edges_28, kp0_28, rfl⟩ := k28
        refine g_istore X (lv' := [(5, vI t28), (0, .ref h), (1, vI p1), (2, vI p2), (3, vI t12), (4, vI x4_17)]) dX8_grow_31 (by decide) rfl ?_
        refine g_iload X dX8_grow_33 0 rfl ?_
        refine g_iconst X dX8_grow_35 ?_
        refine g_icmp_eq X (tgt := 56) dX8_grow_36 (by decide) (by omega) (by omega) (fun c36 => ?_) (fun c36 => ?_)
        · refine g_iload X dX8_grow_56 0 rfl ?_
          refine g_iconst X dX8_grow_58 ?_
          refine g_icmp_eq X (tgt := 71) dX8_grow_59 (by decide) (by omega) (by omega) (fun c59 => ?_) (fun c59 => ?_)
          · refine g_iinc X (lv' := [(4, vI (x4_17 + 1)), (5, vI t28), (0, .ref h), (1, vI p1), (2, vI p2), (3, vI t12)]) dX8_grow_71 5 rfl (by decide) rfl ?_
            refine g_goto X (tgt := 17) dX8_grow_74 (by decide) ?_
            refine g_lv [2, 3, 4, 5, 0] rfl ?_
            exact ih17 (x4_17 + 1) many_17 least_17 edges_28 (by omega) r_least_17 r_edges_28 (by first | assumption | omega) (by omega)
          · obtain ⟨mm, rfl⟩ : ∃ mm, lev = mm + 1 := ⟨lev - 1, by omega⟩
            refine g_aload_n X dX8_grow_62 1 rfl ?_
            refine g_iload_n X dX8_grow_63 2 rfl ?_
            refine g_iconst X dX8_grow_64 ?_
            refine g_iadd X dX8_grow_65 ?_
            refine g_iload X dX8_grow_66 0 rfl ?_
            refine g_callSV0 X (IH mm rfl l D cI cB cJ h q (p1 + 1) t28 (by omega) (by omega) r_least_17 r_edges_28 (by first | assumption | omega) (by first | assumption | omega) (by first | assumption | omega) (by first | assumption | omega) (by first | assumption | omega)) cv_X8_grow uw933 ⟨rfl, rfl, (by dsimp only; omega), (by dsimp only; omega)⟩ rfl rfl (Nat.le_of_ble_eq_true rfl) ⟨Nat.zero_le _, Nat.zero_le _⟩ dX8_grow_68 (fun ws68 k68 => ?_)
            obtain ⟨many_68, least_68, edges_68, kr_many_68, r_least_68, r_edges_68, rfl⟩ := k68
            refine g_iinc X (lv' := [(4, vI (x4_17 + 1)), (5, vI t28), (0, .ref h), (1, vI p1), (2, vI p2), (3, vI t12)]) dX8_grow_71 5 rfl (by decide) rfl ?_
            refine g_goto X (tgt := 17) dX8_grow_74 (by decide) ?_
            refine g_lv [2, 3, 4, 5, 0] rfl ?_
            exact ih17 (x4_17 + 1) many_68 least_68 edges_68 (by omega) r_least_68 r_edges_68 (by first | assumption | omega) (by omega)
        · refine g_iload_n X dX8_grow_39 2 rfl ?_
          refine g_iconst X dX8_grow_40 ?_
          refine g_iadd X dX8_grow_41 ?_
          refine g_aload_n X dX8_grow_42 1 rfl ?_
          refine gX8_get X 0 rfl 0 (by decide) uw362 rfl dX8_grow_43 ?_
          refine g_icmp_ne X (tgt := 56) dX8_grow_46 (by decide) (by omega) (by omega) (fun c46 => ?_) (fun c46 => ?_)
          · refine g_iload X dX8_grow_56 0 rfl ?_
            refine g_iconst X dX8_grow_58 ?_
            refine g_icmp_eq X (tgt := 71) dX8_grow_59 (by decide) (by omega) (by omega) (fun c59 => ?_) (fun c59 => ?_)
            · refine g_iinc X (lv' := [(4, vI (x4_17 + 1)), (5, vI t28), (0, .ref h), (1, vI p1), (2, vI p2), (3, vI t12)]) dX8_grow_71 5 rfl (by decide) rfl ?_
              refine g_goto X (tgt := 17) dX8_grow_74 (by decide) ?_
              refine g_lv [2, 3, 4, 5, 0] rfl ?_
              exact ih17 (x4_17 + 1) many_17 least_17 edges_28 (by omega) r_least_17 r_edges_28 (by first | assumption | omega) (by omega)
            · obtain ⟨mm, rfl⟩ : ∃ mm, lev = mm + 1 := ⟨lev - 1, by omega⟩
              refine g_aload_n X dX8_grow_62 1 rfl ?_
              refine g_iload_n X dX8_grow_63 2 rfl ?_
              refine g_iconst X dX8_grow_64 ?_
              refine g_iadd X dX8_grow_65 ?_
              refine g_iload X dX8_grow_66 0 rfl ?_
              refine g_callSV0 X (IH mm rfl l D cI cB cJ h q (p1 + 1) t28 (by omega) (by omega) r_least_17 r_edges_28 (by first | assumption | omega) (by first | assumption | omega) (by first | assumption | omega) (by first | assumption | omega) (by first | assumption | omega)) cv_X8_grow uw933 ⟨rfl, rfl, (by dsimp only; omega), (by dsimp only; omega)⟩ rfl rfl (Nat.le_of_ble_eq_true rfl) ⟨Nat.zero_le _, Nat.zero_le _⟩ dX8_grow_68 (fun ws68 k68 => ?_)
              obtain ⟨many_68, least_68, edges_68, kr_many_68, r_least_68, r_edges_68, rfl⟩ := k68
              refine g_iinc X (lv' := [(4, vI (x4_17 + 1)), (5, vI t28), (0, .ref h), (1, vI p1), (2, vI p2), (3, vI t12)]) dX8_grow_71 5 rfl (by decide) rfl ?_
              refine g_goto X (tgt := 17) dX8_grow_74 (by decide) ?_
              refine g_lv [2, 3, 4, 5, 0] rfl ?_
              exact ih17 (x4_17 + 1) many_68 least_68 edges_68 (by omega) r_least_68 r_edges_68 (by first | assumption | omega) (by omega)
          · refine g_aload_n X dX8_grow_49 1 rfl ?_
            refine g_callVV0 X (c_X8_countThis l D cI cB cJ h q  (by omega) (by omega) r_least_17 r_edges_28) cv_X8_countThis uw942 ⟨rfl, rfl, (by dsimp only; omega), (by dsimp only; omega)⟩ 0 rfl rfl rfl rfl rfl (Nat.le_of_ble_eq_true rfl) ⟨Nat.zero_le _, Nat.zero_le _⟩ dX8_grow_50 (fun ws50 k50 => ?_)
            obtain ⟨many_50, least_50, kr_many_50, r_least_50, rfl⟩ := k50
            refine g_goto X (tgt := 71) dX8_grow_53 (by decide) ?_
            refine g_iinc X (lv' := [(4, vI (x4_17 + 1)), (5, vI t28), (0, .ref h), (1, vI p1), (2, vI p2), (3, vI t12)]) dX8_grow_71 5 rfl (by decide) rfl ?_
            refine g_goto X (tgt := 17) dX8_grow_74 (by decide) ?_
            refine g_lv [2, 3, 4, 5, 0] rfl ?_
            exact ih17 (x4_17 + 1) many_50 least_50 edges_28 (by omega) r_least_50 r_edges_28 (by first | assumption | omega) (by omega)
  refine g_lv [2, 3, 4, 1, 0] rfl ?_
  exact L17 _ 1 v_many v_least v_edges (by omega) r_v_least r_v_edges (by first | assumption | omega) (Nat.lt_succ_self _)
