set_option maxHeartbeats 600000 in
set_option maxRecDepth 100000 in
theorem c_X9_feed (l : Launch) (D : va_G) (cI cB cJ : ClassId) (h : Nat) (q : Nat → Nat) (h_tape : Nat) (q_tape : Nat → Nat) {o_claims : Nat} {o_nextClaims : Nat} {o_bounds : Nat} {o_otherBounds : Nat} {o_ringSearch : Nat} {o_lawReader : Nat} {o_rules : Nat} {o_nextRules : Nat} {o_market : Nat} {o_trial : Nat} {o_kept : Nat} {o_triangles : Nat} {v_hasKept v_tape_length v_tape_end v_tape_at v_tape_fault v_tape_faultAt : Int} {v_table v_tape_bytes v_tape_taken : Nat → Int} {p0 p1 p2 p3 p4 : Int} (kr_v_tape_length : 0 ≤ v_tape_length ∧ v_tape_length ≤ 260) (r_v_tape_bytes : RA 0 255 v_tape_bytes) (hp0 : IR p0) (hp1 : IR p1) (hp2 : IR p2) (hp3 : IR p3) (hp4 : IR p4) : CtI l yX9_feed cX9_feed 6 (some .int) ⟨1, 0, 0, 22⟩ D (TY cI cB cJ) ((wX9 cI cB cJ h q h_tape o_claims o_nextClaims o_bounds o_otherBounds o_ringSearch o_lawReader o_rules o_nextRules o_market o_trial o_kept o_triangles v_hasKept v_table) ++ (wX7 cI cB cJ h_tape q_tape v_tape_length v_tape_end v_tape_at v_tape_fault v_tape_faultAt v_tape_bytes v_tape_taken)) [.ref h, vI p0, vI p1, vI p2, vI p3, vI p4] (fun z ws' => ∃ n_tape_length : Int, ∃ n_tape_bytes : Nat → Int, (0 ≤ n_tape_length ∧ n_tape_length ≤ 260) ∧ (RA 0 255 n_tape_bytes) ∧ (IR z) ∧ ((v_tape_length + 20 ≤ 260 ∧ z = v_tape_length + 20 ∧ n_tape_length = z) ∨ (260 < v_tape_length + 20 ∧ z = -1 ∧ n_tape_length = v_tape_length)) ∧ (n_tape_bytes = fdB v_tape_bytes v_tape_length p0 p1 p2 p3 p4) ∧ (ws' = ((wX9 cI cB cJ h q h_tape o_claims o_nextClaims o_bounds o_otherBounds o_ringSearch o_lawReader o_rules o_nextRules o_market o_trial o_kept o_triangles v_hasKept v_table) ++ (wX7 cI cB cJ h_tape q_tape n_tape_length v_tape_end v_tape_at v_tape_fault v_tape_faultAt n_tape_bytes v_tape_taken)))) := by
  refine hdrI (own := RX9) rfl (by decide +kernel) (Nat.le_of_ble_eq_true rfl) ?_
  intro p e s m args below meth c Q A X hQ
  refine g_lvE (lv2 := [(0, .ref h), (1, vI p0), (2, vI p1), (3, vI p2), (4, vI p3), (5, vI p4)]) rfl ?_
  refine g_aload_n X dX9_feed_0 0 rfl ?_
  refine gX9_get X 0 rfl 0 (by decide) uw411 rfl dX9_feed_1 ?_
  refine g_bipush X (z := 20) dX9_feed_4 (by decide) ?_
  refine g_callVIw X (c_X7_hasRoomFor l D cI cB cJ h_tape q_tape (p0 := 20) (by omega) (by first | assumption | omega) (by first | assumption | omega)) [2, 3, 4] rfl rfl rfl cv_X7_hasRoomFor uw461 ⟨rfl, rfl, by decide, by decide⟩ 0 rfl rfl rfl rfl rfl (Nat.le_of_ble_eq_true rfl) ⟨Nat.zero_le _, Nat.zero_le _⟩ dX9_feed_6 (fun t6 ws6 k6 => ?_)
  obtain ⟨kb_6, ⟨kp0_6, rfl⟩⟩ := k6
  refine ⟨rfl, ?_⟩
  refine g_ws (ws2 := ((wX9 cI cB cJ h q h_tape o_claims o_nextClaims o_bounds o_otherBounds o_ringSearch o_lawReader o_rules o_nextRules o_market o_trial o_kept o_triangles v_hasKept v_table) ++ (wX7 cI cB cJ h_tape q_tape v_tape_length v_tape_end v_tape_at v_tape_fault v_tape_faultAt v_tape_bytes v_tape_taken))) rfl ?_
  refine g_if_ne X (tgt := 14) dX9_feed_9 (by decide) (by omega) (fun c9 => ?_) (fun c9 => ?_)
  · replace kb_6 := kb_6.resolve_left (fun h => c9 h)
    replace kp0_6 := kp0_6.resolve_right (fun h => c9 h.1)
    refine g_aload_n X dX9_feed_14 0 rfl ?_
    refine gX9_get X 0 rfl 0 (by decide) uw411 rfl dX9_feed_15 ?_
    refine g_iload_n X dX9_feed_18 1 rfl ?_
    refine g_callVVw X (c_X7_write l D cI cB cJ h_tape q_tape (p0 := p0) (by omega) r_v_tape_bytes (by first | assumption | omega) (by first | assumption | omega)) [2, 3, 4] rfl rfl rfl cv_X7_write uw465 ⟨rfl, rfl, by decide, by decide⟩ 0 rfl rfl rfl rfl rfl (Nat.le_of_ble_eq_true rfl) ⟨Nat.zero_le _, Nat.zero_le _⟩ dX9_feed_19 (fun ws19 k19 => ?_)
    obtain ⟨tape_length_19, tape_bytes_19, kr_tape_length_19, r_tape_bytes_19, kp0_19, kp1_19, rfl⟩ := k19
    refine ⟨rfl, ?_⟩
    refine g_ws (ws2 := ((wX9 cI cB cJ h q h_tape o_claims o_nextClaims o_bounds o_otherBounds o_ringSearch o_lawReader o_rules o_nextRules o_market o_trial o_kept o_triangles v_hasKept v_table) ++ (wX7 cI cB cJ h_tape q_tape tape_length_19 v_tape_end v_tape_at v_tape_fault v_tape_faultAt tape_bytes_19 v_tape_taken))) rfl ?_
    refine g_aload_n X dX9_feed_22 0 rfl ?_
    refine gX9_get X 0 rfl 0 (by decide) uw411 rfl dX9_feed_23 ?_
    refine g_iload_n X dX9_feed_26 2 rfl ?_
    refine g_callVVw X (c_X7_write l D cI cB cJ h_tape q_tape (p0 := p1) (by omega) r_tape_bytes_19 (by first | assumption | omega) (by first | assumption | omega)) [2, 3, 4] rfl rfl rfl cv_X7_write uw465 ⟨rfl, rfl, by decide, by decide⟩ 0 rfl rfl rfl rfl rfl (Nat.le_of_ble_eq_true rfl) ⟨Nat.zero_le _, Nat.zero_le _⟩ dX9_feed_27 (fun ws27 k27 => ?_)
    obtain ⟨tape_length_27, tape_bytes_27, kr_tape_length_27, r_tape_bytes_27, kp0_27, kp1_27, rfl⟩ := k27
    refine ⟨rfl, ?_⟩
    refine g_ws (ws2 := ((wX9 cI cB cJ h q h_tape o_claims o_nextClaims o_bounds o_otherBounds o_ringSearch o_lawReader o_rules o_nextRules o_market o_trial o_kept o_triangles v_hasKept v_table) ++ (wX7 cI cB cJ h_tape q_tape tape_length_27 v_tape_end v_tape_at v_tape_fault v_tape_faultAt tape_bytes_27 v_tape_taken))) rfl ?_
    refine g_aload_n X dX9_feed_30 0 rfl ?_
    refine gX9_get X 0 rfl 0 (by decide) uw411 rfl dX9_feed_31 ?_
    refine g_iload_n X dX9_feed_34 3 rfl ?_
    refine g_callVVw X (c_X7_write l D cI cB cJ h_tape q_tape (p0 := p2) (by omega) r_tape_bytes_27 (by first | assumption | omega) (by first | assumption | omega)) [2, 3, 4] rfl rfl rfl cv_X7_write uw465 ⟨rfl, rfl, by decide, by decide⟩ 0 rfl rfl rfl rfl rfl (Nat.le_of_ble_eq_true rfl) ⟨Nat.zero_le _, Nat.zero_le _⟩ dX9_feed_35 (fun ws35 k35 => ?_)
    obtain ⟨tape_length_35, tape_bytes_35, kr_tape_length_35, r_tape_bytes_35, kp0_35, kp1_35, rfl⟩ := k35
    refine ⟨rfl, ?_⟩
    refine g_ws (ws2 := ((wX9 cI cB cJ h q h_tape o_claims o_nextClaims o_bounds o_otherBounds o_ringSearch o_lawReader o_rules o_nextRules o_market o_trial o_kept o_triangles v_hasKept v_table) ++ (wX7 cI cB cJ h_tape q_tape tape_length_35 v_tape_end v_tape_at v_tape_fault v_tape_faultAt tape_bytes_35 v_tape_taken))) rfl ?_
    refine g_aload_n X dX9_feed_38 0 rfl ?_
    refine gX9_get X 0 rfl 0 (by decide) uw411 rfl dX9_feed_39 ?_
    refine g_iload X dX9_feed_42 4 rfl ?_
    refine g_callVVw X (c_X7_write l D cI cB cJ h_tape q_tape (p0 := p3) (by omega) r_tape_bytes_35 (by first | assumption | omega) (by first | assumption | omega)) [2, 3, 4] rfl rfl rfl cv_X7_write uw465 ⟨rfl, rfl, by decide, by decide⟩ 0 rfl rfl rfl rfl rfl (Nat.le_of_ble_eq_true rfl) ⟨Nat.zero_le _, Nat.zero_le _⟩ dX9_feed_44 (fun ws44 k44 => ?_)
    obtain ⟨tape_length_44, tape_bytes_44, kr_tape_length_44, r_tape_bytes_44, kp0_44, kp1_44, rfl⟩ := k44
    refine ⟨rfl, ?_⟩
    refine g_ws (ws2 := ((wX9 cI cB cJ h q h_tape o_claims o_nextClaims o_bounds o_otherBounds o_ringSearch o_lawReader o_rules o_nextRules o_market o_trial o_kept o_triangles v_hasKept v_table) ++ (wX7 cI cB cJ h_tape q_tape tape_length_44 v_tape_end v_tape_at v_tape_fault v_tape_faultAt tape_bytes_44 v_tape_taken))) rfl ?_
    refine g_aload_n X dX9_feed_47 0 rfl ?_
    refine gX9_get X 0 rfl 0 (by decide) uw411 rfl dX9_feed_48 ?_
    refine g_iload X dX9_feed_51 5 rfl ?_
    refine g_callVVw X (c_X7_write l D cI cB cJ h_tape q_tape (p0 := p4) (by omega) r_tape_bytes_44 (by first | assumption | omega) (by first | assumption | omega)) [2, 3, 4] rfl rfl rfl cv_X7_write uw465 ⟨rfl, rfl, by decide, by decide⟩ 0 rfl rfl rfl rfl rfl (Nat.le_of_ble_eq_true rfl) ⟨Nat.zero_le _, Nat.zero_le _⟩ dX9_feed_53 (fun ws53 k53 => ?_)
    obtain ⟨tape_length_53, tape_bytes_53, kr_tape_length_53, r_tape_bytes_53, kp0_53, kp1_53, rfl⟩ := k53
    refine ⟨rfl, ?_⟩
    refine g_ws (ws2 := ((wX9 cI cB cJ h q h_tape o_claims o_nextClaims o_bounds o_otherBounds o_ringSearch o_lawReader o_rules o_nextRules o_market o_trial o_kept o_triangles v_hasKept v_table) ++ (wX7 cI cB cJ h_tape q_tape tape_length_53 v_tape_end v_tape_at v_tape_fault v_tape_faultAt tape_bytes_53 v_tape_taken))) rfl ?_
    refine g_aload_n X dX9_feed_56 0 rfl ?_
    refine gX9_get X 0 rfl 0 (by decide) uw411 rfl dX9_feed_57 ?_
    refine gN_get X (T := TX7) 2 rfl rfl inU_X7 2 (by decide) nw136 rfl rfl dX9_feed_60 ?_
    have hF : tape_bytes_53 = fdB v_tape_bytes v_tape_length p0 p1 p2 p3 p4 := fdB_y (by omega) (by omega) kp0_19 kp0_27 kp0_35 kp0_44 kp1_19 kp1_27 kp1_35 kp1_44 kp1_53
    exact hQ _ _ _ _ dX9_feed_63 ⟨tape_length_53, tape_bytes_53, (by omega), r_tape_bytes_53, (by first | assumption | omega), (by first | assumption | omega), (by exact hF), rfl⟩
  · clear kb_6
    replace kp0_6 := (kp0_6.resolve_left (fun h => absurd h.1 (by omega))).2
    refine g_iconst X dX9_feed_12 ?_
    have hF : v_tape_bytes = fdB v_tape_bytes v_tape_length p0 p1 p2 p3 p4 := fdB_n (by omega)
    exact hQ _ _ _ _ dX9_feed_13 ⟨v_tape_length, v_tape_bytes, (by omega), r_v_tape_bytes, (by first | assumption | omega), (by first | assumption | omega), (by exact hF), rfl⟩
set_option maxHeartbeats 600000 in
set_option maxRecDepth 100000 in
theorem c_X9_claims (l : Launch) (D : va_G) (cI cB cJ : ClassId) (h : Nat) (q : Nat → Nat) (h_tape : Nat) (q_tape : Nat → Nat) (h_nc : Nat) (q_nc : Nat → Nat) (h_bo : Nat) (q_bo : Nat → Nat) {o_claims : Nat} {o_otherBounds : Nat} {o_ringSearch : Nat} {o_lawReader : Nat} {o_rules : Nat} {o_nextRules : Nat} {o_market : Nat} {o_trial : Nat} {o_kept : Nat} {o_triangles : Nat} {v_hasKept v_tape_length v_tape_end v_tape_at v_tape_fault v_tape_faultAt v_nc_size v_bo_canHold : Int} {v_table v_tape_bytes v_tape_taken v_nc_first v_nc_second v_nc_kind v_nc_number v_nc_group v_nc_over v_bo_direct v_bo_byAll v_bo_more : Nat → Int} {p0 : Int} (kr_v_tape_length : 0 ≤ v_tape_length ∧ v_tape_length ≤ 260) (kr_v_tape_end : 0 ≤ v_tape_end ∧ v_tape_end ≤ 260) (kr_v_tape_at : 0 ≤ v_tape_at ∧ v_tape_at ≤ 260) (kr_v_tape_fault : 0 ≤ v_tape_fault ∧ v_tape_fault ≤ 8) (kr_v_tape_faultAt : 0 ≤ v_tape_faultAt ∧ v_tape_faultAt ≤ 260) (r_v_tape_bytes : RA 0 255 v_tape_bytes) (kr_v_nc_size : 0 ≤ v_nc_size ∧ v_nc_size ≤ 40) (r_v_nc_first : RA 0 11 v_nc_first) (r_v_nc_second : RA 0 11 v_nc_second) (r_v_nc_kind : RA 0 2 v_nc_kind) (r_v_nc_number : RA (-9999) 9999 v_nc_number) (r_v_nc_group : RA 0 11 v_nc_group) (r_v_nc_over : RA (-2147483648) 2147483647 v_nc_over) (kr_v_bo_canHold : 0 ≤ v_bo_canHold ∧ v_bo_canHold ≤ 1) (r_v_bo_direct : RA (-9999) 1000000 v_bo_direct) (r_v_bo_byAll : RA (-1000000) 1000000 v_bo_byAll) (hp0 : IR p0) : CtI l yX9_claims cX9_claims 4 (some .int) ⟨5, 0, 0, 132⟩ D (TY cI cB cJ) ((wX9 cI cB cJ h q h_tape o_claims h_nc h_bo o_otherBounds o_ringSearch o_lawReader o_rules o_nextRules o_market o_trial o_kept o_triangles v_hasKept v_table) ++ (wX7 cI cB cJ h_tape q_tape v_tape_length v_tape_end v_tape_at v_tape_fault v_tape_faultAt v_tape_bytes v_tape_taken) ++ (wX1 cI cB cJ h_nc q_nc v_nc_size v_nc_first v_nc_second v_nc_kind v_nc_number v_nc_group v_nc_over) ++ (wX0 cI cB cJ h_bo q_bo v_bo_canHold v_bo_direct v_bo_byAll v_bo_more)) [.ref h, vI p0] (fun z ws' => ∃ n_tape_length : Int, ∃ n_tape_end : Int, ∃ n_tape_at : Int, ∃ n_tape_fault : Int, ∃ n_tape_faultAt : Int, ∃ n_nc_size : Int, ∃ n_nc_first : Nat → Int, ∃ n_nc_second : Nat → Int, ∃ n_nc_kind : Nat → Int, ∃ n_nc_number : Nat → Int, ∃ n_nc_group : Nat → Int, ∃ n_nc_over : Nat → Int, ∃ n_bo_canHold : Int, ∃ n_bo_direct : Nat → Int, ∃ n_bo_byAll : Nat → Int, ∃ n_o_claims : Nat, ∃ n_o_nextClaims : Nat, (0 ≤ n_tape_length ∧ n_tape_length ≤ 260) ∧ (0 ≤ n_tape_end ∧ n_tape_end ≤ 260) ∧ (0 ≤ n_tape_at ∧ n_tape_at ≤ 260) ∧ (0 ≤ n_tape_fault ∧ n_tape_fault ≤ 8) ∧ (0 ≤ n_tape_faultAt ∧ n_tape_faultAt ≤ 260) ∧ (0 ≤ n_nc_size ∧ n_nc_size ≤ 40) ∧ (RA 0 11 n_nc_first) ∧ (RA 0 11 n_nc_second) ∧ (RA 0 2 n_nc_kind) ∧ (RA (-9999) 9999 n_nc_number) ∧ (RA 0 11 n_nc_group) ∧ (RA (-2147483648) 2147483647 n_nc_over) ∧ (0 ≤ n_bo_canHold ∧ n_bo_canHold ≤ 1) ∧ (RA (-9999) 1000000 n_bo_direct) ∧ (RA (-1000000) 1000000 n_bo_byAll) ∧ (IR z) ∧ ((1 ≤ p0 ∧ p0 ≤ 250 ∧ p0 ≤ v_tape_length ∧ n_tape_length = 0) ∨ (¬ (1 ≤ p0 ∧ p0 ≤ 250 ∧ p0 ≤ v_tape_length) ∧ n_tape_length = v_tape_length)) ∧ (((1 ≤ p0 ∧ p0 ≤ 250 ∧ p0 ≤ v_tape_length) ∧ z = clN (sgP p0 v_tape_bytes) p0) ∨ (¬ (1 ≤ p0 ∧ p0 ≤ 250 ∧ p0 ≤ v_tape_length) ∧ z = -1)) ∧ ((0 ≤ z → (∀ c : Nat, c < 144 → n_bo_direct c = (toF n_nc_first n_nc_second n_nc_kind n_nc_number (-1) n_nc_size.toNat) c) ∧ ((n_bo_canHold = 1 ∧ okN (toF n_nc_first n_nc_second n_nc_kind n_nc_number (-1) n_nc_size.toNat) 12 ∧ ∀ c : Nat, c < 144 → n_bo_byAll c = fwN (toF n_nc_first n_nc_second n_nc_kind n_nc_number (-1) n_nc_size.toNat) 12 c) ∨ (n_bo_canHold = 0 ∧ ¬ okN (toF n_nc_first n_nc_second n_nc_kind n_nc_number (-1) n_nc_size.toNat) 12 ∧ ngF n_bo_byAll)) ∧ TD (toF n_nc_first n_nc_second n_nc_kind n_nc_number (-1) n_nc_size.toNat)) ∧ (z < 0 → n_bo_direct = v_bo_direct ∧ n_bo_byAll = v_bo_byAll ∧ n_bo_canHold = v_bo_canHold)) ∧ (0 ≤ z → n_nc_size = z ∧ AG (sgP p0 v_tape_bytes) z n_nc_first n_nc_second n_nc_kind n_nc_number ∧ KR n_nc_group n_nc_over (knP (sgP p0 v_tape_bytes) z.toNat)) ∧ ((n_o_claims = o_claims ∧ n_o_nextClaims = h_nc ∧ z < 0) ∨ (n_o_claims = h_nc ∧ n_o_nextClaims = o_claims ∧ 0 ≤ z)) ∧ (ws' = ((wX9 cI cB cJ h q h_tape n_o_claims n_o_nextClaims h_bo o_otherBounds o_ringSearch o_lawReader o_rules o_nextRules o_market o_trial o_kept o_triangles v_hasKept v_table) ++ (wX7 cI cB cJ h_tape q_tape n_tape_length n_tape_end n_tape_at n_tape_fault n_tape_faultAt v_tape_bytes v_tape_taken) ++ (wX1 cI cB cJ h_nc q_nc n_nc_size n_nc_first n_nc_second n_nc_kind n_nc_number n_nc_group n_nc_over) ++ (wX0 cI cB cJ h_bo q_bo n_bo_canHold n_bo_direct n_bo_byAll v_bo_more)))) := by
  refine hdrI (own := RX9) rfl (by decide +kernel) (Nat.le_of_ble_eq_true rfl) ?_
  intro p e s m args below meth c Q A X hQ
  refine g_lvE (lv2 := [(0, .ref h), (1, vI p0)]) rfl ?_
  refine g_aload_n X dX9_claims_0 0 rfl ?_
  refine gX9_get X 0 rfl 0 (by decide) uw411 rfl dX9_claims_1 ?_
  refine g_iload_n X dX9_claims_4 1 rfl ?_
  refine g_iconst X dX9_claims_5 ?_
  refine g_sipush X (z := 250) dX9_claims_6 (by decide) ?_
  refine g_callVIw X (c_X7_has l D cI cB cJ h_tape q_tape (p0 := p0) (p1 := 1) (p2 := 250) (by omega) (by first | assumption | omega) (by first | assumption | omega) (by first | assumption | omega)) [2, 3, 4] rfl rfl rfl cv_X7_has uw473 ⟨rfl, rfl, by decide, by decide⟩ 0 rfl rfl rfl rfl rfl (Nat.le_of_ble_eq_true rfl) ⟨Nat.zero_le _, Nat.zero_le _⟩ dX9_claims_9 (fun t9 ws9 k9 => ?_)
  obtain ⟨kb_9, ⟨kp0_9, rfl⟩⟩ := k9
  refine ⟨rfl, ?_⟩
  refine g_ws (ws2 := ((wX9 cI cB cJ h q h_tape o_claims h_nc h_bo o_otherBounds o_ringSearch o_lawReader o_rules o_nextRules o_market o_trial o_kept o_triangles v_hasKept v_table) ++ (wX7 cI cB cJ h_tape q_tape v_tape_length v_tape_end v_tape_at v_tape_fault v_tape_faultAt v_tape_bytes v_tape_taken) ++ (wX1 cI cB cJ h_nc q_nc v_nc_size v_nc_first v_nc_second v_nc_kind v_nc_number v_nc_group v_nc_over) ++ (wX0 cI cB cJ h_bo q_bo v_bo_canHold v_bo_direct v_bo_byAll v_bo_more))) rfl ?_
  refine g_if_ne X (tgt := 17) dX9_claims_12 (by decide) (by omega) (fun c12 => ?_) (fun c12 => ?_)
  · replace kb_9 := kb_9.resolve_left (fun h => c12 h)
    replace kp0_9 := kp0_9.resolve_right (fun h => c12 h.1)
    refine g_aload_n X dX9_claims_17 0 rfl ?_
    refine gX9_get X 0 rfl 2 (by decide) uw413 rfl dX9_claims_18 ?_
    refine g_aload_n X dX9_claims_21 0 rfl ?_
    refine gX9_get X 0 rfl 0 (by decide) uw411 rfl dX9_claims_22 ?_
    refine g_iload_n X dX9_claims_25 1 rfl ?_
    refine g_callVIw X (c_X1_read l D cI cB cJ h_nc q_nc h_tape q_tape (p1 := p0) (by omega) r_v_nc_first r_v_nc_second r_v_nc_kind r_v_nc_number r_v_nc_group r_v_nc_over (by omega) (by omega) (by omega) (by omega) (by omega) r_v_tape_bytes (by first | assumption | omega) (by first | assumption | omega) (by first | assumption | omega)) [5, 6, 7, 8, 9, 10, 11, 2, 3, 4] rfl rfl rfl cv_X1_read uw633 ⟨rfl, rfl, by decide, by decide⟩ 0 rfl rfl rfl rfl rfl (Nat.le_of_ble_eq_true rfl) ⟨Nat.zero_le _, Nat.zero_le _⟩ dX9_claims_26 (fun t26 ws26 k26 => ?_)
    obtain ⟨nc_size_26, nc_first_26, nc_second_26, nc_kind_26, nc_number_26, nc_group_26, nc_over_26, tape_end_26, tape_at_26, tape_fault_26, tape_faultAt_26, kr_nc_size_26, r_nc_first_26, r_nc_second_26, r_nc_kind_26, r_nc_number_26, r_nc_group_26, r_nc_over_26, kr_tape_end_26, kr_tape_at_26, kr_tape_fault_26, kr_tape_faultAt_26, kp0_26, kp1_26, kp2_26, rfl⟩ := k26
    refine ⟨rfl, ?_⟩
    refine g_ws (ws2 := ((wX9 cI cB cJ h q h_tape o_claims h_nc h_bo o_otherBounds o_ringSearch o_lawReader o_rules o_nextRules o_market o_trial o_kept o_triangles v_hasKept v_table) ++ (wX7 cI cB cJ h_tape q_tape v_tape_length tape_end_26 tape_at_26 tape_fault_26 tape_faultAt_26 v_tape_bytes v_tape_taken) ++ (wX1 cI cB cJ h_nc q_nc nc_size_26 nc_first_26 nc_second_26 nc_kind_26 nc_number_26 nc_group_26 nc_over_26) ++ (wX0 cI cB cJ h_bo q_bo v_bo_canHold v_bo_direct v_bo_byAll v_bo_more))) rfl ?_
    refine g_istore_n X (lv' := [(2, vI t26), (0, .ref h), (1, vI p0)]) dX9_claims_29 (by decide) rfl ?_
    refine g_aload_n X dX9_claims_30 1 rfl ?_
    refine gX9_get X 0 rfl 0 (by decide) uw411 rfl dX9_claims_31 ?_
    refine g_callVVw X (c_X7_empty l D cI cB cJ h_tape q_tape  (by omega)) [2, 3, 4] rfl rfl rfl cv_X7_empty uw625 ⟨rfl, rfl, by decide, by decide⟩ 0 rfl rfl rfl rfl rfl (Nat.le_of_ble_eq_true rfl) ⟨Nat.zero_le _, Nat.zero_le _⟩ dX9_claims_34 (fun ws34 k34 => ?_)
    obtain ⟨tape_length_34, kr_tape_length_34, kp0_34, rfl⟩ := k34
    refine ⟨rfl, ?_⟩
    refine g_ws (ws2 := ((wX9 cI cB cJ h q h_tape o_claims h_nc h_bo o_otherBounds o_ringSearch o_lawReader o_rules o_nextRules o_market o_trial o_kept o_triangles v_hasKept v_table) ++ (wX7 cI cB cJ h_tape q_tape tape_length_34 tape_end_26 tape_at_26 tape_fault_26 tape_faultAt_26 v_tape_bytes v_tape_taken) ++ (wX1 cI cB cJ h_nc q_nc nc_size_26 nc_first_26 nc_second_26 nc_kind_26 nc_number_26 nc_group_26 nc_over_26) ++ (wX0 cI cB cJ h_bo q_bo v_bo_canHold v_bo_direct v_bo_byAll v_bo_more))) rfl ?_
    refine g_iload_n X dX9_claims_37 0 rfl ?_
    refine g_if_lt X (tgt := 71) dX9_claims_38 (by decide) (by omega) (fun c38 => ?_) (fun c38 => ?_)
    · refine g_iload_n X dX9_claims_71 0 rfl ?_
      exact hQ _ _ _ _ dX9_claims_72 ⟨tape_length_34, tape_end_26, tape_at_26, tape_fault_26, tape_faultAt_26, nc_size_26, nc_first_26, nc_second_26, nc_kind_26, nc_number_26, nc_group_26, nc_over_26, v_bo_canHold, v_bo_direct, v_bo_byAll, o_claims, h_nc, (by omega), (by omega), (by omega), (by omega), (by omega), (by omega), r_nc_first_26, r_nc_second_26, r_nc_kind_26, r_nc_number_26, r_nc_group_26, r_nc_over_26, (by omega), r_v_bo_direct, r_v_bo_byAll, (by first | assumption | omega), (by first | assumption | omega), (by first | assumption | omega), (by first | exact ⟨fun _ => ⟨kp0_68, kp1_68, kp2_68⟩, fun h => absurd h (by omega)⟩ | exact ⟨fun h => absurd h (by omega), fun _ => ⟨rfl, rfl, rfl⟩⟩), (by first | exact kp2_26 | exact fun h => absurd h (by omega)), (by first | exact Or.inl ⟨rfl, rfl, by omega⟩ | exact Or.inr ⟨rfl, rfl, by omega⟩), rfl⟩
    · refine g_aload_n X dX9_claims_41 1 rfl ?_
      refine gX9_get X 0 rfl 1 (by decide) uw412 rfl dX9_claims_42 ?_
      refine g_astore_n X (lv' := [(3, .ref o_claims), (2, vI t26), (0, .ref h), (1, vI p0)]) dX9_claims_45 (by decide) rfl ?_
      refine g_aload_n X dX9_claims_46 2 rfl ?_
      refine g_aload_n X dX9_claims_47 2 rfl ?_
      refine gX9_get X 0 rfl 2 (by decide) uw413 rfl dX9_claims_48 ?_
      refine gX9_put X 0 rfl 1 (by decide) uw412 rfl rfl rfl (Nat.le_of_ble_eq_true rfl) dX9_claims_51 (ws2 := ((wX9 cI cB cJ h q h_tape h_nc h_nc h_bo o_otherBounds o_ringSearch o_lawReader o_rules o_nextRules o_market o_trial o_kept o_triangles v_hasKept v_table) ++ (wX7 cI cB cJ h_tape q_tape tape_length_34 tape_end_26 tape_at_26 tape_fault_26 tape_faultAt_26 v_tape_bytes v_tape_taken) ++ (wX1 cI cB cJ h_nc q_nc nc_size_26 nc_first_26 nc_second_26 nc_kind_26 nc_number_26 nc_group_26 nc_over_26) ++ (wX0 cI cB cJ h_bo q_bo v_bo_canHold v_bo_direct v_bo_byAll v_bo_more))) rfl ?_
      refine g_aload_n X dX9_claims_54 2 rfl ?_
      refine g_aload_n X dX9_claims_55 0 rfl ?_
      refine gX9_put X 0 rfl 2 (by decide) uw413 rfl rfl rfl (Nat.le_of_ble_eq_true rfl) dX9_claims_56 (ws2 := ((wX9 cI cB cJ h q h_tape h_nc o_claims h_bo o_otherBounds o_ringSearch o_lawReader o_rules o_nextRules o_market o_trial o_kept o_triangles v_hasKept v_table) ++ (wX7 cI cB cJ h_tape q_tape tape_length_34 tape_end_26 tape_at_26 tape_fault_26 tape_faultAt_26 v_tape_bytes v_tape_taken) ++ (wX1 cI cB cJ h_nc q_nc nc_size_26 nc_first_26 nc_second_26 nc_kind_26 nc_number_26 nc_group_26 nc_over_26) ++ (wX0 cI cB cJ h_bo q_bo v_bo_canHold v_bo_direct v_bo_byAll v_bo_more))) rfl ?_
      refine g_aload_n X dX9_claims_59 2 rfl ?_
      refine gX9_get X 0 rfl 3 (by decide) uw414 rfl dX9_claims_60 ?_
      refine g_aload_n X dX9_claims_63 2 rfl ?_
      refine gX9_get X 0 rfl 1 (by decide) uw412 rfl dX9_claims_64 ?_
      refine g_iconst X dX9_claims_67 ?_
      have hne9 : ∀ j : Nat, (j : Int) < nc_size_26 → nc_first_26 j ≠ nc_second_26 j := fun j hj => ((kp2_26 (by omega)).2.1 j (by have := (kp2_26 (by omega)).1; omega)).2.2.2.2
      refine g_callVVw X (c_X0_follow l D cI cB cJ h_bo q_bo h_nc q_nc (p1 := (-1)) (by omega) r_v_bo_direct r_v_bo_byAll (by omega) r_nc_first_26 r_nc_second_26 r_nc_kind_26 r_nc_number_26 (by first | assumption | omega) (by first | assumption | omega)) [12, 13, 14, 15, 5, 6, 7, 8, 9, 10, 11] rfl rfl rfl cv_X0_follow uw377 ⟨rfl, rfl, by decide, by decide⟩ 0 rfl rfl rfl rfl rfl (Nat.le_of_ble_eq_true rfl) ⟨Nat.zero_le _, Nat.zero_le _⟩ dX9_claims_68 (fun ws68 k68 => ?_)
      obtain ⟨bo_canHold_68, bo_direct_68, bo_byAll_68, kr_bo_canHold_68, r_bo_direct_68, r_bo_byAll_68, kp0_68, kp1_68, kp2_68, rfl⟩ := k68
      refine ⟨rfl, ?_⟩
      refine g_ws (ws2 := ((wX9 cI cB cJ h q h_tape h_nc o_claims h_bo o_otherBounds o_ringSearch o_lawReader o_rules o_nextRules o_market o_trial o_kept o_triangles v_hasKept v_table) ++ (wX7 cI cB cJ h_tape q_tape tape_length_34 tape_end_26 tape_at_26 tape_fault_26 tape_faultAt_26 v_tape_bytes v_tape_taken) ++ (wX1 cI cB cJ h_nc q_nc nc_size_26 nc_first_26 nc_second_26 nc_kind_26 nc_number_26 nc_group_26 nc_over_26) ++ (wX0 cI cB cJ h_bo q_bo bo_canHold_68 bo_direct_68 bo_byAll_68 v_bo_more))) rfl ?_
      refine g_iload_n X dX9_claims_71 1 rfl ?_
      exact hQ _ _ _ _ dX9_claims_72 ⟨tape_length_34, tape_end_26, tape_at_26, tape_fault_26, tape_faultAt_26, nc_size_26, nc_first_26, nc_second_26, nc_kind_26, nc_number_26, nc_group_26, nc_over_26, bo_canHold_68, bo_direct_68, bo_byAll_68, h_nc, o_claims, (by omega), (by omega), (by omega), (by omega), (by omega), (by omega), r_nc_first_26, r_nc_second_26, r_nc_kind_26, r_nc_number_26, r_nc_group_26, r_nc_over_26, (by omega), r_bo_direct_68, r_bo_byAll_68, (by first | assumption | omega), (by first | assumption | omega), (by first | assumption | omega), (by first | exact ⟨fun _ => ⟨kp0_68, kp1_68, kp2_68⟩, fun h => absurd h (by omega)⟩ | exact ⟨fun h => absurd h (by omega), fun _ => ⟨rfl, rfl, rfl⟩⟩), (by first | exact kp2_26 | exact fun h => absurd h (by omega)), (by first | exact Or.inl ⟨rfl, rfl, by omega⟩ | exact Or.inr ⟨rfl, rfl, by omega⟩), rfl⟩
  · clear kb_9
    replace kp0_9 := (kp0_9.resolve_left (fun h => absurd h.1 (by omega))).2
    refine g_iconst X dX9_claims_15 ?_
    exact hQ _ _ _ _ dX9_claims_16 ⟨v_tape_length, v_tape_end, v_tape_at, v_tape_fault, v_tape_faultAt, v_nc_size, v_nc_first, v_nc_second, v_nc_kind, v_nc_number, v_nc_group, v_nc_over, v_bo_canHold, v_bo_direct, v_bo_byAll, o_claims, h_nc, (by omega), (by omega), (by omega), (by omega), (by omega), (by omega), r_v_nc_first, r_v_nc_second, r_v_nc_kind, r_v_nc_number, r_v_nc_group, r_v_nc_over, (by omega), r_v_bo_direct, r_v_bo_byAll, (by first | assumption | omega), (by first | assumption | omega), (by first | assumption | omega), (by first | exact ⟨fun _ => ⟨kp0_68, kp1_68, kp2_68⟩, fun h => absurd h (by omega)⟩ | exact ⟨fun h => absurd h (by omega), fun _ => ⟨rfl, rfl, rfl⟩⟩), (by first | exact kp2_26 | exact fun h => absurd h (by omega)), (by first | exact Or.inl ⟨rfl, rfl, by omega⟩ | exact Or.inr ⟨rfl, rfl, by omega⟩), rfl⟩
set_option maxHeartbeats 600000 in
set_option maxRecDepth 100000 in
theorem c_X9_stock (l : Launch) (D : va_G) (cI cB cJ : ClassId) (h : Nat) (q : Nat → Nat) (h_tape : Nat) (q_tape : Nat → Nat) (h_tr : Nat) (q_tr : Nat → Nat) (h_mk : Nat) (q_mk : Nat → Nat) {o_claims : Nat} {o_nextClaims : Nat} {o_bounds : Nat} {o_otherBounds : Nat} {o_ringSearch : Nat} {o_lawReader : Nat} {o_rules : Nat} {o_nextRules : Nat} {o_kept : Nat} {o_triangles : Nat} {v_hasKept v_tape_length v_tape_end v_tape_at v_tape_fault v_tape_faultAt v_tr_told v_tr_day v_tr_x v_tr_sales v_tr_timesSoldOut v_tr_soldOutToday v_mk_told v_mk_day v_mk_x v_mk_sales v_mk_timesSoldOut v_mk_soldOutToday : Int} {v_table v_tape_bytes v_tape_taken v_tr_upper v_tr_lower v_tr_money v_tr_soldOut v_mk_upper v_mk_lower v_mk_money v_mk_soldOut : Nat → Int} {p0 : Int} (kr_v_tape_length : 0 ≤ v_tape_length ∧ v_tape_length ≤ 260) (kr_v_tape_end : 0 ≤ v_tape_end ∧ v_tape_end ≤ 260) (kr_v_tape_at : 0 ≤ v_tape_at ∧ v_tape_at ≤ 260) (kr_v_tape_fault : 0 ≤ v_tape_fault ∧ v_tape_fault ≤ 8) (kr_v_tape_faultAt : 0 ≤ v_tape_faultAt ∧ v_tape_faultAt ≤ 260) (r_v_tape_bytes : RA 0 255 v_tape_bytes) (kr_v_tr_told : 0 ≤ v_tr_told ∧ v_tr_told ≤ 255) (r_v_tr_upper : RA (-2147483648) 2147483647 v_tr_upper) (r_v_tr_lower : RA (-2147483648) 2147483647 v_tr_lower) (r_v_tr_money : RA (-2147483648) 2147483647 v_tr_money) (r_v_tr_soldOut : RA (-2147483648) 2147483647 v_tr_soldOut) (kr_v_mk_told : 0 ≤ v_mk_told ∧ v_mk_told ≤ 255) (r_v_mk_upper : RA (-2147483648) 2147483647 v_mk_upper) (r_v_mk_lower : RA (-2147483648) 2147483647 v_mk_lower) (r_v_mk_money : RA (-2147483648) 2147483647 v_mk_money) (r_v_mk_soldOut : RA (-2147483648) 2147483647 v_mk_soldOut) (hp0 : IR p0) : CtI l yX9_stock cX9_stock 3 (some .int) ⟨4, 0, 0, 94⟩ D (TY cI cB cJ) ((wX9 cI cB cJ h q h_tape o_claims o_nextClaims o_bounds o_otherBounds o_ringSearch o_lawReader o_rules o_nextRules h_mk h_tr o_kept o_triangles v_hasKept v_table) ++ (wX7 cI cB cJ h_tape q_tape v_tape_length v_tape_end v_tape_at v_tape_fault v_tape_faultAt v_tape_bytes v_tape_taken) ++ (wX4 cI cB cJ h_tr q_tr v_tr_told v_tr_day v_tr_x v_tr_sales v_tr_timesSoldOut v_tr_soldOutToday v_tr_upper v_tr_lower v_tr_money v_tr_soldOut) ++ (wX4 cI cB cJ h_mk q_mk v_mk_told v_mk_day v_mk_x v_mk_sales v_mk_timesSoldOut v_mk_soldOutToday v_mk_upper v_mk_lower v_mk_money v_mk_soldOut)) [.ref h, vI p0] (fun z ws' => ∃ n_tape_length : Int, ∃ n_tape_end : Int, ∃ n_tape_at : Int, ∃ n_tape_fault : Int, ∃ n_tape_faultAt : Int, ∃ n_tr_told : Int, ∃ n_tr_upper : Nat → Int, ∃ n_tr_lower : Nat → Int, ∃ n_tr_money : Nat → Int, ∃ n_tr_soldOut : Nat → Int, ∃ n_mk_told : Int, ∃ n_mk_upper : Nat → Int, ∃ n_mk_lower : Nat → Int, ∃ n_mk_money : Nat → Int, ∃ n_mk_soldOut : Nat → Int, (0 ≤ n_tape_length ∧ n_tape_length ≤ 260) ∧ (0 ≤ n_tape_end ∧ n_tape_end ≤ 260) ∧ (0 ≤ n_tape_at ∧ n_tape_at ≤ 260) ∧ (0 ≤ n_tape_fault ∧ n_tape_fault ≤ 8) ∧ (0 ≤ n_tape_faultAt ∧ n_tape_faultAt ≤ 260) ∧ (0 ≤ n_tr_told ∧ n_tr_told ≤ 255) ∧ (RA (-2147483648) 2147483647 n_tr_upper) ∧ (RA (-2147483648) 2147483647 n_tr_lower) ∧ (RA (-2147483648) 2147483647 n_tr_money) ∧ (RA (-2147483648) 2147483647 n_tr_soldOut) ∧ (0 ≤ n_mk_told ∧ n_mk_told ≤ 255) ∧ (RA (-2147483648) 2147483647 n_mk_upper) ∧ (RA (-2147483648) 2147483647 n_mk_lower) ∧ (RA (-2147483648) 2147483647 n_mk_money) ∧ (RA (-2147483648) 2147483647 n_mk_soldOut) ∧ (IR z) ∧ ((1 ≤ p0 ∧ p0 ≤ 160 ∧ p0 ≤ v_tape_length ∧ n_tape_length = 0) ∨ (¬ (1 ≤ p0 ∧ p0 ≤ 160 ∧ p0 ≤ v_tape_length) ∧ n_tape_length = v_tape_length)) ∧ (((1 ≤ p0 ∧ p0 ≤ 160 ∧ p0 ≤ v_tape_length) ∧ z = skA (sgP p0 v_tape_bytes) p0) ∨ (¬ (1 ≤ p0 ∧ p0 ≤ 160 ∧ p0 ≤ v_tape_length) ∧ z = -1)) ∧ (ws' = ((wX9 cI cB cJ h q h_tape o_claims o_nextClaims o_bounds o_otherBounds o_ringSearch o_lawReader o_rules o_nextRules h_mk h_tr o_kept o_triangles v_hasKept v_table) ++ (wX7 cI cB cJ h_tape q_tape n_tape_length n_tape_end n_tape_at n_tape_fault n_tape_faultAt v_tape_bytes v_tape_taken) ++ (wX4 cI cB cJ h_tr q_tr n_tr_told v_tr_day v_tr_x v_tr_sales v_tr_timesSoldOut v_tr_soldOutToday n_tr_upper n_tr_lower n_tr_money n_tr_soldOut) ++ (wX4 cI cB cJ h_mk q_mk n_mk_told v_mk_day v_mk_x v_mk_sales v_mk_timesSoldOut v_mk_soldOutToday n_mk_upper n_mk_lower n_mk_money n_mk_soldOut)))) := by
  refine hdrI (own := RX9) rfl (by decide +kernel) (Nat.le_of_ble_eq_true rfl) ?_
  intro p e s m args below meth c Q A X hQ
  refine g_lvE (lv2 := [(0, .ref h), (1, vI p0)]) rfl ?_
  refine g_aload_n X dX9_stock_0 0 rfl ?_
  refine gX9_get X 0 rfl 0 (by decide) uw411 rfl dX9_stock_1 ?_
  refine g_iload_n X dX9_stock_4 1 rfl ?_
  refine g_iconst X dX9_stock_5 ?_
  refine g_sipush X (z := 160) dX9_stock_6 (by decide) ?_
  refine g_callVIw X (c_X7_has l D cI cB cJ h_tape q_tape (p0 := p0) (p1 := 1) (p2 := 160) (by omega) (by first | assumption | omega) (by first | assumption | omega) (by first | assumption | omega)) [2, 3, 4] rfl rfl rfl cv_X7_has uw473 ⟨rfl, rfl, by decide, by decide⟩ 0 rfl rfl rfl rfl rfl (Nat.le_of_ble_eq_true rfl) ⟨Nat.zero_le _, Nat.zero_le _⟩ dX9_stock_9 (fun t9 ws9 k9 => ?_)
  obtain ⟨kb_9, ⟨kp0_9, rfl⟩⟩ := k9
  refine ⟨rfl, ?_⟩
  refine g_ws (ws2 := ((wX9 cI cB cJ h q h_tape o_claims o_nextClaims o_bounds o_otherBounds o_ringSearch o_lawReader o_rules o_nextRules h_mk h_tr o_kept o_triangles v_hasKept v_table) ++ (wX7 cI cB cJ h_tape q_tape v_tape_length v_tape_end v_tape_at v_tape_fault v_tape_faultAt v_tape_bytes v_tape_taken) ++ (wX4 cI cB cJ h_tr q_tr v_tr_told v_tr_day v_tr_x v_tr_sales v_tr_timesSoldOut v_tr_soldOutToday v_tr_upper v_tr_lower v_tr_money v_tr_soldOut) ++ (wX4 cI cB cJ h_mk q_mk v_mk_told v_mk_day v_mk_x v_mk_sales v_mk_timesSoldOut v_mk_soldOutToday v_mk_upper v_mk_lower v_mk_money v_mk_soldOut))) rfl ?_
  refine g_if_ne X (tgt := 17) dX9_stock_12 (by decide) (by omega) (fun c12 => ?_) (fun c12 => ?_)
  · replace kb_9 := kb_9.resolve_left (fun h => c12 h)
    replace kp0_9 := kp0_9.resolve_right (fun h => c12 h.1)
    refine g_aload_n X dX9_stock_17 0 rfl ?_
    refine gX9_get X 0 rfl 10 (by decide) uw421 rfl dX9_stock_18 ?_
    refine g_aload_n X dX9_stock_21 0 rfl ?_
    refine gX9_get X 0 rfl 0 (by decide) uw411 rfl dX9_stock_22 ?_
    refine g_iload_n X dX9_stock_25 1 rfl ?_
    refine g_callVIw X (c_X4_readStock l D cI cB cJ h_tr q_tr h_tape q_tape (p1 := p0) (by omega) r_v_tr_upper r_v_tr_lower r_v_tr_money r_v_tr_soldOut (by omega) (by omega) (by omega) (by omega) (by omega) r_v_tape_bytes (by first | assumption | omega) (by first | assumption | omega) (by first | assumption | omega)) [5, 6, 7, 8, 9, 2, 3, 4] rfl rfl rfl cv_X4_readStock uw669 ⟨rfl, rfl, by decide, by decide⟩ 0 rfl rfl rfl rfl rfl (Nat.le_of_ble_eq_true rfl) ⟨Nat.zero_le _, Nat.zero_le _⟩ dX9_stock_26 (fun t26 ws26 k26 => ?_)
    obtain ⟨tr_told_26, tr_upper_26, tr_lower_26, tr_money_26, tr_soldOut_26, tape_end_26, tape_at_26, tape_fault_26, tape_faultAt_26, kr_tr_told_26, r_tr_upper_26, r_tr_lower_26, r_tr_money_26, r_tr_soldOut_26, kr_tape_end_26, kr_tape_at_26, kr_tape_fault_26, kr_tape_faultAt_26, kp0_26, kp1_26, rfl⟩ := k26
    refine ⟨rfl, ?_⟩
    refine g_ws (ws2 := ((wX9 cI cB cJ h q h_tape o_claims o_nextClaims o_bounds o_otherBounds o_ringSearch o_lawReader o_rules o_nextRules h_mk h_tr o_kept o_triangles v_hasKept v_table) ++ (wX7 cI cB cJ h_tape q_tape v_tape_length tape_end_26 tape_at_26 tape_fault_26 tape_faultAt_26 v_tape_bytes v_tape_taken) ++ (wX4 cI cB cJ h_tr q_tr tr_told_26 v_tr_day v_tr_x v_tr_sales v_tr_timesSoldOut v_tr_soldOutToday tr_upper_26 tr_lower_26 tr_money_26 tr_soldOut_26) ++ (wX4 cI cB cJ h_mk q_mk v_mk_told v_mk_day v_mk_x v_mk_sales v_mk_timesSoldOut v_mk_soldOutToday v_mk_upper v_mk_lower v_mk_money v_mk_soldOut))) rfl ?_
    refine g_istore_n X (lv' := [(2, vI t26), (0, .ref h), (1, vI p0)]) dX9_stock_29 (by decide) rfl ?_
    refine g_aload_n X dX9_stock_30 1 rfl ?_
    refine gX9_get X 0 rfl 0 (by decide) uw411 rfl dX9_stock_31 ?_
    refine g_callVVw X (c_X7_empty l D cI cB cJ h_tape q_tape  (by omega)) [2, 3, 4] rfl rfl rfl cv_X7_empty uw625 ⟨rfl, rfl, by decide, by decide⟩ 0 rfl rfl rfl rfl rfl (Nat.le_of_ble_eq_true rfl) ⟨Nat.zero_le _, Nat.zero_le _⟩ dX9_stock_34 (fun ws34 k34 => ?_)
    obtain ⟨tape_length_34, kr_tape_length_34, kp0_34, rfl⟩ := k34
    refine ⟨rfl, ?_⟩
    refine g_ws (ws2 := ((wX9 cI cB cJ h q h_tape o_claims o_nextClaims o_bounds o_otherBounds o_ringSearch o_lawReader o_rules o_nextRules h_mk h_tr o_kept o_triangles v_hasKept v_table) ++ (wX7 cI cB cJ h_tape q_tape tape_length_34 tape_end_26 tape_at_26 tape_fault_26 tape_faultAt_26 v_tape_bytes v_tape_taken) ++ (wX4 cI cB cJ h_tr q_tr tr_told_26 v_tr_day v_tr_x v_tr_sales v_tr_timesSoldOut v_tr_soldOutToday tr_upper_26 tr_lower_26 tr_money_26 tr_soldOut_26) ++ (wX4 cI cB cJ h_mk q_mk v_mk_told v_mk_day v_mk_x v_mk_sales v_mk_timesSoldOut v_mk_soldOutToday v_mk_upper v_mk_lower v_mk_money v_mk_soldOut))) rfl ?_
    refine g_iload_n X dX9_stock_37 0 rfl ?_
    refine g_if_lt X (tgt := 52) dX9_stock_38 (by decide) (by omega) (fun c38 => ?_) (fun c38 => ?_)
    · refine g_iload_n X dX9_stock_52 0 rfl ?_
      exact hQ _ _ _ _ dX9_stock_53 ⟨tape_length_34, tape_end_26, tape_at_26, tape_fault_26, tape_faultAt_26, tr_told_26, tr_upper_26, tr_lower_26, tr_money_26, tr_soldOut_26, v_mk_told, v_mk_upper, v_mk_lower, v_mk_money, v_mk_soldOut, (by omega), (by omega), (by omega), (by omega), (by omega), (by omega), r_tr_upper_26, r_tr_lower_26, r_tr_money_26, r_tr_soldOut_26, (by omega), r_v_mk_upper, r_v_mk_lower, r_v_mk_money, r_v_mk_soldOut, (by first | assumption | omega), (by first | assumption | omega), (by first | assumption | omega), rfl⟩
    · refine g_aload_n X dX9_stock_41 1 rfl ?_
      refine gX9_get X 0 rfl 9 (by decide) uw420 rfl dX9_stock_42 ?_
      refine g_aload_n X dX9_stock_45 1 rfl ?_
      refine gX9_get X 0 rfl 10 (by decide) uw421 rfl dX9_stock_46 ?_
      refine g_callVVw X (c_X4_takeStalls l D cI cB cJ h_mk q_mk h_tr q_tr  (by omega) r_v_mk_upper r_v_mk_lower r_v_mk_money r_v_mk_soldOut (by omega) r_tr_upper_26 r_tr_lower_26 r_tr_money_26 r_tr_soldOut_26) [10, 11, 12, 13, 14, 5, 6, 7, 8, 9] rfl rfl rfl cv_X4_takeStalls uw704 ⟨rfl, rfl, by decide, by decide⟩ 0 rfl rfl rfl rfl rfl (Nat.le_of_ble_eq_true rfl) ⟨Nat.zero_le _, Nat.zero_le _⟩ dX9_stock_49 (fun ws49 k49 => ?_)
      obtain ⟨mk_told_49, mk_upper_49, mk_lower_49, mk_money_49, mk_soldOut_49, kr_mk_told_49, r_mk_upper_49, r_mk_lower_49, r_mk_money_49, r_mk_soldOut_49, rfl⟩ := k49
      refine ⟨rfl, ?_⟩
      refine g_ws (ws2 := ((wX9 cI cB cJ h q h_tape o_claims o_nextClaims o_bounds o_otherBounds o_ringSearch o_lawReader o_rules o_nextRules h_mk h_tr o_kept o_triangles v_hasKept v_table) ++ (wX7 cI cB cJ h_tape q_tape tape_length_34 tape_end_26 tape_at_26 tape_fault_26 tape_faultAt_26 v_tape_bytes v_tape_taken) ++ (wX4 cI cB cJ h_tr q_tr tr_told_26 v_tr_day v_tr_x v_tr_sales v_tr_timesSoldOut v_tr_soldOutToday tr_upper_26 tr_lower_26 tr_money_26 tr_soldOut_26) ++ (wX4 cI cB cJ h_mk q_mk mk_told_49 v_mk_day v_mk_x v_mk_sales v_mk_timesSoldOut v_mk_soldOutToday mk_upper_49 mk_lower_49 mk_money_49 mk_soldOut_49))) rfl ?_
      refine g_iload_n X dX9_stock_52 0 rfl ?_
      exact hQ _ _ _ _ dX9_stock_53 ⟨tape_length_34, tape_end_26, tape_at_26, tape_fault_26, tape_faultAt_26, tr_told_26, tr_upper_26, tr_lower_26, tr_money_26, tr_soldOut_26, mk_told_49, mk_upper_49, mk_lower_49, mk_money_49, mk_soldOut_49, (by omega), (by omega), (by omega), (by omega), (by omega), (by omega), r_tr_upper_26, r_tr_lower_26, r_tr_money_26, r_tr_soldOut_26, (by omega), r_mk_upper_49, r_mk_lower_49, r_mk_money_49, r_mk_soldOut_49, (by first | assumption | omega), (by first | assumption | omega), (by first | assumption | omega), rfl⟩
  · clear kb_9
    replace kp0_9 := (kp0_9.resolve_left (fun h => absurd h.1 (by omega))).2
    refine g_iconst X dX9_stock_15 ?_
    exact hQ _ _ _ _ dX9_stock_16 ⟨v_tape_length, v_tape_end, v_tape_at, v_tape_fault, v_tape_faultAt, v_tr_told, v_tr_upper, v_tr_lower, v_tr_money, v_tr_soldOut, v_mk_told, v_mk_upper, v_mk_lower, v_mk_money, v_mk_soldOut, (by omega), (by omega), (by omega), (by omega), (by omega), (by omega), r_v_tr_upper, r_v_tr_lower, r_v_tr_money, r_v_tr_soldOut, (by omega), r_v_mk_upper, r_v_mk_lower, r_v_mk_money, r_v_mk_soldOut, (by first | assumption | omega), (by first | assumption | omega), (by first | assumption | omega), rfl⟩
set_option maxHeartbeats 600000 in
set_option maxRecDepth 100000 in
theorem c_X9_known (l : Launch) (D : va_G) (cI cB cJ : ClassId) (h : Nat) (q : Nat → Nat) (h_cl : Nat) (q_cl : Nat → Nat) {o_tape : Nat} {o_nextClaims : Nat} {o_bounds : Nat} {o_otherBounds : Nat} {o_ringSearch : Nat} {o_lawReader : Nat} {o_rules : Nat} {o_nextRules : Nat} {o_market : Nat} {o_trial : Nat} {o_kept : Nat} {o_triangles : Nat} {v_hasKept v_cl_size : Int} {v_table v_cl_first v_cl_second v_cl_kind v_cl_number v_cl_group v_cl_over : Nat → Int} {p0 p1 : Int} (r_v_cl_group : RA 0 11 v_cl_group) (r_v_cl_over : RA (-2147483648) 2147483647 v_cl_over) (hp0 : IR p0) (hp1 : IR p1) : CtI l yX9_known cX9_known 3 (some .int) ⟨2, 0, 0, 42⟩ D (TY cI cB cJ) ((wX9 cI cB cJ h q o_tape h_cl o_nextClaims o_bounds o_otherBounds o_ringSearch o_lawReader o_rules o_nextRules o_market o_trial o_kept o_triangles v_hasKept v_table) ++ (wX1 cI cB cJ h_cl q_cl v_cl_size v_cl_first v_cl_second v_cl_kind v_cl_number v_cl_group v_cl_over)) [.ref h, vI p0, vI p1] (fun z ws' => (IR z) ∧ (((0 ≤ p0 ∧ p0 ≤ 11 ∧ 0 ≤ p1 ∧ p1 ≤ 11) ∧ z = dfA v_cl_group v_cl_over p0 p1) ∨ (¬ (0 ≤ p0 ∧ p0 ≤ 11 ∧ 0 ≤ p1 ∧ p1 ≤ 11) ∧ z = -1000000)) ∧ (ws' = ((wX9 cI cB cJ h q o_tape h_cl o_nextClaims o_bounds o_otherBounds o_ringSearch o_lawReader o_rules o_nextRules o_market o_trial o_kept o_triangles v_hasKept v_table) ++ (wX1 cI cB cJ h_cl q_cl v_cl_size v_cl_first v_cl_second v_cl_kind v_cl_number v_cl_group v_cl_over)))) := by
  refine hdrI (own := RX9) rfl (by decide +kernel) (Nat.le_of_ble_eq_true rfl) ?_
  intro p e s m args below meth c Q A X hQ
  refine g_lvE (lv2 := [(0, .ref h), (1, vI p0), (2, vI p1)]) rfl ?_
  refine g_iload_n X dX9_known_0 1 rfl ?_
  refine g_callSIE X (c_X9_isThing l D cI cB cJ (p0 := p0) (by first | assumption | omega)) cv_X9_isThing uw716 ⟨rfl, rfl, by decide, by decide⟩ rfl rfl (Nat.le_of_ble_eq_true rfl) ⟨Nat.zero_le _, Nat.zero_le _⟩ dX9_known_1 (fun t1 ws1 k1 => ?_)
  obtain ⟨kb_1, ⟨kp0_1, rfl⟩⟩ := k1
  refine g_if_eq X (tgt := 26) dX9_known_4 (by decide) (by omega) (fun c4 => ?_) (fun c4 => ?_)
  · clear kb_1
    replace kp0_1 := (kp0_1.resolve_left (fun h => absurd h.1 (by omega))).2
    refine g_ldc X (z := (-1000000)) dX9_known_26 uw725 (by decide) ?_
    exact hQ _ _ _ _ dX9_known_28 ⟨(by first | assumption | omega), (by first | assumption | omega), rfl⟩
  · replace kb_1 := kb_1.resolve_left (fun h => c4 h)
    replace kp0_1 := kp0_1.resolve_right (fun h => c4 h.1)
    refine g_iload_n X dX9_known_7 2 rfl ?_
    refine g_callSIE X (c_X9_isThing l D cI cB cJ (p0 := p1) (by first | assumption | omega)) cv_X9_isThing uw716 ⟨rfl, rfl, by decide, by decide⟩ rfl rfl (Nat.le_of_ble_eq_true rfl) ⟨Nat.zero_le _, Nat.zero_le _⟩ dX9_known_8 (fun t8 ws8 k8 => ?_)
    obtain ⟨kb_8, ⟨kp0_8, rfl⟩⟩ := k8
    refine g_if_eq X (tgt := 26) dX9_known_11 (by decide) (by omega) (fun c11 => ?_) (fun c11 => ?_)
    · clear kb_8
      replace kp0_8 := (kp0_8.resolve_left (fun h => absurd h.1 (by omega))).2
      refine g_ldc X (z := (-1000000)) dX9_known_26 uw725 (by decide) ?_
      exact hQ _ _ _ _ dX9_known_28 ⟨(by first | assumption | omega), (by first | assumption | omega), rfl⟩
    · replace kb_8 := kb_8.resolve_left (fun h => c11 h)
      replace kp0_8 := kp0_8.resolve_right (fun h => c11 h.1)
      refine g_aload_n X dX9_known_14 0 rfl ?_
      refine gX9_get X 0 rfl 1 (by decide) uw412 rfl dX9_known_15 ?_
      refine g_iload_n X dX9_known_18 1 rfl ?_
      refine g_iload_n X dX9_known_19 2 rfl ?_
      refine g_callVIw X (c_X1_difference l D cI cB cJ h_cl q_cl (p0 := p0) (p1 := p1) r_v_cl_group r_v_cl_over (by first | assumption | omega) (by first | assumption | omega) (by first | assumption | omega) (by first | assumption | omega)) [2, 3, 4, 5, 6, 7, 8] rfl rfl rfl cv_X1_difference uw720 ⟨rfl, rfl, by decide, by decide⟩ 0 rfl rfl rfl rfl rfl (Nat.le_of_ble_eq_true rfl) ⟨Nat.zero_le _, Nat.zero_le _⟩ dX9_known_20 (fun t20 ws20 k20 => ?_)
      obtain ⟨kp0_20, kp1_20, rfl⟩ := k20
      refine ⟨rfl, ?_⟩
      refine g_ws (ws2 := ((wX9 cI cB cJ h q o_tape h_cl o_nextClaims o_bounds o_otherBounds o_ringSearch o_lawReader o_rules o_nextRules o_market o_trial o_kept o_triangles v_hasKept v_table) ++ (wX1 cI cB cJ h_cl q_cl v_cl_size v_cl_first v_cl_second v_cl_kind v_cl_number v_cl_group v_cl_over))) rfl ?_
      refine g_goto X (tgt := 28) dX9_known_23 (by decide) ?_
      exact hQ _ _ _ _ dX9_known_28 ⟨(by first | assumption | omega), (by first | assumption | omega), rfl⟩
set_option maxHeartbeats 600000 in
set_option maxRecDepth 100000 in
theorem c_X9_groups (l : Launch) (D : va_G) (cI cB cJ : ClassId) (h : Nat) (q : Nat → Nat) (h_cl : Nat) (q_cl : Nat → Nat) {o_tape : Nat} {o_nextClaims : Nat} {o_bounds : Nat} {o_otherBounds : Nat} {o_ringSearch : Nat} {o_lawReader : Nat} {o_rules : Nat} {o_nextRules : Nat} {o_market : Nat} {o_trial : Nat} {o_kept : Nat} {o_triangles : Nat} {v_hasKept v_cl_size : Int} {v_table v_cl_first v_cl_second v_cl_kind v_cl_number v_cl_group v_cl_over : Nat → Int} {p0 : Int} (r_v_cl_group : RA 0 11 v_cl_group) (hp0 : IR p0) : CtI l yX9_groups cX9_groups 2 (some .int) ⟨2, 0, 0, 42⟩ D (TY cI cB cJ) ((wX9 cI cB cJ h q o_tape h_cl o_nextClaims o_bounds o_otherBounds o_ringSearch o_lawReader o_rules o_nextRules o_market o_trial o_kept o_triangles v_hasKept v_table) ++ (wX1 cI cB cJ h_cl q_cl v_cl_size v_cl_first v_cl_second v_cl_kind v_cl_number v_cl_group v_cl_over)) [.ref h, vI p0] (fun z ws' => (IR z) ∧ ((p0 = 100 ∧ z = fcN v_cl_group 12) ∨ (0 ≤ p0 ∧ p0 ≤ 11 ∧ z = grB v_cl_group p0.toNat 12) ∨ (¬ (p0 = 100 ∨ (0 ≤ p0 ∧ p0 ≤ 11)) ∧ z = -1)) ∧ (ws' = ((wX9 cI cB cJ h q o_tape h_cl o_nextClaims o_bounds o_otherBounds o_ringSearch o_lawReader o_rules o_nextRules o_market o_trial o_kept o_triangles v_hasKept v_table) ++ (wX1 cI cB cJ h_cl q_cl v_cl_size v_cl_first v_cl_second v_cl_kind v_cl_number v_cl_group v_cl_over)))) := by
  refine hdrI (own := RX9) rfl (by decide +kernel) (Nat.le_of_ble_eq_true rfl) ?_
  intro p e s m args below meth c Q A X hQ
  refine g_lvE (lv2 := [(0, .ref h), (1, vI p0)]) rfl ?_
  refine g_iload_n X dX9_groups_0 1 rfl ?_
  refine g_bipush X (z := 100) dX9_groups_1 (by decide) ?_
  refine g_icmp_ne X (tgt := 14) dX9_groups_3 (by decide) (by omega) (by omega) (fun c3 => ?_) (fun c3 => ?_)
  · refine g_iload_n X dX9_groups_14 1 rfl ?_
    refine g_callSIE X (c_X9_isThing l D cI cB cJ (p0 := p0) (by first | assumption | omega)) cv_X9_isThing uw716 ⟨rfl, rfl, by decide, by decide⟩ rfl rfl (Nat.le_of_ble_eq_true rfl) ⟨Nat.zero_le _, Nat.zero_le _⟩ dX9_groups_15 (fun t15 ws15 k15 => ?_)
    obtain ⟨kb_15, ⟨kp0_15, rfl⟩⟩ := k15
    refine g_if_eq X (tgt := 32) dX9_groups_18 (by decide) (by omega) (fun c18 => ?_) (fun c18 => ?_)
    · clear kb_15
      replace kp0_15 := (kp0_15.resolve_left (fun h => absurd h.1 (by omega))).2
      refine g_iconst X dX9_groups_32 ?_
      exact hQ _ _ _ _ dX9_groups_33 ⟨(by first | assumption | omega), (by first | assumption | omega), rfl⟩
    · replace kb_15 := kb_15.resolve_left (fun h => c18 h)
      replace kp0_15 := kp0_15.resolve_right (fun h => c18 h.1)
      refine g_aload_n X dX9_groups_21 0 rfl ?_
      refine gX9_get X 0 rfl 1 (by decide) uw412 rfl dX9_groups_22 ?_
      refine g_iload_n X dX9_groups_25 1 rfl ?_
      refine g_callVIw X (c_X1_groupOf l D cI cB cJ h_cl q_cl (p0 := p0) r_v_cl_group (by first | assumption | omega) (by first | assumption | omega)) [2, 3, 4, 5, 6, 7, 8] rfl rfl rfl cv_X1_groupOf uw735 ⟨rfl, rfl, by decide, by decide⟩ 0 rfl rfl rfl rfl rfl (Nat.le_of_ble_eq_true rfl) ⟨Nat.zero_le _, Nat.zero_le _⟩ dX9_groups_26 (fun t26 ws26 k26 => ?_)
      obtain ⟨kp0_26, kp1_26, rfl⟩ := k26
      refine ⟨rfl, ?_⟩
      refine g_ws (ws2 := ((wX9 cI cB cJ h q o_tape h_cl o_nextClaims o_bounds o_otherBounds o_ringSearch o_lawReader o_rules o_nextRules o_market o_trial o_kept o_triangles v_hasKept v_table) ++ (wX1 cI cB cJ h_cl q_cl v_cl_size v_cl_first v_cl_second v_cl_kind v_cl_number v_cl_group v_cl_over))) rfl ?_
      refine g_goto X (tgt := 33) dX9_groups_29 (by decide) ?_
      exact hQ _ _ _ _ dX9_groups_33 ⟨(by first | assumption | omega), (by first | assumption | omega), rfl⟩
  · refine g_aload_n X dX9_groups_6 0 rfl ?_
    refine gX9_get X 0 rfl 1 (by decide) uw412 rfl dX9_groups_7 ?_
    refine g_callVIw X (c_X1_groupCount l D cI cB cJ h_cl q_cl  r_v_cl_group) [2, 3, 4, 5, 6, 7, 8] rfl rfl rfl cv_X1_groupCount uw730 ⟨rfl, rfl, by decide, by decide⟩ 0 rfl rfl rfl rfl rfl (Nat.le_of_ble_eq_true rfl) ⟨Nat.zero_le _, Nat.zero_le _⟩ dX9_groups_10 (fun t10 ws10 k10 => ?_)
    obtain ⟨kp0_10, kp1_10, rfl⟩ := k10
    refine ⟨rfl, ?_⟩
    refine g_ws (ws2 := ((wX9 cI cB cJ h q o_tape h_cl o_nextClaims o_bounds o_otherBounds o_ringSearch o_lawReader o_rules o_nextRules o_market o_trial o_kept o_triangles v_hasKept v_table) ++ (wX1 cI cB cJ h_cl q_cl v_cl_size v_cl_first v_cl_second v_cl_kind v_cl_number v_cl_group v_cl_over))) rfl ?_
    exact hQ _ _ _ _ dX9_groups_13 ⟨(by first | assumption | omega), (by first | assumption | omega), rfl⟩
set_option maxHeartbeats 600000 in
set_option maxRecDepth 100000 in
theorem c_X9_bound (l : Launch) (D : va_G) (cI cB cJ : ClassId) (h : Nat) (q : Nat → Nat) (h_bo : Nat) (q_bo : Nat → Nat) {o_tape : Nat} {o_claims : Nat} {o_nextClaims : Nat} {o_otherBounds : Nat} {o_ringSearch : Nat} {o_lawReader : Nat} {o_rules : Nat} {o_nextRules : Nat} {o_market : Nat} {o_trial : Nat} {o_kept : Nat} {o_triangles : Nat} {v_hasKept v_bo_canHold : Int} {v_table v_bo_direct v_bo_byAll v_bo_more : Nat → Int} {p0 p1 : Int} (kr_v_bo_canHold : 0 ≤ v_bo_canHold ∧ v_bo_canHold ≤ 1) (r_v_bo_byAll : RA (-1000000) 1000000 v_bo_byAll) (hp0 : IR p0) (hp1 : IR p1) : CtI l yX9_bound cX9_bound 3 (some .int) ⟨2, 0, 0, 42⟩ D (TY cI cB cJ) ((wX9 cI cB cJ h q o_tape o_claims o_nextClaims h_bo o_otherBounds o_ringSearch o_lawReader o_rules o_nextRules o_market o_trial o_kept o_triangles v_hasKept v_table) ++ (wX0 cI cB cJ h_bo q_bo v_bo_canHold v_bo_direct v_bo_byAll v_bo_more)) [.ref h, vI p0, vI p1] (fun z ws' => (IR z) ∧ (((0 ≤ p0 ∧ p0 ≤ 11 ∧ 0 ≤ p1 ∧ p1 ≤ 11) ∧ v_bo_canHold = 1 ∧ z = v_bo_byAll (12 * p0.toNat + p1.toNat)) ∨ (¬ ((0 ≤ p0 ∧ p0 ≤ 11 ∧ 0 ≤ p1 ∧ p1 ≤ 11) ∧ v_bo_canHold = 1) ∧ z = -1000000)) ∧ (ws' = ((wX9 cI cB cJ h q o_tape o_claims o_nextClaims h_bo o_otherBounds o_ringSearch o_lawReader o_rules o_nextRules o_market o_trial o_kept o_triangles v_hasKept v_table) ++ (wX0 cI cB cJ h_bo q_bo v_bo_canHold v_bo_direct v_bo_byAll v_bo_more)))) := by
  refine hdrI (own := RX9) rfl (by decide +kernel) (Nat.le_of_ble_eq_true rfl) ?_
  intro p e s m args below meth c Q A X hQ
  refine g_lvE (lv2 := [(0, .ref h), (1, vI p0), (2, vI p1)]) rfl ?_
  refine g_iload_n X dX9_bound_0 1 rfl ?_
  refine g_callSIE X (c_X9_isThing l D cI cB cJ (p0 := p0) (by first | assumption | omega)) cv_X9_isThing uw716 ⟨rfl, rfl, by decide, by decide⟩ rfl rfl (Nat.le_of_ble_eq_true rfl) ⟨Nat.zero_le _, Nat.zero_le _⟩ dX9_bound_1 (fun t1 ws1 k1 => ?_)
  obtain ⟨kb_1, ⟨kp0_1, rfl⟩⟩ := k1
  refine g_if_eq X (tgt := 24) dX9_bound_4 (by decide) (by omega) (fun c4 => ?_) (fun c4 => ?_)
  · clear kb_1
    replace kp0_1 := (kp0_1.resolve_left (fun h => absurd h.1 (by omega))).2
    refine g_ldc X (z := (-1000000)) dX9_bound_24 uw725 (by decide) ?_
    exact hQ _ _ _ _ dX9_bound_26 ⟨(by first | assumption | omega), (by first | assumption | omega), rfl⟩
  · replace kb_1 := kb_1.resolve_left (fun h => c4 h)
    replace kp0_1 := kp0_1.resolve_right (fun h => c4 h.1)
    refine g_iload_n X dX9_bound_7 2 rfl ?_
    refine g_callSIE X (c_X9_isThing l D cI cB cJ (p0 := p1) (by first | assumption | omega)) cv_X9_isThing uw716 ⟨rfl, rfl, by decide, by decide⟩ rfl rfl (Nat.le_of_ble_eq_true rfl) ⟨Nat.zero_le _, Nat.zero_le _⟩ dX9_bound_8 (fun t8 ws8 k8 => ?_)
    obtain ⟨kb_8, ⟨kp0_8, rfl⟩⟩ := k8
    refine g_if_eq X (tgt := 24) dX9_bound_11 (by decide) (by omega) (fun c11 => ?_) (fun c11 => ?_)
    · clear kb_8
      replace kp0_8 := (kp0_8.resolve_left (fun h => absurd h.1 (by omega))).2
      refine g_ldc X (z := (-1000000)) dX9_bound_24 uw725 (by decide) ?_
      exact hQ _ _ _ _ dX9_bound_26 ⟨(by first | assumption | omega), (by first | assumption | omega), rfl⟩
    · replace kb_8 := kb_8.resolve_left (fun h => c11 h)
      replace kp0_8 := kp0_8.resolve_right (fun h => c11 h.1)
      refine g_aload_n X dX9_bound_14 0 rfl ?_
      refine gX9_get X 0 rfl 3 (by decide) uw414 rfl dX9_bound_15 ?_
      refine gN_get X (T := TX0) 2 rfl rfl inU_X0 3 (by decide) nw213 rfl rfl dX9_bound_18 ?_
      refine g_if_ne X (tgt := 27) dX9_bound_21 (by decide) (by omega) (fun c21 => ?_) (fun c21 => ?_)
      · refine g_aload_n X dX9_bound_27 0 rfl ?_
        refine gX9_get X 0 rfl 3 (by decide) uw414 rfl dX9_bound_28 ?_
        refine g_iload_n X dX9_bound_31 1 rfl ?_
        refine g_iload_n X dX9_bound_32 2 rfl ?_
        refine g_callVIw X (c_X0_most l D cI cB cJ h_bo q_bo (p0 := p0) (p1 := p1) r_v_bo_byAll (by first | assumption | omega) (by first | assumption | omega) (by first | assumption | omega) (by first | assumption | omega)) [2, 3, 4, 5] rfl rfl rfl cv_X0_most uw743 ⟨rfl, rfl, by decide, by decide⟩ 0 rfl rfl rfl rfl rfl (Nat.le_of_ble_eq_true rfl) ⟨Nat.zero_le _, Nat.zero_le _⟩ dX9_bound_33 (fun t33 ws33 k33 => ?_)
        obtain ⟨kp0_33, kp1_33, rfl⟩ := k33
        refine ⟨rfl, ?_⟩
        refine g_ws (ws2 := ((wX9 cI cB cJ h q o_tape o_claims o_nextClaims h_bo o_otherBounds o_ringSearch o_lawReader o_rules o_nextRules o_market o_trial o_kept o_triangles v_hasKept v_table) ++ (wX0 cI cB cJ h_bo q_bo v_bo_canHold v_bo_direct v_bo_byAll v_bo_more))) rfl ?_
        exact hQ _ _ _ _ dX9_bound_36 ⟨(by first | assumption | omega), (by first | assumption | omega), rfl⟩
      · refine g_ldc X (z := (-1000000)) dX9_bound_24 uw725 (by decide) ?_
        exact hQ _ _ _ _ dX9_bound_26 ⟨(by first | assumption | omega), (by first | assumption | omega), rfl⟩
set_option maxHeartbeats 600000 in
set_option maxRecDepth 100000 in
theorem c_X9_canBe (l : Launch) (D : va_G) (cI cB cJ : ClassId) (h : Nat) (q : Nat → Nat) (h_bo : Nat) (q_bo : Nat → Nat) (h_rs : Nat) (q_rs : Nat → Nat) {o_tape : Nat} {o_claims : Nat} {o_nextClaims : Nat} {o_otherBounds : Nat} {o_lawReader : Nat} {o_rules : Nat} {o_nextRules : Nat} {o_market : Nat} {o_trial : Nat} {o_kept : Nat} {o_triangles : Nat} {v_hasKept v_bo_canHold : Int} {v_table v_bo_direct v_bo_byAll v_bo_more v_rs_here v_rs_next : Nat → Int} {p0 : Int} (kr_v_bo_canHold : 0 ≤ v_bo_canHold ∧ v_bo_canHold ≤ 1) (r_v_bo_direct : RA (-9999) 1000000 v_bo_direct) (r_v_rs_here : RA (-2147483648) 2147483647 v_rs_here) (r_v_rs_next : RA (-2147483648) 2147483647 v_rs_next) (hp0 : IR p0) : CtI l yX9_canBe cX9_canBe 3 (some .int) ⟨4, 0, 0, 114⟩ D (TY cI cB cJ) ((wX9 cI cB cJ h q o_tape o_claims o_nextClaims h_bo o_otherBounds h_rs o_lawReader o_rules o_nextRules o_market o_trial o_kept o_triangles v_hasKept v_table) ++ (wX0 cI cB cJ h_bo q_bo v_bo_canHold v_bo_direct v_bo_byAll v_bo_more) ++ (wX5 cI cB cJ h_rs q_rs v_rs_here v_rs_next)) [.ref h, vI p0] (fun z ws' => ∃ n_rs_here : Nat → Int, ∃ n_rs_next : Nat → Int, (RA (-2147483648) 2147483647 n_rs_here) ∧ (RA (-2147483648) 2147483647 n_rs_next) ∧ (IR z) ∧ (ws' = ((wX9 cI cB cJ h q o_tape o_claims o_nextClaims h_bo o_otherBounds h_rs o_lawReader o_rules o_nextRules o_market o_trial o_kept o_triangles v_hasKept v_table) ++ (wX0 cI cB cJ h_bo q_bo v_bo_canHold v_bo_direct v_bo_byAll v_bo_more) ++ (wX5 cI cB cJ h_rs q_rs n_rs_here n_rs_next)))) := by
  refine hdrI (own := RX9) rfl (by decide +kernel) (Nat.le_of_ble_eq_true rfl) ?_
  intro p e s m args below meth c Q A X hQ
  refine g_lvE (lv2 := [(0, .ref h), (1, vI p0)]) rfl ?_
  refine g_iload_n X dX9_canBe_0 1 rfl ?_
  refine g_iconst X dX9_canBe_1 ?_
  refine g_iconst X dX9_canBe_2 ?_
  refine g_callSIE X (c_X9_isFrom l D cI cB cJ (p0 := p0) (p1 := 0) (p2 := 2) (by first | assumption | omega) (by first | assumption | omega) (by first | assumption | omega)) cv_X9_isFrom uw719 ⟨rfl, rfl, by decide, by decide⟩ rfl rfl (Nat.le_of_ble_eq_true rfl) ⟨Nat.zero_le _, Nat.zero_le _⟩ dX9_canBe_3 (fun t3 ws3 k3 => ?_)
  obtain ⟨kb_3, ⟨kp0_3, rfl⟩⟩ := k3
  refine g_if_ne X (tgt := 11) dX9_canBe_6 (by decide) (by omega) (fun c6 => ?_) (fun c6 => ?_)
  · replace kb_3 := kb_3.resolve_left (fun h => c6 h)
    replace kp0_3 := kp0_3.resolve_right (fun h => c6 h.1)
    refine g_iload_n X dX9_canBe_11 1 rfl ?_
    refine g_if_ne X (tgt := 31) dX9_canBe_12 (by decide) (by omega) (fun c12 => ?_) (fun c12 => ?_)
    · refine g_aload_n X dX9_canBe_31 0 rfl ?_
      refine gX9_get X 0 rfl 3 (by decide) uw414 rfl dX9_canBe_32 ?_
      refine gN_get X (T := TX0) 2 rfl rfl inU_X0 3 (by decide) nw213 rfl rfl dX9_canBe_35 ?_
      refine g_if_eq X (tgt := 44) dX9_canBe_38 (by decide) (by omega) (fun c38 => ?_) (fun c38 => ?_)
      · refine g_aload_n X dX9_canBe_44 0 rfl ?_
        refine gX9_get X 0 rfl 5 (by decide) uw416 rfl dX9_canBe_45 ?_
        refine g_aload_n X dX9_canBe_48 0 rfl ?_
        refine gX9_get X 0 rfl 3 (by decide) uw414 rfl dX9_canBe_49 ?_
        refine gN_get X (T := TX0) 2 rfl rfl inU_X0 0 (by decide) nw209 rfl rfl dX9_canBe_52 ?_
        refine g_callVIw X (c_X5_fewest l D cI cB cJ h_rs q_rs (q_bo 0)  r_v_rs_here r_v_rs_next (RA_mono r_v_bo_direct (by omega) (by omega))) [6, 7, 8, 3] rfl rfl rfl cv_X5_fewest uw751 ⟨rfl, rfl, by decide, by decide⟩ 0 rfl rfl rfl rfl rfl (Nat.le_of_ble_eq_true rfl) ⟨Nat.zero_le _, Nat.zero_le _⟩ dX9_canBe_55 (fun t55 ws55 k55 => ?_)
        obtain ⟨rs_here_55, rs_next_55, r_rs_here_55, r_rs_next_55, kp0_55, kp1_55, rfl⟩ := k55
        refine ⟨rfl, ?_⟩
        refine g_ws (ws2 := ((wX9 cI cB cJ h q o_tape o_claims o_nextClaims h_bo o_otherBounds h_rs o_lawReader o_rules o_nextRules o_market o_trial o_kept o_triangles v_hasKept v_table) ++ (wX0 cI cB cJ h_bo q_bo v_bo_canHold v_bo_direct v_bo_byAll v_bo_more) ++ (wX5 cI cB cJ h_rs q_rs rs_here_55 rs_next_55))) rfl ?_
        refine g_istore_n X (lv' := [(2, vI t55), (0, .ref h), (1, vI p0)]) dX9_canBe_58 (by decide) rfl ?_
        refine g_iload_n X dX9_canBe_59 2 rfl ?_
        refine g_iconst X dX9_canBe_60 ?_
        refine g_icmp_ne X (tgt := 68) dX9_canBe_61 (by decide) (by omega) (by omega) (fun c61 => ?_) (fun c61 => ?_)
        · refine g_aload_n X dX9_canBe_68 1 rfl ?_
          refine gX9_get X 0 rfl 5 (by decide) uw416 rfl dX9_canBe_69 ?_
          refine g_aload_n X dX9_canBe_72 1 rfl ?_
          refine gX9_get X 0 rfl 3 (by decide) uw414 rfl dX9_canBe_73 ?_
          refine gN_get X (T := TX0) 2 rfl rfl inU_X0 0 (by decide) nw209 rfl rfl dX9_canBe_76 ?_
          refine g_iload_n X dX9_canBe_79 0 rfl ?_
          refine g_callVIw X (c_X5_leastThings l D cI cB cJ h_rs q_rs (q_bo 0) (p1 := t55) r_rs_here_55 r_rs_next_55 (RA_mono r_v_bo_direct (by omega) (by omega)) (by first | assumption | omega) (by first | assumption | omega)) [6, 7, 8, 3] rfl rfl rfl cv_X5_leastThings uw768 ⟨rfl, rfl, by decide, by decide⟩ 0 rfl rfl rfl rfl rfl (Nat.le_of_ble_eq_true rfl) ⟨Nat.zero_le _, Nat.zero_le _⟩ dX9_canBe_80 (fun t80 ws80 k80 => ?_)
          obtain ⟨rs_here_80, rs_next_80, r_rs_here_80, r_rs_next_80, kp0_80, rfl⟩ := k80
          refine ⟨rfl, ?_⟩
          refine g_ws (ws2 := ((wX9 cI cB cJ h q o_tape o_claims o_nextClaims h_bo o_otherBounds h_rs o_lawReader o_rules o_nextRules o_market o_trial o_kept o_triangles v_hasKept v_table) ++ (wX0 cI cB cJ h_bo q_bo v_bo_canHold v_bo_direct v_bo_byAll v_bo_more) ++ (wX5 cI cB cJ h_rs q_rs rs_here_80 rs_next_80))) rfl ?_
          exact hQ _ _ _ _ dX9_canBe_83 ⟨rs_here_80, rs_next_80, r_rs_here_80, r_rs_next_80, (by omega), rfl⟩
        · refine g_iload_n X dX9_canBe_64 0 rfl ?_
          refine g_goto X (tgt := 83) dX9_canBe_65 (by decide) ?_
          exact hQ _ _ _ _ dX9_canBe_83 ⟨rs_here_55, rs_next_55, r_rs_here_55, r_rs_next_55, (by omega), rfl⟩
      · refine g_bipush X (z := (-2)) dX9_canBe_41 (by decide) ?_
        exact hQ _ _ _ _ dX9_canBe_43 ⟨v_rs_here, v_rs_next, r_v_rs_here, r_v_rs_next, (by omega), rfl⟩
    · refine g_aload_n X dX9_canBe_15 0 rfl ?_
      refine gX9_get X 0 rfl 3 (by decide) uw414 rfl dX9_canBe_16 ?_
      refine gN_get X (T := TX0) 2 rfl rfl inU_X0 3 (by decide) nw213 rfl rfl dX9_canBe_19 ?_
      refine g_if_eq X (tgt := 29) dX9_canBe_22 (by decide) (by omega) (fun c22 => ?_) (fun c22 => ?_)
      · refine g_iconst X dX9_canBe_29 ?_
        exact hQ _ _ _ _ dX9_canBe_30 ⟨v_rs_here, v_rs_next, r_v_rs_here, r_v_rs_next, (by omega), rfl⟩
      · refine g_iconst X dX9_canBe_25 ?_
        refine g_goto X (tgt := 30) dX9_canBe_26 (by decide) ?_
        exact hQ _ _ _ _ dX9_canBe_30 ⟨v_rs_here, v_rs_next, r_v_rs_here, r_v_rs_next, (by omega), rfl⟩
  · clear kb_3
    replace kp0_3 := (kp0_3.resolve_left (fun h => absurd h.1 (by omega))).2
    refine g_iconst X dX9_canBe_9 ?_
    exact hQ _ _ _ _ dX9_canBe_10 ⟨v_rs_here, v_rs_next, r_v_rs_here, r_v_rs_next, (by omega), rfl⟩
set_option maxHeartbeats 600000 in
set_option maxRecDepth 100000 in
theorem c_X9_idle (l : Launch) (D : va_G) (cI cB cJ : ClassId) (h : Nat) (q : Nat → Nat) (h_cl : Nat) (q_cl : Nat → Nat) (h_bo : Nat) (q_bo : Nat → Nat) (h_ob : Nat) (q_ob : Nat → Nat) {o_tape : Nat} {o_nextClaims : Nat} {o_ringSearch : Nat} {o_lawReader : Nat} {o_rules : Nat} {o_nextRules : Nat} {o_market : Nat} {o_trial : Nat} {o_kept : Nat} {o_triangles : Nat} {v_hasKept v_cl_size v_bo_canHold v_ob_canHold : Int} {v_table v_cl_first v_cl_second v_cl_kind v_cl_number v_cl_group v_cl_over v_bo_direct v_bo_byAll v_bo_more v_ob_direct v_ob_byAll v_ob_more : Nat → Int} {p0 : Int} (kr_v_cl_size : 0 ≤ v_cl_size ∧ v_cl_size ≤ 40) (r_v_cl_first : RA 0 11 v_cl_first) (r_v_cl_second : RA 0 11 v_cl_second) (r_v_cl_kind : RA 0 2 v_cl_kind) (r_v_cl_number : RA (-9999) 9999 v_cl_number) (kr_v_bo_canHold : 0 ≤ v_bo_canHold ∧ v_bo_canHold ≤ 1) (r_v_bo_byAll : RA (-1000000) 1000000 v_bo_byAll) (kr_v_ob_canHold : 0 ≤ v_ob_canHold ∧ v_ob_canHold ≤ 1) (r_v_ob_direct : RA (-9999) 1000000 v_ob_direct) (r_v_ob_byAll : RA (-1000000) 1000000 v_ob_byAll) (hp0 : IR p0) (hp1 : ∀ j : Nat, (j : Int) < v_cl_size → v_cl_first j ≠ v_cl_second j) (hp2 : v_bo_canHold = 1 → okN (toF v_cl_first v_cl_second v_cl_kind v_cl_number (-1) v_cl_size.toNat) 12 ∧ ∀ c : Nat, c < 144 → v_bo_byAll c = fwN (toF v_cl_first v_cl_second v_cl_kind v_cl_number (-1) v_cl_size.toNat) 12 c) : CtI l yX9_idle cX9_idle 5 (some .int) ⟨5, 0, 0, 132⟩ D (TY cI cB cJ) ((wX9 cI cB cJ h q o_tape h_cl o_nextClaims h_bo h_ob o_ringSearch o_lawReader o_rules o_nextRules o_market o_trial o_kept o_triangles v_hasKept v_table) ++ (wX1 cI cB cJ h_cl q_cl v_cl_size v_cl_first v_cl_second v_cl_kind v_cl_number v_cl_group v_cl_over) ++ (wX0 cI cB cJ h_bo q_bo v_bo_canHold v_bo_direct v_bo_byAll v_bo_more) ++ (wX0 cI cB cJ h_ob q_ob v_ob_canHold v_ob_direct v_ob_byAll v_ob_more)) [.ref h, vI p0] (fun z ws' => ∃ n_ob_canHold : Int, ∃ n_ob_direct : Nat → Int, ∃ n_ob_byAll : Nat → Int, (0 ≤ n_ob_canHold ∧ n_ob_canHold ≤ 1) ∧ (RA (-9999) 1000000 n_ob_direct) ∧ (RA (-1000000) 1000000 n_ob_byAll) ∧ (IR z) ∧ (((0 ≤ p0 ∧ p0 ≤ 1) ∧ v_bo_canHold ≠ 1 ∧ z = -3) ∨ ((0 ≤ p0 ∧ p0 ≤ 1) ∧ v_bo_canHold = 1 ∧ p0 = 0 ∧ z = idC v_cl_first v_cl_second v_cl_kind v_cl_number v_cl_size.toNat v_cl_size.toNat) ∨ ((0 ≤ p0 ∧ p0 ≤ 1) ∧ v_bo_canHold = 1 ∧ p0 = 1 ∧ z = idV v_cl_first v_cl_second v_cl_kind v_cl_number v_cl_size.toNat v_cl_size.toNat) ∨ (¬ (0 ≤ p0 ∧ p0 ≤ 1) ∧ z = -1)) ∧ (ws' = ((wX9 cI cB cJ h q o_tape h_cl o_nextClaims h_bo h_ob o_ringSearch o_lawReader o_rules o_nextRules o_market o_trial o_kept o_triangles v_hasKept v_table) ++ (wX1 cI cB cJ h_cl q_cl v_cl_size v_cl_first v_cl_second v_cl_kind v_cl_number v_cl_group v_cl_over) ++ (wX0 cI cB cJ h_bo q_bo v_bo_canHold v_bo_direct v_bo_byAll v_bo_more) ++ (wX0 cI cB cJ h_ob q_ob n_ob_canHold n_ob_direct n_ob_byAll v_ob_more)))) := by
  refine hdrI (own := RX9) rfl (by decide +kernel) (Nat.le_of_ble_eq_true rfl) ?_
  intro p e s m args below meth c Q A X hQ
  refine g_lvE (lv2 := [(0, .ref h), (1, vI p0)]) rfl ?_
  refine g_iload_n X dX9_idle_0 1 rfl ?_
  refine g_iconst X dX9_idle_1 ?_
  refine g_iconst X dX9_idle_2 ?_
  refine g_callSIE X (c_X9_isFrom l D cI cB cJ (p0 := p0) (p1 := 0) (p2 := 1) (by first | assumption | omega) (by first | assumption | omega) (by first | assumption | omega)) cv_X9_isFrom uw719 ⟨rfl, rfl, by decide, by decide⟩ rfl rfl (Nat.le_of_ble_eq_true rfl) ⟨Nat.zero_le _, Nat.zero_le _⟩ dX9_idle_3 (fun t3 ws3 k3 => ?_)
  obtain ⟨kb_3, ⟨kp0_3, rfl⟩⟩ := k3
  refine g_if_ne X (tgt := 11) dX9_idle_6 (by decide) (by omega) (fun c6 => ?_) (fun c6 => ?_)
  · replace kb_3 := kb_3.resolve_left (fun h => c6 h)
    replace kp0_3 := kp0_3.resolve_right (fun h => c6 h.1)
    refine g_aload_n X dX9_idle_11 0 rfl ?_
    refine gX9_get X 0 rfl 3 (by decide) uw414 rfl dX9_idle_12 ?_
    refine gN_get X (T := TX0) 9 rfl rfl inU_X0 3 (by decide) nw213 rfl rfl dX9_idle_15 ?_
    refine g_if_ne X (tgt := 24) dX9_idle_18 (by decide) (by omega) (fun c18 => ?_) (fun c18 => ?_)
    · have hG := hp2 (by omega)
      refine g_iconst X dX9_idle_24 ?_
      refine g_istore_n X (lv' := [(2, vI 0), (0, .ref h), (1, vI p0)]) dX9_idle_25 (by decide) rfl ?_
      refine g_bipush X (z := (-2)) dX9_idle_26 (by decide) ?_
      refine g_istore_n X (lv' := [(3, vI (-2)), (2, vI 0), (0, .ref h), (1, vI p0)]) dX9_idle_28 (by decide) rfl ?_
      refine g_iconst X dX9_idle_29 ?_
      refine g_istore X (lv' := [(4, vI 0), (3, vI (-2)), (2, vI 0), (0, .ref h), (1, vI p0)]) dX9_idle_30 (by decide) rfl ?_
      have h0 : idC v_cl_first v_cl_second v_cl_kind v_cl_number v_cl_size.toNat (0 : Int).toNat = 0 := rfl
      have L32 : ∀ (n : Nat) (x2_32 : Int) (x3_32 : Int) (x4_32 : Int) (ob_canHold_32 : Int) (ob_direct_32 : Nat → Int) (ob_byAll_32 : Nat → Int), (0 ≤ ob_canHold_32 ∧ ob_canHold_32 ≤ 1) → (RA (-9999) 1000000 ob_direct_32) → (RA (-1000000) 1000000 ob_byAll_32) → (0 ≤ x4_32 ∧ x4_32 ≤ v_cl_size) → (0 ≤ x2_32 ∧ x2_32 ≤ x4_32) → (-2 ≤ x3_32 ∧ x3_32 ≤ 40) → (x2_32 = idC v_cl_first v_cl_second v_cl_kind v_cl_number v_cl_size.toNat (x4_32).toNat) → ((x2_32 = 0 ∧ x3_32 = -2 ∧ ∀ k : Nat, (k : Int) < x4_32 → ¬ idl v_cl_first v_cl_second v_cl_kind v_cl_number v_cl_size.toNat k) ∨ (0 < x2_32 ∧ 0 ≤ x3_32 ∧ x3_32 < x4_32 ∧ idl v_cl_first v_cl_second v_cl_kind v_cl_number v_cl_size.toNat (x3_32).toNat ∧ ∀ k : Nat, (k : Int) < x3_32 → ¬ idl v_cl_first v_cl_second v_cl_kind v_cl_number v_cl_size.toNat k)) → (v_cl_size - x4_32).toNat < n → GG p l e ⟨5, 0, 0, 132⟩ s m args below meth c 0 0 Q D A s.heap 5 ((wX9 cI cB cJ h q o_tape h_cl o_nextClaims h_bo h_ob o_ringSearch o_lawReader o_rules o_nextRules o_market o_trial o_kept o_triangles v_hasKept v_table) ++ (wX1 cI cB cJ h_cl q_cl v_cl_size v_cl_first v_cl_second v_cl_kind v_cl_number v_cl_group v_cl_over) ++ (wX0 cI cB cJ h_bo q_bo v_bo_canHold v_bo_direct v_bo_byAll v_bo_more) ++ (wX0 cI cB cJ h_ob q_ob ob_canHold_32 ob_direct_32 ob_byAll_32 v_ob_more)) 32 [(0, .ref h), (1, vI p0), (2, vI x2_32), (3, vI x3_32), (4, vI x4_32)] [] := by
        intro n
        induction n with
        | zero => intros; exfalso; omega
        | succ n ih32 =>
          intro x2_32 x3_32 x4_32 ob_canHold_32 ob_direct_32 ob_byAll_32 kr_ob_canHold_32 r_ob_direct_32 r_ob_byAll_32 w32_0 w32_1 w32_2 w32_3 w32_4 wm32
          have hS := idC_s v_cl_first v_cl_second v_cl_kind v_cl_number v_cl_size.toNat (x := x4_32) (by omega)
          refine g_iload X dX9_idle_32 4 rfl ?_
          refine g_aload_n X dX9_idle_34 0 rfl ?_
          refine gX9_get X 0 rfl 1 (by decide) uw412 rfl dX9_idle_35 ?_
          refine gN_get X (T := TX1) 2 rfl rfl inU_X1 0 (by decide) nw172 rfl rfl dX9_idle_38 ?_
          refine g_icmp_ge X (tgt := 91) dX9_idle_41 (by decide) (by omega) (by omega) (fun c41 => ?_) (fun c41 => ?_)
          · refine g_iload_n X dX9_idle_91 1 rfl ?_
            refine g_if_ne X (tgt := 99) dX9_idle_92 (by decide) (by omega) (fun c92 => ?_) (fun c92 => ?_)
            · refine g_iload_n X dX9_idle_99 3 rfl ?_
              have hx : (x4_32).toNat = v_cl_size.toNat := by omega
              rw [hx] at w32_3
              have hV : x3_32 = idV v_cl_first v_cl_second v_cl_kind v_cl_number v_cl_size.toNat v_cl_size.toNat := idG.u (by rcases w32_4 with ⟨a1, a2, a3⟩ | ⟨a1, a2, a3, a4, a5⟩; exact Or.inl ⟨a2, fun k hk => a3 k (by omega)⟩; exact Or.inr ⟨a2, by omega, a4, a5⟩)
              exact hQ _ _ _ _ dX9_idle_100 ⟨ob_canHold_32, ob_direct_32, ob_byAll_32, (by omega), r_ob_direct_32, r_ob_byAll_32, (by first | assumption | omega), (by first | assumption | omega), rfl⟩
            · refine g_iload_n X dX9_idle_95 2 rfl ?_
              refine g_goto X (tgt := 100) dX9_idle_96 (by decide) ?_
              have hx : (x4_32).toNat = v_cl_size.toNat := by omega
              rw [hx] at w32_3
              have hV : x3_32 = idV v_cl_first v_cl_second v_cl_kind v_cl_number v_cl_size.toNat v_cl_size.toNat := idG.u (by rcases w32_4 with ⟨a1, a2, a3⟩ | ⟨a1, a2, a3, a4, a5⟩; exact Or.inl ⟨a2, fun k hk => a3 k (by omega)⟩; exact Or.inr ⟨a2, by omega, a4, a5⟩)
              exact hQ _ _ _ _ dX9_idle_100 ⟨ob_canHold_32, ob_direct_32, ob_byAll_32, (by omega), r_ob_direct_32, r_ob_byAll_32, (by first | assumption | omega), (by first | assumption | omega), rfl⟩
          · refine g_aload_n X dX9_idle_44 0 rfl ?_
            refine gX9_get X 0 rfl 4 (by decide) uw415 rfl dX9_idle_45 ?_
            refine g_aload_n X dX9_idle_48 0 rfl ?_
            refine gX9_get X 0 rfl 1 (by decide) uw412 rfl dX9_idle_49 ?_
            refine g_iload X dX9_idle_52 4 rfl ?_
            refine g_callVVw X (c_X0_follow l D cI cB cJ h_ob q_ob h_cl q_cl (p1 := x4_32) (by omega) r_ob_direct_32 r_ob_byAll_32 (by omega) r_v_cl_first r_v_cl_second r_v_cl_kind r_v_cl_number (by first | assumption | omega) (by first | assumption | omega)) [13, 14, 15, 16, 2, 3, 4, 5, 6, 7, 8] rfl rfl rfl cv_X0_follow uw377 ⟨rfl, rfl, by decide, by decide⟩ 0 rfl rfl rfl rfl rfl (Nat.le_of_ble_eq_true rfl) ⟨Nat.zero_le _, Nat.zero_le _⟩ dX9_idle_54 (fun ws54 k54 => ?_)
            obtain ⟨ob_canHold_54, ob_direct_54, ob_byAll_54, kr_ob_canHold_54, r_ob_direct_54, r_ob_byAll_54, kp0_54, kp1_54, kp2_54, rfl⟩ := k54
            refine ⟨rfl, ?_⟩
            refine g_ws (ws2 := ((wX9 cI cB cJ h q o_tape h_cl o_nextClaims h_bo h_ob o_ringSearch o_lawReader o_rules o_nextRules o_market o_trial o_kept o_triangles v_hasKept v_table) ++ (wX1 cI cB cJ h_cl q_cl v_cl_size v_cl_first v_cl_second v_cl_kind v_cl_number v_cl_group v_cl_over) ++ (wX0 cI cB cJ h_bo q_bo v_bo_canHold v_bo_direct v_bo_byAll v_bo_more) ++ (wX0 cI cB cJ h_ob q_ob ob_canHold_54 ob_direct_54 ob_byAll_54 v_ob_more))) rfl ?_
            refine g_aload_n X dX9_idle_57 0 rfl ?_
            refine gX9_get X 0 rfl 3 (by decide) uw414 rfl dX9_idle_58 ?_
            refine g_aload_n X dX9_idle_61 0 rfl ?_
            refine gX9_get X 0 rfl 4 (by decide) uw415 rfl dX9_idle_62 ?_
            refine g_callVIw X (c_X0_isLike l D cI cB cJ h_bo q_bo h_ob q_ob  r_v_bo_byAll r_ob_byAll_54) [9, 10, 11, 12, 13, 14, 15, 16] rfl rfl rfl cv_X0_isLike uw781 ⟨rfl, rfl, by decide, by decide⟩ 0 rfl rfl rfl rfl rfl (Nat.le_of_ble_eq_true rfl) ⟨Nat.zero_le _, Nat.zero_le _⟩ dX9_idle_65 (fun t65 ws65 k65 => ?_)
            obtain ⟨kb_65, ⟨kp0_65, rfl⟩⟩ := k65
            refine ⟨rfl, ?_⟩
            refine g_ws (ws2 := ((wX9 cI cB cJ h q o_tape h_cl o_nextClaims h_bo h_ob o_ringSearch o_lawReader o_rules o_nextRules o_market o_trial o_kept o_triangles v_hasKept v_table) ++ (wX1 cI cB cJ h_cl q_cl v_cl_size v_cl_first v_cl_second v_cl_kind v_cl_number v_cl_group v_cl_over) ++ (wX0 cI cB cJ h_bo q_bo v_bo_canHold v_bo_direct v_bo_byAll v_bo_more) ++ (wX0 cI cB cJ h_ob q_ob ob_canHold_54 ob_direct_54 ob_byAll_54 v_ob_more))) rfl ?_
            have hI : (t65 = 1 ∧ idl v_cl_first v_cl_second v_cl_kind v_cl_number v_cl_size.toNat (x4_32).toNat) ∨ (t65 = 0 ∧ ¬ idl v_cl_first v_cl_second v_cl_kind v_cl_number v_cl_size.toNat (x4_32).toNat) := idl_like (w := x4_32) (by omega) hG (kp1_54.elim (fun h => Or.inl h.2) (fun h => Or.inr h.2)) kp0_65
            refine g_if_eq X (tgt := 85) dX9_idle_68 (by decide) (by omega) (fun c68 => ?_) (fun c68 => ?_)
            · clear kb_65
              replace kp0_65 := (kp0_65.resolve_left (fun h => absurd h.1 (by omega))).2
              try (have hI2 := (hI.resolve_left (fun h => by omega)).2)
              try (have hS2 := (hS.resolve_right (fun g => g.1 hI2)).2)
              try (have hS2 := (hS.resolve_left (fun g => hI2 g.1)).2)
              refine g_iinc X (lv' := [(4, vI (x4_32 + 1)), (0, .ref h), (1, vI p0), (2, vI x2_32), (3, vI x3_32)]) dX9_idle_85 4 rfl (by decide) rfl ?_
              refine g_goto X (tgt := 32) dX9_idle_88 (by decide) ?_
              refine g_lv [1, 2, 3, 4, 0] rfl ?_
              exact ih32 x2_32 x3_32 (x4_32 + 1) ob_canHold_54 ob_direct_54 ob_byAll_54 (by omega) r_ob_direct_54 r_ob_byAll_54 (by first | assumption | omega) (by first | assumption | omega) (by first | assumption | omega) (by first | assumption | omega) (by first | exact Or.inl ⟨rfl, rfl, fun k hk => absurd hk (by omega)⟩ | (rcases w32_4 with ⟨a1, a2, a3⟩ | ⟨a1, a2, a3, a4, a5⟩; (first | (exfalso; omega) | exact Or.inr ⟨by omega, by omega, by omega, hI2, a3⟩ | exact Or.inl ⟨by omega, by omega, fun k hk => by rcases (show (k : Int) < x4_32 ∨ k = (x4_32).toNat by omega) with h | h; exact a3 k h; (rw [h]; exact hI2)⟩); (first | (exfalso; omega) | exact Or.inr ⟨by omega, by omega, by omega, a4, a5⟩))) (by omega)
            · replace kb_65 := kb_65.resolve_left (fun h => c68 h)
              replace kp0_65 := kp0_65.resolve_right (fun h => c68 h.1)
              have hI2 := (hI.resolve_right (fun h => by omega)).2
              refine g_iload_n X dX9_idle_71 2 rfl ?_
              refine g_if_ne X (tgt := 80) dX9_idle_72 (by decide) (by omega) (fun c72 => ?_) (fun c72 => ?_)
              · refine g_iload_n X dX9_idle_80 3 rfl ?_
                refine g_istore_n X (lv' := [(3, vI x3_32), (0, .ref h), (1, vI p0), (2, vI x2_32), (4, vI x4_32)]) dX9_idle_81 (by decide) rfl ?_
                refine g_iinc X (lv' := [(2, vI (x2_32 + 1)), (3, vI x3_32), (0, .ref h), (1, vI p0), (4, vI x4_32)]) dX9_idle_82 3 rfl (by decide) rfl ?_
                try (have hI2 := (hI.resolve_left (fun h => by omega)).2)
                try (have hS2 := (hS.resolve_right (fun g => g.1 hI2)).2)
                try (have hS2 := (hS.resolve_left (fun g => hI2 g.1)).2)
                refine g_iinc X (lv' := [(4, vI (x4_32 + 1)), (2, vI (x2_32 + 1)), (3, vI x3_32), (0, .ref h), (1, vI p0)]) dX9_idle_85 4 rfl (by decide) rfl ?_
                refine g_goto X (tgt := 32) dX9_idle_88 (by decide) ?_
                refine g_lv [3, 4, 1, 2, 0] rfl ?_
                exact ih32 (x2_32 + 1) x3_32 (x4_32 + 1) ob_canHold_54 ob_direct_54 ob_byAll_54 (by omega) r_ob_direct_54 r_ob_byAll_54 (by first | assumption | omega) (by first | assumption | omega) (by first | assumption | omega) (by first | assumption | omega) (by first | exact Or.inl ⟨rfl, rfl, fun k hk => absurd hk (by omega)⟩ | (rcases w32_4 with ⟨a1, a2, a3⟩ | ⟨a1, a2, a3, a4, a5⟩; (first | (exfalso; omega) | exact Or.inr ⟨by omega, by omega, by omega, hI2, a3⟩ | exact Or.inl ⟨by omega, by omega, fun k hk => by rcases (show (k : Int) < x4_32 ∨ k = (x4_32).toNat by omega) with h | h; exact a3 k h; (rw [h]; exact hI2)⟩); (first | (exfalso; omega) | exact Or.inr ⟨by omega, by omega, by omega, a4, a5⟩))) (by omega)
              · refine g_iload X dX9_idle_75 4 rfl ?_
                refine g_goto X (tgt := 81) dX9_idle_77 (by decide) ?_
                refine g_istore_n X (lv' := [(3, vI x4_32), (0, .ref h), (1, vI p0), (2, vI x2_32), (4, vI x4_32)]) dX9_idle_81 (by decide) rfl ?_
                refine g_iinc X (lv' := [(2, vI (x2_32 + 1)), (3, vI x4_32), (0, .ref h), (1, vI p0), (4, vI x4_32)]) dX9_idle_82 3 rfl (by decide) rfl ?_
                try (have hI2 := (hI.resolve_left (fun h => by omega)).2)
                try (have hS2 := (hS.resolve_right (fun g => g.1 hI2)).2)
                try (have hS2 := (hS.resolve_left (fun g => hI2 g.1)).2)
                refine g_iinc X (lv' := [(4, vI (x4_32 + 1)), (2, vI (x2_32 + 1)), (3, vI x4_32), (0, .ref h), (1, vI p0)]) dX9_idle_85 4 rfl (by decide) rfl ?_
                refine g_goto X (tgt := 32) dX9_idle_88 (by decide) ?_
                refine g_lv [3, 4, 1, 2, 0] rfl ?_
                exact ih32 (x2_32 + 1) x4_32 (x4_32 + 1) ob_canHold_54 ob_direct_54 ob_byAll_54 (by omega) r_ob_direct_54 r_ob_byAll_54 (by first | assumption | omega) (by first | assumption | omega) (by first | assumption | omega) (by first | assumption | omega) (by first | exact Or.inl ⟨rfl, rfl, fun k hk => absurd hk (by omega)⟩ | (rcases w32_4 with ⟨a1, a2, a3⟩ | ⟨a1, a2, a3, a4, a5⟩; (first | (exfalso; omega) | exact Or.inr ⟨by omega, by omega, by omega, hI2, a3⟩ | exact Or.inl ⟨by omega, by omega, fun k hk => by rcases (show (k : Int) < x4_32 ∨ k = (x4_32).toNat by omega) with h | h; exact a3 k h; (rw [h]; exact hI2)⟩); (first | (exfalso; omega) | exact Or.inr ⟨by omega, by omega, by omega, a4, a5⟩))) (by omega)
      refine g_lv [3, 4, 2, 1, 0] rfl ?_
      exact L32 _ 0 (-2) 0 v_ob_canHold v_ob_direct v_ob_byAll (by omega) r_v_ob_direct r_v_ob_byAll (by first | assumption | omega) (by first | assumption | omega) (by first | assumption | omega) (by first | assumption | omega) (by first | exact Or.inl ⟨rfl, rfl, fun k hk => absurd hk (by omega)⟩ | (rcases w32_4 with ⟨a1, a2, a3⟩ | ⟨a1, a2, a3, a4, a5⟩; (first | (exfalso; omega) | exact Or.inr ⟨by omega, by omega, by omega, hI2, a3⟩ | exact Or.inl ⟨by omega, by omega, fun k hk => by rcases (show (k : Int) < x4_32 ∨ k = (x4_32).toNat by omega) with h | h; exact a3 k h; (rw [h]; exact hI2)⟩); (first | (exfalso; omega) | exact Or.inr ⟨by omega, by omega, by omega, a4, a5⟩))) (Nat.lt_succ_self _)
    · refine g_bipush X (z := (-3)) dX9_idle_21 (by decide) ?_
      exact hQ _ _ _ _ dX9_idle_23 ⟨v_ob_canHold, v_ob_direct, v_ob_byAll, (by omega), r_v_ob_direct, r_v_ob_byAll, (by first | assumption | omega), (by first | assumption | omega), rfl⟩
  · clear kb_3
    replace kp0_3 := (kp0_3.resolve_left (fun h => absurd h.1 (by omega))).2
    refine g_iconst X dX9_idle_9 ?_
    exact hQ _ _ _ _ dX9_idle_10 ⟨v_ob_canHold, v_ob_direct, v_ob_byAll, (by omega), r_v_ob_direct, r_v_ob_byAll, (by first | assumption | omega), (by first | assumption | omega), rfl⟩
set_option maxHeartbeats 600000 in
set_option maxRecDepth 100000 in
theorem c_X9_surely (l : Launch) (D : va_G) (cI cB cJ : ClassId) (h : Nat) (q : Nat → Nat) (h_bo : Nat) (q_bo : Nat → Nat) {o_tape : Nat} {o_claims : Nat} {o_nextClaims : Nat} {o_otherBounds : Nat} {o_ringSearch : Nat} {o_lawReader : Nat} {o_rules : Nat} {o_nextRules : Nat} {o_market : Nat} {o_trial : Nat} {o_kept : Nat} {o_triangles : Nat} {v_hasKept v_bo_canHold : Int} {v_table v_bo_direct v_bo_byAll v_bo_more : Nat → Int} {p0 p1 : Int} (kr_v_bo_canHold : 0 ≤ v_bo_canHold ∧ v_bo_canHold ≤ 1) (r_v_bo_byAll : RA (-1000000) 1000000 v_bo_byAll) (hp0 : IR p0) (hp1 : IR p1) : CtI l yX9_surely cX9_surely 3 (some .int) ⟨2, 0, 0, 45⟩ D (TY cI cB cJ) ((wX9 cI cB cJ h q o_tape o_claims o_nextClaims h_bo o_otherBounds o_ringSearch o_lawReader o_rules o_nextRules o_market o_trial o_kept o_triangles v_hasKept v_table) ++ (wX0 cI cB cJ h_bo q_bo v_bo_canHold v_bo_direct v_bo_byAll v_bo_more)) [.ref h, vI p0, vI p1] (fun z ws' => (IR z) ∧ (((0 ≤ p0 ∧ p0 ≤ 11 ∧ 0 ≤ p1 ∧ p1 ≤ 1) ∧ v_bo_canHold ≠ 1 ∧ z = -3) ∨ ((0 ≤ p0 ∧ p0 ≤ 11 ∧ 0 ≤ p1 ∧ p1 ≤ 1) ∧ v_bo_canHold = 1 ∧ p1 = 0 ∧ z = mtB v_bo_byAll p0.toNat 12) ∨ ((0 ≤ p0 ∧ p0 ≤ 11 ∧ 0 ≤ p1 ∧ p1 ≤ 1) ∧ v_bo_canHold = 1 ∧ p1 = 1 ∧ z = ltB v_bo_byAll p0.toNat 12) ∨ (¬ (0 ≤ p0 ∧ p0 ≤ 11 ∧ 0 ≤ p1 ∧ p1 ≤ 1) ∧ z = -1)) ∧ (ws' = ((wX9 cI cB cJ h q o_tape o_claims o_nextClaims h_bo o_otherBounds o_ringSearch o_lawReader o_rules o_nextRules o_market o_trial o_kept o_triangles v_hasKept v_table) ++ (wX0 cI cB cJ h_bo q_bo v_bo_canHold v_bo_direct v_bo_byAll v_bo_more)))) := by
  refine hdrI (own := RX9) rfl (by decide +kernel) (Nat.le_of_ble_eq_true rfl) ?_
  intro p e s m args below meth c Q A X hQ
  refine g_lvE (lv2 := [(0, .ref h), (1, vI p0), (2, vI p1)]) rfl ?_
  refine g_iload_n X dX9_surely_0 1 rfl ?_
  refine g_callSIE X (c_X9_isThing l D cI cB cJ (p0 := p0) (by first | assumption | omega)) cv_X9_isThing uw716 ⟨rfl, rfl, by decide, by decide⟩ rfl rfl (Nat.le_of_ble_eq_true rfl) ⟨Nat.zero_le _, Nat.zero_le _⟩ dX9_surely_1 (fun t1 ws1 k1 => ?_)
  obtain ⟨kb_1, ⟨kp0_1, rfl⟩⟩ := k1
  refine g_if_eq X (tgt := 16) dX9_surely_4 (by decide) (by omega) (fun c4 => ?_) (fun c4 => ?_)
  · clear kb_1
    replace kp0_1 := (kp0_1.resolve_left (fun h => absurd h.1 (by omega))).2
    refine g_iconst X dX9_surely_16 ?_
    exact hQ _ _ _ _ dX9_surely_17 ⟨(by first | assumption | omega), (by first | assumption | omega), rfl⟩
  · replace kb_1 := kb_1.resolve_left (fun h => c4 h)
    replace kp0_1 := kp0_1.resolve_right (fun h => c4 h.1)
    refine g_iload_n X dX9_surely_7 2 rfl ?_
    refine g_iconst X dX9_surely_8 ?_
    refine g_iconst X dX9_surely_9 ?_
    refine g_callSIE X (c_X9_isFrom l D cI cB cJ (p0 := p1) (p1 := 0) (p2 := 1) (by first | assumption | omega) (by first | assumption | omega) (by first | assumption | omega)) cv_X9_isFrom uw719 ⟨rfl, rfl, by decide, by decide⟩ rfl rfl (Nat.le_of_ble_eq_true rfl) ⟨Nat.zero_le _, Nat.zero_le _⟩ dX9_surely_10 (fun t10 ws10 k10 => ?_)
    obtain ⟨kb_10, ⟨kp0_10, rfl⟩⟩ := k10
    refine g_if_ne X (tgt := 18) dX9_surely_13 (by decide) (by omega) (fun c13 => ?_) (fun c13 => ?_)
    · replace kb_10 := kb_10.resolve_left (fun h => c13 h)
      replace kp0_10 := kp0_10.resolve_right (fun h => c13 h.1)
      refine g_aload_n X dX9_surely_18 0 rfl ?_
      refine gX9_get X 0 rfl 3 (by decide) uw414 rfl dX9_surely_19 ?_
      refine gN_get X (T := TX0) 2 rfl rfl inU_X0 3 (by decide) nw213 rfl rfl dX9_surely_22 ?_
      refine g_if_ne X (tgt := 31) dX9_surely_25 (by decide) (by omega) (fun c25 => ?_) (fun c25 => ?_)
      · refine g_iload_n X dX9_surely_31 2 rfl ?_
        refine g_if_ne X (tgt := 46) dX9_surely_32 (by decide) (by omega) (fun c32 => ?_) (fun c32 => ?_)
        · refine g_aload_n X dX9_surely_46 0 rfl ?_
          refine gX9_get X 0 rfl 3 (by decide) uw414 rfl dX9_surely_47 ?_
          refine g_iload_n X dX9_surely_50 1 rfl ?_
          refine g_callVIw X (c_X0_lessThan l D cI cB cJ h_bo q_bo (p0 := p0) r_v_bo_byAll (by first | assumption | omega) (by first | assumption | omega)) [2, 3, 4, 5] rfl rfl rfl cv_X0_lessThan uw794 ⟨rfl, rfl, by decide, by decide⟩ 0 rfl rfl rfl rfl rfl (Nat.le_of_ble_eq_true rfl) ⟨Nat.zero_le _, Nat.zero_le _⟩ dX9_surely_51 (fun t51 ws51 k51 => ?_)
          obtain ⟨kp0_51, kp1_51, rfl⟩ := k51
          refine ⟨rfl, ?_⟩
          refine g_ws (ws2 := ((wX9 cI cB cJ h q o_tape o_claims o_nextClaims h_bo o_otherBounds o_ringSearch o_lawReader o_rules o_nextRules o_market o_trial o_kept o_triangles v_hasKept v_table) ++ (wX0 cI cB cJ h_bo q_bo v_bo_canHold v_bo_direct v_bo_byAll v_bo_more))) rfl ?_
          exact hQ _ _ _ _ dX9_surely_54 ⟨(by first | assumption | omega), (by first | assumption | omega), rfl⟩
        · refine g_aload_n X dX9_surely_35 0 rfl ?_
          refine gX9_get X 0 rfl 3 (by decide) uw414 rfl dX9_surely_36 ?_
          refine g_iload_n X dX9_surely_39 1 rfl ?_
          refine g_callVIw X (c_X0_moreThan l D cI cB cJ h_bo q_bo (p0 := p0) r_v_bo_byAll (by first | assumption | omega) (by first | assumption | omega)) [2, 3, 4, 5] rfl rfl rfl cv_X0_moreThan uw789 ⟨rfl, rfl, by decide, by decide⟩ 0 rfl rfl rfl rfl rfl (Nat.le_of_ble_eq_true rfl) ⟨Nat.zero_le _, Nat.zero_le _⟩ dX9_surely_40 (fun t40 ws40 k40 => ?_)
          obtain ⟨kp0_40, kp1_40, rfl⟩ := k40
          refine ⟨rfl, ?_⟩
          refine g_ws (ws2 := ((wX9 cI cB cJ h q o_tape o_claims o_nextClaims h_bo o_otherBounds o_ringSearch o_lawReader o_rules o_nextRules o_market o_trial o_kept o_triangles v_hasKept v_table) ++ (wX0 cI cB cJ h_bo q_bo v_bo_canHold v_bo_direct v_bo_byAll v_bo_more))) rfl ?_
          refine g_goto X (tgt := 54) dX9_surely_43 (by decide) ?_
          exact hQ _ _ _ _ dX9_surely_54 ⟨(by first | assumption | omega), (by first | assumption | omega), rfl⟩
      · refine g_bipush X (z := (-3)) dX9_surely_28 (by decide) ?_
        exact hQ _ _ _ _ dX9_surely_30 ⟨(by first | assumption | omega), (by first | assumption | omega), rfl⟩
    · clear kb_10
      replace kp0_10 := (kp0_10.resolve_left (fun h => absurd h.1 (by omega))).2
      refine g_iconst X dX9_surely_16 ?_
      exact hQ _ _ _ _ dX9_surely_17 ⟨(by first | assumption | omega), (by first | assumption | omega), rfl⟩
set_option maxHeartbeats 600000 in
set_option maxRecDepth 100000 in
theorem c_X9_lightest (l : Launch) (D : va_G) (cI cB cJ : ClassId) (h : Nat) (q : Nat → Nat) (h_bo : Nat) (q_bo : Nat → Nat) {o_tape : Nat} {o_claims : Nat} {o_nextClaims : Nat} {o_otherBounds : Nat} {o_ringSearch : Nat} {o_lawReader : Nat} {o_rules : Nat} {o_nextRules : Nat} {o_market : Nat} {o_trial : Nat} {o_kept : Nat} {o_triangles : Nat} {v_hasKept v_bo_canHold : Int} {v_table v_bo_direct v_bo_byAll v_bo_more : Nat → Int} {p0 : Int} (kr_v_bo_canHold : 0 ≤ v_bo_canHold ∧ v_bo_canHold ≤ 1) (r_v_bo_byAll : RA (-1000000) 1000000 v_bo_byAll) (hp0 : IR p0) : CtI l yX9_lightest cX9_lightest 2 (some .int) ⟨2, 0, 0, 63⟩ D (TY cI cB cJ) ((wX9 cI cB cJ h q o_tape o_claims o_nextClaims h_bo o_otherBounds o_ringSearch o_lawReader o_rules o_nextRules o_market o_trial o_kept o_triangles v_hasKept v_table) ++ (wX0 cI cB cJ h_bo q_bo v_bo_canHold v_bo_direct v_bo_byAll v_bo_more)) [.ref h, vI p0] (fun z ws' => (IR z) ∧ (((0 ≤ p0 ∧ p0 ≤ 11) ∧ v_bo_canHold ≠ 1 ∧ z = -3) ∨ ((0 ≤ p0 ∧ p0 ≤ 11) ∧ v_bo_canHold = 1 ∧ z = lwF v_bo_byAll p0.toNat 12) ∨ (¬ (0 ≤ p0 ∧ p0 ≤ 11) ∧ z = -1)) ∧ (ws' = ((wX9 cI cB cJ h q o_tape o_claims o_nextClaims h_bo o_otherBounds o_ringSearch o_lawReader o_rules o_nextRules o_market o_trial o_kept o_triangles v_hasKept v_table) ++ (wX0 cI cB cJ h_bo q_bo v_bo_canHold v_bo_direct v_bo_byAll v_bo_more)))) := by
  refine hdrI (own := RX9) rfl (by decide +kernel) (Nat.le_of_ble_eq_true rfl) ?_
  intro p e s m args below meth c Q A X hQ
  refine g_lvE (lv2 := [(0, .ref h), (1, vI p0)]) rfl ?_
  refine g_iload_n X dX9_lightest_0 1 rfl ?_
  refine g_callSIE X (c_X9_isThing l D cI cB cJ (p0 := p0) (by first | assumption | omega)) cv_X9_isThing uw716 ⟨rfl, rfl, by decide, by decide⟩ rfl rfl (Nat.le_of_ble_eq_true rfl) ⟨Nat.zero_le _, Nat.zero_le _⟩ dX9_lightest_1 (fun t1 ws1 k1 => ?_)
  obtain ⟨kb_1, ⟨kp0_1, rfl⟩⟩ := k1
  refine g_if_ne X (tgt := 9) dX9_lightest_4 (by decide) (by omega) (fun c4 => ?_) (fun c4 => ?_)
  · replace kb_1 := kb_1.resolve_left (fun h => c4 h)
    replace kp0_1 := kp0_1.resolve_right (fun h => c4 h.1)
    refine g_aload_n X dX9_lightest_9 0 rfl ?_
    refine gX9_get X 0 rfl 3 (by decide) uw414 rfl dX9_lightest_10 ?_
    refine gN_get X (T := TX0) 2 rfl rfl inU_X0 3 (by decide) nw213 rfl rfl dX9_lightest_13 ?_
    refine g_if_eq X (tgt := 30) dX9_lightest_16 (by decide) (by omega) (fun c16 => ?_) (fun c16 => ?_)
    · refine g_bipush X (z := (-3)) dX9_lightest_30 (by decide) ?_
      exact hQ _ _ _ _ dX9_lightest_32 ⟨(by first | assumption | omega), (by first | assumption | omega), rfl⟩
    · refine g_aload_n X dX9_lightest_19 0 rfl ?_
      refine gX9_get X 0 rfl 3 (by decide) uw414 rfl dX9_lightest_20 ?_
      refine g_iload_n X dX9_lightest_23 1 rfl ?_
      refine g_callVIw X (c_X0_leastWeight l D cI cB cJ h_bo q_bo (p0 := p0) r_v_bo_byAll (by first | assumption | omega) (by first | assumption | omega)) [2, 3, 4, 5] rfl rfl rfl cv_X0_leastWeight uw802 ⟨rfl, rfl, by decide, by decide⟩ 0 rfl rfl rfl rfl rfl (Nat.le_of_ble_eq_true rfl) ⟨Nat.zero_le _, Nat.zero_le _⟩ dX9_lightest_24 (fun t24 ws24 k24 => ?_)
      obtain ⟨kp0_24, kp1_24, rfl⟩ := k24
      refine ⟨rfl, ?_⟩
      refine g_ws (ws2 := ((wX9 cI cB cJ h q o_tape o_claims o_nextClaims h_bo o_otherBounds o_ringSearch o_lawReader o_rules o_nextRules o_market o_trial o_kept o_triangles v_hasKept v_table) ++ (wX0 cI cB cJ h_bo q_bo v_bo_canHold v_bo_direct v_bo_byAll v_bo_more))) rfl ?_
      refine g_goto X (tgt := 32) dX9_lightest_27 (by decide) ?_
      exact hQ _ _ _ _ dX9_lightest_32 ⟨(by first | assumption | omega), (by first | assumption | omega), rfl⟩
  · clear kb_1
    replace kp0_1 := (kp0_1.resolve_left (fun h => absurd h.1 (by omega))).2
    refine g_iconst X dX9_lightest_7 ?_
    exact hQ _ _ _ _ dX9_lightest_8 ⟨(by first | assumption | omega), (by first | assumption | omega), rfl⟩
set_option maxHeartbeats 600000 in
set_option maxRecDepth 100000 in
theorem c_X9_slack (l : Launch) (D : va_G) (cI cB cJ : ClassId) (h : Nat) (q : Nat → Nat) (h_cl : Nat) (q_cl : Nat → Nat) (h_bo : Nat) (q_bo : Nat → Nat) {o_tape : Nat} {o_nextClaims : Nat} {o_otherBounds : Nat} {o_ringSearch : Nat} {o_lawReader : Nat} {o_rules : Nat} {o_nextRules : Nat} {o_market : Nat} {o_trial : Nat} {o_kept : Nat} {o_triangles : Nat} {v_hasKept v_cl_size v_bo_canHold : Int} {v_table v_cl_first v_cl_second v_cl_kind v_cl_number v_cl_group v_cl_over v_bo_direct v_bo_byAll v_bo_more : Nat → Int} {p0 : Int} (kr_v_cl_size : 0 ≤ v_cl_size ∧ v_cl_size ≤ 40) (r_v_cl_first : RA 0 11 v_cl_first) (r_v_cl_second : RA 0 11 v_cl_second) (r_v_cl_kind : RA 0 2 v_cl_kind) (r_v_cl_number : RA (-9999) 9999 v_cl_number) (kr_v_bo_canHold : 0 ≤ v_bo_canHold ∧ v_bo_canHold ≤ 1) (r_v_bo_byAll : RA (-1000000) 1000000 v_bo_byAll) (hp0 : IR p0) : CtI l yX9_slack cX9_slack 4 (some .int) ⟨2, 0, 0, 43⟩ D (TY cI cB cJ) ((wX9 cI cB cJ h q o_tape h_cl o_nextClaims h_bo o_otherBounds o_ringSearch o_lawReader o_rules o_nextRules o_market o_trial o_kept o_triangles v_hasKept v_table) ++ (wX1 cI cB cJ h_cl q_cl v_cl_size v_cl_first v_cl_second v_cl_kind v_cl_number v_cl_group v_cl_over) ++ (wX0 cI cB cJ h_bo q_bo v_bo_canHold v_bo_direct v_bo_byAll v_bo_more)) [.ref h, vI p0] (fun z ws' => (IR z) ∧ (((0 ≤ p0 ∧ p0 < v_cl_size) ∧ v_bo_canHold = 1 ∧ z = slF v_cl_first v_cl_second v_cl_kind v_cl_number v_bo_byAll p0.toNat) ∨ (¬ ((0 ≤ p0 ∧ p0 < v_cl_size) ∧ v_bo_canHold = 1) ∧ z = -1000000)) ∧ (ws' = ((wX9 cI cB cJ h q o_tape h_cl o_nextClaims h_bo o_otherBounds o_ringSearch o_lawReader o_rules o_nextRules o_market o_trial o_kept o_triangles v_hasKept v_table) ++ (wX1 cI cB cJ h_cl q_cl v_cl_size v_cl_first v_cl_second v_cl_kind v_cl_number v_cl_group v_cl_over) ++ (wX0 cI cB cJ h_bo q_bo v_bo_canHold v_bo_direct v_bo_byAll v_bo_more)))) := by
  refine hdrI (own := RX9) rfl (by decide +kernel) (Nat.le_of_ble_eq_true rfl) ?_
  intro p e s m args below meth c Q A X hQ
  refine g_lvE (lv2 := [(0, .ref h), (1, vI p0)]) rfl ?_
  refine g_aload_n X dX9_slack_0 0 rfl ?_
  refine gX9_get X 0 rfl 1 (by decide) uw412 rfl dX9_slack_1 ?_
  refine g_iload_n X dX9_slack_4 1 rfl ?_
  refine g_callVIw X (c_X1_hasNumber l D cI cB cJ h_cl q_cl (p0 := p0) (by omega) (by first | assumption | omega)) [2, 3, 4, 5, 6, 7, 8] rfl rfl rfl cv_X1_hasNumber uw813 ⟨rfl, rfl, by decide, by decide⟩ 0 rfl rfl rfl rfl rfl (Nat.le_of_ble_eq_true rfl) ⟨Nat.zero_le _, Nat.zero_le _⟩ dX9_slack_5 (fun t5 ws5 k5 => ?_)
  obtain ⟨kb_5, ⟨kp0_5, rfl⟩⟩ := k5
  refine ⟨rfl, ?_⟩
  refine g_ws (ws2 := ((wX9 cI cB cJ h q o_tape h_cl o_nextClaims h_bo o_otherBounds o_ringSearch o_lawReader o_rules o_nextRules o_market o_trial o_kept o_triangles v_hasKept v_table) ++ (wX1 cI cB cJ h_cl q_cl v_cl_size v_cl_first v_cl_second v_cl_kind v_cl_number v_cl_group v_cl_over) ++ (wX0 cI cB cJ h_bo q_bo v_bo_canHold v_bo_direct v_bo_byAll v_bo_more))) rfl ?_
  refine g_if_eq X (tgt := 21) dX9_slack_8 (by decide) (by omega) (fun c8 => ?_) (fun c8 => ?_)
  · clear kb_5
    replace kp0_5 := (kp0_5.resolve_left (fun h => absurd h.1 (by omega))).2
    refine g_ldc X (z := (-1000000)) dX9_slack_21 uw725 (by decide) ?_
    have hs := slF_e v_cl_first v_cl_second v_cl_kind v_cl_number v_bo_byAll p0.toNat
    exact hQ _ _ _ _ dX9_slack_23 ⟨(by first | assumption | omega), (by first | assumption | omega), rfl⟩
  · replace kb_5 := kb_5.resolve_left (fun h => c8 h)
    replace kp0_5 := kp0_5.resolve_right (fun h => c8 h.1)
    refine g_aload_n X dX9_slack_11 0 rfl ?_
    refine gX9_get X 0 rfl 3 (by decide) uw414 rfl dX9_slack_12 ?_
    refine gN_get X (T := TX0) 9 rfl rfl inU_X0 3 (by decide) nw213 rfl rfl dX9_slack_15 ?_
    refine g_if_ne X (tgt := 24) dX9_slack_18 (by decide) (by omega) (fun c18 => ?_) (fun c18 => ?_)
    · refine g_aload_n X dX9_slack_24 0 rfl ?_
      refine gX9_get X 0 rfl 1 (by decide) uw412 rfl dX9_slack_25 ?_
      refine gN_get X (T := TX1) 2 rfl rfl inU_X1 1 (by decide) nw175 rfl rfl dX9_slack_28 ?_
      refine g_iload_n X dX9_slack_31 1 rfl ?_
      refine g_iald X 3 0 rfl rfl (by omega) (by decide) dX9_slack_32 (fun t32 e32 => ?_)
      have r32 := r_v_cl_first (p0 : Int).toNat; rw [← e32] at r32
      refine g_istore_n X (lv' := [(2, vI t32), (0, .ref h), (1, vI p0)]) dX9_slack_33 (by decide) rfl ?_
      refine g_aload_n X dX9_slack_34 1 rfl ?_
      refine gX9_get X 0 rfl 1 (by decide) uw412 rfl dX9_slack_35 ?_
      refine gN_get X (T := TX1) 2 rfl rfl inU_X1 2 (by decide) nw178 rfl rfl dX9_slack_38 ?_
      refine g_iload_n X dX9_slack_41 2 rfl ?_
      refine g_iald X 4 0 rfl rfl (by omega) (by decide) dX9_slack_42 (fun t42 e42 => ?_)
      have r42 := r_v_cl_second (p0 : Int).toNat; rw [← e42] at r42
      refine g_istore_n X (lv' := [(3, vI t42), (2, vI t32), (0, .ref h), (1, vI p0)]) dX9_slack_43 (by decide) rfl ?_
      refine g_aload_n X dX9_slack_44 2 rfl ?_
      refine gX9_get X 0 rfl 1 (by decide) uw412 rfl dX9_slack_45 ?_
      refine gN_get X (T := TX1) 2 rfl rfl inU_X1 3 (by decide) nw181 rfl rfl dX9_slack_48 ?_
      refine g_iload_n X dX9_slack_51 3 rfl ?_
      refine g_iald X 5 0 rfl rfl (by omega) (by decide) dX9_slack_52 (fun t52 e52 => ?_)
      have r52 := r_v_cl_kind (p0 : Int).toNat; rw [← e52] at r52
      refine g_if_ne X (tgt := 58) dX9_slack_53 (by decide) (by omega) (fun c53 => ?_) (fun c53 => ?_)
      · refine g_aload_n X dX9_slack_58 2 rfl ?_
        refine gX9_get X 0 rfl 1 (by decide) uw412 rfl dX9_slack_59 ?_
        refine gN_get X (T := TX1) 2 rfl rfl inU_X1 3 (by decide) nw181 rfl rfl dX9_slack_62 ?_
        refine g_iload_n X dX9_slack_65 3 rfl ?_
        refine g_iald X 5 0 rfl rfl (by omega) (by decide) dX9_slack_66 (fun t66 e66 => ?_)
        have r66 := r_v_cl_kind (p0 : Int).toNat; rw [← e66] at r66
        refine g_iconst X dX9_slack_67 ?_
        refine g_icmp_ne X (tgt := 91) dX9_slack_68 (by decide) (by omega) (by omega) (fun c68 => ?_) (fun c68 => ?_)
        · refine g_aload_n X dX9_slack_91 2 rfl ?_
          refine gX9_get X 0 rfl 1 (by decide) uw412 rfl dX9_slack_92 ?_
          refine gN_get X (T := TX1) 2 rfl rfl inU_X1 4 (by decide) nw184 rfl rfl dX9_slack_95 ?_
          refine g_iload_n X dX9_slack_98 3 rfl ?_
          refine g_iald X 6 0 rfl rfl (by omega) (by decide) dX9_slack_99 (fun t99 e99 => ?_)
          have r99 := r_v_cl_number (p0 : Int).toNat; rw [← e99] at r99
          refine g_ineg X dX9_slack_100 ?_
          refine g_aload_n X dX9_slack_101 2 rfl ?_
          refine gX9_get X 0 rfl 3 (by decide) uw414 rfl dX9_slack_102 ?_
          refine g_iload_n X dX9_slack_105 0 rfl ?_
          refine g_iload_n X dX9_slack_106 1 rfl ?_
          refine g_callVIw X (c_X0_most l D cI cB cJ h_bo q_bo (p0 := t42) (p1 := t32) r_v_bo_byAll (by first | assumption | omega) (by first | assumption | omega) (by first | assumption | omega) (by first | assumption | omega)) [9, 10, 11, 12] rfl rfl rfl cv_X0_most uw743 ⟨rfl, rfl, by decide, by decide⟩ 0 rfl rfl rfl rfl rfl (Nat.le_of_ble_eq_true rfl) ⟨Nat.zero_le _, Nat.zero_le _⟩ dX9_slack_107 (fun t107 ws107 k107 => ?_)
          obtain ⟨kp0_107, kp1_107, rfl⟩ := k107
          refine ⟨rfl, ?_⟩
          refine g_ws (ws2 := ((wX9 cI cB cJ h q o_tape h_cl o_nextClaims h_bo o_otherBounds o_ringSearch o_lawReader o_rules o_nextRules o_market o_trial o_kept o_triangles v_hasKept v_table) ++ (wX1 cI cB cJ h_cl q_cl v_cl_size v_cl_first v_cl_second v_cl_kind v_cl_number v_cl_group v_cl_over) ++ (wX0 cI cB cJ h_bo q_bo v_bo_canHold v_bo_direct v_bo_byAll v_bo_more))) rfl ?_
          have hm : t107 = v_bo_byAll (12 * (v_cl_second p0.toNat).toNat + (v_cl_first p0.toNat).toNat) := by rw [kp1_107, e32, e42]
          refine g_isub X dX9_slack_110 ?_
          have hs := slF_e v_cl_first v_cl_second v_cl_kind v_cl_number v_bo_byAll p0.toNat
          exact hQ _ _ _ _ dX9_slack_111 ⟨(by first | assumption | omega), (by first | assumption | omega), rfl⟩
        · refine g_aload_n X dX9_slack_71 2 rfl ?_
          refine gX9_get X 0 rfl 1 (by decide) uw412 rfl dX9_slack_72 ?_
          refine gN_get X (T := TX1) 2 rfl rfl inU_X1 4 (by decide) nw184 rfl rfl dX9_slack_75 ?_
          refine g_iload_n X dX9_slack_78 3 rfl ?_
          refine g_iald X 6 0 rfl rfl (by omega) (by decide) dX9_slack_79 (fun t79 e79 => ?_)
          have r79 := r_v_cl_number (p0 : Int).toNat; rw [← e79] at r79
          refine g_aload_n X dX9_slack_80 2 rfl ?_
          refine gX9_get X 0 rfl 3 (by decide) uw414 rfl dX9_slack_81 ?_
          refine g_iload_n X dX9_slack_84 1 rfl ?_
          refine g_iload_n X dX9_slack_85 0 rfl ?_
          refine g_callVIw X (c_X0_most l D cI cB cJ h_bo q_bo (p0 := t32) (p1 := t42) r_v_bo_byAll (by first | assumption | omega) (by first | assumption | omega) (by first | assumption | omega) (by first | assumption | omega)) [9, 10, 11, 12] rfl rfl rfl cv_X0_most uw743 ⟨rfl, rfl, by decide, by decide⟩ 0 rfl rfl rfl rfl rfl (Nat.le_of_ble_eq_true rfl) ⟨Nat.zero_le _, Nat.zero_le _⟩ dX9_slack_86 (fun t86 ws86 k86 => ?_)
          obtain ⟨kp0_86, kp1_86, rfl⟩ := k86
          refine ⟨rfl, ?_⟩
          refine g_ws (ws2 := ((wX9 cI cB cJ h q o_tape h_cl o_nextClaims h_bo o_otherBounds o_ringSearch o_lawReader o_rules o_nextRules o_market o_trial o_kept o_triangles v_hasKept v_table) ++ (wX1 cI cB cJ h_cl q_cl v_cl_size v_cl_first v_cl_second v_cl_kind v_cl_number v_cl_group v_cl_over) ++ (wX0 cI cB cJ h_bo q_bo v_bo_canHold v_bo_direct v_bo_byAll v_bo_more))) rfl ?_
          have hm : t86 = v_bo_byAll (12 * (v_cl_first p0.toNat).toNat + (v_cl_second p0.toNat).toNat) := by rw [kp1_86, e32, e42]
          refine g_isub X dX9_slack_89 ?_
          have hs := slF_e v_cl_first v_cl_second v_cl_kind v_cl_number v_bo_byAll p0.toNat
          exact hQ _ _ _ _ dX9_slack_90 ⟨(by first | assumption | omega), (by first | assumption | omega), rfl⟩
      · refine g_iconst X dX9_slack_56 ?_
        have hs := slF_e v_cl_first v_cl_second v_cl_kind v_cl_number v_bo_byAll p0.toNat
        exact hQ _ _ _ _ dX9_slack_57 ⟨(by first | assumption | omega), (by first | assumption | omega), rfl⟩
    · refine g_ldc X (z := (-1000000)) dX9_slack_21 uw725 (by decide) ?_
      have hs := slF_e v_cl_first v_cl_second v_cl_kind v_cl_number v_bo_byAll p0.toNat
      exact hQ _ _ _ _ dX9_slack_23 ⟨(by first | assumption | omega), (by first | assumption | omega), rfl⟩
set_option maxHeartbeats 600000 in
set_option maxRecDepth 100000 in
theorem c_X9_chain (l : Launch) (D : va_G) (cI cB cJ : ClassId) (h : Nat) (q : Nat → Nat) (h_bo : Nat) (q_bo : Nat → Nat) {o_tape : Nat} {o_claims : Nat} {o_nextClaims : Nat} {o_otherBounds : Nat} {o_ringSearch : Nat} {o_lawReader : Nat} {o_rules : Nat} {o_nextRules : Nat} {o_market : Nat} {o_trial : Nat} {o_kept : Nat} {o_triangles : Nat} {v_hasKept v_bo_canHold : Int} {v_table v_bo_direct v_bo_byAll v_bo_more : Nat → Int} {p0 : Int} (r_v_table : RA (-2147483648) 2147483647 v_table) (kr_v_bo_canHold : 0 ≤ v_bo_canHold ∧ v_bo_canHold ≤ 1) (r_v_bo_byAll : RA (-1000000) 1000000 v_bo_byAll) (hp0 : IR p0) : CtI l yX9_chain cX9_chain 5 (some .int) ⟨4, 0, 0, 110⟩ D (TY cI cB cJ) ((wX9 cI cB cJ h q o_tape o_claims o_nextClaims h_bo o_otherBounds o_ringSearch o_lawReader o_rules o_nextRules o_market o_trial o_kept o_triangles v_hasKept v_table) ++ (wX0 cI cB cJ h_bo q_bo v_bo_canHold v_bo_direct v_bo_byAll v_bo_more)) [.ref h, vI p0] (fun z ws' => ∃ n_table : Nat → Int, (RA (-2147483648) 2147483647 n_table) ∧ (IR z) ∧ (((0 ≤ p0 ∧ p0 ≤ 1) ∧ v_bo_canHold ≠ 1 ∧ z = -3) ∨ ((0 ≤ p0 ∧ p0 ≤ 1) ∧ v_bo_canHold = 1 ∧ z = chA (chN v_bo_byAll 1584) p0) ∨ (¬ (0 ≤ p0 ∧ p0 ≤ 1) ∧ z = -1)) ∧ (ws' = ((wX9 cI cB cJ h q o_tape o_claims o_nextClaims h_bo o_otherBounds o_ringSearch o_lawReader o_rules o_nextRules o_market o_trial o_kept o_triangles v_hasKept n_table) ++ (wX0 cI cB cJ h_bo q_bo v_bo_canHold v_bo_direct v_bo_byAll v_bo_more)))) := by
  refine hdrI (own := RX9) rfl (by decide +kernel) (Nat.le_of_ble_eq_true rfl) ?_
  intro p e s m args below meth c Q A X hQ
  refine g_lvE (lv2 := [(0, .ref h), (1, vI p0)]) rfl ?_
  refine g_iload_n X dX9_chain_0 1 rfl ?_
  refine g_iconst X dX9_chain_1 ?_
  refine g_iconst X dX9_chain_2 ?_
  refine g_callSIE X (c_X9_isFrom l D cI cB cJ (p0 := p0) (p1 := 0) (p2 := 1) (by first | assumption | omega) (by first | assumption | omega) (by first | assumption | omega)) cv_X9_isFrom uw719 ⟨rfl, rfl, by decide, by decide⟩ rfl rfl (Nat.le_of_ble_eq_true rfl) ⟨Nat.zero_le _, Nat.zero_le _⟩ dX9_chain_3 (fun t3 ws3 k3 => ?_)
  obtain ⟨kb_3, ⟨kp0_3, rfl⟩⟩ := k3
  refine g_if_ne X (tgt := 11) dX9_chain_6 (by decide) (by omega) (fun c6 => ?_) (fun c6 => ?_)
  · replace kb_3 := kb_3.resolve_left (fun h => c6 h)
    replace kp0_3 := kp0_3.resolve_right (fun h => c6 h.1)
    refine g_aload_n X dX9_chain_11 0 rfl ?_
    refine gX9_get X 0 rfl 3 (by decide) uw414 rfl dX9_chain_12 ?_
    refine gN_get X (T := TX0) 2 rfl rfl inU_X0 3 (by decide) nw213 rfl rfl dX9_chain_15 ?_
    refine g_if_ne X (tgt := 24) dX9_chain_18 (by decide) (by omega) (fun c18 => ?_) (fun c18 => ?_)
    · refine g_aload_n X dX9_chain_24 0 rfl ?_
      refine gX9_get X 0 rfl 14 (by decide) uw425 rfl dX9_chain_25 ?_
      refine g_astore_n X (lv' := [(2, .ref (q 0)), (0, .ref h), (1, vI p0)]) dX9_chain_28 (by decide) rfl ?_
      refine g_aload_n X dX9_chain_29 1 rfl ?_
      refine gX9_get X 0 rfl 3 (by decide) uw414 rfl dX9_chain_30 ?_
      refine g_aload_n X dX9_chain_33 0 rfl ?_
      refine g_callVVw X (c_X0_chainsFrom l D cI cB cJ h_bo q_bo (q 0)  r_v_bo_byAll r_v_table) [2, 3, 4, 5, 1] rfl rfl rfl cv_X0_chainsFrom uw822 ⟨rfl, rfl, by decide, by decide⟩ 0 rfl rfl rfl rfl rfl (Nat.le_of_ble_eq_true rfl) ⟨Nat.zero_le _, Nat.zero_le _⟩ dX9_chain_34 (fun ws34 k34 => ?_)
      obtain ⟨table_34, r_table_34, kp0_34, rfl⟩ := k34
      refine ⟨rfl, ?_⟩
      refine g_ws (ws2 := ((wX9 cI cB cJ h q o_tape o_claims o_nextClaims h_bo o_otherBounds o_ringSearch o_lawReader o_rules o_nextRules o_market o_trial o_kept o_triangles v_hasKept table_34) ++ (wX0 cI cB cJ h_bo q_bo v_bo_canHold v_bo_direct v_bo_byAll v_bo_more))) rfl ?_
      refine g_iconst X dX9_chain_37 ?_
      refine g_istore_n X (lv' := [(3, vI 0), (2, .ref (q 0)), (0, .ref h), (1, vI p0)]) dX9_chain_38 (by decide) rfl ?_
      refine g_iconst X dX9_chain_39 ?_
      refine g_istore X (lv' := [(4, vI 1), (3, vI 0), (2, .ref (q 0)), (0, .ref h), (1, vI p0)]) dX9_chain_40 (by decide) rfl ?_
      have h0 : bsF (chN v_bo_byAll 1584) (1 - 1 : Int).toNat = 0 := rfl
      have L42 : ∀ (n : Nat) (x3_42 : Int) (x4_42 : Int), (1 ≤ x4_42 ∧ x4_42 ≤ 12) → (0 ≤ x3_42 ∧ x3_42 ≤ 11) → ((x3_42).toNat = bsF (chN v_bo_byAll 1584) (x4_42 - 1).toNat) → (12 - x4_42).toNat < n → GG p l e ⟨4, 0, 0, 110⟩ s m args below meth c 0 0 Q D A s.heap 5 ((wX9 cI cB cJ h q o_tape o_claims o_nextClaims h_bo o_otherBounds o_ringSearch o_lawReader o_rules o_nextRules o_market o_trial o_kept o_triangles v_hasKept table_34) ++ (wX0 cI cB cJ h_bo q_bo v_bo_canHold v_bo_direct v_bo_byAll v_bo_more)) 42 [(1, vI p0), (2, .ref (q 0)), (3, vI x3_42), (4, vI x4_42)] [] := by
        intro n
        induction n with
        | zero => intros; exfalso; omega
        | succ n ih42 =>
          intro x3_42 x4_42 w42_0 w42_1 w42_2 wm42
          have hS := bsF_s (chN v_bo_byAll 1584) (x := x4_42) (by omega)
          rw [← w42_2] at hS
          have hz : (x4_42 + 1 - 1).toNat = (x4_42).toNat := by congr 1; omega
          have hr := bsF_r (chN v_bo_byAll 1584) (x4_42).toNat
          refine g_iload X dX9_chain_42 3 rfl ?_
          refine g_bipush X (z := 12) dX9_chain_44 (by decide) ?_
          refine g_icmp_ge X (tgt := 68) dX9_chain_46 (by decide) (by omega) (by omega) (fun c46 => ?_) (fun c46 => ?_)
          · refine g_iload_n X dX9_chain_68 0 rfl ?_
            refine g_if_ne X (tgt := 78) dX9_chain_69 (by decide) (by omega) (fun c69 => ?_) (fun c69 => ?_)
            · refine g_iload_n X dX9_chain_78 2 rfl ?_
              have hA := chA_e (chN v_bo_byAll 1584) p0
              have hx : bsF (chN v_bo_byAll 1584) 11 = (x3_42).toNat := by rw [w42_2, show (x4_42 - 1).toNat = 11 by omega]
              rw [hx] at hA
              exact hQ _ _ _ _ dX9_chain_79 ⟨table_34, r_table_34, (by first | assumption | omega), (by first | assumption | omega), rfl⟩
            · refine g_aload_n X dX9_chain_72 1 rfl ?_
              refine g_iload_n X dX9_chain_73 2 rfl ?_
              refine g_iald X 1 0 rfl rfl (by omega) (by decide) dX9_chain_74 (fun t74 e74 => ?_)
              have r74 := r_table_34 (x3_42 : Int).toNat; rw [← e74] at r74
              have b74 := kp0_34 (x3_42).toNat (by omega)
              have g74 := (chN_r v_bo_byAll 1584 0).2 (x3_42).toNat
              have l74 := (chN_r v_bo_byAll 1584 (x3_42).toNat).1
              refine g_goto X (tgt := 79) dX9_chain_75 (by decide) ?_
              have hA := chA_e (chN v_bo_byAll 1584) p0
              have hx : bsF (chN v_bo_byAll 1584) 11 = (x3_42).toNat := by rw [w42_2, show (x4_42 - 1).toNat = 11 by omega]
              rw [hx] at hA
              exact hQ _ _ _ _ dX9_chain_79 ⟨table_34, r_table_34, (by first | assumption | omega), (by first | assumption | omega), rfl⟩
          · refine g_aload_n X dX9_chain_49 1 rfl ?_
            refine g_iload X dX9_chain_50 3 rfl ?_
            refine g_iald X 1 0 rfl rfl (by omega) (by decide) dX9_chain_52 (fun t52 e52 => ?_)
            have r52 := r_table_34 (x4_42 : Int).toNat; rw [← e52] at r52
            have b52 := kp0_34 (x4_42).toNat (by omega)
            have g52 := (chN_r v_bo_byAll 1584 0).2 (x4_42).toNat
            have l52 := (chN_r v_bo_byAll 1584 (x4_42).toNat).1
            refine g_aload_n X dX9_chain_53 1 rfl ?_
            refine g_iload_n X dX9_chain_54 2 rfl ?_
            refine g_iald X 1 0 rfl rfl (by omega) (by decide) dX9_chain_55 (fun t55 e55 => ?_)
            have r55 := r_table_34 (x3_42 : Int).toNat; rw [← e55] at r55
            have b55 := kp0_34 (x3_42).toNat (by omega)
            have g55 := (chN_r v_bo_byAll 1584 0).2 (x3_42).toNat
            have l55 := (chN_r v_bo_byAll 1584 (x3_42).toNat).1
            refine g_icmp_le X (tgt := 62) dX9_chain_56 (by decide) (by omega) (by omega) (fun c56 => ?_) (fun c56 => ?_)
            · refine g_iinc X (lv' := [(4, vI (x4_42 + 1)), (1, vI p0), (2, .ref (q 0)), (3, vI x3_42)]) dX9_chain_62 3 rfl (by decide) rfl ?_
              refine g_goto X (tgt := 42) dX9_chain_65 (by decide) ?_
              refine g_lv [1, 2, 3, 0] rfl ?_
              exact ih42 x3_42 (x4_42 + 1) (by first | assumption | omega) (by first | assumption | omega) (by first | (rw [h0]; rfl) | (rw [hz]; omega)) (by omega)
            · refine g_iload X dX9_chain_59 3 rfl ?_
              refine g_istore_n X (lv' := [(3, vI x4_42), (1, vI p0), (2, .ref (q 0)), (4, vI x4_42)]) dX9_chain_61 (by decide) rfl ?_
              refine g_iinc X (lv' := [(4, vI (x4_42 + 1)), (3, vI x4_42), (1, vI p0), (2, .ref (q 0))]) dX9_chain_62 3 rfl (by decide) rfl ?_
              refine g_goto X (tgt := 42) dX9_chain_65 (by decide) ?_
              refine g_lv [2, 3, 1, 0] rfl ?_
              exact ih42 x4_42 (x4_42 + 1) (by first | assumption | omega) (by first | assumption | omega) (by first | (rw [h0]; rfl) | (rw [hz]; omega)) (by omega)
      refine g_lv [4, 2, 1, 0] rfl ?_
      exact L42 _ 0 1 (by first | assumption | omega) (by first | assumption | omega) (by first | (rw [h0]; rfl) | (rw [hz]; omega)) (Nat.lt_succ_self _)
    · refine g_bipush X (z := (-3)) dX9_chain_21 (by decide) ?_
      exact hQ _ _ _ _ dX9_chain_23 ⟨v_table, r_v_table, (by first | assumption | omega), (by first | assumption | omega), rfl⟩
  · clear kb_3
    replace kp0_3 := (kp0_3.resolve_left (fun h => absurd h.1 (by omega))).2
    refine g_iconst X dX9_chain_9 ?_
    exact hQ _ _ _ _ dX9_chain_10 ⟨v_table, r_v_table, (by first | assumption | omega), (by first | assumption | omega), rfl⟩
set_option maxHeartbeats 600000 in
set_option maxRecDepth 100000 in
theorem c_X9_orders (l : Launch) (D : va_G) (cI cB cJ : ClassId) (h : Nat) (q : Nat → Nat) (h_bo : Nat) (q_bo : Nat → Nat) {o_tape : Nat} {o_claims : Nat} {o_nextClaims : Nat} {o_otherBounds : Nat} {o_ringSearch : Nat} {o_lawReader : Nat} {o_rules : Nat} {o_nextRules : Nat} {o_market : Nat} {o_trial : Nat} {o_kept : Nat} {o_triangles : Nat} {v_hasKept v_bo_canHold : Int} {v_table v_bo_direct v_bo_byAll v_bo_more : Nat → Int} {p0 : Int} (r_v_table : RA (-2147483648) 2147483647 v_table) (kr_v_bo_canHold : 0 ≤ v_bo_canHold ∧ v_bo_canHold ≤ 1) (r_v_bo_byAll : RA (-1000000) 1000000 v_bo_byAll) (r_v_bo_more : RA (-2147483648) 2147483647 v_bo_more) (hp0 : IR p0) : CtI l yX9_orders cX9_orders 2 (some .int) ⟨3, 0, 0, 68⟩ D (TY cI cB cJ) ((wX9 cI cB cJ h q o_tape o_claims o_nextClaims h_bo o_otherBounds o_ringSearch o_lawReader o_rules o_nextRules o_market o_trial o_kept o_triangles v_hasKept v_table) ++ (wX0 cI cB cJ h_bo q_bo v_bo_canHold v_bo_direct v_bo_byAll v_bo_more)) [.ref h, vI p0] (fun z ws' => ∃ n_table : Nat → Int, ∃ n_bo_more : Nat → Int, (RA (-2147483648) 2147483647 n_table) ∧ (RA (-2147483648) 2147483647 n_bo_more) ∧ (IR z) ∧ (((0 ≤ p0 ∧ p0 ≤ 4095) ∧ v_bo_canHold ≠ 1 ∧ z = -3) ∨ ((0 ≤ p0 ∧ p0 ≤ 4095) ∧ v_bo_canHold = 1 ∧ z = ocF (upB v_bo_byAll) p0.toNat p0.toNat) ∨ (¬ (0 ≤ p0 ∧ p0 ≤ 4095) ∧ z = -1)) ∧ (ws' = ((wX9 cI cB cJ h q o_tape o_claims o_nextClaims h_bo o_otherBounds o_ringSearch o_lawReader o_rules o_nextRules o_market o_trial o_kept o_triangles v_hasKept n_table) ++ (wX0 cI cB cJ h_bo q_bo v_bo_canHold v_bo_direct v_bo_byAll n_bo_more)))) := by
  refine hdrI (own := RX9) rfl (by decide +kernel) (Nat.le_of_ble_eq_true rfl) ?_
  intro p e s m args below meth c Q A X hQ
  refine g_lvE (lv2 := [(0, .ref h), (1, vI p0)]) rfl ?_
  refine g_iload_n X dX9_orders_0 1 rfl ?_
  refine g_iconst X dX9_orders_1 ?_
  refine g_sipush X (z := 4095) dX9_orders_2 (by decide) ?_
  refine g_callSIE X (c_X9_isFrom l D cI cB cJ (p0 := p0) (p1 := 0) (p2 := 4095) (by first | assumption | omega) (by first | assumption | omega) (by first | assumption | omega)) cv_X9_isFrom uw719 ⟨rfl, rfl, by decide, by decide⟩ rfl rfl (Nat.le_of_ble_eq_true rfl) ⟨Nat.zero_le _, Nat.zero_le _⟩ dX9_orders_5 (fun t5 ws5 k5 => ?_)
  obtain ⟨kb_5, ⟨kp0_5, rfl⟩⟩ := k5
  refine g_if_ne X (tgt := 13) dX9_orders_8 (by decide) (by omega) (fun c8 => ?_) (fun c8 => ?_)
  · replace kb_5 := kb_5.resolve_left (fun h => c8 h)
    replace kp0_5 := kp0_5.resolve_right (fun h => c8 h.1)
    refine g_aload_n X dX9_orders_13 0 rfl ?_
    refine gX9_get X 0 rfl 3 (by decide) uw414 rfl dX9_orders_14 ?_
    refine gN_get X (T := TX0) 2 rfl rfl inU_X0 3 (by decide) nw213 rfl rfl dX9_orders_17 ?_
    refine g_if_eq X (tgt := 38) dX9_orders_20 (by decide) (by omega) (fun c20 => ?_) (fun c20 => ?_)
    · refine g_bipush X (z := (-3)) dX9_orders_38 (by decide) ?_
      exact hQ _ _ _ _ dX9_orders_40 ⟨v_table, v_bo_more, r_v_table, r_v_bo_more, (by first | assumption | omega), (by first | assumption | omega), rfl⟩
    · refine g_aload_n X dX9_orders_23 0 rfl ?_
      refine gX9_get X 0 rfl 3 (by decide) uw414 rfl dX9_orders_24 ?_
      refine g_iload_n X dX9_orders_27 1 rfl ?_
      refine g_aload_n X dX9_orders_28 0 rfl ?_
      refine gX9_get X 0 rfl 14 (by decide) uw425 rfl dX9_orders_29 ?_
      refine g_callVIw X (c_X0_ordersOf l D cI cB cJ h_bo q_bo (q 0) (p0 := p0) r_v_bo_byAll r_v_bo_more r_v_table (by first | assumption | omega) (by first | assumption | omega)) [2, 3, 4, 5, 1] rfl rfl rfl cv_X0_ordersOf uw836 ⟨rfl, rfl, by decide, by decide⟩ 0 rfl rfl rfl rfl rfl (Nat.le_of_ble_eq_true rfl) ⟨Nat.zero_le _, Nat.zero_le _⟩ dX9_orders_32 (fun t32 ws32 k32 => ?_)
      obtain ⟨bo_more_32, table_32, r_bo_more_32, r_table_32, kp0_32, kp1_32, rfl⟩ := k32
      refine ⟨rfl, ?_⟩
      refine g_ws (ws2 := ((wX9 cI cB cJ h q o_tape o_claims o_nextClaims h_bo o_otherBounds o_ringSearch o_lawReader o_rules o_nextRules o_market o_trial o_kept o_triangles v_hasKept table_32) ++ (wX0 cI cB cJ h_bo q_bo v_bo_canHold v_bo_direct v_bo_byAll bo_more_32))) rfl ?_
      refine g_goto X (tgt := 40) dX9_orders_35 (by decide) ?_
      exact hQ _ _ _ _ dX9_orders_40 ⟨table_32, bo_more_32, r_table_32, r_bo_more_32, (by first | assumption | omega), (by first | assumption | omega), rfl⟩
  · clear kb_5
    replace kp0_5 := (kp0_5.resolve_left (fun h => absurd h.1 (by omega))).2
    refine g_iconst X dX9_orders_11 ?_
    exact hQ _ _ _ _ dX9_orders_12 ⟨v_table, v_bo_more, r_v_table, r_v_bo_more, (by first | assumption | omega), (by first | assumption | omega), rfl⟩
set_option maxHeartbeats 600000 in
set_option maxRecDepth 100000 in
theorem c_X9_claimIs (l : Launch) (D : va_G) (cI cB cJ : ClassId) (h : Nat) (q : Nat → Nat) (h_cl : Nat) (q_cl : Nat → Nat) {o_tape : Nat} {o_nextClaims : Nat} {o_bounds : Nat} {o_otherBounds : Nat} {o_ringSearch : Nat} {o_lawReader : Nat} {o_rules : Nat} {o_nextRules : Nat} {o_market : Nat} {o_trial : Nat} {o_kept : Nat} {o_triangles : Nat} {v_hasKept v_cl_size : Int} {v_table v_cl_first v_cl_second v_cl_kind v_cl_number v_cl_group v_cl_over : Nat → Int} {p0 p1 : Int} (kr_v_cl_size : 0 ≤ v_cl_size ∧ v_cl_size ≤ 40) (r_v_cl_first : RA 0 11 v_cl_first) (r_v_cl_second : RA 0 11 v_cl_second) (r_v_cl_kind : RA 0 2 v_cl_kind) (r_v_cl_number : RA (-9999) 9999 v_cl_number) (hp0 : IR p0) (hp1 : IR p1) : CtI l yX9_claimIs cX9_claimIs 3 (some .int) ⟨2, 0, 0, 43⟩ D (TY cI cB cJ) ((wX9 cI cB cJ h q o_tape h_cl o_nextClaims o_bounds o_otherBounds o_ringSearch o_lawReader o_rules o_nextRules o_market o_trial o_kept o_triangles v_hasKept v_table) ++ (wX1 cI cB cJ h_cl q_cl v_cl_size v_cl_first v_cl_second v_cl_kind v_cl_number v_cl_group v_cl_over)) [.ref h, vI p0, vI p1] (fun z ws' => (IR z) ∧ (((0 ≤ p0 ∧ p0 < v_cl_size ∧ 0 ≤ p1 ∧ p1 ≤ 3) ∧ z = ciF v_cl_first v_cl_second v_cl_kind v_cl_number p0 p1) ∨ (¬ (0 ≤ p0 ∧ p0 < v_cl_size ∧ 0 ≤ p1 ∧ p1 ≤ 3) ∧ z = -100000)) ∧ (ws' = ((wX9 cI cB cJ h q o_tape h_cl o_nextClaims o_bounds o_otherBounds o_ringSearch o_lawReader o_rules o_nextRules o_market o_trial o_kept o_triangles v_hasKept v_table) ++ (wX1 cI cB cJ h_cl q_cl v_cl_size v_cl_first v_cl_second v_cl_kind v_cl_number v_cl_group v_cl_over)))) := by
  refine hdrI (own := RX9) rfl (by decide +kernel) (Nat.le_of_ble_eq_true rfl) ?_
  intro p e s m args below meth c Q A X hQ
  refine g_lvE (lv2 := [(0, .ref h), (1, vI p0), (2, vI p1)]) rfl ?_
  refine g_aload_n X dX9_claimIs_0 0 rfl ?_
  refine gX9_get X 0 rfl 1 (by decide) uw412 rfl dX9_claimIs_1 ?_
  refine g_iload_n X dX9_claimIs_4 1 rfl ?_
  refine g_callVIw X (c_X1_hasNumber l D cI cB cJ h_cl q_cl (p0 := p0) (by omega) (by first | assumption | omega)) [2, 3, 4, 5, 6, 7, 8] rfl rfl rfl cv_X1_hasNumber uw813 ⟨rfl, rfl, by decide, by decide⟩ 0 rfl rfl rfl rfl rfl (Nat.le_of_ble_eq_true rfl) ⟨Nat.zero_le _, Nat.zero_le _⟩ dX9_claimIs_5 (fun t5 ws5 k5 => ?_)
  obtain ⟨kb_5, ⟨kp0_5, rfl⟩⟩ := k5
  refine ⟨rfl, ?_⟩
  refine g_ws (ws2 := ((wX9 cI cB cJ h q o_tape h_cl o_nextClaims o_bounds o_otherBounds o_ringSearch o_lawReader o_rules o_nextRules o_market o_trial o_kept o_triangles v_hasKept v_table) ++ (wX1 cI cB cJ h_cl q_cl v_cl_size v_cl_first v_cl_second v_cl_kind v_cl_number v_cl_group v_cl_over))) rfl ?_
  refine g_if_ne X (tgt := 14) dX9_claimIs_8 (by decide) (by omega) (fun c8 => ?_) (fun c8 => ?_)
  · replace kb_5 := kb_5.resolve_left (fun h => c8 h)
    replace kp0_5 := kp0_5.resolve_right (fun h => c8 h.1)
    refine g_iload_n X dX9_claimIs_14 2 rfl ?_
    refine g_nm (fun sw15 es15 => ?_)
    rcases (show sw15 = 0 ∨ sw15 = 1 ∨ sw15 = 2 ∨ sw15 = 3 ∨ (sw15 < 0 ∨ 3 < sw15) by omega) with hs15 | hs15 | hs15 | hs15 | hs15
    · rw [hs15]
      refine g_tab X (off := 29) (tgt := 44) dX9_claimIs_15 (by omega) (by omega) rfl (by decide) ?_
      refine g_aload_n X dX9_claimIs_44 0 rfl ?_
      refine gX9_get X 0 rfl 1 (by decide) uw412 rfl dX9_claimIs_45 ?_
      refine gN_get X (T := TX1) 2 rfl rfl inU_X1 1 (by decide) nw175 rfl rfl dX9_claimIs_48 ?_
      refine g_iload_n X dX9_claimIs_51 1 rfl ?_
      refine g_iald X 3 0 rfl rfl (by omega) (by decide) dX9_claimIs_52 (fun t52 e52 => ?_)
      have r52 := r_v_cl_first (p0 : Int).toNat; rw [← e52] at r52
      try (have hc := ciF_e v_cl_first v_cl_second v_cl_kind v_cl_number p0 p1 (by omega))
      exact hQ _ _ _ _ dX9_claimIs_53 ⟨(by first | assumption | omega), (by first | assumption | omega), rfl⟩
    · rw [hs15]
      refine g_tab X (off := 39) (tgt := 54) dX9_claimIs_15 (by omega) (by omega) rfl (by decide) ?_
      refine g_aload_n X dX9_claimIs_54 0 rfl ?_
      refine gX9_get X 0 rfl 1 (by decide) uw412 rfl dX9_claimIs_55 ?_
      refine gN_get X (T := TX1) 2 rfl rfl inU_X1 2 (by decide) nw178 rfl rfl dX9_claimIs_58 ?_
      refine g_iload_n X dX9_claimIs_61 1 rfl ?_
      refine g_iald X 4 0 rfl rfl (by omega) (by decide) dX9_claimIs_62 (fun t62 e62 => ?_)
      have r62 := r_v_cl_second (p0 : Int).toNat; rw [← e62] at r62
      try (have hc := ciF_e v_cl_first v_cl_second v_cl_kind v_cl_number p0 p1 (by omega))
      exact hQ _ _ _ _ dX9_claimIs_63 ⟨(by first | assumption | omega), (by first | assumption | omega), rfl⟩
    · rw [hs15]
      refine g_tab X (off := 49) (tgt := 64) dX9_claimIs_15 (by omega) (by omega) rfl (by decide) ?_
      refine g_aload_n X dX9_claimIs_64 0 rfl ?_
      refine gX9_get X 0 rfl 1 (by decide) uw412 rfl dX9_claimIs_65 ?_
      refine gN_get X (T := TX1) 2 rfl rfl inU_X1 3 (by decide) nw181 rfl rfl dX9_claimIs_68 ?_
      refine g_iload_n X dX9_claimIs_71 1 rfl ?_
      refine g_iald X 5 0 rfl rfl (by omega) (by decide) dX9_claimIs_72 (fun t72 e72 => ?_)
      have r72 := r_v_cl_kind (p0 : Int).toNat; rw [← e72] at r72
      try (have hc := ciF_e v_cl_first v_cl_second v_cl_kind v_cl_number p0 p1 (by omega))
      exact hQ _ _ _ _ dX9_claimIs_73 ⟨(by first | assumption | omega), (by first | assumption | omega), rfl⟩
    · rw [hs15]
      refine g_tab X (off := 59) (tgt := 74) dX9_claimIs_15 (by omega) (by omega) rfl (by decide) ?_
      refine g_aload_n X dX9_claimIs_74 0 rfl ?_
      refine gX9_get X 0 rfl 1 (by decide) uw412 rfl dX9_claimIs_75 ?_
      refine gN_get X (T := TX1) 2 rfl rfl inU_X1 4 (by decide) nw184 rfl rfl dX9_claimIs_78 ?_
      refine g_iload_n X dX9_claimIs_81 1 rfl ?_
      refine g_iald X 6 0 rfl rfl (by omega) (by decide) dX9_claimIs_82 (fun t82 e82 => ?_)
      have r82 := r_v_cl_number (p0 : Int).toNat; rw [← e82] at r82
      try (have hc := ciF_e v_cl_first v_cl_second v_cl_kind v_cl_number p0 p1 (by omega))
      exact hQ _ _ _ _ dX9_claimIs_83 ⟨(by first | assumption | omega), (by first | assumption | omega), rfl⟩
    · refine g_tabD X (tgt := 84) dX9_claimIs_15 (by omega) hs15 (by decide) ?_
      refine g_ldc X (z := (-100000)) dX9_claimIs_84 uw863 (by decide) ?_
      try (have hc := ciF_e v_cl_first v_cl_second v_cl_kind v_cl_number p0 p1 (by omega))
      exact hQ _ _ _ _ dX9_claimIs_86 ⟨(by first | assumption | omega), (by first | assumption | omega), rfl⟩
  · clear kb_5
    replace kp0_5 := (kp0_5.resolve_left (fun h => absurd h.1 (by omega))).2
    refine g_ldc X (z := (-100000)) dX9_claimIs_11 uw863 (by decide) ?_
    try (have hc := ciF_e v_cl_first v_cl_second v_cl_kind v_cl_number p0 p1 (by omega))
    exact hQ _ _ _ _ dX9_claimIs_13 ⟨(by first | assumption | omega), (by first | assumption | omega), rfl⟩
set_option maxHeartbeats 600000 in
set_option maxRecDepth 100000 in
theorem c_X9_row (l : Launch) (D : va_G) (cI cB cJ : ClassId) (h : Nat) (q : Nat → Nat) (h_tape : Nat) (q_tape : Nat → Nat) {o_claims : Nat} {o_nextClaims : Nat} {o_bounds : Nat} {o_otherBounds : Nat} {o_ringSearch : Nat} {o_lawReader : Nat} {o_rules : Nat} {o_nextRules : Nat} {o_market : Nat} {o_trial : Nat} {o_kept : Nat} {o_triangles : Nat} {v_hasKept v_tape_length v_tape_end v_tape_at v_tape_fault v_tape_faultAt : Int} {v_table v_tape_bytes v_tape_taken : Nat → Int} {p0 p1 : Int} (kr_v_tape_length : 0 ≤ v_tape_length ∧ v_tape_length ≤ 260) (r_v_tape_bytes : RA 0 255 v_tape_bytes) (r_v_tape_taken : RA (-2147483648) 2147483647 v_tape_taken) (hp0 : IR p0) (hp1 : IR p1) : CtL l yX9_row cX9_row 4 (some .long) ⟨2, 0, 0, 46⟩ D (TY cI cB cJ) ((wX9 cI cB cJ h q h_tape o_claims o_nextClaims o_bounds o_otherBounds o_ringSearch o_lawReader o_rules o_nextRules o_market o_trial o_kept o_triangles v_hasKept v_table) ++ (wX7 cI cB cJ h_tape q_tape v_tape_length v_tape_end v_tape_at v_tape_fault v_tape_faultAt v_tape_bytes v_tape_taken)) [.ref h, vI p0, vI p1] (fun z ws' => ∃ n_tape_length : Int, ∃ n_tape_taken : Nat → Int, (0 ≤ n_tape_length ∧ n_tape_length ≤ 260) ∧ (RA (-2147483648) 2147483647 n_tape_taken) ∧ ((0 ≤ p1 ∧ p1 ≤ 1 ∧ 2 ≤ p0 ∧ p0 ≤ 12 ∧ 2 * p0 ≤ v_tape_length ∧ n_tape_length = 0) ∨ (¬ (0 ≤ p1 ∧ p1 ≤ 1 ∧ 2 ≤ p0 ∧ p0 ≤ 12 ∧ 2 * p0 ≤ v_tape_length) ∧ n_tape_length = v_tape_length)) ∧ (((0 ≤ p1 ∧ p1 ≤ 1 ∧ 2 ≤ p0 ∧ p0 ≤ 12 ∧ 2 * p0 ≤ v_tape_length) ∧ z = rwF v_tape_bytes p0 p1) ∨ (¬ (0 ≤ p1 ∧ p1 ≤ 1 ∧ 2 ≤ p0 ∧ p0 ≤ 12 ∧ 2 * p0 ≤ v_tape_length) ∧ z = -9223372036854775808)) ∧ (ws' = ((wX9 cI cB cJ h q h_tape o_claims o_nextClaims o_bounds o_otherBounds o_ringSearch o_lawReader o_rules o_nextRules o_market o_trial o_kept o_triangles v_hasKept v_table) ++ (wX7 cI cB cJ h_tape q_tape n_tape_length v_tape_end v_tape_at v_tape_fault v_tape_faultAt v_tape_bytes n_tape_taken)))) := by
  refine hdrL (own := RX9) rfl (by decide +kernel) (Nat.le_of_ble_eq_true rfl) ?_
  intro p e s m args below meth c Q A X hQ
  refine g_lvE (lv2 := [(0, .ref h), (1, vI p0), (2, vI p1)]) rfl ?_
  refine g_iload_n X dX9_row_0 1 rfl ?_
  refine g_iconst X dX9_row_1 ?_
  refine g_bipush X (z := 12) dX9_row_2 (by decide) ?_
  refine g_callSIE X (c_X9_isFrom l D cI cB cJ (p0 := p0) (p1 := 2) (p2 := 12) (by first | assumption | omega) (by first | assumption | omega) (by first | assumption | omega)) cv_X9_isFrom uw719 ⟨rfl, rfl, by decide, by decide⟩ rfl rfl (Nat.le_of_ble_eq_true rfl) ⟨Nat.zero_le _, Nat.zero_le _⟩ dX9_row_4 (fun t4 ws4 k4 => ?_)
  obtain ⟨kb_4, ⟨kp0_4, rfl⟩⟩ := k4
  refine g_if_eq X (tgt := 35) dX9_row_7 (by decide) (by omega) (fun c7 => ?_) (fun c7 => ?_)
  · clear kb_4
    replace kp0_4 := (kp0_4.resolve_left (fun h => absurd h.1 (by omega))).2
    refine g_ldc2 X (z := (-9223372036854775808)) dX9_row_35 uw868 (by decide) ?_
    exact hQ _ _ _ _ dX9_row_38 ⟨v_tape_length, v_tape_taken, (by omega), r_v_tape_taken, (by first | assumption | omega), (by first | assumption | omega), rfl⟩
  · replace kb_4 := kb_4.resolve_left (fun h => c7 h)
    replace kp0_4 := kp0_4.resolve_right (fun h => c7 h.1)
    refine g_iload_n X dX9_row_10 2 rfl ?_
    refine g_iconst X dX9_row_11 ?_
    refine g_iconst X dX9_row_12 ?_
    refine g_callSIE X (c_X9_isFrom l D cI cB cJ (p0 := p1) (p1 := 0) (p2 := 1) (by first | assumption | omega) (by first | assumption | omega) (by first | assumption | omega)) cv_X9_isFrom uw719 ⟨rfl, rfl, by decide, by decide⟩ rfl rfl (Nat.le_of_ble_eq_true rfl) ⟨Nat.zero_le _, Nat.zero_le _⟩ dX9_row_13 (fun t13 ws13 k13 => ?_)
    obtain ⟨kb_13, ⟨kp0_13, rfl⟩⟩ := k13
    refine g_if_eq X (tgt := 35) dX9_row_16 (by decide) (by omega) (fun c16 => ?_) (fun c16 => ?_)
    · clear kb_13
      replace kp0_13 := (kp0_13.resolve_left (fun h => absurd h.1 (by omega))).2
      refine g_ldc2 X (z := (-9223372036854775808)) dX9_row_35 uw868 (by decide) ?_
      exact hQ _ _ _ _ dX9_row_38 ⟨v_tape_length, v_tape_taken, (by omega), r_v_tape_taken, (by first | assumption | omega), (by first | assumption | omega), rfl⟩
    · replace kb_13 := kb_13.resolve_left (fun h => c16 h)
      replace kp0_13 := kp0_13.resolve_right (fun h => c16 h.1)
      refine g_aload_n X dX9_row_19 0 rfl ?_
      refine gX9_get X 0 rfl 0 (by decide) uw411 rfl dX9_row_20 ?_
      refine g_iconst X dX9_row_23 ?_
      refine g_iload_n X dX9_row_24 1 rfl ?_
      refine g_imul X dX9_row_25 ?_
      refine g_iconst X dX9_row_26 ?_
      refine g_bipush X (z := 24) dX9_row_27 (by decide) ?_
      refine g_callVIw X (c_X7_has l D cI cB cJ h_tape q_tape (p0 := 2 * p0) (p1 := 4) (p2 := 24) (by omega) (by first | assumption | omega) (by first | assumption | omega) (by first | assumption | omega)) [2, 3, 4] rfl rfl rfl cv_X7_has uw473 ⟨rfl, rfl, by decide, by decide⟩ 0 rfl rfl rfl rfl rfl (Nat.le_of_ble_eq_true rfl) ⟨Nat.zero_le _, Nat.zero_le _⟩ dX9_row_29 (fun t29 ws29 k29 => ?_)
      obtain ⟨kb_29, ⟨kp0_29, rfl⟩⟩ := k29
      refine ⟨rfl, ?_⟩
      refine g_ws (ws2 := ((wX9 cI cB cJ h q h_tape o_claims o_nextClaims o_bounds o_otherBounds o_ringSearch o_lawReader o_rules o_nextRules o_market o_trial o_kept o_triangles v_hasKept v_table) ++ (wX7 cI cB cJ h_tape q_tape v_tape_length v_tape_end v_tape_at v_tape_fault v_tape_faultAt v_tape_bytes v_tape_taken))) rfl ?_
      refine g_if_ne X (tgt := 39) dX9_row_32 (by decide) (by omega) (fun c32 => ?_) (fun c32 => ?_)
      · replace kb_29 := kb_29.resolve_left (fun h => c32 h)
        replace kp0_29 := kp0_29.resolve_right (fun h => c32 h.1)
        refine g_aload_n X dX9_row_39 0 rfl ?_
        refine gX9_get X 0 rfl 0 (by decide) uw411 rfl dX9_row_40 ?_
        refine g_iload_n X dX9_row_43 1 rfl ?_
        refine g_callVRw X (c_X7_takeDoubles l D cI cB cJ h_tape q_tape (p0 := p0) (by omega) r_v_tape_bytes r_v_tape_taken (by first | assumption | omega) (by first | assumption | omega)) [2, 3, 4] rfl rfl rfl cv_X7_takeDoubles uw869 ⟨rfl, rfl, by decide, by decide⟩ 0 rfl rfl rfl rfl rfl (Nat.le_of_ble_eq_true rfl) ⟨Nat.zero_le _, Nat.zero_le _⟩ dX9_row_44 (fun t44 ws44 k44 => ?_)
        obtain ⟨rfl, ⟨tape_length_44, tape_taken_44, kr_tape_length_44, r_tape_taken_44, kp0_44, kp1_44, rfl⟩⟩ := k44
        refine ⟨rfl, ?_⟩
        refine g_ws (ws2 := ((wX9 cI cB cJ h q h_tape o_claims o_nextClaims o_bounds o_otherBounds o_ringSearch o_lawReader o_rules o_nextRules o_market o_trial o_kept o_triangles v_hasKept v_table) ++ (wX7 cI cB cJ h_tape q_tape tape_length_44 v_tape_end v_tape_at v_tape_fault v_tape_faultAt v_tape_bytes tape_taken_44))) rfl ?_
        refine g_astore_n X (lv' := [(3, .ref (q_tape 1)), (0, .ref h), (1, vI p0), (2, vI p1)]) dX9_row_47 (by decide) rfl ?_
        have hT : ∀ j : Nat, (j : Int) < p0 → 0 ≤ tape_taken_44 j ∧ tape_taken_44 j ≤ 65535 := fun j hj => by have h1 := r_v_tape_bytes (2 * j); have h2 := r_v_tape_bytes (2 * j + 1); have h3 : tape_taken_44 j = 256 * v_tape_bytes (2 * j) + v_tape_bytes (2 * j + 1) := kp1_44 j hj; omega
        have hc1 : rwD p0.toNat tape_taken_44 = rwD p0.toNat (dbl v_tape_bytes) := rwD_c _ _ _ (fun j hj => kp1_44 j (by omega))
        have hc2 : rwO p0.toNat tape_taken_44 = rwO p0.toNat (dbl v_tape_bytes) := by rw [show p0.toNat = (p0 - 1).toNat + 1 by omega]; exact rwO_c _ _ _ (fun j hj => kp1_44 j (by omega))
        refine g_iload_n X dX9_row_48 3 rfl ?_
        refine g_if_ne X (tgt := 61) dX9_row_49 (by decide) (by omega) (fun c49 => ?_) (fun c49 => ?_)
        · refine g_aload_n X dX9_row_61 0 rfl ?_
          refine g_iload_n X dX9_row_62 2 rfl ?_
          refine g_callSLw X (c_X6_goesOn l D cI cB cJ (q_tape 1) (p1 := p0) r_tape_taken_44 (by first | assumption | omega) (by first | assumption | omega) (by first | assumption | omega)) [4] rfl rfl rfl cv_X6_goesOn uw883 ⟨rfl, rfl, by decide, by decide⟩ rfl rfl (Nat.le_of_ble_eq_true rfl) ⟨Nat.zero_le _, Nat.zero_le _⟩ dX9_row_63 (fun t63 ws63 k63 => ?_)
          obtain ⟨tape_taken_63, r_tape_taken_63, kp0_63, rfl⟩ := k63
          refine ⟨rfl, ?_⟩
          refine g_ws (ws2 := ((wX9 cI cB cJ h q h_tape o_claims o_nextClaims o_bounds o_otherBounds o_ringSearch o_lawReader o_rules o_nextRules o_market o_trial o_kept o_triangles v_hasKept v_table) ++ (wX7 cI cB cJ h_tape q_tape tape_length_44 v_tape_end v_tape_at v_tape_fault v_tape_faultAt v_tape_bytes tape_taken_63))) rfl ?_
          have hF := rwF_e v_tape_bytes p0 p1
          exact hQ _ _ _ _ dX9_row_66 ⟨tape_length_44, tape_taken_63, (by omega), r_tape_taken_63, (by first | assumption | omega), (by first | assumption | omega), rfl⟩
        · refine g_aload_n X dX9_row_52 0 rfl ?_
          refine g_iload_n X dX9_row_53 2 rfl ?_
          refine g_callSIw X (c_X6_depth l D cI cB cJ (q_tape 1) (p1 := p0) r_tape_taken_44 (by first | assumption | omega) (by first | assumption | omega) (by first | assumption | omega)) [4] rfl rfl rfl cv_X6_depth uw874 ⟨rfl, rfl, by decide, by decide⟩ rfl rfl (Nat.le_of_ble_eq_true rfl) ⟨Nat.zero_le _, Nat.zero_le _⟩ dX9_row_54 (fun t54 ws54 k54 => ?_)
          obtain ⟨tape_taken_54, r_tape_taken_54, kp0_54, kp1_54, rfl⟩ := k54
          refine ⟨rfl, ?_⟩
          refine g_ws (ws2 := ((wX9 cI cB cJ h q h_tape o_claims o_nextClaims o_bounds o_otherBounds o_ringSearch o_lawReader o_rules o_nextRules o_market o_trial o_kept o_triangles v_hasKept v_table) ++ (wX7 cI cB cJ h_tape q_tape tape_length_44 v_tape_end v_tape_at v_tape_fault v_tape_faultAt v_tape_bytes tape_taken_54))) rfl ?_
          refine g_i2l X dX9_row_57 (by omega) ?_
          refine g_goto X (tgt := 66) dX9_row_58 (by decide) ?_
          have hF := rwF_e v_tape_bytes p0 p1
          exact hQ _ _ _ _ dX9_row_66 ⟨tape_length_44, tape_taken_54, (by omega), r_tape_taken_54, (by first | assumption | omega), (by first | assumption | omega), rfl⟩
      · clear kb_29
        replace kp0_29 := (kp0_29.resolve_left (fun h => absurd h.1 (by omega))).2
        refine g_ldc2 X (z := (-9223372036854775808)) dX9_row_35 uw868 (by decide) ?_
        exact hQ _ _ _ _ dX9_row_38 ⟨v_tape_length, v_tape_taken, (by omega), r_v_tape_taken, (by first | assumption | omega), (by first | assumption | omega), rfl⟩
set_option maxHeartbeats 600000 in
set_option maxRecDepth 100000 in
theorem c_X9_walk (l : Launch) (D : va_G) (cI cB cJ : ClassId) (h : Nat) (q : Nat → Nat) (h_tape : Nat) (q_tape : Nat → Nat) {o_claims : Nat} {o_nextClaims : Nat} {o_bounds : Nat} {o_otherBounds : Nat} {o_ringSearch : Nat} {o_lawReader : Nat} {o_rules : Nat} {o_nextRules : Nat} {o_market : Nat} {o_trial : Nat} {o_kept : Nat} {o_triangles : Nat} {v_hasKept v_tape_length v_tape_end v_tape_at v_tape_fault v_tape_faultAt : Int} {v_table v_tape_bytes v_tape_taken : Nat → Int} {p0 p1 : Int} (kr_v_tape_length : 0 ≤ v_tape_length ∧ v_tape_length ≤ 260) (r_v_tape_bytes : RA 0 255 v_tape_bytes) (r_v_tape_taken : RA (-2147483648) 2147483647 v_tape_taken) (hp0 : IR p0) (hp1 : IR p1) : CtI l yX9_walk cX9_walk 5 (some .int) ⟨2, 0, 0, 66⟩ D (TY cI cB cJ) ((wX9 cI cB cJ h q h_tape o_claims o_nextClaims o_bounds o_otherBounds o_ringSearch o_lawReader o_rules o_nextRules o_market o_trial o_kept o_triangles v_hasKept v_table) ++ (wX7 cI cB cJ h_tape q_tape v_tape_length v_tape_end v_tape_at v_tape_fault v_tape_faultAt v_tape_bytes v_tape_taken)) [.ref h, vI p0, vI p1] (fun z ws' => ∃ n_tape_length : Int, ∃ n_tape_taken : Nat → Int, (0 ≤ n_tape_length ∧ n_tape_length ≤ 260) ∧ (RA (-2147483648) 2147483647 n_tape_taken) ∧ (IR z) ∧ ((0 ≤ p1 ∧ p1 ≤ 3 ∧ 1 ≤ p0 ∧ p0 ≤ 20 ∧ p0 ≤ v_tape_length ∧ n_tape_length = 0) ∨ (¬ (0 ≤ p1 ∧ p1 ≤ 3 ∧ 1 ≤ p0 ∧ p0 ≤ 20 ∧ p0 ≤ v_tape_length) ∧ n_tape_length = v_tape_length)) ∧ (((0 ≤ p1 ∧ p1 ≤ 3 ∧ 1 ≤ p0 ∧ p0 ≤ 20 ∧ p0 ≤ v_tape_length) ∧ z = wkF (wkS v_tape_bytes) p0 p1) ∨ (¬ (0 ≤ p1 ∧ p1 ≤ 3 ∧ 1 ≤ p0 ∧ p0 ≤ 20 ∧ p0 ≤ v_tape_length) ∧ z = -1000000)) ∧ (ws' = ((wX9 cI cB cJ h q h_tape o_claims o_nextClaims o_bounds o_otherBounds o_ringSearch o_lawReader o_rules o_nextRules o_market o_trial o_kept o_triangles v_hasKept v_table) ++ (wX7 cI cB cJ h_tape q_tape n_tape_length v_tape_end v_tape_at v_tape_fault v_tape_faultAt v_tape_bytes n_tape_taken)))) := by
  refine hdrI (own := RX9) rfl (by decide +kernel) (Nat.le_of_ble_eq_true rfl) ?_
  intro p e s m args below meth c Q A X hQ
  refine g_lvE (lv2 := [(0, .ref h), (1, vI p0), (2, vI p1)]) rfl ?_
  refine g_iload_n X dX9_walk_0 2 rfl ?_
  refine g_iconst X dX9_walk_1 ?_
  refine g_iconst X dX9_walk_2 ?_
  refine g_callSIE X (c_X9_isFrom l D cI cB cJ (p0 := p1) (p1 := 0) (p2 := 3) (by first | assumption | omega) (by first | assumption | omega) (by first | assumption | omega)) cv_X9_isFrom uw719 ⟨rfl, rfl, by decide, by decide⟩ rfl rfl (Nat.le_of_ble_eq_true rfl) ⟨Nat.zero_le _, Nat.zero_le _⟩ dX9_walk_3 (fun t3 ws3 k3 => ?_)
  obtain ⟨kb_3, ⟨kp0_3, rfl⟩⟩ := k3
  refine g_if_eq X (tgt := 23) dX9_walk_6 (by decide) (by omega) (fun c6 => ?_) (fun c6 => ?_)
  · clear kb_3
    replace kp0_3 := (kp0_3.resolve_left (fun h => absurd h.1 (by omega))).2
    refine g_ldc X (z := (-1000000)) dX9_walk_23 uw725 (by decide) ?_
    exact hQ _ _ _ _ dX9_walk_25 ⟨v_tape_length, v_tape_taken, (by omega), r_v_tape_taken, (by first | assumption | omega), (by first | assumption | omega), (by first | assumption | omega), rfl⟩
  · replace kb_3 := kb_3.resolve_left (fun h => c6 h)
    replace kp0_3 := kp0_3.resolve_right (fun h => c6 h.1)
    refine g_aload_n X dX9_walk_9 0 rfl ?_
    refine gX9_get X 0 rfl 0 (by decide) uw411 rfl dX9_walk_10 ?_
    refine g_iload_n X dX9_walk_13 1 rfl ?_
    refine g_iconst X dX9_walk_14 ?_
    refine g_bipush X (z := 20) dX9_walk_15 (by decide) ?_
    refine g_callVIw X (c_X7_has l D cI cB cJ h_tape q_tape (p0 := p0) (p1 := 1) (p2 := 20) (by omega) (by first | assumption | omega) (by first | assumption | omega) (by first | assumption | omega)) [2, 3, 4] rfl rfl rfl cv_X7_has uw473 ⟨rfl, rfl, by decide, by decide⟩ 0 rfl rfl rfl rfl rfl (Nat.le_of_ble_eq_true rfl) ⟨Nat.zero_le _, Nat.zero_le _⟩ dX9_walk_17 (fun t17 ws17 k17 => ?_)
    obtain ⟨kb_17, ⟨kp0_17, rfl⟩⟩ := k17
    refine ⟨rfl, ?_⟩
    refine g_ws (ws2 := ((wX9 cI cB cJ h q h_tape o_claims o_nextClaims o_bounds o_otherBounds o_ringSearch o_lawReader o_rules o_nextRules o_market o_trial o_kept o_triangles v_hasKept v_table) ++ (wX7 cI cB cJ h_tape q_tape v_tape_length v_tape_end v_tape_at v_tape_fault v_tape_faultAt v_tape_bytes v_tape_taken))) rfl ?_
    refine g_if_ne X (tgt := 26) dX9_walk_20 (by decide) (by omega) (fun c20 => ?_) (fun c20 => ?_)
    · replace kb_17 := kb_17.resolve_left (fun h => c20 h)
      replace kp0_17 := kp0_17.resolve_right (fun h => c20 h.1)
      refine g_aload_n X dX9_walk_26 0 rfl ?_
      refine gX9_get X 0 rfl 0 (by decide) uw411 rfl dX9_walk_27 ?_
      refine g_iload_n X dX9_walk_30 1 rfl ?_
      refine g_callVRw X (c_X7_take l D cI cB cJ h_tape q_tape (p0 := p0) (by omega) r_v_tape_bytes r_v_tape_taken (by first | assumption | omega) (by first | assumption | omega)) [2, 3, 4] rfl rfl rfl cv_X7_take uw890 ⟨rfl, rfl, by decide, by decide⟩ 0 rfl rfl rfl rfl rfl (Nat.le_of_ble_eq_true rfl) ⟨Nat.zero_le _, Nat.zero_le _⟩ dX9_walk_31 (fun t31 ws31 k31 => ?_)
      obtain ⟨rfl, ⟨tape_length_31, tape_taken_31, kr_tape_length_31, r_tape_taken_31, kp0_31, kp1_31, kp2_31, rfl⟩⟩ := k31
      refine ⟨rfl, ?_⟩
      refine g_ws (ws2 := ((wX9 cI cB cJ h q h_tape o_claims o_nextClaims o_bounds o_otherBounds o_ringSearch o_lawReader o_rules o_nextRules o_market o_trial o_kept o_triangles v_hasKept v_table) ++ (wX7 cI cB cJ h_tape q_tape tape_length_31 v_tape_end v_tape_at v_tape_fault v_tape_faultAt v_tape_bytes tape_taken_31))) rfl ?_
      refine g_astore_n X (lv' := [(3, .ref (q_tape 1)), (0, .ref h), (1, vI p0), (2, vI p1)]) dX9_walk_34 (by decide) rfl ?_
      refine g_iconst X dX9_walk_35 ?_
      refine g_istore X (lv' := [(4, vI 0), (3, .ref (q_tape 1)), (0, .ref h), (1, vI p0), (2, vI p1)]) dX9_walk_36 (by decide) rfl ?_
      have L38 : ∀ (n : Nat) (x4_38 : Int) (tape_taken_38 : Nat → Int), (RA (-2147483648) 2147483647 tape_taken_38) → (0 ≤ x4_38 ∧ x4_38 ≤ p0) → (∀ j : Nat, (j : Int) < x4_38 → tape_taken_38 j = sgn8 (v_tape_bytes j)) → (∀ j : Nat, x4_38 ≤ (j : Int) → (j : Int) < p0 → tape_taken_38 j = v_tape_bytes j) → (p0 - x4_38).toNat < n → GG p l e ⟨2, 0, 0, 66⟩ s m args below meth c 0 0 Q D A s.heap 5 ((wX9 cI cB cJ h q h_tape o_claims o_nextClaims o_bounds o_otherBounds o_ringSearch o_lawReader o_rules o_nextRules o_market o_trial o_kept o_triangles v_hasKept v_table) ++ (wX7 cI cB cJ h_tape q_tape tape_length_31 v_tape_end v_tape_at v_tape_fault v_tape_faultAt v_tape_bytes tape_taken_38)) 38 [(1, vI p0), (2, vI p1), (3, .ref (q_tape 1)), (4, vI x4_38)] [] := by
        intro n
        induction n with
        | zero => intros; exfalso; omega
        | succ n ih38 =>
          intro x4_38 tape_taken_38 r_tape_taken_38 w38_0 w38_1 w38_2 wm38
          refine g_iload X dX9_walk_38 3 rfl ?_
          refine g_iload_n X dX9_walk_40 0 rfl ?_
          refine g_icmp_ge X (tgt := 78) dX9_walk_41 (by decide) (by omega) (by omega) (fun c41 => ?_) (fun c41 => ?_)
          · have hB : ∀ j : Nat, (j : Int) < p0 → -128 ≤ tape_taken_38 j ∧ tape_taken_38 j ≤ 127 := fun j hj => by rw [w38_1 j (by omega)]; exact sgn8_r (r_v_tape_bytes j)
            have hC : ∀ j : Nat, (j : Int) < p0 → tape_taken_38 j = wkS v_tape_bytes j := fun j hj => w38_1 j (by omega)
            refine g_iload_n X dX9_walk_78 1 rfl ?_
            refine g_iconst X dX9_walk_79 ?_
            refine g_icmp_ne X (tgt := 91) dX9_walk_80 (by decide) (by omega) (by omega) (fun c80 => ?_) (fun c80 => ?_)
            · refine g_aload_n X dX9_walk_91 2 rfl ?_
              refine g_iload_n X dX9_walk_92 0 rfl ?_
              refine g_iload_n X dX9_walk_93 1 rfl ?_
              refine g_callSIw X (c_X6_placeOfWalk l D cI cB cJ (q_tape 1) (p1 := p0) (p2 := p1) r_tape_taken_38 (by first | assumption | omega) (by first | assumption | omega) (by first | assumption | omega) (by first | assumption | omega) (by first | assumption | omega)) [4] rfl rfl rfl cv_X6_placeOfWalk uw897 ⟨rfl, rfl, by decide, by decide⟩ rfl rfl (Nat.le_of_ble_eq_true rfl) ⟨Nat.zero_le _, Nat.zero_le _⟩ dX9_walk_94 (fun t94 ws94 k94 => ?_)
              obtain ⟨kp0_94, kp1_94, rfl⟩ := k94
              refine ⟨rfl, ?_⟩
              refine g_ws (ws2 := ((wX9 cI cB cJ h q h_tape o_claims o_nextClaims o_bounds o_otherBounds o_ringSearch o_lawReader o_rules o_nextRules o_market o_trial o_kept o_triangles v_hasKept v_table) ++ (wX7 cI cB cJ h_tape q_tape tape_length_31 v_tape_end v_tape_at v_tape_fault v_tape_faultAt v_tape_bytes tape_taken_38))) rfl ?_
              have hF : t94 = wkF (wkS v_tape_bytes) p0 p1 := by first | exact kp1_94.trans (wkF_c p1 hC) | (rw [← wkF_c p1 hC]; have := wkF_e tape_taken_38 p0 p1 (by omega); omega)
              exact hQ _ _ _ _ dX9_walk_97 ⟨tape_length_31, tape_taken_38, (by omega), r_tape_taken_38, (by first | assumption | omega), (by first | assumption | omega), (by first | assumption | omega), rfl⟩
            · refine g_aload_n X dX9_walk_83 2 rfl ?_
              refine g_iload_n X dX9_walk_84 0 rfl ?_
              refine g_callSIw X (c_X6_turns l D cI cB cJ (q_tape 1) (p1 := p0) r_tape_taken_38 (by first | assumption | omega) (by first | assumption | omega)) [4] rfl rfl rfl cv_X6_turns uw894 ⟨rfl, rfl, by decide, by decide⟩ rfl rfl (Nat.le_of_ble_eq_true rfl) ⟨Nat.zero_le _, Nat.zero_le _⟩ dX9_walk_85 (fun t85 ws85 k85 => ?_)
              obtain ⟨kp0_85, kp1_85, rfl⟩ := k85
              refine ⟨rfl, ?_⟩
              refine g_ws (ws2 := ((wX9 cI cB cJ h q h_tape o_claims o_nextClaims o_bounds o_otherBounds o_ringSearch o_lawReader o_rules o_nextRules o_market o_trial o_kept o_triangles v_hasKept v_table) ++ (wX7 cI cB cJ h_tape q_tape tape_length_31 v_tape_end v_tape_at v_tape_fault v_tape_faultAt v_tape_bytes tape_taken_38))) rfl ?_
              refine g_goto X (tgt := 97) dX9_walk_88 (by decide) ?_
              have hF : t85 = wkF (wkS v_tape_bytes) p0 p1 := by first | exact kp1_94.trans (wkF_c p1 hC) | (rw [← wkF_c p1 hC]; have := wkF_e tape_taken_38 p0 p1 (by omega); omega)
              exact hQ _ _ _ _ dX9_walk_97 ⟨tape_length_31, tape_taken_38, (by omega), r_tape_taken_38, (by first | assumption | omega), (by first | assumption | omega), (by first | assumption | omega), rfl⟩
          · refine g_aload_n X dX9_walk_44 2 rfl ?_
            refine g_iload X dX9_walk_45 3 rfl ?_
            refine g_aload_n X dX9_walk_47 2 rfl ?_
            refine g_iload X dX9_walk_48 3 rfl ?_
            refine g_iald X 4 0 rfl rfl (by omega) (by decide) dX9_walk_50 (fun t50 e50 => ?_)
            have r50 := r_tape_taken_38 (x4_38 : Int).toNat; rw [← e50] at r50
            have b50 := w38_2 (x4_38).toNat (by omega) (by omega)
            have f50 := r_v_tape_bytes (x4_38).toNat
            refine g_bipush X (z := 127) dX9_walk_51 (by decide) ?_
            refine g_icmp_le X (tgt := 67) dX9_walk_53 (by decide) (by omega) (by omega) (fun c53 => ?_) (fun c53 => ?_)
            · refine g_aload_n X dX9_walk_67 2 rfl ?_
              refine g_iload X dX9_walk_68 3 rfl ?_
              refine g_iald X 4 0 rfl rfl (by omega) (by decide) dX9_walk_70 (fun t70 e70 => ?_)
              have r70 := r_tape_taken_38 (x4_38 : Int).toNat; rw [← e70] at r70
              have b70 := w38_2 (x4_38).toNat (by omega) (by omega)
              have f70 := r_v_tape_bytes (x4_38).toNat
              have hs71 : t70 = sgn8 (v_tape_bytes (x4_38).toNat) := by first | (rw [← b59, ← e59]; exact sgn8_p (by omega)) | (rw [← b70, ← e70]; exact sgn8_n (by omega))
              refine g_iast X 4 0 rfl rfl (by omega) (by decide) dX9_walk_71 (fun tape_taken_71 e71 => ?_)
              have r_tape_taken_71 : RA (-2147483648) 2147483647 tape_taken_71 := by rw [e71]; exact RA_up r_tape_taken_38 (by omega)
              refine g_ws (ws2 := ((wX9 cI cB cJ h q h_tape o_claims o_nextClaims o_bounds o_otherBounds o_ringSearch o_lawReader o_rules o_nextRules o_market o_trial o_kept o_triangles v_hasKept v_table) ++ (wX7 cI cB cJ h_tape q_tape tape_length_31 v_tape_end v_tape_at v_tape_fault v_tape_faultAt v_tape_bytes tape_taken_71))) rfl ?_
              refine g_iinc X (lv' := [(4, vI (x4_38 + 1)), (1, vI p0), (2, vI p1), (3, .ref (q_tape 1))]) dX9_walk_72 3 rfl (by decide) rfl ?_
              refine g_goto X (tgt := 38) dX9_walk_75 (by decide) ?_
              refine g_lv [1, 2, 3, 0] rfl ?_
              exact ih38 (x4_38 + 1) tape_taken_71 r_tape_taken_71 (by first | assumption | omega) (by intro j hj; first | (exfalso; omega) | (rw [e71]; exact if hq : j = (x4_38).toNat then by (rw [hq, updZ_s]; exact hs71) else by (rw [updZ_n _ _ hq]; exact w38_1 j (by omega)))) (by intro j h1 h2; first | exact kp2_31 j h2 | (rw [e71, updZ_n _ _ (by omega)]; exact w38_2 j (by omega) h2)) (by omega)
            · refine g_aload_n X dX9_walk_56 2 rfl ?_
              refine g_iload X dX9_walk_57 3 rfl ?_
              refine g_iald X 4 0 rfl rfl (by omega) (by decide) dX9_walk_59 (fun t59 e59 => ?_)
              have r59 := r_tape_taken_38 (x4_38 : Int).toNat; rw [← e59] at r59
              have b59 := w38_2 (x4_38).toNat (by omega) (by omega)
              have f59 := r_v_tape_bytes (x4_38).toNat
              refine g_sipush X (z := 256) dX9_walk_60 (by decide) ?_
              refine g_isub X dX9_walk_63 ?_
              refine g_goto X (tgt := 71) dX9_walk_64 (by decide) ?_
              have hs71 : (t59 - 256) = sgn8 (v_tape_bytes (x4_38).toNat) := by first | (rw [← b59, ← e59]; exact sgn8_p (by omega)) | (rw [← b70, ← e70]; exact sgn8_n (by omega))
              refine g_iast X 4 0 rfl rfl (by omega) (by decide) dX9_walk_71 (fun tape_taken_71 e71 => ?_)
              have r_tape_taken_71 : RA (-2147483648) 2147483647 tape_taken_71 := by rw [e71]; exact RA_up r_tape_taken_38 (by omega)
              refine g_ws (ws2 := ((wX9 cI cB cJ h q h_tape o_claims o_nextClaims o_bounds o_otherBounds o_ringSearch o_lawReader o_rules o_nextRules o_market o_trial o_kept o_triangles v_hasKept v_table) ++ (wX7 cI cB cJ h_tape q_tape tape_length_31 v_tape_end v_tape_at v_tape_fault v_tape_faultAt v_tape_bytes tape_taken_71))) rfl ?_
              refine g_iinc X (lv' := [(4, vI (x4_38 + 1)), (1, vI p0), (2, vI p1), (3, .ref (q_tape 1))]) dX9_walk_72 3 rfl (by decide) rfl ?_
              refine g_goto X (tgt := 38) dX9_walk_75 (by decide) ?_
              refine g_lv [1, 2, 3, 0] rfl ?_
              exact ih38 (x4_38 + 1) tape_taken_71 r_tape_taken_71 (by first | assumption | omega) (by intro j hj; first | (exfalso; omega) | (rw [e71]; exact if hq : j = (x4_38).toNat then by (rw [hq, updZ_s]; exact hs71) else by (rw [updZ_n _ _ hq]; exact w38_1 j (by omega)))) (by intro j h1 h2; first | exact kp2_31 j h2 | (rw [e71, updZ_n _ _ (by omega)]; exact w38_2 j (by omega) h2)) (by omega)
      refine g_lv [3, 4, 1, 0] rfl ?_
      exact L38 _ 0 tape_taken_31 r_tape_taken_31 (by first | assumption | omega) (by intro j hj; first | (exfalso; omega) | (rw [e71]; exact if hq : j = (x4_38).toNat then by (rw [hq, updZ_s]; exact hs71) else by (rw [updZ_n _ _ hq]; exact w38_1 j (by omega)))) (by intro j h1 h2; first | exact kp2_31 j h2 | (rw [e71, updZ_n _ _ (by omega)]; exact w38_2 j (by omega) h2)) (Nat.lt_succ_self _)
    · clear kb_17
      replace kp0_17 := (kp0_17.resolve_left (fun h => absurd h.1 (by omega))).2
      refine g_ldc X (z := (-1000000)) dX9_walk_23 uw725 (by decide) ?_
      exact hQ _ _ _ _ dX9_walk_25 ⟨v_tape_length, v_tape_taken, (by omega), r_v_tape_taken, (by first | assumption | omega), (by first | assumption | omega), (by first | assumption | omega), rfl⟩
set_option maxHeartbeats 600000 in
set_option maxRecDepth 100000 in
theorem c_X9_round (l : Launch) (D : va_G) (cI cB cJ : ClassId) (h : Nat) (q : Nat → Nat) (h_tape : Nat) (q_tape : Nat → Nat) {o_claims : Nat} {o_nextClaims : Nat} {o_bounds : Nat} {o_otherBounds : Nat} {o_ringSearch : Nat} {o_lawReader : Nat} {o_rules : Nat} {o_nextRules : Nat} {o_market : Nat} {o_trial : Nat} {o_kept : Nat} {o_triangles : Nat} {v_hasKept v_tape_length v_tape_end v_tape_at v_tape_fault v_tape_faultAt : Int} {v_table v_tape_bytes v_tape_taken : Nat → Int} {p0 p1 : Int} (kr_v_tape_length : 0 ≤ v_tape_length ∧ v_tape_length ≤ 260) (r_v_tape_bytes : RA 0 255 v_tape_bytes) (r_v_tape_taken : RA (-2147483648) 2147483647 v_tape_taken) (hp0 : IR p0) (hp1 : IR p1) : CtI l yX9_round cX9_round 8 (some .int) ⟨3, 0, 0, 95⟩ D (TY cI cB cJ) ((wX9 cI cB cJ h q h_tape o_claims o_nextClaims o_bounds o_otherBounds o_ringSearch o_lawReader o_rules o_nextRules o_market o_trial o_kept o_triangles v_hasKept v_table) ++ (wX7 cI cB cJ h_tape q_tape v_tape_length v_tape_end v_tape_at v_tape_fault v_tape_faultAt v_tape_bytes v_tape_taken)) [.ref h, vI p0, vI p1] (fun z ws' => ∃ n_tape_length : Int, ∃ n_tape_taken : Nat → Int, (0 ≤ n_tape_length ∧ n_tape_length ≤ 260) ∧ (RA (-2147483648) 2147483647 n_tape_taken) ∧ (IR z) ∧ ((0 ≤ p1 ∧ p1 ≤ 2 ∧ 2 ≤ p0 ∧ p0 ≤ 8 ∧ p0 ≤ v_tape_length ∧ n_tape_length = 0) ∨ (¬ (0 ≤ p1 ∧ p1 ≤ 2 ∧ 2 ≤ p0 ∧ p0 ≤ 8 ∧ p0 ≤ v_tape_length) ∧ n_tape_length = v_tape_length)) ∧ (ws' = ((wX9 cI cB cJ h q h_tape o_claims o_nextClaims o_bounds o_otherBounds o_ringSearch o_lawReader o_rules o_nextRules o_market o_trial o_kept o_triangles v_hasKept v_table) ++ (wX7 cI cB cJ h_tape q_tape n_tape_length v_tape_end v_tape_at v_tape_fault v_tape_faultAt v_tape_bytes n_tape_taken)))) := by
  refine hdrI (own := RX9) rfl (by decide +kernel) (Nat.le_of_ble_eq_true rfl) ?_
  intro p e s m args below meth c Q A X hQ
  refine g_lvE (lv2 := [(0, .ref h), (1, vI p0), (2, vI p1)]) rfl ?_
  refine g_iload_n X dX9_round_0 2 rfl ?_
  refine g_iconst X dX9_round_1 ?_
  refine g_iconst X dX9_round_2 ?_
  refine g_callSIE X (c_X9_isFrom l D cI cB cJ (p0 := p1) (p1 := 0) (p2 := 2) (by first | assumption | omega) (by first | assumption | omega) (by first | assumption | omega)) cv_X9_isFrom uw719 ⟨rfl, rfl, by decide, by decide⟩ rfl rfl (Nat.le_of_ble_eq_true rfl) ⟨Nat.zero_le _, Nat.zero_le _⟩ dX9_round_3 (fun t3 ws3 k3 => ?_)
  obtain ⟨kb_3, ⟨kp0_3, rfl⟩⟩ := k3
  refine g_if_eq X (tgt := 23) dX9_round_6 (by decide) (by omega) (fun c6 => ?_) (fun c6 => ?_)
  · clear kb_3
    replace kp0_3 := (kp0_3.resolve_left (fun h => absurd h.1 (by omega))).2
    refine g_iconst X dX9_round_23 ?_
    exact hQ _ _ _ _ dX9_round_24 ⟨v_tape_length, v_tape_taken, (by omega), r_v_tape_taken, (by first | assumption | omega), (by first | assumption | omega), rfl⟩
  · replace kb_3 := kb_3.resolve_left (fun h => c6 h)
    replace kp0_3 := kp0_3.resolve_right (fun h => c6 h.1)
    refine g_aload_n X dX9_round_9 0 rfl ?_
    refine gX9_get X 0 rfl 0 (by decide) uw411 rfl dX9_round_10 ?_
    refine g_iload_n X dX9_round_13 1 rfl ?_
    refine g_iconst X dX9_round_14 ?_
    refine g_bipush X (z := 8) dX9_round_15 (by decide) ?_
    refine g_callVIw X (c_X7_has l D cI cB cJ h_tape q_tape (p0 := p0) (p1 := 2) (p2 := 8) (by omega) (by first | assumption | omega) (by first | assumption | omega) (by first | assumption | omega)) [2, 3, 4] rfl rfl rfl cv_X7_has uw473 ⟨rfl, rfl, by decide, by decide⟩ 0 rfl rfl rfl rfl rfl (Nat.le_of_ble_eq_true rfl) ⟨Nat.zero_le _, Nat.zero_le _⟩ dX9_round_17 (fun t17 ws17 k17 => ?_)
    obtain ⟨kb_17, ⟨kp0_17, rfl⟩⟩ := k17
    refine ⟨rfl, ?_⟩
    refine g_ws (ws2 := ((wX9 cI cB cJ h q h_tape o_claims o_nextClaims o_bounds o_otherBounds o_ringSearch o_lawReader o_rules o_nextRules o_market o_trial o_kept o_triangles v_hasKept v_table) ++ (wX7 cI cB cJ h_tape q_tape v_tape_length v_tape_end v_tape_at v_tape_fault v_tape_faultAt v_tape_bytes v_tape_taken))) rfl ?_
    refine g_if_ne X (tgt := 25) dX9_round_20 (by decide) (by omega) (fun c20 => ?_) (fun c20 => ?_)
    · replace kb_17 := kb_17.resolve_left (fun h => c20 h)
      replace kp0_17 := kp0_17.resolve_right (fun h => c20 h.1)
      refine g_aload_n X dX9_round_25 0 rfl ?_
      refine gX9_get X 0 rfl 0 (by decide) uw411 rfl dX9_round_26 ?_
      refine g_iload_n X dX9_round_29 1 rfl ?_
      refine g_callVRw X (c_X7_take l D cI cB cJ h_tape q_tape (p0 := p0) (by omega) r_v_tape_bytes r_v_tape_taken (by first | assumption | omega) (by first | assumption | omega)) [2, 3, 4] rfl rfl rfl cv_X7_take uw890 ⟨rfl, rfl, by decide, by decide⟩ 0 rfl rfl rfl rfl rfl (Nat.le_of_ble_eq_true rfl) ⟨Nat.zero_le _, Nat.zero_le _⟩ dX9_round_30 (fun t30 ws30 k30 => ?_)
      obtain ⟨rfl, ⟨tape_length_30, tape_taken_30, kr_tape_length_30, r_tape_taken_30, kp0_30, kp1_30, kp2_30, rfl⟩⟩ := k30
      refine ⟨rfl, ?_⟩
      refine g_ws (ws2 := ((wX9 cI cB cJ h q h_tape o_claims o_nextClaims o_bounds o_otherBounds o_ringSearch o_lawReader o_rules o_nextRules o_market o_trial o_kept o_triangles v_hasKept v_table) ++ (wX7 cI cB cJ h_tape q_tape tape_length_30 v_tape_end v_tape_at v_tape_fault v_tape_faultAt v_tape_bytes tape_taken_30))) rfl ?_
      refine g_iload_n X dX9_round_33 1 rfl ?_
      refine g_callSLw X (c_X6_packed l D cI cB cJ (q_tape 1) (p1 := p0) r_tape_taken_30 (by first | assumption | omega) (by first | assumption | omega)) [4] rfl rfl rfl cv_X6_packed uw906 ⟨rfl, rfl, by decide, by decide⟩ rfl rfl (Nat.le_of_ble_eq_true rfl) ⟨Nat.zero_le _, Nat.zero_le _⟩ dX9_round_34 (fun t34 ws34 k34 => ?_)
      obtain rfl := k34
      refine ⟨rfl, ?_⟩
      refine g_ws (ws2 := ((wX9 cI cB cJ h q h_tape o_claims o_nextClaims o_bounds o_otherBounds o_ringSearch o_lawReader o_rules o_nextRules o_market o_trial o_kept o_triangles v_hasKept v_table) ++ (wX7 cI cB cJ h_tape q_tape tape_length_30 v_tape_end v_tape_at v_tape_fault v_tape_faultAt v_tape_bytes tape_taken_30))) rfl ?_
      refine g_lstore_n X (lv' := [(3, .long (zL t34)), (0, .ref h), (1, vI p0), (2, vI p1)]) dX9_round_37 (by decide) rfl ?_
      refine g_lload_n X dX9_round_38 0 rfl ?_
      refine g_iload_n X dX9_round_39 2 rfl ?_
      refine g_callSIE X (c_X6_rowsAheadOfRing l D cI cB cJ (p0 := t34) (p1 := p0) (by first | assumption | omega) (by first | assumption | omega)) cv_X6_rowsAheadOfRing uw909 ⟨rfl, rfl, by decide, by decide⟩ rfl rfl (Nat.le_of_ble_eq_true rfl) ⟨Nat.zero_le _, Nat.zero_le _⟩ dX9_round_40 (fun t40 ws40 k40 => ?_)
      obtain ⟨kp0_40, rfl⟩ := k40
      refine g_istore X (lv' := [(5, vI t40), (3, .long (zL t34)), (0, .ref h), (1, vI p0), (2, vI p1)]) dX9_round_43 (by decide) rfl ?_
      refine g_lload_n X dX9_round_45 1 rfl ?_
      refine g_iload_n X dX9_round_46 3 rfl ?_
      refine g_iload X dX9_round_47 0 rfl ?_
      refine g_callSLE X (c_X6_after l D cI cB cJ (p0 := t34) (p1 := p0) (p2 := t40) (by first | assumption | omega) (by first | assumption | omega) (by first | assumption | omega)) cv_X6_after uw919 ⟨rfl, rfl, by decide, by decide⟩ rfl rfl (Nat.le_of_ble_eq_true rfl) ⟨Nat.zero_le _, Nat.zero_le _⟩ dX9_round_49 (fun t49 ws49 k49 => ?_)
      obtain rfl := k49
      refine g_lstore X (lv' := [(6, .long (zL t49)), (5, vI t40), (3, .long (zL t34)), (0, .ref h), (1, vI p0), (2, vI p1)]) dX9_round_52 (by decide) rfl ?_
      refine g_iload_n X dX9_round_54 5 rfl ?_
      refine g_if_ne X (tgt := 73) dX9_round_55 (by decide) (by omega) (fun c55 => ?_) (fun c55 => ?_)
      · refine g_iload_n X dX9_round_73 5 rfl ?_
        refine g_iconst X dX9_round_74 ?_
        refine g_icmp_ne X (tgt := 87) dX9_round_75 (by decide) (by omega) (by omega) (fun c75 => ?_) (fun c75 => ?_)
        · refine g_iload X dX9_round_87 1 rfl ?_
          exact hQ _ _ _ _ dX9_round_89 ⟨tape_length_30, tape_taken_30, (by omega), r_tape_taken_30, (by first | assumption | omega), (by first | assumption | omega), rfl⟩
        · refine g_lload X dX9_round_78 0 rfl ?_
          refine g_iload_n X dX9_round_80 4 rfl ?_
          refine g_callSIE X (c_X6_rowsInRing l D cI cB cJ (p0 := t49) (p1 := p0) (by first | assumption | omega) (by first | assumption | omega)) cv_X6_rowsInRing uw922 ⟨rfl, rfl, by decide, by decide⟩ rfl rfl (Nat.le_of_ble_eq_true rfl) ⟨Nat.zero_le _, Nat.zero_le _⟩ dX9_round_81 (fun t81 ws81 k81 => ?_)
          obtain ⟨kp0_81, rfl⟩ := k81
          refine g_goto X (tgt := 89) dX9_round_84 (by decide) ?_
          exact hQ _ _ _ _ dX9_round_89 ⟨tape_length_30, tape_taken_30, (by omega), r_tape_taken_30, (by first | assumption | omega), (by first | assumption | omega), rfl⟩
      · refine g_lload X dX9_round_58 0 rfl ?_
        refine g_lconst X (z := 0) dX9_round_60 rfl ?_
        refine g_lcmp X dX9_round_61 (fun t61 r61 => ?_)
        refine g_if_ne X (tgt := 70) dX9_round_62 (by decide) (by omega) (fun c62 => ?_) (fun c62 => ?_)
        · refine g_bipush X (z := (-2)) dX9_round_70 (by decide) ?_
          exact hQ _ _ _ _ dX9_round_72 ⟨tape_length_30, tape_taken_30, (by omega), r_tape_taken_30, (by first | assumption | omega), (by first | assumption | omega), rfl⟩
        · refine g_iload X dX9_round_65 1 rfl ?_
          refine g_goto X (tgt := 72) dX9_round_67 (by decide) ?_
          exact hQ _ _ _ _ dX9_round_72 ⟨tape_length_30, tape_taken_30, (by omega), r_tape_taken_30, (by first | assumption | omega), (by first | assumption | omega), rfl⟩
    · clear kb_17
      replace kp0_17 := (kp0_17.resolve_left (fun h => absurd h.1 (by omega))).2
      refine g_iconst X dX9_round_23 ?_
      exact hQ _ _ _ _ dX9_round_24 ⟨v_tape_length, v_tape_taken, (by omega), r_v_tape_taken, (by first | assumption | omega), (by first | assumption | omega), rfl⟩
set_option maxHeartbeats 600000 in
set_option maxRecDepth 100000 in
theorem c_X9_narrowest (l : Launch) (D : va_G) (cI cB cJ : ClassId) (h : Nat) (q : Nat → Nat) (h_tape : Nat) (q_tape : Nat → Nat) {o_claims : Nat} {o_nextClaims : Nat} {o_bounds : Nat} {o_otherBounds : Nat} {o_ringSearch : Nat} {o_lawReader : Nat} {o_rules : Nat} {o_nextRules : Nat} {o_market : Nat} {o_trial : Nat} {o_kept : Nat} {o_triangles : Nat} {v_hasKept v_tape_length v_tape_end v_tape_at v_tape_fault v_tape_faultAt : Int} {v_table v_tape_bytes v_tape_taken : Nat → Int} {p0 p1 : Int} (kr_v_tape_length : 0 ≤ v_tape_length ∧ v_tape_length ≤ 260) (r_v_tape_bytes : RA 0 255 v_tape_bytes) (r_v_tape_taken : RA (-2147483648) 2147483647 v_tape_taken) (hp0 : IR p0) (hp1 : IR p1) : CtI l yX9_narrowest cX9_narrowest 3 (some .int) ⟨2, 0, 0, 64⟩ D (TY cI cB cJ) ((wX9 cI cB cJ h q h_tape o_claims o_nextClaims o_bounds o_otherBounds o_ringSearch o_lawReader o_rules o_nextRules o_market o_trial o_kept o_triangles v_hasKept v_table) ++ (wX7 cI cB cJ h_tape q_tape v_tape_length v_tape_end v_tape_at v_tape_fault v_tape_faultAt v_tape_bytes v_tape_taken)) [.ref h, vI p0, vI p1] (fun z ws' => ∃ n_tape_length : Int, ∃ n_tape_taken : Nat → Int, (0 ≤ n_tape_length ∧ n_tape_length ≤ 260) ∧ (RA (-2147483648) 2147483647 n_tape_taken) ∧ (IR z) ∧ ((0 ≤ p1 ∧ p1 ≤ p0 - 1 ∧ 1 ≤ p0 ∧ p0 ≤ 20 ∧ p0 ≤ v_tape_length ∧ n_tape_length = 0) ∨ (¬ (0 ≤ p1 ∧ p1 ≤ p0 - 1 ∧ 1 ≤ p0 ∧ p0 ≤ 20 ∧ p0 ≤ v_tape_length) ∧ n_tape_length = v_tape_length)) ∧ (((0 ≤ p1 ∧ p1 ≤ p0 - 1 ∧ 1 ≤ p0 ∧ p0 ≤ 20 ∧ p0 ≤ v_tape_length) ∧ z = nwF v_tape_bytes p0 p1) ∨ (¬ (0 ≤ p1 ∧ p1 ≤ p0 - 1 ∧ 1 ≤ p0 ∧ p0 ≤ 20 ∧ p0 ≤ v_tape_length) ∧ z = -1)) ∧ (ws' = ((wX9 cI cB cJ h q h_tape o_claims o_nextClaims o_bounds o_otherBounds o_ringSearch o_lawReader o_rules o_nextRules o_market o_trial o_kept o_triangles v_hasKept v_table) ++ (wX7 cI cB cJ h_tape q_tape n_tape_length v_tape_end v_tape_at v_tape_fault v_tape_faultAt v_tape_bytes n_tape_taken)))) := by
  refine hdrI (own := RX9) rfl (by decide +kernel) (Nat.le_of_ble_eq_true rfl) ?_
  intro p e s m args below meth c Q A X hQ
  refine g_lvE (lv2 := [(0, .ref h), (1, vI p0), (2, vI p1)]) rfl ?_
  refine g_aload_n X dX9_narrowest_0 0 rfl ?_
  refine gX9_get X 0 rfl 0 (by decide) uw411 rfl dX9_narrowest_1 ?_
  refine g_iload_n X dX9_narrowest_4 1 rfl ?_
  refine g_iconst X dX9_narrowest_5 ?_
  refine g_bipush X (z := 20) dX9_narrowest_6 (by decide) ?_
  refine g_callVIw X (c_X7_has l D cI cB cJ h_tape q_tape (p0 := p0) (p1 := 1) (p2 := 20) (by omega) (by first | assumption | omega) (by first | assumption | omega) (by first | assumption | omega)) [2, 3, 4] rfl rfl rfl cv_X7_has uw473 ⟨rfl, rfl, by decide, by decide⟩ 0 rfl rfl rfl rfl rfl (Nat.le_of_ble_eq_true rfl) ⟨Nat.zero_le _, Nat.zero_le _⟩ dX9_narrowest_8 (fun t8 ws8 k8 => ?_)
  obtain ⟨kb_8, ⟨kp0_8, rfl⟩⟩ := k8
  refine ⟨rfl, ?_⟩
  refine g_ws (ws2 := ((wX9 cI cB cJ h q h_tape o_claims o_nextClaims o_bounds o_otherBounds o_ringSearch o_lawReader o_rules o_nextRules o_market o_trial o_kept o_triangles v_hasKept v_table) ++ (wX7 cI cB cJ h_tape q_tape v_tape_length v_tape_end v_tape_at v_tape_fault v_tape_faultAt v_tape_bytes v_tape_taken))) rfl ?_
  refine g_if_eq X (tgt := 25) dX9_narrowest_11 (by decide) (by omega) (fun c11 => ?_) (fun c11 => ?_)
  · clear kb_8
    replace kp0_8 := (kp0_8.resolve_left (fun h => absurd h.1 (by omega))).2
    refine g_iconst X dX9_narrowest_25 ?_
    exact hQ _ _ _ _ dX9_narrowest_26 ⟨v_tape_length, v_tape_taken, (by omega), r_v_tape_taken, (by first | assumption | omega), (by first | assumption | omega), (by first | assumption | omega), rfl⟩
  · replace kb_8 := kb_8.resolve_left (fun h => c11 h)
    replace kp0_8 := kp0_8.resolve_right (fun h => c11 h.1)
    refine g_iload_n X dX9_narrowest_14 2 rfl ?_
    refine g_iconst X dX9_narrowest_15 ?_
    refine g_iload_n X dX9_narrowest_16 1 rfl ?_
    refine g_iconst X dX9_narrowest_17 ?_
    refine g_isub X dX9_narrowest_18 ?_
    refine g_callSIE X (c_X9_isFrom l D cI cB cJ (p0 := p1) (p1 := 0) (p2 := p0 - 1) (by first | assumption | omega) (by first | assumption | omega) (by first | assumption | omega)) cv_X9_isFrom uw719 ⟨rfl, rfl, by decide, by decide⟩ rfl rfl (Nat.le_of_ble_eq_true rfl) ⟨Nat.zero_le _, Nat.zero_le _⟩ dX9_narrowest_19 (fun t19 ws19 k19 => ?_)
    obtain ⟨kb_19, ⟨kp0_19, rfl⟩⟩ := k19
    refine g_if_ne X (tgt := 27) dX9_narrowest_22 (by decide) (by omega) (fun c22 => ?_) (fun c22 => ?_)
    · replace kb_19 := kb_19.resolve_left (fun h => c22 h)
      replace kp0_19 := kp0_19.resolve_right (fun h => c22 h.1)
      refine g_aload_n X dX9_narrowest_27 0 rfl ?_
      refine gX9_get X 0 rfl 0 (by decide) uw411 rfl dX9_narrowest_28 ?_
      refine g_iload_n X dX9_narrowest_31 1 rfl ?_
      refine g_callVRw X (c_X7_take l D cI cB cJ h_tape q_tape (p0 := p0) (by omega) r_v_tape_bytes r_v_tape_taken (by first | assumption | omega) (by first | assumption | omega)) [2, 3, 4] rfl rfl rfl cv_X7_take uw890 ⟨rfl, rfl, by decide, by decide⟩ 0 rfl rfl rfl rfl rfl (Nat.le_of_ble_eq_true rfl) ⟨Nat.zero_le _, Nat.zero_le _⟩ dX9_narrowest_32 (fun t32 ws32 k32 => ?_)
      obtain ⟨rfl, ⟨tape_length_32, tape_taken_32, kr_tape_length_32, r_tape_taken_32, kp0_32, kp1_32, kp2_32, rfl⟩⟩ := k32
      refine ⟨rfl, ?_⟩
      refine g_ws (ws2 := ((wX9 cI cB cJ h q h_tape o_claims o_nextClaims o_bounds o_otherBounds o_ringSearch o_lawReader o_rules o_nextRules o_market o_trial o_kept o_triangles v_hasKept v_table) ++ (wX7 cI cB cJ h_tape q_tape tape_length_32 v_tape_end v_tape_at v_tape_fault v_tape_faultAt v_tape_bytes tape_taken_32))) rfl ?_
      refine g_iload_n X dX9_narrowest_35 1 rfl ?_
      refine g_iload_n X dX9_narrowest_36 1 rfl ?_
      refine g_iload_n X dX9_narrowest_37 2 rfl ?_
      refine g_isub X dX9_narrowest_38 ?_
      refine g_callSIw X (c_X6_narrowestOf l D cI cB cJ (q_tape 1) (p1 := p0) (p2 := p0 - p1) r_tape_taken_32 (by first | assumption | omega) (by first | assumption | omega) (by first | assumption | omega) (by first | assumption | omega) (by first | assumption | omega)) [4] rfl rfl rfl cv_X6_narrowestOf uw958 ⟨rfl, rfl, by decide, by decide⟩ rfl rfl (Nat.le_of_ble_eq_true rfl) ⟨Nat.zero_le _, Nat.zero_le _⟩ dX9_narrowest_39 (fun t39 ws39 k39 => ?_)
      obtain ⟨tape_taken_39, r_tape_taken_39, kp0_39, kp1_39, rfl⟩ := k39
      refine ⟨rfl, ?_⟩
      refine g_ws (ws2 := ((wX9 cI cB cJ h q h_tape o_claims o_nextClaims o_bounds o_otherBounds o_ringSearch o_lawReader o_rules o_nextRules o_market o_trial o_kept o_triangles v_hasKept v_table) ++ (wX7 cI cB cJ h_tape q_tape tape_length_32 v_tape_end v_tape_at v_tape_fault v_tape_faultAt v_tape_bytes tape_taken_39))) rfl ?_
      have hF : t39 = nwF v_tape_bytes p0 p1 := by rw [kp1_39, show (p0 - p1 - 1).toNat = (p0 - 1 - p1).toNat by omega, show (p0 - (p0 - p1) + 1).toNat = (p1 + 1).toNat by omega]; exact nwF_c (by omega) (by omega) kp2_32
      exact hQ _ _ _ _ dX9_narrowest_42 ⟨tape_length_32, tape_taken_39, (by omega), r_tape_taken_39, (by first | assumption | omega), (by first | assumption | omega), (by first | assumption | omega), rfl⟩
    · clear kb_19
      replace kp0_19 := (kp0_19.resolve_left (fun h => absurd h.1 (by omega))).2
      refine g_iconst X dX9_narrowest_25 ?_
      exact hQ _ _ _ _ dX9_narrowest_26 ⟨v_tape_length, v_tape_taken, (by omega), r_v_tape_taken, (by first | assumption | omega), (by first | assumption | omega), (by first | assumption | omega), rfl⟩
set_option maxHeartbeats 600000 in
set_option maxRecDepth 100000 in
theorem c_X9_twos (l : Launch) (D : va_G) (cI cB cJ : ClassId) (h : Nat) (q : Nat → Nat) (h_tape : Nat) (q_tape : Nat → Nat) {o_claims : Nat} {o_nextClaims : Nat} {o_bounds : Nat} {o_otherBounds : Nat} {o_ringSearch : Nat} {o_lawReader : Nat} {o_rules : Nat} {o_nextRules : Nat} {o_market : Nat} {o_trial : Nat} {o_kept : Nat} {o_triangles : Nat} {v_hasKept v_tape_length v_tape_end v_tape_at v_tape_fault v_tape_faultAt : Int} {v_table v_tape_bytes v_tape_taken : Nat → Int} {p0 p1 : Int} (kr_v_tape_length : 0 ≤ v_tape_length ∧ v_tape_length ≤ 260) (r_v_tape_bytes : RA 0 255 v_tape_bytes) (r_v_tape_taken : RA (-2147483648) 2147483647 v_tape_taken) (hp0 : IR p0) (hp1 : IR p1) : CtI l yX9_twos cX9_twos 3 (some .int) ⟨2, 0, 0, 65⟩ D (TY cI cB cJ) ((wX9 cI cB cJ h q h_tape o_claims o_nextClaims o_bounds o_otherBounds o_ringSearch o_lawReader o_rules o_nextRules o_market o_trial o_kept o_triangles v_hasKept v_table) ++ (wX7 cI cB cJ h_tape q_tape v_tape_length v_tape_end v_tape_at v_tape_fault v_tape_faultAt v_tape_bytes v_tape_taken)) [.ref h, vI p0, vI p1] (fun z ws' => ∃ n_tape_length : Int, ∃ n_tape_taken : Nat → Int, (0 ≤ n_tape_length ∧ n_tape_length ≤ 260) ∧ (RA (-2147483648) 2147483647 n_tape_taken) ∧ (IR z) ∧ ((0 ≤ p1 ∧ p1 ≤ 255 ∧ 1 ≤ p0 ∧ p0 ≤ 20 ∧ p0 ≤ v_tape_length ∧ n_tape_length = 0) ∨ (¬ (0 ≤ p1 ∧ p1 ≤ 255 ∧ 1 ≤ p0 ∧ p0 ≤ 20 ∧ p0 ≤ v_tape_length) ∧ n_tape_length = v_tape_length)) ∧ (((0 ≤ p1 ∧ p1 ≤ 255 ∧ 1 ≤ p0 ∧ p0 ≤ 20 ∧ p0 ≤ v_tape_length) ∧ z = twO v_tape_bytes p1 p0.toNat) ∨ (¬ (0 ≤ p1 ∧ p1 ≤ 255 ∧ 1 ≤ p0 ∧ p0 ≤ 20 ∧ p0 ≤ v_tape_length) ∧ z = -1)) ∧ (ws' = ((wX9 cI cB cJ h q h_tape o_claims o_nextClaims o_bounds o_otherBounds o_ringSearch o_lawReader o_rules o_nextRules o_market o_trial o_kept o_triangles v_hasKept v_table) ++ (wX7 cI cB cJ h_tape q_tape n_tape_length v_tape_end v_tape_at v_tape_fault v_tape_faultAt v_tape_bytes n_tape_taken)))) := by
  refine hdrI (own := RX9) rfl (by decide +kernel) (Nat.le_of_ble_eq_true rfl) ?_
  intro p e s m args below meth c Q A X hQ
  refine g_lvE (lv2 := [(0, .ref h), (1, vI p0), (2, vI p1)]) rfl ?_
  refine g_iload_n X dX9_twos_0 2 rfl ?_
  refine g_iconst X dX9_twos_1 ?_
  refine g_sipush X (z := 255) dX9_twos_2 (by decide) ?_
  refine g_callSIE X (c_X9_isFrom l D cI cB cJ (p0 := p1) (p1 := 0) (p2 := 255) (by first | assumption | omega) (by first | assumption | omega) (by first | assumption | omega)) cv_X9_isFrom uw719 ⟨rfl, rfl, by decide, by decide⟩ rfl rfl (Nat.le_of_ble_eq_true rfl) ⟨Nat.zero_le _, Nat.zero_le _⟩ dX9_twos_5 (fun t5 ws5 k5 => ?_)
  obtain ⟨kb_5, ⟨kp0_5, rfl⟩⟩ := k5
  refine g_if_eq X (tgt := 25) dX9_twos_8 (by decide) (by omega) (fun c8 => ?_) (fun c8 => ?_)
  · clear kb_5
    replace kp0_5 := (kp0_5.resolve_left (fun h => absurd h.1 (by omega))).2
    refine g_iconst X dX9_twos_25 ?_
    exact hQ _ _ _ _ dX9_twos_26 ⟨v_tape_length, v_tape_taken, (by omega), r_v_tape_taken, (by first | assumption | omega), (by first | assumption | omega), (by first | assumption | omega), rfl⟩
  · replace kb_5 := kb_5.resolve_left (fun h => c8 h)
    replace kp0_5 := kp0_5.resolve_right (fun h => c8 h.1)
    refine g_aload_n X dX9_twos_11 0 rfl ?_
    refine gX9_get X 0 rfl 0 (by decide) uw411 rfl dX9_twos_12 ?_
    refine g_iload_n X dX9_twos_15 1 rfl ?_
    refine g_iconst X dX9_twos_16 ?_
    refine g_bipush X (z := 20) dX9_twos_17 (by decide) ?_
    refine g_callVIw X (c_X7_has l D cI cB cJ h_tape q_tape (p0 := p0) (p1 := 1) (p2 := 20) (by omega) (by first | assumption | omega) (by first | assumption | omega) (by first | assumption | omega)) [2, 3, 4] rfl rfl rfl cv_X7_has uw473 ⟨rfl, rfl, by decide, by decide⟩ 0 rfl rfl rfl rfl rfl (Nat.le_of_ble_eq_true rfl) ⟨Nat.zero_le _, Nat.zero_le _⟩ dX9_twos_19 (fun t19 ws19 k19 => ?_)
    obtain ⟨kb_19, ⟨kp0_19, rfl⟩⟩ := k19
    refine ⟨rfl, ?_⟩
    refine g_ws (ws2 := ((wX9 cI cB cJ h q h_tape o_claims o_nextClaims o_bounds o_otherBounds o_ringSearch o_lawReader o_rules o_nextRules o_market o_trial o_kept o_triangles v_hasKept v_table) ++ (wX7 cI cB cJ h_tape q_tape v_tape_length v_tape_end v_tape_at v_tape_fault v_tape_faultAt v_tape_bytes v_tape_taken))) rfl ?_
    refine g_if_ne X (tgt := 27) dX9_twos_22 (by decide) (by omega) (fun c22 => ?_) (fun c22 => ?_)
    · replace kb_19 := kb_19.resolve_left (fun h => c22 h)
      replace kp0_19 := kp0_19.resolve_right (fun h => c22 h.1)
      refine g_aload_n X dX9_twos_27 0 rfl ?_
      refine gX9_get X 0 rfl 0 (by decide) uw411 rfl dX9_twos_28 ?_
      refine g_iload_n X dX9_twos_31 1 rfl ?_
      refine g_callVRw X (c_X7_take l D cI cB cJ h_tape q_tape (p0 := p0) (by omega) r_v_tape_bytes r_v_tape_taken (by first | assumption | omega) (by first | assumption | omega)) [2, 3, 4] rfl rfl rfl cv_X7_take uw890 ⟨rfl, rfl, by decide, by decide⟩ 0 rfl rfl rfl rfl rfl (Nat.le_of_ble_eq_true rfl) ⟨Nat.zero_le _, Nat.zero_le _⟩ dX9_twos_32 (fun t32 ws32 k32 => ?_)
      obtain ⟨rfl, ⟨tape_length_32, tape_taken_32, kr_tape_length_32, r_tape_taken_32, kp0_32, kp1_32, kp2_32, rfl⟩⟩ := k32
      refine ⟨rfl, ?_⟩
      refine g_ws (ws2 := ((wX9 cI cB cJ h q h_tape o_claims o_nextClaims o_bounds o_otherBounds o_ringSearch o_lawReader o_rules o_nextRules o_market o_trial o_kept o_triangles v_hasKept v_table) ++ (wX7 cI cB cJ h_tape q_tape tape_length_32 v_tape_end v_tape_at v_tape_fault v_tape_faultAt v_tape_bytes tape_taken_32))) rfl ?_
      refine g_iload_n X dX9_twos_35 1 rfl ?_
      refine g_iload_n X dX9_twos_36 2 rfl ?_
      refine g_callSIw X (c_X6_twosApart l D cI cB cJ (q_tape 1) (p1 := p0) (p2 := p1) r_tape_taken_32 (by first | assumption | omega) (by first | assumption | omega) (by first | assumption | omega) (by first | assumption | omega) (by first | assumption | omega)) [4] rfl rfl rfl cv_X6_twosApart uw968 ⟨rfl, rfl, by decide, by decide⟩ rfl rfl (Nat.le_of_ble_eq_true rfl) ⟨Nat.zero_le _, Nat.zero_le _⟩ dX9_twos_37 (fun t37 ws37 k37 => ?_)
      obtain ⟨kp0_37, kp1_37, rfl⟩ := k37
      refine ⟨rfl, ?_⟩
      refine g_ws (ws2 := ((wX9 cI cB cJ h q h_tape o_claims o_nextClaims o_bounds o_otherBounds o_ringSearch o_lawReader o_rules o_nextRules o_market o_trial o_kept o_triangles v_hasKept v_table) ++ (wX7 cI cB cJ h_tape q_tape tape_length_32 v_tape_end v_tape_at v_tape_fault v_tape_faultAt v_tape_bytes tape_taken_32))) rfl ?_
      have hF : t37 = twO v_tape_bytes p1 p0.toNat := kp1_37.trans (twO_c _ _ (toN_c kp2_32))
      exact hQ _ _ _ _ dX9_twos_40 ⟨tape_length_32, tape_taken_32, (by omega), r_tape_taken_32, (by first | assumption | omega), (by first | assumption | omega), (by first | assumption | omega), rfl⟩
    · clear kb_19
      replace kp0_19 := (kp0_19.resolve_left (fun h => absurd h.1 (by omega))).2
      refine g_iconst X dX9_twos_25 ?_
      exact hQ _ _ _ _ dX9_twos_26 ⟨v_tape_length, v_tape_taken, (by omega), r_v_tape_taken, (by first | assumption | omega), (by first | assumption | omega), (by first | assumption | omega), rfl⟩
set_option maxHeartbeats 600000 in
set_option maxRecDepth 100000 in
theorem c_X9_paired (l : Launch) (D : va_G) (cI cB cJ : ClassId) (h : Nat) (q : Nat → Nat) (h_tape : Nat) (q_tape : Nat → Nat) {o_claims : Nat} {o_nextClaims : Nat} {o_bounds : Nat} {o_otherBounds : Nat} {o_ringSearch : Nat} {o_lawReader : Nat} {o_rules : Nat} {o_nextRules : Nat} {o_market : Nat} {o_trial : Nat} {o_kept : Nat} {o_triangles : Nat} {v_hasKept v_tape_length v_tape_end v_tape_at v_tape_fault v_tape_faultAt : Int} {v_table v_tape_bytes v_tape_taken : Nat → Int} {p0 p1 : Int} (kr_v_tape_length : 0 ≤ v_tape_length ∧ v_tape_length ≤ 260) (r_v_tape_bytes : RA 0 255 v_tape_bytes) (r_v_tape_taken : RA (-2147483648) 2147483647 v_tape_taken) (hp0 : IR p0) (hp1 : IR p1) : CtI l yX9_paired cX9_paired 3 (some .int) ⟨2, 0, 0, 66⟩ D (TY cI cB cJ) ((wX9 cI cB cJ h q h_tape o_claims o_nextClaims o_bounds o_otherBounds o_ringSearch o_lawReader o_rules o_nextRules o_market o_trial o_kept o_triangles v_hasKept v_table) ++ (wX7 cI cB cJ h_tape q_tape v_tape_length v_tape_end v_tape_at v_tape_fault v_tape_faultAt v_tape_bytes v_tape_taken)) [.ref h, vI p0, vI p1] (fun z ws' => ∃ n_tape_length : Int, ∃ n_tape_taken : Nat → Int, (0 ≤ n_tape_length ∧ n_tape_length ≤ 260) ∧ (RA (-2147483648) 2147483647 n_tape_taken) ∧ (IR z) ∧ ((0 ≤ p1 ∧ p1 ≤ 1 ∧ 2 ≤ p0 ∧ p0 ≤ 16 ∧ p0 % 2 = 0 ∧ p0 ≤ v_tape_length ∧ n_tape_length = 0) ∨ (¬ (0 ≤ p1 ∧ p1 ≤ 1 ∧ 2 ≤ p0 ∧ p0 ≤ 16 ∧ p0 % 2 = 0 ∧ p0 ≤ v_tape_length) ∧ n_tape_length = v_tape_length)) ∧ (((0 ≤ p1 ∧ p1 ≤ 1 ∧ 2 ≤ p0 ∧ p0 ≤ 16 ∧ p0 % 2 = 0 ∧ p0 ≤ v_tape_length) ∧ z = prF v_tape_bytes p0 p1) ∨ (¬ (0 ≤ p1 ∧ p1 ≤ 1 ∧ 2 ≤ p0 ∧ p0 ≤ 16 ∧ p0 % 2 = 0 ∧ p0 ≤ v_tape_length) ∧ z = -1)) ∧ (ws' = ((wX9 cI cB cJ h q h_tape o_claims o_nextClaims o_bounds o_otherBounds o_ringSearch o_lawReader o_rules o_nextRules o_market o_trial o_kept o_triangles v_hasKept v_table) ++ (wX7 cI cB cJ h_tape q_tape n_tape_length v_tape_end v_tape_at v_tape_fault v_tape_faultAt v_tape_bytes n_tape_taken)))) := by
  refine hdrI (own := RX9) rfl (by decide +kernel) (Nat.le_of_ble_eq_true rfl) ?_
  intro p e s m args below meth c Q A X hQ
  refine g_lvE (lv2 := [(0, .ref h), (1, vI p0), (2, vI p1)]) rfl ?_
  refine g_iload_n X dX9_paired_0 2 rfl ?_
  refine g_iconst X dX9_paired_1 ?_
  refine g_iconst X dX9_paired_2 ?_
  refine g_callSIE X (c_X9_isFrom l D cI cB cJ (p0 := p1) (p1 := 0) (p2 := 1) (by first | assumption | omega) (by first | assumption | omega) (by first | assumption | omega)) cv_X9_isFrom uw719 ⟨rfl, rfl, by decide, by decide⟩ rfl rfl (Nat.le_of_ble_eq_true rfl) ⟨Nat.zero_le _, Nat.zero_le _⟩ dX9_paired_3 (fun t3 ws3 k3 => ?_)
  obtain ⟨kb_3, ⟨kp0_3, rfl⟩⟩ := k3
  refine g_if_eq X (tgt := 29) dX9_paired_6 (by decide) (by omega) (fun c6 => ?_) (fun c6 => ?_)
  · clear kb_3
    replace kp0_3 := (kp0_3.resolve_left (fun h => absurd h.1 (by omega))).2
    refine g_iconst X dX9_paired_29 ?_
    exact hQ _ _ _ _ dX9_paired_30 ⟨v_tape_length, v_tape_taken, (by omega), r_v_tape_taken, (by first | assumption | omega), (by first | assumption | omega), (by first | assumption | omega), rfl⟩
  · replace kb_3 := kb_3.resolve_left (fun h => c6 h)
    replace kp0_3 := kp0_3.resolve_right (fun h => c6 h.1)
    refine g_aload_n X dX9_paired_9 0 rfl ?_
    refine gX9_get X 0 rfl 0 (by decide) uw411 rfl dX9_paired_10 ?_
    refine g_iload_n X dX9_paired_13 1 rfl ?_
    refine g_iconst X dX9_paired_14 ?_
    refine g_bipush X (z := 16) dX9_paired_15 (by decide) ?_
    refine g_callVIw X (c_X7_has l D cI cB cJ h_tape q_tape (p0 := p0) (p1 := 2) (p2 := 16) (by omega) (by first | assumption | omega) (by first | assumption | omega) (by first | assumption | omega)) [2, 3, 4] rfl rfl rfl cv_X7_has uw473 ⟨rfl, rfl, by decide, by decide⟩ 0 rfl rfl rfl rfl rfl (Nat.le_of_ble_eq_true rfl) ⟨Nat.zero_le _, Nat.zero_le _⟩ dX9_paired_17 (fun t17 ws17 k17 => ?_)
    obtain ⟨kb_17, ⟨kp0_17, rfl⟩⟩ := k17
    refine ⟨rfl, ?_⟩
    refine g_ws (ws2 := ((wX9 cI cB cJ h q h_tape o_claims o_nextClaims o_bounds o_otherBounds o_ringSearch o_lawReader o_rules o_nextRules o_market o_trial o_kept o_triangles v_hasKept v_table) ++ (wX7 cI cB cJ h_tape q_tape v_tape_length v_tape_end v_tape_at v_tape_fault v_tape_faultAt v_tape_bytes v_tape_taken))) rfl ?_
    refine g_if_eq X (tgt := 29) dX9_paired_20 (by decide) (by omega) (fun c20 => ?_) (fun c20 => ?_)
    · clear kb_17
      replace kp0_17 := (kp0_17.resolve_left (fun h => absurd h.1 (by omega))).2
      refine g_iconst X dX9_paired_29 ?_
      exact hQ _ _ _ _ dX9_paired_30 ⟨v_tape_length, v_tape_taken, (by omega), r_v_tape_taken, (by first | assumption | omega), (by first | assumption | omega), (by first | assumption | omega), rfl⟩
    · replace kb_17 := kb_17.resolve_left (fun h => c20 h)
      replace kp0_17 := kp0_17.resolve_right (fun h => c20 h.1)
      refine g_iload_n X dX9_paired_23 1 rfl ?_
      refine g_iconst X dX9_paired_24 ?_
      refine g_iand X dX9_paired_25 ?_
      refine g_nm (fun t25 e25 => ?_)
      have r25 := z_iand_r p0 1 (by omega) (by omega); rw [← e25] at r25
      have hq := z_iand_1 p0 (by omega)
      refine g_if_eq X (tgt := 31) dX9_paired_26 (by decide) (by omega) (fun c26 => ?_) (fun c26 => ?_)
      · refine g_aload_n X dX9_paired_31 0 rfl ?_
        refine gX9_get X 0 rfl 0 (by decide) uw411 rfl dX9_paired_32 ?_
        refine g_iload_n X dX9_paired_35 1 rfl ?_
        refine g_callVRw X (c_X7_take l D cI cB cJ h_tape q_tape (p0 := p0) (by omega) r_v_tape_bytes r_v_tape_taken (by first | assumption | omega) (by first | assumption | omega)) [2, 3, 4] rfl rfl rfl cv_X7_take uw890 ⟨rfl, rfl, by decide, by decide⟩ 0 rfl rfl rfl rfl rfl (Nat.le_of_ble_eq_true rfl) ⟨Nat.zero_le _, Nat.zero_le _⟩ dX9_paired_36 (fun t36 ws36 k36 => ?_)
        obtain ⟨rfl, ⟨tape_length_36, tape_taken_36, kr_tape_length_36, r_tape_taken_36, kp0_36, kp1_36, kp2_36, rfl⟩⟩ := k36
        refine ⟨rfl, ?_⟩
        refine g_ws (ws2 := ((wX9 cI cB cJ h q h_tape o_claims o_nextClaims o_bounds o_otherBounds o_ringSearch o_lawReader o_rules o_nextRules o_market o_trial o_kept o_triangles v_hasKept v_table) ++ (wX7 cI cB cJ h_tape q_tape tape_length_36 v_tape_end v_tape_at v_tape_fault v_tape_faultAt v_tape_bytes tape_taken_36))) rfl ?_
        refine g_iload_n X dX9_paired_39 1 rfl ?_
        refine g_iload_n X dX9_paired_40 2 rfl ?_
        refine g_iconst X dX9_paired_41 ?_
        refine g_icmp_ne X (tgt := 49) dX9_paired_42 (by decide) (by omega) (by omega) (fun c42 => ?_) (fun c42 => ?_)
        · refine g_iconst X dX9_paired_49 ?_
          refine g_callSIw X (c_X6_pairedOf l D cI cB cJ (q_tape 1) (p1 := p0) (p2 := 0) r_tape_taken_36 (by first | assumption | omega) (by first | assumption | omega) (by first | assumption | omega) (by first | assumption | omega)) [4] rfl rfl rfl cv_X6_pairedOf uw975 ⟨rfl, rfl, by decide, by decide⟩ rfl rfl (Nat.le_of_ble_eq_true rfl) ⟨Nat.zero_le _, Nat.zero_le _⟩ dX9_paired_50 (fun t50 ws50 k50 => ?_)
          obtain ⟨tape_taken_50, r_tape_taken_50, kp0_50, kp1_50, rfl⟩ := k50
          refine ⟨rfl, ?_⟩
          refine g_ws (ws2 := ((wX9 cI cB cJ h q h_tape o_claims o_nextClaims o_bounds o_otherBounds o_ringSearch o_lawReader o_rules o_nextRules o_market o_trial o_kept o_triangles v_hasKept v_table) ++ (wX7 cI cB cJ h_tape q_tape tape_length_36 v_tape_end v_tape_at v_tape_fault v_tape_faultAt v_tape_bytes tape_taken_50))) rfl ?_
          have hF := prF_e (f := tape_taken_36) (g := v_tape_bytes) (h := tape_taken_36) p1 (n := p0) (by omega) kp2_36
          exact hQ _ _ _ _ dX9_paired_53 ⟨tape_length_36, tape_taken_50, (by omega), r_tape_taken_50, (by first | assumption | omega), (by first | assumption | omega), (by first | assumption | omega), rfl⟩
        · refine g_iconst X dX9_paired_45 ?_
          refine g_goto X (tgt := 50) dX9_paired_46 (by decide) ?_
          refine g_callSIw X (c_X6_pairedOf l D cI cB cJ (q_tape 1) (p1 := p0) (p2 := 1) r_tape_taken_36 (by first | assumption | omega) (by first | assumption | omega) (by first | assumption | omega) (by first | assumption | omega)) [4] rfl rfl rfl cv_X6_pairedOf uw975 ⟨rfl, rfl, by decide, by decide⟩ rfl rfl (Nat.le_of_ble_eq_true rfl) ⟨Nat.zero_le _, Nat.zero_le _⟩ dX9_paired_50 (fun t50 ws50 k50 => ?_)
          obtain ⟨tape_taken_50, r_tape_taken_50, kp0_50, kp1_50, rfl⟩ := k50
          refine ⟨rfl, ?_⟩
          refine g_ws (ws2 := ((wX9 cI cB cJ h q h_tape o_claims o_nextClaims o_bounds o_otherBounds o_ringSearch o_lawReader o_rules o_nextRules o_market o_trial o_kept o_triangles v_hasKept v_table) ++ (wX7 cI cB cJ h_tape q_tape tape_length_36 v_tape_end v_tape_at v_tape_fault v_tape_faultAt v_tape_bytes tape_taken_50))) rfl ?_
          have hF := prF_e (f := tape_taken_36) (g := v_tape_bytes) (h := tape_taken_36) p1 (n := p0) (by omega) kp2_36
          exact hQ _ _ _ _ dX9_paired_53 ⟨tape_length_36, tape_taken_50, (by omega), r_tape_taken_50, (by first | assumption | omega), (by first | assumption | omega), (by first | assumption | omega), rfl⟩
      · refine g_iconst X dX9_paired_29 ?_
        exact hQ _ _ _ _ dX9_paired_30 ⟨v_tape_length, v_tape_taken, (by omega), r_v_tape_taken, (by first | assumption | omega), (by first | assumption | omega), (by first | assumption | omega), rfl⟩
set_option maxHeartbeats 600000 in
set_option maxRecDepth 100000 in
theorem c_X9_halves (l : Launch) (D : va_G) (cI cB cJ : ClassId) (h : Nat) (q : Nat → Nat) (h_tape : Nat) (q_tape : Nat → Nat) {o_claims : Nat} {o_nextClaims : Nat} {o_bounds : Nat} {o_otherBounds : Nat} {o_ringSearch : Nat} {o_lawReader : Nat} {o_rules : Nat} {o_nextRules : Nat} {o_market : Nat} {o_trial : Nat} {o_kept : Nat} {o_triangles : Nat} {v_hasKept v_tape_length v_tape_end v_tape_at v_tape_fault v_tape_faultAt : Int} {v_table v_tape_bytes v_tape_taken : Nat → Int} {p0 p1 : Int} (r_v_table : RA (-2147483648) 2147483647 v_table) (kr_v_tape_length : 0 ≤ v_tape_length ∧ v_tape_length ≤ 260) (r_v_tape_bytes : RA 0 255 v_tape_bytes) (r_v_tape_taken : RA (-2147483648) 2147483647 v_tape_taken) (hp0 : IR p0) (hp1 : IR p1) : CtI l yX9_halves cX9_halves 6 (some .int) ⟨2, 0, 0, 64⟩ D (TY cI cB cJ) ((wX9 cI cB cJ h q h_tape o_claims o_nextClaims o_bounds o_otherBounds o_ringSearch o_lawReader o_rules o_nextRules o_market o_trial o_kept o_triangles v_hasKept v_table) ++ (wX7 cI cB cJ h_tape q_tape v_tape_length v_tape_end v_tape_at v_tape_fault v_tape_faultAt v_tape_bytes v_tape_taken)) [.ref h, vI p0, vI p1] (fun z ws' => ∃ n_table : Nat → Int, ∃ n_tape_length : Int, ∃ n_tape_taken : Nat → Int, (RA (-2147483648) 2147483647 n_table) ∧ (0 ≤ n_tape_length ∧ n_tape_length ≤ 260) ∧ (RA (-2147483648) 2147483647 n_tape_taken) ∧ (IR z) ∧ ((0 ≤ p1 ∧ p1 ≤ 1 ∧ 2 ≤ p0 ∧ p0 ≤ 16 ∧ p0 ≤ v_tape_length ∧ n_tape_length = 0) ∨ (¬ (0 ≤ p1 ∧ p1 ≤ 1 ∧ 2 ≤ p0 ∧ p0 ≤ 16 ∧ p0 ≤ v_tape_length) ∧ n_tape_length = v_tape_length)) ∧ (((0 ≤ p1 ∧ p1 ≤ 1 ∧ 2 ≤ p0 ∧ p0 ≤ 16 ∧ p0 ≤ v_tape_length) ∧ z = hvF v_tape_bytes p0 p1) ∨ (¬ (0 ≤ p1 ∧ p1 ≤ 1 ∧ 2 ≤ p0 ∧ p0 ≤ 16 ∧ p0 ≤ v_tape_length) ∧ z = -1)) ∧ (ws' = ((wX9 cI cB cJ h q h_tape o_claims o_nextClaims o_bounds o_otherBounds o_ringSearch o_lawReader o_rules o_nextRules o_market o_trial o_kept o_triangles v_hasKept n_table) ++ (wX7 cI cB cJ h_tape q_tape n_tape_length v_tape_end v_tape_at v_tape_fault v_tape_faultAt v_tape_bytes n_tape_taken)))) := by
  refine hdrI (own := RX9) rfl (by decide +kernel) (Nat.le_of_ble_eq_true rfl) ?_
  intro p e s m args below meth c Q A X hQ
  refine g_lvE (lv2 := [(0, .ref h), (1, vI p0), (2, vI p1)]) rfl ?_
  refine g_iload_n X dX9_halves_0 2 rfl ?_
  refine g_iconst X dX9_halves_1 ?_
  refine g_iconst X dX9_halves_2 ?_
  refine g_callSIE X (c_X9_isFrom l D cI cB cJ (p0 := p1) (p1 := 0) (p2 := 1) (by first | assumption | omega) (by first | assumption | omega) (by first | assumption | omega)) cv_X9_isFrom uw719 ⟨rfl, rfl, by decide, by decide⟩ rfl rfl (Nat.le_of_ble_eq_true rfl) ⟨Nat.zero_le _, Nat.zero_le _⟩ dX9_halves_3 (fun t3 ws3 k3 => ?_)
  obtain ⟨kb_3, ⟨kp0_3, rfl⟩⟩ := k3
  refine g_if_eq X (tgt := 23) dX9_halves_6 (by decide) (by omega) (fun c6 => ?_) (fun c6 => ?_)
  · clear kb_3
    replace kp0_3 := (kp0_3.resolve_left (fun h => absurd h.1 (by omega))).2
    refine g_iconst X dX9_halves_23 ?_
    exact hQ _ _ _ _ dX9_halves_24 ⟨v_table, v_tape_length, v_tape_taken, r_v_table, (by omega), r_v_tape_taken, (by first | assumption | omega), (by first | assumption | omega), (by first | assumption | omega), rfl⟩
  · replace kb_3 := kb_3.resolve_left (fun h => c6 h)
    replace kp0_3 := kp0_3.resolve_right (fun h => c6 h.1)
    refine g_aload_n X dX9_halves_9 0 rfl ?_
    refine gX9_get X 0 rfl 0 (by decide) uw411 rfl dX9_halves_10 ?_
    refine g_iload_n X dX9_halves_13 1 rfl ?_
    refine g_iconst X dX9_halves_14 ?_
    refine g_bipush X (z := 16) dX9_halves_15 (by decide) ?_
    refine g_callVIw X (c_X7_has l D cI cB cJ h_tape q_tape (p0 := p0) (p1 := 2) (p2 := 16) (by omega) (by first | assumption | omega) (by first | assumption | omega) (by first | assumption | omega)) [2, 3, 4] rfl rfl rfl cv_X7_has uw473 ⟨rfl, rfl, by decide, by decide⟩ 0 rfl rfl rfl rfl rfl (Nat.le_of_ble_eq_true rfl) ⟨Nat.zero_le _, Nat.zero_le _⟩ dX9_halves_17 (fun t17 ws17 k17 => ?_)
    obtain ⟨kb_17, ⟨kp0_17, rfl⟩⟩ := k17
    refine ⟨rfl, ?_⟩
    refine g_ws (ws2 := ((wX9 cI cB cJ h q h_tape o_claims o_nextClaims o_bounds o_otherBounds o_ringSearch o_lawReader o_rules o_nextRules o_market o_trial o_kept o_triangles v_hasKept v_table) ++ (wX7 cI cB cJ h_tape q_tape v_tape_length v_tape_end v_tape_at v_tape_fault v_tape_faultAt v_tape_bytes v_tape_taken))) rfl ?_
    refine g_if_ne X (tgt := 25) dX9_halves_20 (by decide) (by omega) (fun c20 => ?_) (fun c20 => ?_)
    · replace kb_17 := kb_17.resolve_left (fun h => c20 h)
      replace kp0_17 := kp0_17.resolve_right (fun h => c20 h.1)
      refine g_aload_n X dX9_halves_25 0 rfl ?_
      refine gX9_get X 0 rfl 0 (by decide) uw411 rfl dX9_halves_26 ?_
      refine g_iload_n X dX9_halves_29 1 rfl ?_
      refine g_callVRw X (c_X7_take l D cI cB cJ h_tape q_tape (p0 := p0) (by omega) r_v_tape_bytes r_v_tape_taken (by first | assumption | omega) (by first | assumption | omega)) [2, 3, 4] rfl rfl rfl cv_X7_take uw890 ⟨rfl, rfl, by decide, by decide⟩ 0 rfl rfl rfl rfl rfl (Nat.le_of_ble_eq_true rfl) ⟨Nat.zero_le _, Nat.zero_le _⟩ dX9_halves_30 (fun t30 ws30 k30 => ?_)
      obtain ⟨rfl, ⟨tape_length_30, tape_taken_30, kr_tape_length_30, r_tape_taken_30, kp0_30, kp1_30, kp2_30, rfl⟩⟩ := k30
      refine ⟨rfl, ?_⟩
      refine g_ws (ws2 := ((wX9 cI cB cJ h q h_tape o_claims o_nextClaims o_bounds o_otherBounds o_ringSearch o_lawReader o_rules o_nextRules o_market o_trial o_kept o_triangles v_hasKept v_table) ++ (wX7 cI cB cJ h_tape q_tape tape_length_30 v_tape_end v_tape_at v_tape_fault v_tape_faultAt v_tape_bytes tape_taken_30))) rfl ?_
      refine g_astore_n X (lv' := [(3, .ref (q_tape 1)), (0, .ref h), (1, vI p0), (2, vI p1)]) dX9_halves_33 (by decide) rfl ?_
      refine g_aload_n X dX9_halves_34 0 rfl ?_
      refine g_iload_n X dX9_halves_35 2 rfl ?_
      refine g_callSIw X (c_X6_sum l D cI cB cJ (q_tape 1) (p1 := p0) r_tape_taken_30 (by first | assumption | omega) (by first | assumption | omega) (by first | assumption | omega)) [4] rfl rfl rfl cv_X6_sum uw982 ⟨rfl, rfl, by decide, by decide⟩ rfl rfl (Nat.le_of_ble_eq_true rfl) ⟨Nat.zero_le _, Nat.zero_le _⟩ dX9_halves_36 (fun t36 ws36 k36 => ?_)
      obtain ⟨kp0_36, kp1_36, kp2_36, rfl⟩ := k36
      refine ⟨rfl, ?_⟩
      refine g_ws (ws2 := ((wX9 cI cB cJ h q h_tape o_claims o_nextClaims o_bounds o_otherBounds o_ringSearch o_lawReader o_rules o_nextRules o_market o_trial o_kept o_triangles v_hasKept v_table) ++ (wX7 cI cB cJ h_tape q_tape tape_length_30 v_tape_end v_tape_at v_tape_fault v_tape_faultAt v_tape_bytes tape_taken_30))) rfl ?_
      refine g_istore X (lv' := [(4, vI t36), (3, .ref (q_tape 1)), (0, .ref h), (1, vI p0), (2, vI p1)]) dX9_halves_39 (by decide) rfl ?_
      refine g_aload_n X dX9_halves_41 1 rfl ?_
      refine g_iload_n X dX9_halves_42 3 rfl ?_
      refine g_aload_n X dX9_halves_43 2 rfl ?_
      refine gX9_get X 0 rfl 14 (by decide) uw425 rfl dX9_halves_44 ?_
      refine g_callSVw X (c_X6_leastBitsOfSums l D cI cB cJ (q_tape 1) (q 0) (p1 := p0) r_tape_taken_30 r_v_table (by first | assumption | omega) (by first | assumption | omega) (by first | assumption | omega)) [4, 1] rfl rfl rfl cv_X6_leastBitsOfSums uw985 ⟨rfl, rfl, by decide, by decide⟩ rfl rfl (Nat.le_of_ble_eq_true rfl) ⟨Nat.zero_le _, Nat.zero_le _⟩ dX9_halves_47 (fun ws47 k47 => ?_)
      obtain ⟨table_47, r_table_47, kp0_47, rfl⟩ := k47
      refine ⟨rfl, ?_⟩
      refine g_ws (ws2 := ((wX9 cI cB cJ h q h_tape o_claims o_nextClaims o_bounds o_otherBounds o_ringSearch o_lawReader o_rules o_nextRules o_market o_trial o_kept o_triangles v_hasKept table_47) ++ (wX7 cI cB cJ h_tape q_tape tape_length_30 v_tape_end v_tape_at v_tape_fault v_tape_faultAt v_tape_bytes tape_taken_30))) rfl ?_
      refine g_aload_n X dX9_halves_50 2 rfl ?_
      refine gX9_get X 0 rfl 14 (by decide) uw425 rfl dX9_halves_51 ?_
      refine g_iload X dX9_halves_54 0 rfl ?_
      refine g_callSIw X (c_X6_evenestSum l D cI cB cJ (q 0) (p1 := t36) r_table_47 (by first | assumption | omega) (by first | assumption | omega)) [1] rfl rfl rfl cv_X6_evenestSum uw988 ⟨rfl, rfl, by decide, by decide⟩ rfl rfl (Nat.le_of_ble_eq_true rfl) ⟨Nat.zero_le _, Nat.zero_le _⟩ dX9_halves_56 (fun t56 ws56 k56 => ?_)
      obtain ⟨kp0_56, kp1_56, rfl⟩ := k56
      refine ⟨rfl, ?_⟩
      refine g_ws (ws2 := ((wX9 cI cB cJ h q h_tape o_claims o_nextClaims o_bounds o_otherBounds o_ringSearch o_lawReader o_rules o_nextRules o_market o_trial o_kept o_triangles v_hasKept table_47) ++ (wX7 cI cB cJ h_tape q_tape tape_length_30 v_tape_end v_tape_at v_tape_fault v_tape_faultAt v_tape_bytes tape_taken_30))) rfl ?_
      refine g_istore X (lv' := [(5, vI t56), (4, vI t36), (3, .ref (q_tape 1)), (0, .ref h), (1, vI p0), (2, vI p1)]) dX9_halves_59 (by decide) rfl ?_
      have hc := hvF_c (f := tape_taken_30) (g := v_tape_bytes) p1 (n := p0) (by omega) kp2_30
      have hE := hvF_e tape_taken_30 p0 p1
      have hes := (esF_c (b := table_47) (b' := lbF tape_taken_30 (p0.toNat - 1)) t36 (fun s hs => by rw [kp0_47 s hs, show (p0 - 1).toNat = p0.toNat - 1 by omega]) 4095 (Nat.le_refl _)).1
      have hbx : hvB tape_taken_30 p0.toNat = (t56).toNat := by unfold hvB; rw [← kp2_36, ← hes]; omega
      rw [hbx] at hE
      have hw := kp2_36
      have hd := dzA_e (whF tape_taken_30 p0.toNat - 2 * (((t56).toNat : Nat) : Int))
      refine g_iload_n X dX9_halves_61 5 rfl ?_
      refine g_if_ne X (tgt := 78) dX9_halves_62 (by decide) (by omega) (fun c62 => ?_) (fun c62 => ?_)
      · refine g_aload_n X dX9_halves_78 3 rfl ?_
        refine gX9_get X 0 rfl 14 (by decide) uw425 rfl dX9_halves_79 ?_
        refine g_iload X dX9_halves_82 0 rfl ?_
        refine g_iald X 1 0 rfl rfl (by omega) (by decide) dX9_halves_84 (fun t84 e84 => ?_)
        have r84 := r_table_47 (t56 : Int).toNat; rw [← e84] at r84
        have b84 := kp0_47 (t56).toNat (by omega)
        rw [show (p0 - 1).toNat = p0.toNat - 1 by omega] at b84
        exact hQ _ _ _ _ dX9_halves_85 ⟨table_47, tape_length_30, tape_taken_30, r_table_47, (by omega), r_tape_taken_30, (by first | assumption | omega), (by first | assumption | omega), (by first | assumption | omega), rfl⟩
      · refine g_iload X dX9_halves_65 1 rfl ?_
        refine g_iconst X dX9_halves_67 ?_
        refine g_iload X dX9_halves_68 0 rfl ?_
        refine g_imul X dX9_halves_70 ?_
        refine g_isub X dX9_halves_71 ?_
        refine g_mabs X uw991 uw916 uw111 uw917 ⟨by decide, Nat.le_of_ble_eq_true rfl⟩ ⟨Nat.zero_le _, Nat.zero_le _⟩ (by omega) dX9_halves_72 (fun t72 r72 k72 m72 => ?_)
        refine g_goto X (tgt := 85) dX9_halves_75 (by decide) ?_
        exact hQ _ _ _ _ dX9_halves_85 ⟨table_47, tape_length_30, tape_taken_30, r_table_47, (by omega), r_tape_taken_30, (by first | assumption | omega), (by first | assumption | omega), (by first | assumption | omega), rfl⟩
    · clear kb_17
      replace kp0_17 := (kp0_17.resolve_left (fun h => absurd h.1 (by omega))).2
      refine g_iconst X dX9_halves_23 ?_
      exact hQ _ _ _ _ dX9_halves_24 ⟨v_table, v_tape_length, v_tape_taken, r_v_table, (by omega), r_v_tape_taken, (by first | assumption | omega), (by first | assumption | omega), (by first | assumption | omega), rfl⟩
set_option maxHeartbeats 600000 in
set_option maxRecDepth 100000 in
theorem c_X9_steady (l : Launch) (D : va_G) (cI cB cJ : ClassId) (h : Nat) (q : Nat → Nat) (h_tape : Nat) (q_tape : Nat → Nat) {o_claims : Nat} {o_nextClaims : Nat} {o_bounds : Nat} {o_otherBounds : Nat} {o_ringSearch : Nat} {o_lawReader : Nat} {o_rules : Nat} {o_nextRules : Nat} {o_market : Nat} {o_trial : Nat} {o_kept : Nat} {o_triangles : Nat} {v_hasKept v_tape_length v_tape_end v_tape_at v_tape_fault v_tape_faultAt : Int} {v_table v_tape_bytes v_tape_taken : Nat → Int} {p0 p1 : Int} (kr_v_tape_length : 0 ≤ v_tape_length ∧ v_tape_length ≤ 260) (r_v_tape_bytes : RA 0 255 v_tape_bytes) (r_v_tape_taken : RA (-2147483648) 2147483647 v_tape_taken) (hp0 : IR p0) (hp1 : IR p1) : CtI l yX9_steady cX9_steady 4 (some .int) ⟨2, 0, 0, 64⟩ D (TY cI cB cJ) ((wX9 cI cB cJ h q h_tape o_claims o_nextClaims o_bounds o_otherBounds o_ringSearch o_lawReader o_rules o_nextRules o_market o_trial o_kept o_triangles v_hasKept v_table) ++ (wX7 cI cB cJ h_tape q_tape v_tape_length v_tape_end v_tape_at v_tape_fault v_tape_faultAt v_tape_bytes v_tape_taken)) [.ref h, vI p0, vI p1] (fun z ws' => ∃ n_tape_length : Int, ∃ n_tape_taken : Nat → Int, (0 ≤ n_tape_length ∧ n_tape_length ≤ 260) ∧ (RA (-2147483648) 2147483647 n_tape_taken) ∧ (IR z) ∧ ((0 ≤ p1 ∧ p1 ≤ 1 ∧ 1 ≤ p0 ∧ p0 ≤ 20 ∧ p0 ≤ v_tape_length ∧ n_tape_length = 0) ∨ (¬ (0 ≤ p1 ∧ p1 ≤ 1 ∧ 1 ≤ p0 ∧ p0 ≤ 20 ∧ p0 ≤ v_tape_length) ∧ n_tape_length = v_tape_length)) ∧ (((0 ≤ p1 ∧ p1 ≤ 1 ∧ 1 ≤ p0 ∧ p0 ≤ 20 ∧ p0 ≤ v_tape_length) ∧ z = stF v_tape_bytes p0 p1) ∨ (¬ (0 ≤ p1 ∧ p1 ≤ 1 ∧ 1 ≤ p0 ∧ p0 ≤ 20 ∧ p0 ≤ v_tape_length) ∧ z = -1)) ∧ (ws' = ((wX9 cI cB cJ h q h_tape o_claims o_nextClaims o_bounds o_otherBounds o_ringSearch o_lawReader o_rules o_nextRules o_market o_trial o_kept o_triangles v_hasKept v_table) ++ (wX7 cI cB cJ h_tape q_tape n_tape_length v_tape_end v_tape_at v_tape_fault v_tape_faultAt v_tape_bytes n_tape_taken)))) := by
  refine hdrI (own := RX9) rfl (by decide +kernel) (Nat.le_of_ble_eq_true rfl) ?_
  intro p e s m args below meth c Q A X hQ
  refine g_lvE (lv2 := [(0, .ref h), (1, vI p0), (2, vI p1)]) rfl ?_
  refine g_iload_n X dX9_steady_0 2 rfl ?_
  refine g_iconst X dX9_steady_1 ?_
  refine g_iconst X dX9_steady_2 ?_
  refine g_callSIE X (c_X9_isFrom l D cI cB cJ (p0 := p1) (p1 := 0) (p2 := 1) (by first | assumption | omega) (by first | assumption | omega) (by first | assumption | omega)) cv_X9_isFrom uw719 ⟨rfl, rfl, by decide, by decide⟩ rfl rfl (Nat.le_of_ble_eq_true rfl) ⟨Nat.zero_le _, Nat.zero_le _⟩ dX9_steady_3 (fun t3 ws3 k3 => ?_)
  obtain ⟨kb_3, ⟨kp0_3, rfl⟩⟩ := k3
  refine g_if_eq X (tgt := 23) dX9_steady_6 (by decide) (by omega) (fun c6 => ?_) (fun c6 => ?_)
  · clear kb_3
    replace kp0_3 := (kp0_3.resolve_left (fun h => absurd h.1 (by omega))).2
    refine g_iconst X dX9_steady_23 ?_
    exact hQ _ _ _ _ dX9_steady_24 ⟨v_tape_length, v_tape_taken, (by omega), r_v_tape_taken, (by first | assumption | omega), (by first | assumption | omega), (by first | assumption | omega), rfl⟩
  · replace kb_3 := kb_3.resolve_left (fun h => c6 h)
    replace kp0_3 := kp0_3.resolve_right (fun h => c6 h.1)
    refine g_aload_n X dX9_steady_9 0 rfl ?_
    refine gX9_get X 0 rfl 0 (by decide) uw411 rfl dX9_steady_10 ?_
    refine g_iload_n X dX9_steady_13 1 rfl ?_
    refine g_iconst X dX9_steady_14 ?_
    refine g_bipush X (z := 20) dX9_steady_15 (by decide) ?_
    refine g_callVIw X (c_X7_has l D cI cB cJ h_tape q_tape (p0 := p0) (p1 := 1) (p2 := 20) (by omega) (by first | assumption | omega) (by first | assumption | omega) (by first | assumption | omega)) [2, 3, 4] rfl rfl rfl cv_X7_has uw473 ⟨rfl, rfl, by decide, by decide⟩ 0 rfl rfl rfl rfl rfl (Nat.le_of_ble_eq_true rfl) ⟨Nat.zero_le _, Nat.zero_le _⟩ dX9_steady_17 (fun t17 ws17 k17 => ?_)
    obtain ⟨kb_17, ⟨kp0_17, rfl⟩⟩ := k17
    refine ⟨rfl, ?_⟩
    refine g_ws (ws2 := ((wX9 cI cB cJ h q h_tape o_claims o_nextClaims o_bounds o_otherBounds o_ringSearch o_lawReader o_rules o_nextRules o_market o_trial o_kept o_triangles v_hasKept v_table) ++ (wX7 cI cB cJ h_tape q_tape v_tape_length v_tape_end v_tape_at v_tape_fault v_tape_faultAt v_tape_bytes v_tape_taken))) rfl ?_
    refine g_if_ne X (tgt := 25) dX9_steady_20 (by decide) (by omega) (fun c20 => ?_) (fun c20 => ?_)
    · replace kb_17 := kb_17.resolve_left (fun h => c20 h)
      replace kp0_17 := kp0_17.resolve_right (fun h => c20 h.1)
      refine g_aload_n X dX9_steady_25 0 rfl ?_
      refine gX9_get X 0 rfl 0 (by decide) uw411 rfl dX9_steady_26 ?_
      refine g_iload_n X dX9_steady_29 1 rfl ?_
      refine g_callVRw X (c_X7_take l D cI cB cJ h_tape q_tape (p0 := p0) (by omega) r_v_tape_bytes r_v_tape_taken (by first | assumption | omega) (by first | assumption | omega)) [2, 3, 4] rfl rfl rfl cv_X7_take uw890 ⟨rfl, rfl, by decide, by decide⟩ 0 rfl rfl rfl rfl rfl (Nat.le_of_ble_eq_true rfl) ⟨Nat.zero_le _, Nat.zero_le _⟩ dX9_steady_30 (fun t30 ws30 k30 => ?_)
      obtain ⟨rfl, ⟨tape_length_30, tape_taken_30, kr_tape_length_30, r_tape_taken_30, kp0_30, kp1_30, kp2_30, rfl⟩⟩ := k30
      refine ⟨rfl, ?_⟩
      refine g_ws (ws2 := ((wX9 cI cB cJ h q h_tape o_claims o_nextClaims o_bounds o_otherBounds o_ringSearch o_lawReader o_rules o_nextRules o_market o_trial o_kept o_triangles v_hasKept v_table) ++ (wX7 cI cB cJ h_tape q_tape tape_length_30 v_tape_end v_tape_at v_tape_fault v_tape_faultAt v_tape_bytes tape_taken_30))) rfl ?_
      refine g_astore_n X (lv' := [(3, .ref (q_tape 1)), (0, .ref h), (1, vI p0), (2, vI p1)]) dX9_steady_33 (by decide) rfl ?_
      refine g_iload_n X dX9_steady_34 3 rfl ?_
      refine g_if_ne X (tgt := 46) dX9_steady_35 (by decide) (by omega) (fun c35 => ?_) (fun c35 => ?_)
      · refine g_aload_n X dX9_steady_46 0 rfl ?_
        refine g_iload_n X dX9_steady_47 2 rfl ?_
        refine g_callSIw X (c_X6_longestUnsteady l D cI cB cJ (q_tape 1) (p1 := p0) r_tape_taken_30 (by first | assumption | omega) (by first | assumption | omega) (by first | assumption | omega)) [4] rfl rfl rfl cv_X6_longestUnsteady uw1002 ⟨rfl, rfl, by decide, by decide⟩ rfl rfl (Nat.le_of_ble_eq_true rfl) ⟨Nat.zero_le _, Nat.zero_le _⟩ dX9_steady_48 (fun t48 ws48 k48 => ?_)
        obtain ⟨kp0_48, kp1_48, rfl⟩ := k48
        refine ⟨rfl, ?_⟩
        refine g_ws (ws2 := ((wX9 cI cB cJ h q h_tape o_claims o_nextClaims o_bounds o_otherBounds o_ringSearch o_lawReader o_rules o_nextRules o_market o_trial o_kept o_triangles v_hasKept v_table) ++ (wX7 cI cB cJ h_tape q_tape tape_length_30 v_tape_end v_tape_at v_tape_fault v_tape_faultAt v_tape_bytes tape_taken_30))) rfl ?_
        have hc := stF_c (f := tape_taken_30) (g := v_tape_bytes) p1 (n := p0) (by omega) kp2_30
        have hE := stF_e tape_taken_30 p0 p1
        exact hQ _ _ _ _ dX9_steady_51 ⟨tape_length_30, tape_taken_30, (by omega), r_tape_taken_30, (by first | assumption | omega), (by first | assumption | omega), (by first | assumption | omega), rfl⟩
      · refine g_aload_n X dX9_steady_38 0 rfl ?_
        refine g_iload_n X dX9_steady_39 2 rfl ?_
        refine g_callSIw X (c_X6_longestSteady l D cI cB cJ (q_tape 1) (p1 := p0) r_tape_taken_30 (by first | assumption | omega) (by first | assumption | omega) (by first | assumption | omega)) [4] rfl rfl rfl cv_X6_longestSteady uw996 ⟨rfl, rfl, by decide, by decide⟩ rfl rfl (Nat.le_of_ble_eq_true rfl) ⟨Nat.zero_le _, Nat.zero_le _⟩ dX9_steady_40 (fun t40 ws40 k40 => ?_)
        obtain ⟨kp0_40, kp1_40, rfl⟩ := k40
        refine ⟨rfl, ?_⟩
        refine g_ws (ws2 := ((wX9 cI cB cJ h q h_tape o_claims o_nextClaims o_bounds o_otherBounds o_ringSearch o_lawReader o_rules o_nextRules o_market o_trial o_kept o_triangles v_hasKept v_table) ++ (wX7 cI cB cJ h_tape q_tape tape_length_30 v_tape_end v_tape_at v_tape_fault v_tape_faultAt v_tape_bytes tape_taken_30))) rfl ?_
        refine g_goto X (tgt := 51) dX9_steady_43 (by decide) ?_
        have hc := stF_c (f := tape_taken_30) (g := v_tape_bytes) p1 (n := p0) (by omega) kp2_30
        have hE := stF_e tape_taken_30 p0 p1
        exact hQ _ _ _ _ dX9_steady_51 ⟨tape_length_30, tape_taken_30, (by omega), r_tape_taken_30, (by first | assumption | omega), (by first | assumption | omega), (by first | assumption | omega), rfl⟩
    · clear kb_17
      replace kp0_17 := (kp0_17.resolve_left (fun h => absurd h.1 (by omega))).2
      refine g_iconst X dX9_steady_23 ?_
      exact hQ _ _ _ _ dX9_steady_24 ⟨v_tape_length, v_tape_taken, (by omega), r_v_tape_taken, (by first | assumption | omega), (by first | assumption | omega), (by first | assumption | omega), rfl⟩
set_option maxHeartbeats 600000 in
set_option maxRecDepth 100000 in
theorem c_X9_comes (l : Launch) (D : va_G) (cI cB cJ : ClassId) (h : Nat) (q : Nat → Nat) (h_tape : Nat) (q_tape : Nat → Nat) {o_claims : Nat} {o_nextClaims : Nat} {o_bounds : Nat} {o_otherBounds : Nat} {o_ringSearch : Nat} {o_lawReader : Nat} {o_rules : Nat} {o_nextRules : Nat} {o_market : Nat} {o_trial : Nat} {o_kept : Nat} {o_triangles : Nat} {v_hasKept v_tape_length v_tape_end v_tape_at v_tape_fault v_tape_faultAt : Int} {v_table v_tape_bytes v_tape_taken : Nat → Int} {p0 p1 : Int} (kr_v_tape_length : 0 ≤ v_tape_length ∧ v_tape_length ≤ 260) (r_v_tape_bytes : RA 0 255 v_tape_bytes) (r_v_tape_taken : RA (-2147483648) 2147483647 v_tape_taken) (hp0 : IR p0) (hp1 : IR p1) : CtI l yX9_comes cX9_comes 5 (some .int) ⟨3, 0, 0, 86⟩ D (TY cI cB cJ) ((wX9 cI cB cJ h q h_tape o_claims o_nextClaims o_bounds o_otherBounds o_ringSearch o_lawReader o_rules o_nextRules o_market o_trial o_kept o_triangles v_hasKept v_table) ++ (wX7 cI cB cJ h_tape q_tape v_tape_length v_tape_end v_tape_at v_tape_fault v_tape_faultAt v_tape_bytes v_tape_taken)) [.ref h, vI p0, vI p1] (fun z ws' => ∃ n_tape_length : Int, ∃ n_tape_taken : Nat → Int, (0 ≤ n_tape_length ∧ n_tape_length ≤ 260) ∧ (RA (-2147483648) 2147483647 n_tape_taken) ∧ (IR z) ∧ ((0 ≤ p1 ∧ p1 ≤ 1 ∧ 1 ≤ p0 ∧ p0 ≤ 8 ∧ p0 ≤ v_tape_length ∧ n_tape_length = 0) ∨ (¬ (0 ≤ p1 ∧ p1 ≤ 1 ∧ 1 ≤ p0 ∧ p0 ≤ 8 ∧ p0 ≤ v_tape_length) ∧ n_tape_length = v_tape_length)) ∧ (((0 ≤ p1 ∧ p1 ≤ 1 ∧ 1 ≤ p0 ∧ p0 ≤ 8 ∧ p0 ≤ v_tape_length) ∧ z = cmF v_tape_bytes p0 p1) ∨ (¬ (0 ≤ p1 ∧ p1 ≤ 1 ∧ 1 ≤ p0 ∧ p0 ≤ 8 ∧ p0 ≤ v_tape_length) ∧ z = -1)) ∧ (ws' = ((wX9 cI cB cJ h q h_tape o_claims o_nextClaims o_bounds o_otherBounds o_ringSearch o_lawReader o_rules o_nextRules o_market o_trial o_kept o_triangles v_hasKept v_table) ++ (wX7 cI cB cJ h_tape q_tape n_tape_length v_tape_end v_tape_at v_tape_fault v_tape_faultAt v_tape_bytes n_tape_taken)))) := by
  refine hdrI (own := RX9) rfl (by decide +kernel) (Nat.le_of_ble_eq_true rfl) ?_
  intro p e s m args below meth c Q A X hQ
  refine g_lvE (lv2 := [(0, .ref h), (1, vI p0), (2, vI p1)]) rfl ?_
  refine g_iload_n X dX9_comes_0 2 rfl ?_
  refine g_iconst X dX9_comes_1 ?_
  refine g_iconst X dX9_comes_2 ?_
  refine g_callSIE X (c_X9_isFrom l D cI cB cJ (p0 := p1) (p1 := 0) (p2 := 1) (by first | assumption | omega) (by first | assumption | omega) (by first | assumption | omega)) cv_X9_isFrom uw719 ⟨rfl, rfl, by decide, by decide⟩ rfl rfl (Nat.le_of_ble_eq_true rfl) ⟨Nat.zero_le _, Nat.zero_le _⟩ dX9_comes_3 (fun t3 ws3 k3 => ?_)
  obtain ⟨kb_3, ⟨kp0_3, rfl⟩⟩ := k3
  refine g_if_eq X (tgt := 23) dX9_comes_6 (by decide) (by omega) (fun c6 => ?_) (fun c6 => ?_)
  · clear kb_3
    replace kp0_3 := (kp0_3.resolve_left (fun h => absurd h.1 (by omega))).2
    refine g_iconst X dX9_comes_23 ?_
    exact hQ _ _ _ _ dX9_comes_24 ⟨v_tape_length, v_tape_taken, (by omega), r_v_tape_taken, (by first | assumption | omega), (by first | assumption | omega), (by first | assumption | omega), rfl⟩
  · replace kb_3 := kb_3.resolve_left (fun h => c6 h)
    replace kp0_3 := kp0_3.resolve_right (fun h => c6 h.1)
    refine g_aload_n X dX9_comes_9 0 rfl ?_
    refine gX9_get X 0 rfl 0 (by decide) uw411 rfl dX9_comes_10 ?_
    refine g_iload_n X dX9_comes_13 1 rfl ?_
    refine g_iconst X dX9_comes_14 ?_
    refine g_bipush X (z := 8) dX9_comes_15 (by decide) ?_
    refine g_callVIw X (c_X7_has l D cI cB cJ h_tape q_tape (p0 := p0) (p1 := 1) (p2 := 8) (by omega) (by first | assumption | omega) (by first | assumption | omega) (by first | assumption | omega)) [2, 3, 4] rfl rfl rfl cv_X7_has uw473 ⟨rfl, rfl, by decide, by decide⟩ 0 rfl rfl rfl rfl rfl (Nat.le_of_ble_eq_true rfl) ⟨Nat.zero_le _, Nat.zero_le _⟩ dX9_comes_17 (fun t17 ws17 k17 => ?_)
    obtain ⟨kb_17, ⟨kp0_17, rfl⟩⟩ := k17
    refine ⟨rfl, ?_⟩
    refine g_ws (ws2 := ((wX9 cI cB cJ h q h_tape o_claims o_nextClaims o_bounds o_otherBounds o_ringSearch o_lawReader o_rules o_nextRules o_market o_trial o_kept o_triangles v_hasKept v_table) ++ (wX7 cI cB cJ h_tape q_tape v_tape_length v_tape_end v_tape_at v_tape_fault v_tape_faultAt v_tape_bytes v_tape_taken))) rfl ?_
    refine g_if_ne X (tgt := 25) dX9_comes_20 (by decide) (by omega) (fun c20 => ?_) (fun c20 => ?_)
    · replace kb_17 := kb_17.resolve_left (fun h => c20 h)
      replace kp0_17 := kp0_17.resolve_right (fun h => c20 h.1)
      refine g_aload_n X dX9_comes_25 0 rfl ?_
      refine gX9_get X 0 rfl 0 (by decide) uw411 rfl dX9_comes_26 ?_
      refine g_iload_n X dX9_comes_29 1 rfl ?_
      refine g_callVRw X (c_X7_take l D cI cB cJ h_tape q_tape (p0 := p0) (by omega) r_v_tape_bytes r_v_tape_taken (by first | assumption | omega) (by first | assumption | omega)) [2, 3, 4] rfl rfl rfl cv_X7_take uw890 ⟨rfl, rfl, by decide, by decide⟩ 0 rfl rfl rfl rfl rfl (Nat.le_of_ble_eq_true rfl) ⟨Nat.zero_le _, Nat.zero_le _⟩ dX9_comes_30 (fun t30 ws30 k30 => ?_)
      obtain ⟨rfl, ⟨tape_length_30, tape_taken_30, kr_tape_length_30, r_tape_taken_30, kp0_30, kp1_30, kp2_30, rfl⟩⟩ := k30
      refine ⟨rfl, ?_⟩
      refine g_ws (ws2 := ((wX9 cI cB cJ h q h_tape o_claims o_nextClaims o_bounds o_otherBounds o_ringSearch o_lawReader o_rules o_nextRules o_market o_trial o_kept o_triangles v_hasKept v_table) ++ (wX7 cI cB cJ h_tape q_tape tape_length_30 v_tape_end v_tape_at v_tape_fault v_tape_faultAt v_tape_bytes tape_taken_30))) rfl ?_
      refine g_astore_n X (lv' := [(3, .ref (q_tape 1)), (0, .ref h), (1, vI p0), (2, vI p1)]) dX9_comes_33 (by decide) rfl ?_
      refine g_aload_n X dX9_comes_34 0 rfl ?_
      refine g_iload_n X dX9_comes_35 2 rfl ?_
      refine g_callSIw X (c_X6_least l D cI cB cJ (q_tape 1) (p1 := p0) r_tape_taken_30 (by first | assumption | omega) (by first | assumption | omega) (by first | assumption | omega)) [4] rfl rfl rfl cv_X6_least uw1009 ⟨rfl, rfl, by decide, by decide⟩ rfl rfl (Nat.le_of_ble_eq_true rfl) ⟨Nat.zero_le _, Nat.zero_le _⟩ dX9_comes_36 (fun t36 ws36 k36 => ?_)
      obtain ⟨kp0_36, kp1_36, rfl⟩ := k36
      refine ⟨rfl, ?_⟩
      refine g_ws (ws2 := ((wX9 cI cB cJ h q h_tape o_claims o_nextClaims o_bounds o_otherBounds o_ringSearch o_lawReader o_rules o_nextRules o_market o_trial o_kept o_triangles v_hasKept v_table) ++ (wX7 cI cB cJ h_tape q_tape tape_length_30 v_tape_end v_tape_at v_tape_fault v_tape_faultAt v_tape_bytes tape_taken_30))) rfl ?_
      refine g_if_eq X (tgt := 50) dX9_comes_39 (by decide) (by omega) (fun c39 => ?_) (fun c39 => ?_)
      · refine g_bipush X (z := (-3)) dX9_comes_50 (by decide) ?_
        have hF : cmF v_tape_bytes p0 p1 = -3 := by rw [← cmF_c p1 kp2_30]; exact cmF_bad _ (by omega)
        exact hQ _ _ _ _ dX9_comes_52 ⟨tape_length_30, tape_taken_30, (by omega), r_tape_taken_30, (by first | assumption | omega), (by first | assumption | omega), (by first | assumption | omega), rfl⟩
      · refine g_aload_n X dX9_comes_42 0 rfl ?_
        refine g_iload_n X dX9_comes_43 2 rfl ?_
        refine g_callSIw X (c_X6_hasTwoAlike l D cI cB cJ (q_tape 1) (p1 := p0) r_tape_taken_30 (by first | assumption | omega) (by first | assumption | omega) (by first | assumption | omega)) [4] rfl rfl rfl cv_X6_hasTwoAlike uw1012 ⟨rfl, rfl, by decide, by decide⟩ rfl rfl (Nat.le_of_ble_eq_true rfl) ⟨Nat.zero_le _, Nat.zero_le _⟩ dX9_comes_44 (fun t44 ws44 k44 => ?_)
        obtain ⟨kb_44, ⟨kp0_44, rfl⟩⟩ := k44
        refine ⟨rfl, ?_⟩
        refine g_ws (ws2 := ((wX9 cI cB cJ h q h_tape o_claims o_nextClaims o_bounds o_otherBounds o_ringSearch o_lawReader o_rules o_nextRules o_market o_trial o_kept o_triangles v_hasKept v_table) ++ (wX7 cI cB cJ h_tape q_tape tape_length_30 v_tape_end v_tape_at v_tape_fault v_tape_faultAt v_tape_bytes tape_taken_30))) rfl ?_
        refine g_if_eq X (tgt := 53) dX9_comes_47 (by decide) (by omega) (fun c47 => ?_) (fun c47 => ?_)
        · clear kb_44
          replace kp0_44 := (kp0_44.resolve_left (fun h => absurd h.1 (by omega))).2
          have hN : ¬ 0 < ctP (fun j => decide (tape_taken_30 j = 0)) p0.toNat := by omega
          have hW : ¬ 0 < twO tape_taken_30 0 p0.toNat := by omega
          have hpos : ∀ j : Nat, (j : Int) < p0 → 1 ≤ tape_taken_30 j ∧ tape_taken_30 j ≤ 255 := fun j hj => by have h1 := cm_nz (fun i hi => (kp0_30 i (by omega)).1) hN j (by omega); have h2 := kp0_30 j hj; omega
          have hdis : ∀ i j : Nat, (i : Int) < p0 → (j : Int) < p0 → tape_taken_30 i = tape_taken_30 j → i = j := fun i j hi hj he => twO_ne hW i j (by omega) (by omega) he
          refine g_aload_n X dX9_comes_53 0 rfl ?_
          refine g_iload_n X dX9_comes_54 2 rfl ?_
          refine g_callSIw X (c_X6_writtenOf l D cI cB cJ (q_tape 1) (p1 := p0) r_tape_taken_30 (by first | assumption | omega) (by first | assumption | omega) (by first | assumption | omega) (by first | assumption | omega)) [4] rfl rfl rfl cv_X6_writtenOf uw1016 ⟨rfl, rfl, by decide, by decide⟩ rfl rfl (Nat.le_of_ble_eq_true rfl) ⟨Nat.zero_le _, Nat.zero_le _⟩ dX9_comes_55 (fun t55 ws55 k55 => ?_)
          obtain ⟨kp0_55, kp1_55, rfl⟩ := k55
          refine ⟨rfl, ?_⟩
          refine g_ws (ws2 := ((wX9 cI cB cJ h q h_tape o_claims o_nextClaims o_bounds o_otherBounds o_ringSearch o_lawReader o_rules o_nextRules o_market o_trial o_kept o_triangles v_hasKept v_table) ++ (wX7 cI cB cJ h_tape q_tape tape_length_30 v_tape_end v_tape_at v_tape_fault v_tape_faultAt v_tape_bytes tape_taken_30))) rfl ?_
          refine g_istore X (lv' := [(4, vI t55), (3, .ref (q_tape 1)), (0, .ref h), (1, vI p0), (2, vI p1)]) dX9_comes_58 (by decide) rfl ?_
          refine g_iload_n X dX9_comes_60 4 rfl ?_
          refine g_if_ne X (tgt := 69) dX9_comes_61 (by decide) (by omega) (fun c61 => ?_) (fun c61 => ?_)
          · refine g_iload X dX9_comes_69 0 rfl ?_
            refine g_iconst X dX9_comes_71 ?_
            refine g_iand X dX9_comes_72 ?_
            refine g_nm (fun t72 e72 => ?_)
            have r72 := z_iand_r t55 1 (by omega) (by omega); rw [← e72] at r72
            have hB : ¬ (0 < ctP (fun j => decide (tape_taken_30 j = 0)) p0.toNat ∨ 0 < twO tape_taken_30 0 p0.toNat) := by omega
            have hF : t72 = cmF v_tape_bytes p0 p1 := by rw [← cmF_c p1 kp2_30]; first | (rw [cmF_0 hB (by omega)]; exact kp1_55) | (rw [cmF_1 hB (by omega), ← kp1_55, e72]; exact z_and1 (by omega))
            exact hQ _ _ _ _ dX9_comes_73 ⟨tape_length_30, tape_taken_30, (by omega), r_tape_taken_30, (by first | assumption | omega), (by first | assumption | omega), (by first | assumption | omega), rfl⟩
          · refine g_iload X dX9_comes_64 0 rfl ?_
            refine g_goto X (tgt := 73) dX9_comes_66 (by decide) ?_
            have hB : ¬ (0 < ctP (fun j => decide (tape_taken_30 j = 0)) p0.toNat ∨ 0 < twO tape_taken_30 0 p0.toNat) := by omega
            have hF : t55 = cmF v_tape_bytes p0 p1 := by rw [← cmF_c p1 kp2_30]; first | (rw [cmF_0 hB (by omega)]; exact kp1_55) | (rw [cmF_1 hB (by omega), ← kp1_55, e72]; exact z_and1 (by omega))
            exact hQ _ _ _ _ dX9_comes_73 ⟨tape_length_30, tape_taken_30, (by omega), r_tape_taken_30, (by first | assumption | omega), (by first | assumption | omega), (by first | assumption | omega), rfl⟩
        · replace kb_44 := kb_44.resolve_left (fun h => c47 h)
          replace kp0_44 := kp0_44.resolve_right (fun h => c47 h.1)
          refine g_bipush X (z := (-3)) dX9_comes_50 (by decide) ?_
          have hF : cmF v_tape_bytes p0 p1 = -3 := by rw [← cmF_c p1 kp2_30]; exact cmF_bad _ (by omega)
          exact hQ _ _ _ _ dX9_comes_52 ⟨tape_length_30, tape_taken_30, (by omega), r_tape_taken_30, (by first | assumption | omega), (by first | assumption | omega), (by first | assumption | omega), rfl⟩
    · clear kb_17
      replace kp0_17 := (kp0_17.resolve_left (fun h => absurd h.1 (by omega))).2
      refine g_iconst X dX9_comes_23 ?_
      exact hQ _ _ _ _ dX9_comes_24 ⟨v_tape_length, v_tape_taken, (by omega), r_v_tape_taken, (by first | assumption | omega), (by first | assumption | omega), (by first | assumption | omega), rfl⟩
set_option maxHeartbeats 600000 in
set_option maxRecDepth 100000 in
theorem c_X9_rests (l : Launch) (D : va_G) (cI cB cJ : ClassId) (h : Nat) (q : Nat → Nat) (h_tape : Nat) (q_tape : Nat → Nat) {o_claims : Nat} {o_nextClaims : Nat} {o_bounds : Nat} {o_otherBounds : Nat} {o_ringSearch : Nat} {o_lawReader : Nat} {o_rules : Nat} {o_nextRules : Nat} {o_market : Nat} {o_trial : Nat} {o_kept : Nat} {o_triangles : Nat} {v_hasKept v_tape_length v_tape_end v_tape_at v_tape_fault v_tape_faultAt : Int} {v_table v_tape_bytes v_tape_taken : Nat → Int} {p0 p1 p2 : Int} (r_v_table : RA (-2147483648) 2147483647 v_table) (kr_v_tape_length : 0 ≤ v_tape_length ∧ v_tape_length ≤ 260) (r_v_tape_bytes : RA 0 255 v_tape_bytes) (r_v_tape_taken : RA (-2147483648) 2147483647 v_tape_taken) (hp0 : IR p0) (hp1 : IR p1) (hp2 : IR p2) : CtI l yX9_rests cX9_rests 5 (some .int) ⟨4, 0, 0, 112⟩ D (TY cI cB cJ) ((wX9 cI cB cJ h q h_tape o_claims o_nextClaims o_bounds o_otherBounds o_ringSearch o_lawReader o_rules o_nextRules o_market o_trial o_kept o_triangles v_hasKept v_table) ++ (wX7 cI cB cJ h_tape q_tape v_tape_length v_tape_end v_tape_at v_tape_fault v_tape_faultAt v_tape_bytes v_tape_taken)) [.ref h, vI p0, vI p1, vI p2] (fun z ws' => ∃ n_table : Nat → Int, ∃ n_tape_length : Int, ∃ n_tape_taken : Nat → Int, (RA (-2147483648) 2147483647 n_table) ∧ (0 ≤ n_tape_length ∧ n_tape_length ≤ 260) ∧ (RA (-2147483648) 2147483647 n_tape_taken) ∧ (IR z) ∧ ((2 ≤ p1 ∧ p1 ≤ 60 ∧ 0 ≤ p2 ∧ p2 ≤ 1 ∧ 2 ≤ p0 ∧ p0 ≤ 12 ∧ p0 ≤ v_tape_length ∧ n_tape_length = 0) ∨ (¬ (2 ≤ p1 ∧ p1 ≤ 60 ∧ 0 ≤ p2 ∧ p2 ≤ 1 ∧ 2 ≤ p0 ∧ p0 ≤ 12 ∧ p0 ≤ v_tape_length) ∧ n_tape_length = v_tape_length)) ∧ (((2 ≤ p1 ∧ p1 ≤ 60 ∧ 0 ≤ p2 ∧ p2 ≤ 1 ∧ 2 ≤ p0 ∧ p0 ≤ 12 ∧ p0 ≤ v_tape_length) ∧ z = rsF v_tape_bytes p0 p1 p2) ∨ (¬ (2 ≤ p1 ∧ p1 ≤ 60 ∧ 0 ≤ p2 ∧ p2 ≤ 1 ∧ 2 ≤ p0 ∧ p0 ≤ 12 ∧ p0 ≤ v_tape_length) ∧ z = -1)) ∧ (ws' = ((wX9 cI cB cJ h q h_tape o_claims o_nextClaims o_bounds o_otherBounds o_ringSearch o_lawReader o_rules o_nextRules o_market o_trial o_kept o_triangles v_hasKept n_table) ++ (wX7 cI cB cJ h_tape q_tape n_tape_length v_tape_end v_tape_at v_tape_fault v_tape_faultAt v_tape_bytes n_tape_taken)))) := by
  refine hdrI (own := RX9) rfl (by decide +kernel) (Nat.le_of_ble_eq_true rfl) ?_
  intro p e s m args below meth c Q A X hQ
  refine g_lvE (lv2 := [(0, .ref h), (1, vI p0), (2, vI p1), (3, vI p2)]) rfl ?_
  refine g_iload_n X dX9_rests_0 2 rfl ?_
  refine g_iconst X dX9_rests_1 ?_
  refine g_bipush X (z := 60) dX9_rests_2 (by decide) ?_
  refine g_callSIE X (c_X9_isFrom l D cI cB cJ (p0 := p1) (p1 := 2) (p2 := 60) (by first | assumption | omega) (by first | assumption | omega) (by first | assumption | omega)) cv_X9_isFrom uw719 ⟨rfl, rfl, by decide, by decide⟩ rfl rfl (Nat.le_of_ble_eq_true rfl) ⟨Nat.zero_le _, Nat.zero_le _⟩ dX9_rests_4 (fun t4 ws4 k4 => ?_)
  obtain ⟨kb_4, ⟨kp0_4, rfl⟩⟩ := k4
  refine g_if_eq X (tgt := 33) dX9_rests_7 (by decide) (by omega) (fun c7 => ?_) (fun c7 => ?_)
  · clear kb_4
    replace kp0_4 := (kp0_4.resolve_left (fun h => absurd h.1 (by omega))).2
    refine g_iconst X dX9_rests_33 ?_
    exact hQ _ _ _ _ dX9_rests_34 ⟨v_table, v_tape_length, v_tape_taken, r_v_table, (by omega), r_v_tape_taken, (by first | assumption | omega), (by first | assumption | omega), (by first | assumption | omega), rfl⟩
  · replace kb_4 := kb_4.resolve_left (fun h => c7 h)
    replace kp0_4 := kp0_4.resolve_right (fun h => c7 h.1)
    refine g_iload_n X dX9_rests_10 3 rfl ?_
    refine g_iconst X dX9_rests_11 ?_
    refine g_iconst X dX9_rests_12 ?_
    refine g_callSIE X (c_X9_isFrom l D cI cB cJ (p0 := p2) (p1 := 0) (p2 := 1) (by first | assumption | omega) (by first | assumption | omega) (by first | assumption | omega)) cv_X9_isFrom uw719 ⟨rfl, rfl, by decide, by decide⟩ rfl rfl (Nat.le_of_ble_eq_true rfl) ⟨Nat.zero_le _, Nat.zero_le _⟩ dX9_rests_13 (fun t13 ws13 k13 => ?_)
    obtain ⟨kb_13, ⟨kp0_13, rfl⟩⟩ := k13
    refine g_if_eq X (tgt := 33) dX9_rests_16 (by decide) (by omega) (fun c16 => ?_) (fun c16 => ?_)
    · clear kb_13
      replace kp0_13 := (kp0_13.resolve_left (fun h => absurd h.1 (by omega))).2
      refine g_iconst X dX9_rests_33 ?_
      exact hQ _ _ _ _ dX9_rests_34 ⟨v_table, v_tape_length, v_tape_taken, r_v_table, (by omega), r_v_tape_taken, (by first | assumption | omega), (by first | assumption | omega), (by first | assumption | omega), rfl⟩
    · replace kb_13 := kb_13.resolve_left (fun h => c16 h)
      replace kp0_13 := kp0_13.resolve_right (fun h => c16 h.1)
      refine g_aload_n X dX9_rests_19 0 rfl ?_
      refine gX9_get X 0 rfl 0 (by decide) uw411 rfl dX9_rests_20 ?_
      refine g_iload_n X dX9_rests_23 1 rfl ?_
      refine g_iconst X dX9_rests_24 ?_
      refine g_bipush X (z := 12) dX9_rests_25 (by decide) ?_
      refine g_callVIw X (c_X7_has l D cI cB cJ h_tape q_tape (p0 := p0) (p1 := 2) (p2 := 12) (by omega) (by first | assumption | omega) (by first | assumption | omega) (by first | assumption | omega)) [2, 3, 4] rfl rfl rfl cv_X7_has uw473 ⟨rfl, rfl, by decide, by decide⟩ 0 rfl rfl rfl rfl rfl (Nat.le_of_ble_eq_true rfl) ⟨Nat.zero_le _, Nat.zero_le _⟩ dX9_rests_27 (fun t27 ws27 k27 => ?_)
      obtain ⟨kb_27, ⟨kp0_27, rfl⟩⟩ := k27
      refine ⟨rfl, ?_⟩
      refine g_ws (ws2 := ((wX9 cI cB cJ h q h_tape o_claims o_nextClaims o_bounds o_otherBounds o_ringSearch o_lawReader o_rules o_nextRules o_market o_trial o_kept o_triangles v_hasKept v_table) ++ (wX7 cI cB cJ h_tape q_tape v_tape_length v_tape_end v_tape_at v_tape_fault v_tape_faultAt v_tape_bytes v_tape_taken))) rfl ?_
      refine g_if_ne X (tgt := 35) dX9_rests_30 (by decide) (by omega) (fun c30 => ?_) (fun c30 => ?_)
      · replace kb_27 := kb_27.resolve_left (fun h => c30 h)
        replace kp0_27 := kp0_27.resolve_right (fun h => c30 h.1)
        refine g_aload_n X dX9_rests_35 0 rfl ?_
        refine gX9_get X 0 rfl 0 (by decide) uw411 rfl dX9_rests_36 ?_
        refine g_iload_n X dX9_rests_39 1 rfl ?_
        refine g_callVRw X (c_X7_take l D cI cB cJ h_tape q_tape (p0 := p0) (by omega) r_v_tape_bytes r_v_tape_taken (by first | assumption | omega) (by first | assumption | omega)) [2, 3, 4] rfl rfl rfl cv_X7_take uw890 ⟨rfl, rfl, by decide, by decide⟩ 0 rfl rfl rfl rfl rfl (Nat.le_of_ble_eq_true rfl) ⟨Nat.zero_le _, Nat.zero_le _⟩ dX9_rests_40 (fun t40 ws40 k40 => ?_)
        obtain ⟨rfl, ⟨tape_length_40, tape_taken_40, kr_tape_length_40, r_tape_taken_40, kp0_40, kp1_40, kp2_40, rfl⟩⟩ := k40
        refine ⟨rfl, ?_⟩
        refine g_ws (ws2 := ((wX9 cI cB cJ h q h_tape o_claims o_nextClaims o_bounds o_otherBounds o_ringSearch o_lawReader o_rules o_nextRules o_market o_trial o_kept o_triangles v_hasKept v_table) ++ (wX7 cI cB cJ h_tape q_tape tape_length_40 v_tape_end v_tape_at v_tape_fault v_tape_faultAt v_tape_bytes tape_taken_40))) rfl ?_
        refine g_astore X (lv' := [(4, .ref (q_tape 1)), (0, .ref h), (1, vI p0), (2, vI p1), (3, vI p2)]) dX9_rests_43 (by decide) rfl ?_
        refine g_aload X dX9_rests_45 0 rfl ?_
        refine g_iload_n X dX9_rests_47 2 rfl ?_
        refine g_callSIw X (c_X6_greatest l D cI cB cJ (q_tape 1) (p1 := p0) r_tape_taken_40 (by first | assumption | omega) (by first | assumption | omega) (by first | assumption | omega)) [4] rfl rfl rfl cv_X6_greatest uw1029 ⟨rfl, rfl, by decide, by decide⟩ rfl rfl (Nat.le_of_ble_eq_true rfl) ⟨Nat.zero_le _, Nat.zero_le _⟩ dX9_rests_48 (fun t48 ws48 k48 => ?_)
        obtain ⟨kp0_48, kp1_48, kp2_48, kp3_48, rfl⟩ := k48
        refine ⟨rfl, ?_⟩
        refine g_ws (ws2 := ((wX9 cI cB cJ h q h_tape o_claims o_nextClaims o_bounds o_otherBounds o_ringSearch o_lawReader o_rules o_nextRules o_market o_trial o_kept o_triangles v_hasKept v_table) ++ (wX7 cI cB cJ h_tape q_tape tape_length_40 v_tape_end v_tape_at v_tape_fault v_tape_faultAt v_tape_bytes tape_taken_40))) rfl ?_
        refine g_iload_n X dX9_rests_51 3 rfl ?_
        refine g_icmp_ge X (tgt := 64) dX9_rests_52 (by decide) (by omega) (by omega) (fun c52 => ?_) (fun c52 => ?_)
        · refine g_bipush X (z := (-3)) dX9_rests_64 (by decide) ?_
          have hF : rsF v_tape_bytes p0 p1 p2 = -3 := by rw [← rsF_c p1 p2 kp2_40]; first | (exact rsF_bad _ (Or.inr (by omega))) | (obtain ⟨j, h1, h2⟩ := kp3_48; exact rsF_bad _ (Or.inl (ctP_pos (P := fun j => decide (p1 ≤ tape_taken_40 j)) (j := j) (by omega) (decide_eq_true (by omega)))))
          exact hQ _ _ _ _ dX9_rests_66 ⟨v_table, tape_length_40, tape_taken_40, r_v_table, (by omega), r_tape_taken_40, (by first | assumption | omega), (by first | assumption | omega), (by first | assumption | omega), rfl⟩
        · refine g_aload X dX9_rests_55 0 rfl ?_
          refine g_iload_n X dX9_rests_57 2 rfl ?_
          refine g_callSIw X (c_X6_hasTwoAlike l D cI cB cJ (q_tape 1) (p1 := p0) r_tape_taken_40 (by first | assumption | omega) (by first | assumption | omega) (by first | assumption | omega)) [4] rfl rfl rfl cv_X6_hasTwoAlike uw1012 ⟨rfl, rfl, by decide, by decide⟩ rfl rfl (Nat.le_of_ble_eq_true rfl) ⟨Nat.zero_le _, Nat.zero_le _⟩ dX9_rests_58 (fun t58 ws58 k58 => ?_)
          obtain ⟨kb_58, ⟨kp0_58, rfl⟩⟩ := k58
          refine ⟨rfl, ?_⟩
          refine g_ws (ws2 := ((wX9 cI cB cJ h q h_tape o_claims o_nextClaims o_bounds o_otherBounds o_ringSearch o_lawReader o_rules o_nextRules o_market o_trial o_kept o_triangles v_hasKept v_table) ++ (wX7 cI cB cJ h_tape q_tape tape_length_40 v_tape_end v_tape_at v_tape_fault v_tape_faultAt v_tape_bytes tape_taken_40))) rfl ?_
          refine g_if_eq X (tgt := 67) dX9_rests_61 (by decide) (by omega) (fun c61 => ?_) (fun c61 => ?_)
          · clear kb_58
            replace kp0_58 := (kp0_58.resolve_left (fun h => absurd h.1 (by omega))).2
            refine g_aload X dX9_rests_67 0 rfl ?_
            refine g_iload_n X dX9_rests_69 2 rfl ?_
            refine g_iload_n X dX9_rests_70 3 rfl ?_
            refine g_aload_n X dX9_rests_71 1 rfl ?_
            refine gX9_get X 0 rfl 14 (by decide) uw425 rfl dX9_rests_72 ?_
            have hq : ∀ j : Nat, (j : Int) < p0 → 0 ≤ tape_taken_40 j ∧ tape_taken_40 j < p1 := fun j hj => ⟨(kp0_40 j hj).1, by have := kp1_48 j hj; omega⟩
            have hd9 : ∀ i j : Nat, (i : Int) < p0 → (j : Int) < p0 → tape_taken_40 i = tape_taken_40 j → i = j := fun i j hi hj he => twO_ne (by omega) i j (by omega) (by omega) he
            refine g_callSVw X (c_X6_countRests l D cI cB cJ (q_tape 1) (q 0) (p1 := p0) (p2 := p1) r_tape_taken_40 r_v_table (by first | assumption | omega) (by first | assumption | omega) (by first | assumption | omega) (by first | assumption | omega) (by first | assumption | omega) (by first | assumption | omega)) [4, 1] rfl rfl rfl cv_X6_countRests uw1030 ⟨rfl, rfl, by decide, by decide⟩ rfl rfl (Nat.le_of_ble_eq_true rfl) ⟨Nat.zero_le _, Nat.zero_le _⟩ dX9_rests_75 (fun ws75 k75 => ?_)
            obtain ⟨table_75, r_table_75, kp0_75, rfl⟩ := k75
            refine ⟨rfl, ?_⟩
            refine g_ws (ws2 := ((wX9 cI cB cJ h q h_tape o_claims o_nextClaims o_bounds o_otherBounds o_ringSearch o_lawReader o_rules o_nextRules o_market o_trial o_kept o_triangles v_hasKept table_75) ++ (wX7 cI cB cJ h_tape q_tape tape_length_40 v_tape_end v_tape_at v_tape_fault v_tape_faultAt v_tape_bytes tape_taken_40))) rfl ?_
            have hg9 : ∀ v : Nat, 1 ≤ v → (v : Int) < p1 → 0 ≤ table_75 v ∧ table_75 v ≤ 1000 := fun v h1 h2 => by rw [kp0_75 v h1 h2]; have h3 := rsO_r tape_taken_40 p1 p0.toNat p0.toNat (by omega) v; omega
            refine g_iload_n X dX9_rests_78 4 rfl ?_
            refine g_if_ne X (tgt := 93) dX9_rests_79 (by decide) (by omega) (fun c79 => ?_) (fun c79 => ?_)
            · refine g_aload_n X dX9_rests_93 1 rfl ?_
              refine gX9_get X 0 rfl 14 (by decide) uw425 rfl dX9_rests_94 ?_
              refine g_iload_n X dX9_rests_97 3 rfl ?_
              refine g_callSIw X (c_X6_mostRest l D cI cB cJ (q 0) (p1 := p1) r_table_75 (by first | assumption | omega) (by first | assumption | omega) (by first | assumption | omega)) [1] rfl rfl rfl cv_X6_mostRest uw1037 ⟨rfl, rfl, by decide, by decide⟩ rfl rfl (Nat.le_of_ble_eq_true rfl) ⟨Nat.zero_le _, Nat.zero_le _⟩ dX9_rests_98 (fun t98 ws98 k98 => ?_)
              obtain ⟨kp0_98, kp1_98, rfl⟩ := k98
              refine ⟨rfl, ?_⟩
              refine g_ws (ws2 := ((wX9 cI cB cJ h q h_tape o_claims o_nextClaims o_bounds o_otherBounds o_ringSearch o_lawReader o_rules o_nextRules o_market o_trial o_kept o_triangles v_hasKept table_75) ++ (wX7 cI cB cJ h_tape q_tape tape_length_40 v_tape_end v_tape_at v_tape_fault v_tape_faultAt v_tape_bytes tape_taken_40))) rfl ?_
              have hB : ¬ (0 < ctP (fun j => decide (p1 ≤ tape_taken_40 j)) p0.toNat ∨ 0 < twO tape_taken_40 0 p0.toNat) := by rw [ctP_z (P := fun j => decide (p1 ≤ tape_taken_40 j)) (fun j hj => decide_eq_false (by have := kp1_48 j (by omega); omega))]; omega
              have hF := rsF_e p2 hB
              rw [rsF_c p1 p2 kp2_40] at hF
              have hl : lsM table_75 (p1 - 1).toNat = lsM (rsO tape_taken_40 p1 p0.toNat p0.toNat) (p1 - 1).toNat := lsM_c _ (fun j h1 h2 => kp0_75 j h1 (by omega))
              have hm : msM table_75 (p1 - 1).toNat = msM (rsO tape_taken_40 p1 p0.toNat p0.toNat) (p1 - 1).toNat := msM_c _ (fun j h1 h2 => kp0_75 j h1 (by omega))
              exact hQ _ _ _ _ dX9_rests_101 ⟨table_75, tape_length_40, tape_taken_40, r_table_75, (by omega), r_tape_taken_40, (by first | assumption | omega), (by first | assumption | omega), (by first | assumption | omega), rfl⟩
            · refine g_aload_n X dX9_rests_82 1 rfl ?_
              refine gX9_get X 0 rfl 14 (by decide) uw425 rfl dX9_rests_83 ?_
              refine g_iload_n X dX9_rests_86 3 rfl ?_
              refine g_callSIw X (c_X6_leastRest l D cI cB cJ (q 0) (p1 := p1) r_table_75 (by first | assumption | omega) (by first | assumption | omega) (by first | assumption | omega)) [1] rfl rfl rfl cv_X6_leastRest uw1034 ⟨rfl, rfl, by decide, by decide⟩ rfl rfl (Nat.le_of_ble_eq_true rfl) ⟨Nat.zero_le _, Nat.zero_le _⟩ dX9_rests_87 (fun t87 ws87 k87 => ?_)
              obtain ⟨kp0_87, kp1_87, rfl⟩ := k87
              refine ⟨rfl, ?_⟩
              refine g_ws (ws2 := ((wX9 cI cB cJ h q h_tape o_claims o_nextClaims o_bounds o_otherBounds o_ringSearch o_lawReader o_rules o_nextRules o_market o_trial o_kept o_triangles v_hasKept table_75) ++ (wX7 cI cB cJ h_tape q_tape tape_length_40 v_tape_end v_tape_at v_tape_fault v_tape_faultAt v_tape_bytes tape_taken_40))) rfl ?_
              refine g_goto X (tgt := 101) dX9_rests_90 (by decide) ?_
              have hB : ¬ (0 < ctP (fun j => decide (p1 ≤ tape_taken_40 j)) p0.toNat ∨ 0 < twO tape_taken_40 0 p0.toNat) := by rw [ctP_z (P := fun j => decide (p1 ≤ tape_taken_40 j)) (fun j hj => decide_eq_false (by have := kp1_48 j (by omega); omega))]; omega
              have hF := rsF_e p2 hB
              rw [rsF_c p1 p2 kp2_40] at hF
              have hl : lsM table_75 (p1 - 1).toNat = lsM (rsO tape_taken_40 p1 p0.toNat p0.toNat) (p1 - 1).toNat := lsM_c _ (fun j h1 h2 => kp0_75 j h1 (by omega))
              have hm : msM table_75 (p1 - 1).toNat = msM (rsO tape_taken_40 p1 p0.toNat p0.toNat) (p1 - 1).toNat := msM_c _ (fun j h1 h2 => kp0_75 j h1 (by omega))
              exact hQ _ _ _ _ dX9_rests_101 ⟨table_75, tape_length_40, tape_taken_40, r_table_75, (by omega), r_tape_taken_40, (by first | assumption | omega), (by first | assumption | omega), (by first | assumption | omega), rfl⟩
          · replace kb_58 := kb_58.resolve_left (fun h => c61 h)
            replace kp0_58 := kp0_58.resolve_right (fun h => c61 h.1)
            refine g_bipush X (z := (-3)) dX9_rests_64 (by decide) ?_
            have hF : rsF v_tape_bytes p0 p1 p2 = -3 := by rw [← rsF_c p1 p2 kp2_40]; first | (exact rsF_bad _ (Or.inr (by omega))) | (obtain ⟨j, h1, h2⟩ := kp3_48; exact rsF_bad _ (Or.inl (ctP_pos (P := fun j => decide (p1 ≤ tape_taken_40 j)) (j := j) (by omega) (decide_eq_true (by omega)))))
            exact hQ _ _ _ _ dX9_rests_66 ⟨v_table, tape_length_40, tape_taken_40, r_v_table, (by omega), r_tape_taken_40, (by first | assumption | omega), (by first | assumption | omega), (by first | assumption | omega), rfl⟩
      · clear kb_27
        replace kp0_27 := (kp0_27.resolve_left (fun h => absurd h.1 (by omega))).2
        refine g_iconst X dX9_rests_33 ?_
        exact hQ _ _ _ _ dX9_rests_34 ⟨v_table, v_tape_length, v_tape_taken, r_v_table, (by omega), r_v_tape_taken, (by first | assumption | omega), (by first | assumption | omega), (by first | assumption | omega), rfl⟩
