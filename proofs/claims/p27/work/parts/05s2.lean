set_option maxHeartbeats 600000 in
set_option maxRecDepth 100000 in
theorem c_X6_bestRiseOf (l : Launch) (D : va_G) (cI cB cJ : ClassId) (r_row : Nat) {v_row : Nat → Int} {p1 p2 : Int} (r_v_row : RA (-2147483648) 2147483647 v_row) (hp0 : IR p1) (hp1 : IR p2) (hp2 : 1 ≤ p1 ∧ p1 ≤ 20) (hp3 : 1 ≤ p2 ∧ p2 ≤ 3) (hp4 : ∀ j : Nat, (j : Int) < p1 → 0 ≤ v_row j ∧ v_row j ≤ 255) : CtIJ l yX6_bestRiseOf cX6_bestRiseOf 7 (some .int) ⟨1, 2, 8, 40⟩ D (TY cI cB cJ) (wA cI 20 r_row v_row) [.ref r_row, vI p1, vI p2] (fun z ws' => ∃ n_row : Nat → Int, (RA (-2147483648) 2147483647 n_row) ∧ (IR z) ∧ (z = brF v_row p1.toNat p2.toNat) ∧ (ws' = (wA cI 20 r_row n_row))) 2 8 := by
  refine hdrIJ (own := RX6) rfl (by decide +kernel) (Nat.le_of_ble_eq_true rfl) ?_
  intro p e s m args below meth c Q A X hQ
  refine g_lvE (lv2 := [(0, .ref r_row), (1, vI p1), (2, vI p2)]) rfl ?_
  refine g_iload_n X dX6_bestRiseOf_0 2 rfl ?_
  refine g_iconst X dX6_bestRiseOf_1 ?_
  refine g_iadd X dX6_bestRiseOf_2 ?_
  rcases (show p2 = 1 ∨ p2 = 2 ∨ p2 = 3 by omega) with rfl | rfl | rfl
  · refine g_newaI X 2 (by decide) (by decide) uw159 ⟨by decide, by decide⟩ dX6_bestRiseOf_3 (fun a3 => ?_)
    refine g_astore_n X (lv' := [(3, .ref a3), (0, .ref r_row), (1, vI p1), (2, vI 1)]) dX6_bestRiseOf_5 (by decide) rfl ?_
    refine g_iload_n X dX6_bestRiseOf_6 3 rfl ?_
    refine g_iconst X dX6_bestRiseOf_7 ?_
    refine g_iadd X dX6_bestRiseOf_8 ?_
    refine g_newaI X 2 (by decide) (by decide) uw159 ⟨by decide, by decide⟩ dX6_bestRiseOf_9 (fun a9 => ?_)
    refine g_astore X (lv' := [(4, .ref a9), (3, .ref a3), (0, .ref r_row), (1, vI p1), (2, vI 1)]) dX6_bestRiseOf_11 (by decide) rfl ?_
    refine g_ws (ws2 := (wA cI 20 r_row v_row) ++ (wA cI 2 a3 zf) ++ (wA cI 2 a9 zf)) rfl ?_
    refine s_X6_bestRiseOf_2 X ⟨by decide, by decide⟩ r_row a3 a9 r_v_row (RA_zf (by omega)) (RA_zf (by omega)) (by omega) hp4 (fun _ => rfl) (fun z f1 f2 f3 pc lv hd hz r1 r2 r3 => ?_)
    refine g_perm (ws2 := (wA cI 20 r_row f1)) [0] rfl rfl (by decide) ?_
    refine g_widen (k1 := 2) (k2 := 8) (by decide) (by decide) ?_
    exact hQ _ _ _ _ hd ⟨f1, r1, hz.1, hz.2, rfl⟩
  · refine g_newaI X 3 (by decide) (by decide) uw159 ⟨by decide, by decide⟩ dX6_bestRiseOf_3 (fun a3 => ?_)
    refine g_astore_n X (lv' := [(3, .ref a3), (0, .ref r_row), (1, vI p1), (2, vI 2)]) dX6_bestRiseOf_5 (by decide) rfl ?_
    refine g_iload_n X dX6_bestRiseOf_6 3 rfl ?_
    refine g_iconst X dX6_bestRiseOf_7 ?_
    refine g_iadd X dX6_bestRiseOf_8 ?_
    refine g_newaI X 3 (by decide) (by decide) uw159 ⟨by decide, by decide⟩ dX6_bestRiseOf_9 (fun a9 => ?_)
    refine g_astore X (lv' := [(4, .ref a9), (3, .ref a3), (0, .ref r_row), (1, vI p1), (2, vI 2)]) dX6_bestRiseOf_11 (by decide) rfl ?_
    refine g_ws (ws2 := (wA cI 20 r_row v_row) ++ (wA cI 3 a3 zf) ++ (wA cI 3 a9 zf)) rfl ?_
    refine s_X6_bestRiseOf_3 X ⟨by decide, by decide⟩ r_row a3 a9 r_v_row (RA_zf (by omega)) (RA_zf (by omega)) (by omega) hp4 (fun _ => rfl) (fun z f1 f2 f3 pc lv hd hz r1 r2 r3 => ?_)
    refine g_perm (ws2 := (wA cI 20 r_row f1)) [0] rfl rfl (by decide) ?_
    refine g_widen (k1 := 2) (k2 := 8) (by decide) (by decide) ?_
    exact hQ _ _ _ _ hd ⟨f1, r1, hz.1, hz.2, rfl⟩
  · refine g_newaI X 4 (by decide) (by decide) uw159 ⟨by decide, by decide⟩ dX6_bestRiseOf_3 (fun a3 => ?_)
    refine g_astore_n X (lv' := [(3, .ref a3), (0, .ref r_row), (1, vI p1), (2, vI 3)]) dX6_bestRiseOf_5 (by decide) rfl ?_
    refine g_iload_n X dX6_bestRiseOf_6 3 rfl ?_
    refine g_iconst X dX6_bestRiseOf_7 ?_
    refine g_iadd X dX6_bestRiseOf_8 ?_
    refine g_newaI X 4 (by decide) (by decide) uw159 ⟨by decide, by decide⟩ dX6_bestRiseOf_9 (fun a9 => ?_)
    refine g_astore X (lv' := [(4, .ref a9), (3, .ref a3), (0, .ref r_row), (1, vI p1), (2, vI 3)]) dX6_bestRiseOf_11 (by decide) rfl ?_
    refine g_ws (ws2 := (wA cI 20 r_row v_row) ++ (wA cI 4 a3 zf) ++ (wA cI 4 a9 zf)) rfl ?_
    refine s_X6_bestRiseOf_4 X ⟨by decide, by decide⟩ r_row a3 a9 r_v_row (RA_zf (by omega)) (RA_zf (by omega)) (by omega) hp4 (fun _ => rfl) (fun z f1 f2 f3 pc lv hd hz r1 r2 r3 => ?_)
    refine g_perm (ws2 := (wA cI 20 r_row f1)) [0] rfl rfl (by decide) ?_
    refine g_widen (k1 := 2) (k2 := 8) (by decide) (by decide) ?_
    exact hQ _ _ _ _ hd ⟨f1, r1, hz.1, hz.2, rfl⟩

set_option maxHeartbeats 600000 in
set_option maxRecDepth 100000 in
theorem c_X9_bestRise (l : Launch) (D : va_G) (cI cB cJ : ClassId) (h : Nat) (q : Nat → Nat) (h_tape : Nat) (q_tape : Nat → Nat) {o_claims : Nat} {o_nextClaims : Nat} {o_bounds : Nat} {o_otherBounds : Nat} {o_ringSearch : Nat} {o_lawReader : Nat} {o_rules : Nat} {o_nextRules : Nat} {o_market : Nat} {o_trial : Nat} {o_kept : Nat} {o_triangles : Nat} {v_hasKept v_tape_length v_tape_end v_tape_at v_tape_fault v_tape_faultAt : Int} {v_table v_tape_bytes v_tape_taken : Nat → Int} {p0 p1 : Int} (kr_v_tape_length : 0 ≤ v_tape_length ∧ v_tape_length ≤ 260) (r_v_tape_bytes : RA 0 255 v_tape_bytes) (r_v_tape_taken : RA (-2147483648) 2147483647 v_tape_taken) (hp0 : IR p0) (hp1 : IR p1) : CtIJ l yX9_bestRise cX9_bestRise 3 (some .int) ⟨2, 2, 8, 66⟩ D (TY cI cB cJ) ((wX9 cI cB cJ h q h_tape o_claims o_nextClaims o_bounds o_otherBounds o_ringSearch o_lawReader o_rules o_nextRules o_market o_trial o_kept o_triangles v_hasKept v_table) ++ (wX7 cI cB cJ h_tape q_tape v_tape_length v_tape_end v_tape_at v_tape_fault v_tape_faultAt v_tape_bytes v_tape_taken)) [.ref h, vI p0, vI p1] (fun z ws' => ∃ n_tape_length : Int, ∃ n_tape_taken : Nat → Int, (0 ≤ n_tape_length ∧ n_tape_length ≤ 260) ∧ (RA (-2147483648) 2147483647 n_tape_taken) ∧ (IR z) ∧ ((1 ≤ p1 ∧ p1 ≤ 3 ∧ 1 ≤ p0 ∧ p0 ≤ 20 ∧ p0 ≤ v_tape_length ∧ n_tape_length = 0) ∨ (¬ (1 ≤ p1 ∧ p1 ≤ 3 ∧ 1 ≤ p0 ∧ p0 ≤ 20 ∧ p0 ≤ v_tape_length) ∧ n_tape_length = v_tape_length)) ∧ (((1 ≤ p1 ∧ p1 ≤ 3 ∧ 1 ≤ p0 ∧ p0 ≤ 20 ∧ p0 ≤ v_tape_length) ∧ z = brF v_tape_bytes p0.toNat p1.toNat) ∨ (¬ (1 ≤ p1 ∧ p1 ≤ 3 ∧ 1 ≤ p0 ∧ p0 ≤ 20 ∧ p0 ≤ v_tape_length) ∧ z = -1)) ∧ (ws' = ((wX9 cI cB cJ h q h_tape o_claims o_nextClaims o_bounds o_otherBounds o_ringSearch o_lawReader o_rules o_nextRules o_market o_trial o_kept o_triangles v_hasKept v_table) ++ (wX7 cI cB cJ h_tape q_tape n_tape_length v_tape_end v_tape_at v_tape_fault v_tape_faultAt v_tape_bytes n_tape_taken)))) 2 8 := by
  refine hdrIJ (own := RX9) rfl (by decide +kernel) (Nat.le_of_ble_eq_true rfl) ?_
  intro p e s m args below meth c Q A X hQ
  refine g_lvE (lv2 := [(0, .ref h), (1, vI p0), (2, vI p1)]) rfl ?_
  refine g_iload_n X dX9_bestRise_0 2 rfl ?_
  refine g_iconst X dX9_bestRise_1 ?_
  refine g_iconst X dX9_bestRise_2 ?_
  refine g_callSIE X (c_X9_isFrom l D cI cB cJ (p0 := p1) (p1 := 1) (p2 := 3) (by first | assumption | omega) (by first | assumption | omega) (by first | assumption | omega)) cv_X9_isFrom uw719 ⟨rfl, rfl, by decide, by decide⟩ rfl rfl (Nat.le_of_ble_eq_true rfl) ⟨Nat.zero_le _, Nat.zero_le _⟩ dX9_bestRise_3 (fun t3 ws3 k3 => ?_)
  obtain ⟨kb_3, ⟨kp0_3, rfl⟩⟩ := k3
  refine g_if_eq X (tgt := 23) dX9_bestRise_6 (by decide) (by omega) (fun c6 => ?_) (fun c6 => ?_)
  · clear kb_3
    replace kp0_3 := (kp0_3.resolve_left (fun h => absurd h.1 (by omega))).2
    refine g_iconst X dX9_bestRise_23 ?_
    refine g_widen (k1 := 2) (k2 := 8) (by omega) (by omega) ?_
    exact hQ _ _ _ _ dX9_bestRise_24 ⟨v_tape_length, v_tape_taken, (by omega), r_v_tape_taken, (by first | assumption | omega), (by first | assumption | omega), (by first | assumption | omega), rfl⟩
  · replace kb_3 := kb_3.resolve_left (fun h => c6 h)
    replace kp0_3 := kp0_3.resolve_right (fun h => c6 h.1)
    refine g_aload_n X dX9_bestRise_9 0 rfl ?_
    refine gX9_get X 0 rfl 0 (by decide) uw411 rfl dX9_bestRise_10 ?_
    refine g_iload_n X dX9_bestRise_13 1 rfl ?_
    refine g_iconst X dX9_bestRise_14 ?_
    refine g_bipush X (z := 20) dX9_bestRise_15 (by decide) ?_
    refine g_callVIw X (c_X7_has l D cI cB cJ h_tape q_tape (p0 := p0) (p1 := 1) (p2 := 20) (by omega) (by first | assumption | omega) (by first | assumption | omega) (by first | assumption | omega)) [2, 3, 4] rfl rfl rfl cv_X7_has uw473 ⟨rfl, rfl, by decide, by decide⟩ 0 rfl rfl rfl rfl rfl (Nat.le_of_ble_eq_true rfl) ⟨Nat.zero_le _, Nat.zero_le _⟩ dX9_bestRise_17 (fun t17 ws17 k17 => ?_)
    obtain ⟨kb_17, ⟨kp0_17, rfl⟩⟩ := k17
    refine ⟨rfl, ?_⟩
    refine g_ws (ws2 := ((wX9 cI cB cJ h q h_tape o_claims o_nextClaims o_bounds o_otherBounds o_ringSearch o_lawReader o_rules o_nextRules o_market o_trial o_kept o_triangles v_hasKept v_table) ++ (wX7 cI cB cJ h_tape q_tape v_tape_length v_tape_end v_tape_at v_tape_fault v_tape_faultAt v_tape_bytes v_tape_taken))) rfl ?_
    refine g_if_ne X (tgt := 25) dX9_bestRise_20 (by decide) (by omega) (fun c20 => ?_) (fun c20 => ?_)
    · replace kb_17 := kb_17.resolve_left (fun h => c20 h)
      replace kp0_17 := kp0_17.resolve_right (fun h => c20 h.1)
      refine g_aload_n X dX9_bestRise_25 0 rfl ?_
      refine gX9_get X 0 rfl 0 (by decide) uw411 rfl dX9_bestRise_26 ?_
      refine g_iload_n X dX9_bestRise_29 1 rfl ?_
      refine g_callVRw X (c_X7_take l D cI cB cJ h_tape q_tape (p0 := p0) (by omega) r_v_tape_bytes r_v_tape_taken (by first | assumption | omega) (by first | assumption | omega)) [2, 3, 4] rfl rfl rfl cv_X7_take uw890 ⟨rfl, rfl, by decide, by decide⟩ 0 rfl rfl rfl rfl rfl (Nat.le_of_ble_eq_true rfl) ⟨Nat.zero_le _, Nat.zero_le _⟩ dX9_bestRise_30 (fun t30 ws30 k30 => ?_)
      obtain ⟨rfl, ⟨tape_length_30, tape_taken_30, kr_tape_length_30, r_tape_taken_30, kp0_30, kp1_30, kp2_30, rfl⟩⟩ := k30
      refine ⟨rfl, ?_⟩
      refine g_ws (ws2 := ((wX9 cI cB cJ h q h_tape o_claims o_nextClaims o_bounds o_otherBounds o_ringSearch o_lawReader o_rules o_nextRules o_market o_trial o_kept o_triangles v_hasKept v_table) ++ (wX7 cI cB cJ h_tape q_tape tape_length_30 v_tape_end v_tape_at v_tape_fault v_tape_faultAt v_tape_bytes tape_taken_30))) rfl ?_
      refine g_iload_n X dX9_bestRise_33 1 rfl ?_
      refine g_iload_n X dX9_bestRise_34 2 rfl ?_
      refine g_callSIJw X (c_X6_bestRiseOf l D cI cB cJ (q_tape 1) (p1 := p0) (p2 := p1) r_tape_taken_30 (by first | assumption | omega) (by first | assumption | omega) (by first | assumption | omega) (by first | assumption | omega) (by first | assumption | omega)) [4] rfl rfl rfl cv_X6_bestRiseOf uw950 ⟨rfl, rfl, by decide, by decide⟩ rfl rfl (Nat.le_of_ble_eq_true rfl) ⟨by decide, by decide⟩ dX9_bestRise_35 (fun t35 ws35 k35 => ?_)
      obtain ⟨tape_taken_35, r_tape_taken_35, kp0_35, kp1_35, rfl⟩ := k35
      refine ⟨rfl, ?_⟩
      refine g_ws (ws2 := ((wX9 cI cB cJ h q h_tape o_claims o_nextClaims o_bounds o_otherBounds o_ringSearch o_lawReader o_rules o_nextRules o_market o_trial o_kept o_triangles v_hasKept v_table) ++ (wX7 cI cB cJ h_tape q_tape tape_length_30 v_tape_end v_tape_at v_tape_fault v_tape_faultAt v_tape_bytes tape_taken_35))) rfl ?_
      have hF : t35 = brF v_tape_bytes p0.toNat p1.toNat := kp1_35.trans (brF_c _ kp2_30)
      refine g_widen (k1 := 2) (k2 := 8) (by omega) (by omega) ?_
      exact hQ _ _ _ _ dX9_bestRise_38 ⟨tape_length_30, tape_taken_35, (by omega), r_tape_taken_35, (by first | assumption | omega), (by first | assumption | omega), (by first | assumption | omega), rfl⟩
    · clear kb_17
      replace kp0_17 := (kp0_17.resolve_left (fun h => absurd h.1 (by omega))).2
      refine g_iconst X dX9_bestRise_23 ?_
      refine g_widen (k1 := 2) (k2 := 8) (by omega) (by omega) ?_
      exact hQ _ _ _ _ dX9_bestRise_24 ⟨v_tape_length, v_tape_taken, (by omega), r_v_tape_taken, (by first | assumption | omega), (by first | assumption | omega), (by first | assumption | omega), rfl⟩
