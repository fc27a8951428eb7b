set_option maxHeartbeats 4000000 in
set_option maxRecDepth 100000 in
theorem c_X10_in (l : Launch) (D : va_G) (cI cB cJ : ClassId) {p0 p1 p2 : Int} (hp0 : IR p0) (hp1 : IR p1) (hp2 : IR p2) : CtI l yX10_in cX10_in 3 (some .boolean) ⟨0, 0, 0, 0⟩ D (TY cI cB cJ) [] [vI p0, vI p1, vI p2] (fun z ws' => (z = 0 ∨ z = 1) ∧ ((z = 1 ∧ p1 ≤ p0 ∧ p0 ≤ p2) ∨ (z = 0 ∧ ¬ (p1 ≤ p0 ∧ p0 ≤ p2))) ∧ (ws' = [])) := by
  refine hdrZ (own := RX10) rfl (by decide +kernel) (Nat.le_of_ble_eq_true rfl) ?_
  intro p e s m args below meth c Q A X hQ
  refine g_lvE (lv2 := [(0, vI p0), (1, vI p1), (2, vI p2)]) rfl ?_
  refine g_iload_n X dX10_in_0 0 rfl ?_
  refine g_iload_n X dX10_in_1 1 rfl ?_
  refine g_icmp_lt X (tgt := 14) dX10_in_2 (by decide) (by omega) (by omega) (fun c2 => ?_) (fun c2 => ?_)
  · refine g_iconst X dX10_in_14 ?_
    exact hQ _ _ _ _ dX10_in_15 ⟨by omega, ⟨(by first | assumption | omega), rfl⟩⟩
  · refine g_iload_n X dX10_in_5 0 rfl ?_
    refine g_iload_n X dX10_in_6 2 rfl ?_
    refine g_icmp_gt X (tgt := 14) dX10_in_7 (by decide) (by omega) (by omega) (fun c7 => ?_) (fun c7 => ?_)
    · refine g_iconst X dX10_in_14 ?_
      exact hQ _ _ _ _ dX10_in_15 ⟨by omega, ⟨(by first | assumption | omega), rfl⟩⟩
    · refine g_iconst X dX10_in_10 ?_
      refine g_goto X (tgt := 15) dX10_in_11 (by decide) ?_
      exact hQ _ _ _ _ dX10_in_15 ⟨by omega, ⟨(by first | assumption | omega), rfl⟩⟩
set_option maxHeartbeats 4000000 in
set_option maxRecDepth 100000 in
theorem c_X10_min (l : Launch) (D : va_G) (cI cB cJ : ClassId) {p0 p1 : Int} (hp0 : IR p0) (hp1 : IR p1) : CtI l yX10_min cX10_min 2 (some .int) ⟨0, 0, 0, 0⟩ D (TY cI cB cJ) [] [vI p0, vI p1] (fun z ws' => ((z = p0 ∧ p0 ≤ p1) ∨ (z = p1 ∧ p1 ≤ p0)) ∧ (ws' = [])) := by
  refine hdrI (own := RX10) rfl (by decide +kernel) (Nat.le_of_ble_eq_true rfl) ?_
  intro p e s m args below meth c Q A X hQ
  refine g_lvE (lv2 := [(0, vI p0), (1, vI p1)]) rfl ?_
  refine g_iload_n X dX10_min_0 0 rfl ?_
  refine g_iload_n X dX10_min_1 1 rfl ?_
  refine g_icmp_ge X (tgt := 9) dX10_min_2 (by decide) (by omega) (by omega) (fun c2 => ?_) (fun c2 => ?_)
  · refine g_iload_n X dX10_min_9 1 rfl ?_
    exact hQ _ _ _ _ dX10_min_10 ⟨(by first | assumption | omega), rfl⟩
  · refine g_iload_n X dX10_min_5 0 rfl ?_
    refine g_goto X (tgt := 10) dX10_min_6 (by decide) ?_
    exact hQ _ _ _ _ dX10_min_10 ⟨(by first | assumption | omega), rfl⟩
set_option maxHeartbeats 4000000 in
set_option maxRecDepth 100000 in
theorem c_X10_max (l : Launch) (D : va_G) (cI cB cJ : ClassId) {p0 p1 : Int} (hp0 : IR p0) (hp1 : IR p1) : CtI l yX10_max cX10_max 2 (some .int) ⟨0, 0, 0, 0⟩ D (TY cI cB cJ) [] [vI p0, vI p1] (fun z ws' => ((z = p0 ∧ p1 ≤ p0) ∨ (z = p1 ∧ p0 ≤ p1)) ∧ (ws' = [])) := by
  refine hdrI (own := RX10) rfl (by decide +kernel) (Nat.le_of_ble_eq_true rfl) ?_
  intro p e s m args below meth c Q A X hQ
  refine g_lvE (lv2 := [(0, vI p0), (1, vI p1)]) rfl ?_
  refine g_iload_n X dX10_max_0 0 rfl ?_
  refine g_iload_n X dX10_max_1 1 rfl ?_
  refine g_icmp_le X (tgt := 9) dX10_max_2 (by decide) (by omega) (by omega) (fun c2 => ?_) (fun c2 => ?_)
  · refine g_iload_n X dX10_max_9 1 rfl ?_
    exact hQ _ _ _ _ dX10_max_10 ⟨(by first | assumption | omega), rfl⟩
  · refine g_iload_n X dX10_max_5 0 rfl ?_
    refine g_goto X (tgt := 10) dX10_max_6 (by decide) ?_
    exact hQ _ _ _ _ dX10_max_10 ⟨(by first | assumption | omega), rfl⟩
set_option maxHeartbeats 4000000 in
set_option maxRecDepth 100000 in
theorem c_X10_size (l : Launch) (D : va_G) (cI cB cJ : ClassId) {p0 : Int} (hp0 : IR p0) (hp1 : -2147483648 < p0) : CtI l yX10_size cX10_size 1 (some .int) ⟨0, 0, 0, 0⟩ D (TY cI cB cJ) [] [vI p0] (fun z ws' => (0 ≤ z ∧ (z = p0 ∨ z = -p0)) ∧ (ws' = [])) := by
  refine hdrI (own := RX10) rfl (by decide +kernel) (Nat.le_of_ble_eq_true rfl) ?_
  intro p e s m args below meth c Q A X hQ
  refine g_lvE (lv2 := [(0, vI p0)]) rfl ?_
  refine g_iload_n X dX10_size_0 0 rfl ?_
  refine g_if_ge X (tgt := 9) dX10_size_1 (by decide) (by omega) (fun c1 => ?_) (fun c1 => ?_)
  · refine g_iload_n X dX10_size_9 0 rfl ?_
    exact hQ _ _ _ _ dX10_size_10 ⟨(by first | assumption | omega), rfl⟩
  · refine g_iload_n X dX10_size_4 0 rfl ?_
    refine g_ineg X dX10_size_5 ?_
    refine g_goto X (tgt := 10) dX10_size_6 (by decide) ?_
    exact hQ _ _ _ _ dX10_size_10 ⟨(by first | assumption | omega), rfl⟩
set_option maxHeartbeats 4000000 in
set_option maxRecDepth 100000 in
theorem c_X10_gcd (l : Launch) (D : va_G) (cI cB cJ : ClassId) {p0 p1 : Int} (hp0 : IR p0) (hp1 : IR p1) (hp2 : 0 ≤ p0) (hp3 : 0 ≤ p1) : CtI l yX10_gcd cX10_gcd 5 (some .int) ⟨0, 0, 0, 0⟩ D (TY cI cB cJ) [] [vI p0, vI p1] (fun z ws' => (0 ≤ z ∧ z ≤ 2147483647) ∧ ((0 < p0 ∨ 0 < p1) → 0 < z) ∧ (z = gcdZ p0 p1) ∧ (ws' = [])) := by
  refine hdrI (own := RX10) rfl (by decide +kernel) (Nat.le_of_ble_eq_true rfl) ?_
  intro p e s m args below meth c Q A X hQ
  refine g_lvE (lv2 := [(0, vI p0), (1, vI p1)]) rfl ?_
  refine g_iload_n X dX10_gcd_0 0 rfl ?_
  refine g_istore_n X (lv' := [(2, vI p0), (0, vI p0), (1, vI p1)]) dX10_gcd_1 (by decide) rfl ?_
  refine g_iload_n X dX10_gcd_2 2 rfl ?_
  refine g_istore_n X (lv' := [(3, vI p1), (2, vI p0), (0, vI p0), (1, vI p1)]) dX10_gcd_3 (by decide) rfl ?_
  have L4 : ∀ (n : Nat) (x2_4 : Int) (x3_4 : Int), (0 ≤ x2_4 ∧ x2_4 ≤ 2147483647) → (0 ≤ x3_4 ∧ x3_4 ≤ 2147483647) → ((0 < p0 ∨ 0 < p1) → (0 < x2_4 ∨ 0 < x3_4)) → (gcdZ x2_4 x3_4 = gcdZ p0 p1) → (x3_4).toNat < n → GG p l e ⟨0, 0, 0, 0⟩ s m args below meth c 0 0 Q D A s.heap 5 [] 4 [(2, vI x2_4), (3, vI x3_4)] [] := by
    intro n
    induction n with
    | zero => intros; exfalso; omega
    | succ n ih4 =>
      intro x2_4 x3_4 w4_0 w4_1 w4_2 w4_3 wm4
      have hS : 0 < x3_4 → gcdZ x3_4 (x2_4 % x3_4) = gcdZ x2_4 x3_4 := fun h => gcdZ_s (by omega) h
      have h0 : x3_4 = 0 → gcdZ x2_4 x3_4 = x2_4 := fun h => by rw [h]; exact gcdZ_0 (by omega)
      refine g_iload_n X dX10_gcd_4 1 rfl ?_
      refine g_if_eq X (tgt := 21) dX10_gcd_5 (by decide) (by omega) (fun c5 => ?_) (fun c5 => ?_)
      · refine g_iload_n X dX10_gcd_21 0 rfl ?_
        exact hQ _ _ _ _ dX10_gcd_22 ⟨(by first | assumption | omega), (by first | assumption | omega), (by first | assumption | omega), rfl⟩
      · refine g_iload_n X dX10_gcd_8 0 rfl ?_
        refine g_iload_n X dX10_gcd_9 1 rfl ?_
        refine g_irem X dX10_gcd_10 (by omega) (by omega) ?_
        refine g_nm (fun t10 e10 => ?_)
        have r10 : 0 ≤ t10 ∧ ((0 : Int) < x3_4 → t10 < x3_4) := by rw [e10]; exact ⟨Int.emod_nonneg _ (by omega), fun h => Int.emod_lt_of_pos _ h⟩
        refine g_istore X (lv' := [(4, vI t10), (2, vI x2_4), (3, vI x3_4)]) dX10_gcd_11 (by decide) rfl ?_
        refine g_iload_n X dX10_gcd_13 2 rfl ?_
        refine g_istore_n X (lv' := [(2, vI x3_4), (4, vI t10), (3, vI x3_4)]) dX10_gcd_14 (by decide) rfl ?_
        refine g_iload X dX10_gcd_15 1 rfl ?_
        refine g_istore_n X (lv' := [(3, vI t10), (2, vI x3_4), (4, vI t10)]) dX10_gcd_17 (by decide) rfl ?_
        refine g_goto X (tgt := 4) dX10_gcd_18 (by decide) ?_
        refine g_lv [1, 0] rfl ?_
        exact ih4 x3_4 t10 (by first | assumption | omega) (by first | assumption | omega) (by first | assumption | omega) (by first | assumption | rfl | (rw [e10, hS (by omega)]; exact w4_3)) (by omega)
  refine g_lv [1, 0] rfl ?_
  exact L4 _ p0 p1 (by first | assumption | omega) (by first | assumption | omega) (by first | assumption | omega) (by first | assumption | rfl | (rw [e10, hS (by omega)]; exact w4_3)) (Nat.lt_succ_self _)
set_option maxHeartbeats 4000000 in
set_option maxRecDepth 100000 in
theorem c_X10_has (l : Launch) (D : va_G) (cI cB cJ : ClassId) {p0 p1 : Int} (hp0 : IR p0) (hp1 : IR p1) : CtI l yX10_has cX10_has 2 (some .boolean) ⟨0, 0, 0, 0⟩ D (TY cI cB cJ) [] [vI p0, vI p1] (fun z ws' => (z = 0 ∨ z = 1) ∧ ((z = 1 ∧ hasZ p0 p1 = 1) ∨ (z = 0 ∧ hasZ p0 p1 ≠ 1)) ∧ (ws' = [])) := by
  refine hdrZ (own := RX10) rfl (by decide +kernel) (Nat.le_of_ble_eq_true rfl) ?_
  intro p e s m args below meth c Q A X hQ
  refine g_lvE (lv2 := [(0, vI p0), (1, vI p1)]) rfl ?_
  refine g_iload_n X dX10_has_0 0 rfl ?_
  refine g_iload_n X dX10_has_1 1 rfl ?_
  refine g_ishr X dX10_has_2 ?_
  refine g_nm (fun t2 e2 => ?_)
  have r2 : IR t2 := by rw [e2]; exact z_ir _
  refine g_iconst X dX10_has_3 ?_
  refine g_iand X dX10_has_4 ?_
  refine g_nm (fun t4 e4 => ?_)
  have r4 := z_iand_r t2 1 (by omega) (by omega); rw [← e4] at r4
  refine g_iconst X dX10_has_5 ?_
  refine g_icmp_ne X (tgt := 13) dX10_has_6 (by decide) (by omega) (by omega) (fun c6 => ?_) (fun c6 => ?_)
  · refine g_iconst X dX10_has_13 ?_
    have hq : t4 = hasZ p0 p1 := by unfold hasZ; rw [e4, e2]
    exact hQ _ _ _ _ dX10_has_14 ⟨by omega, ⟨(by first | assumption | omega), rfl⟩⟩
  · refine g_iconst X dX10_has_9 ?_
    refine g_goto X (tgt := 14) dX10_has_10 (by decide) ?_
    have hq : t4 = hasZ p0 p1 := by unfold hasZ; rw [e4, e2]
    exact hQ _ _ _ _ dX10_has_14 ⟨by omega, ⟨(by first | assumption | omega), rfl⟩⟩
set_option maxHeartbeats 4000000 in
set_option maxRecDepth 100000 in
theorem c_X10_bits (l : Launch) (D : va_G) (cI cB cJ : ClassId) {p0 : Int} (hp0 : IR p0) : CtI l yX10_bits cX10_bits 3 (some .int) ⟨0, 0, 0, 0⟩ D (TY cI cB cJ) [] [vI p0] (fun z ws' => (0 ≤ z ∧ z ≤ 16) ∧ (ws' = [])) := by
  refine hdrI (own := RX10) rfl (by decide +kernel) (Nat.le_of_ble_eq_true rfl) ?_
  intro p e s m args below meth c Q A X hQ
  refine g_lvE (lv2 := [(0, vI p0)]) rfl ?_
  refine g_iconst X dX10_bits_0 ?_
  refine g_istore_n X (lv' := [(1, vI 0), (0, vI p0)]) dX10_bits_1 (by decide) rfl ?_
  refine g_iconst X dX10_bits_2 ?_
  refine g_istore_n X (lv' := [(2, vI 0), (1, vI 0), (0, vI p0)]) dX10_bits_3 (by decide) rfl ?_
  have L4 : ∀ (n : Nat) (x1_4 : Int) (x2_4 : Int), (0 ≤ x2_4 ∧ x2_4 ≤ 16) → (0 ≤ x1_4 ∧ x1_4 ≤ x2_4) → (16 - x2_4).toNat < n → GG p l e ⟨0, 0, 0, 0⟩ s m args below meth c 0 0 Q D A s.heap 3 [] 4 [(0, vI p0), (1, vI x1_4), (2, vI x2_4)] [] := by
    intro n
    induction n with
    | zero => intros; exfalso; omega
    | succ n ih4 =>
      intro x1_4 x2_4 w4_0 w4_1 wm4
      refine g_iload_n X dX10_bits_4 2 rfl ?_
      refine g_bipush X (z := 16) dX10_bits_5 (by decide) ?_
      refine g_icmp_ge X (tgt := 24) dX10_bits_7 (by decide) (by omega) (by omega) (fun c7 => ?_) (fun c7 => ?_)
      · refine g_iload_n X dX10_bits_24 1 rfl ?_
        exact hQ _ _ _ _ dX10_bits_25 ⟨(by first | assumption | omega), rfl⟩
      · refine g_iload_n X dX10_bits_10 1 rfl ?_
        refine g_iload_n X dX10_bits_11 0 rfl ?_
        refine g_iload_n X dX10_bits_12 2 rfl ?_
        refine g_ishr X dX10_bits_13 ?_
        refine g_nm (fun t13 e13 => ?_)
        have r13 : IR t13 := by rw [e13]; exact z_ir _
        refine g_iconst X dX10_bits_14 ?_
        refine g_iand X dX10_bits_15 ?_
        refine g_nm (fun t15 e15 => ?_)
        have r15 := z_iand_r t13 1 (by omega) (by omega); rw [← e15] at r15
        refine g_iadd X dX10_bits_16 ?_
        refine g_istore_n X (lv' := [(1, vI (x1_4 + t15)), (0, vI p0), (2, vI x2_4)]) dX10_bits_17 (by decide) rfl ?_
        refine g_iinc X (lv' := [(2, vI (x2_4 + 1)), (1, vI (x1_4 + t15)), (0, vI p0)]) dX10_bits_18 2 rfl (by decide) rfl ?_
        refine g_goto X (tgt := 4) dX10_bits_21 (by decide) ?_
        refine g_lv [2, 1, 0] rfl ?_
        exact ih4 (x1_4 + t15) (x2_4 + 1) (by first | assumption | omega) (by first | assumption | omega) (by omega)
  refine g_lv [2, 1, 0] rfl ?_
  exact L4 _ 0 0 (by first | assumption | omega) (by first | assumption | omega) (Nat.lt_succ_self _)
set_option maxHeartbeats 4000000 in
set_option maxRecDepth 100000 in
theorem c_X10_lowest (l : Launch) (D : va_G) (cI cB cJ : ClassId) {p0 : Int} (hp0 : IR p0) (hp1 : ∃ k : Int, 0 ≤ k ∧ k ≤ 11 ∧ hasZ p0 k = 1) : CtI l yX10_lowest cX10_lowest 2 (some .int) ⟨1, 0, 0, 21⟩ D (TY cI cB cJ) [] [vI p0] (fun z ws' => (0 ≤ z ∧ z ≤ 11) ∧ (hasZ p0 z = 1) ∧ (∀ k : Int, 0 ≤ k → k < z → hasZ p0 k ≠ 1) ∧ (ws' = [])) := by
  refine hdrI (own := RX10) rfl (by decide +kernel) (Nat.le_of_ble_eq_true rfl) ?_
  intro p e s m args below meth c Q A X hQ
  refine g_lvE (lv2 := [(0, vI p0)]) rfl ?_
  obtain ⟨k0, hk0, hk1, hk2⟩ := hp1
  refine g_iconst X dX10_lowest_0 ?_
  refine g_istore_n X (lv' := [(1, vI 0), (0, vI p0)]) dX10_lowest_1 (by decide) rfl ?_
  have L2 : ∀ (n : Nat) (x1_2 : Int), (0 ≤ x1_2 ∧ x1_2 ≤ k0) → (∀ k : Int, 0 ≤ k → k < x1_2 → hasZ p0 k ≠ 1) → (k0 + 1 - x1_2).toNat < n → GG p l e ⟨1, 0, 0, 21⟩ s m args below meth c 0 0 Q D A s.heap 2 [] 2 [(0, vI p0), (1, vI x1_2)] [] := by
    intro n
    induction n with
    | zero => intros; exfalso; omega
    | succ n ih2 =>
      intro x1_2 w2_0 w2_1 wm2
      refine g_iload_n X dX10_lowest_2 0 rfl ?_
      refine g_iload_n X dX10_lowest_3 1 rfl ?_
      refine g_callSIE X (c_X10_has l D cI cB cJ (p0 := p0) (p1 := x1_2) (by first | assumption | omega) (by first | assumption | omega)) cv_X10_has uw1531 ⟨rfl, rfl, by decide, by decide⟩ rfl rfl (Nat.le_of_ble_eq_true rfl) ⟨Nat.zero_le _, Nat.zero_le _⟩ dX10_lowest_4 (fun t4 ws4 k4 => ?_)
      obtain ⟨kb_4, ⟨kp0_4, rfl⟩⟩ := k4
      have hq7 : x1_2 = k0 → hasZ p0 x1_2 = hasZ p0 k0 := fun h => by rw [h]
      refine g_if_ne X (tgt := 17) dX10_lowest_7 (by decide) (by omega) (fun c7 => ?_) (fun c7 => ?_)
      · refine g_iload_n X dX10_lowest_17 1 rfl ?_
        exact hQ _ _ _ _ dX10_lowest_18 ⟨(by first | assumption | omega), (by first | assumption | omega), (by exact w2_1), rfl⟩
      · refine g_iload_n X dX10_lowest_10 1 rfl ?_
        refine g_iconst X dX10_lowest_11 ?_
        refine g_iadd X dX10_lowest_12 ?_
        refine g_istore_n X (lv' := [(1, vI (x1_2 + 1)), (0, vI p0)]) dX10_lowest_13 (by decide) rfl ?_
        refine g_goto X (tgt := 2) dX10_lowest_14 (by decide) ?_
        refine g_lv [1, 0] rfl ?_
        exact ih2 (x1_2 + 1) (by first | assumption | omega) (by intro k h1 h2; first | (exfalso; omega) | (rcases (show k < x1_2 ∨ k = x1_2 by omega) with h | h; exact w2_1 k h1 h; (rw [h]; omega))) (by omega)
  refine g_lv [1, 0] rfl ?_
  exact L2 _ 0 (by first | assumption | omega) (by intro k h1 h2; first | (exfalso; omega) | (rcases (show k < x1_2 ∨ k = x1_2 by omega) with h | h; exact w2_1 k h1 h; (rw [h]; omega))) (Nat.lt_succ_self _)
set_option maxHeartbeats 4000000 in
set_option maxRecDepth 100000 in
theorem c_X10_isThing (l : Launch) (D : va_G) (cI cB cJ : ClassId) {p0 : Int} (hp0 : IR p0) : CtI l yX10_isThing cX10_isThing 1 (some .boolean) ⟨1, 0, 0, 22⟩ D (TY cI cB cJ) [] [vI p0] (fun z ws' => (z = 0 ∨ z = 1) ∧ ((z = 1 ∧ 0 ≤ p0 ∧ p0 ≤ 11) ∨ (z = 0 ∧ ¬ (0 ≤ p0 ∧ p0 ≤ 11))) ∧ (ws' = [])) := by
  refine hdrZ (own := RX10) rfl (by decide +kernel) (Nat.le_of_ble_eq_true rfl) ?_
  intro p e s m args below meth c Q A X hQ
  refine g_lvE (lv2 := [(0, vI p0)]) rfl ?_
  refine g_iload_n X dX10_isThing_0 0 rfl ?_
  refine g_iconst X dX10_isThing_1 ?_
  refine g_bipush X (z := 11) dX10_isThing_2 (by decide) ?_
  refine g_callSIE X (c_X10_in l D cI cB cJ (p0 := p0) (p1 := 0) (p2 := 11) (by first | assumption | omega) (by first | assumption | omega) (by first | assumption | omega)) cv_X10_in uw1394 ⟨rfl, rfl, by decide, by decide⟩ rfl rfl (Nat.le_of_ble_eq_true rfl) ⟨Nat.zero_le _, Nat.zero_le _⟩ dX10_isThing_4 (fun t4 ws4 k4 => ?_)
  obtain ⟨kb_4, ⟨kp0_4, rfl⟩⟩ := k4
  exact hQ _ _ _ _ dX10_isThing_7 ⟨by omega, ⟨(by first | assumption | omega), rfl⟩⟩
set_option maxHeartbeats 4000000 in
set_option maxRecDepth 100000 in
theorem c_X10_isStall (l : Launch) (D : va_G) (cI cB cJ : ClassId) (h : Nat) (q : Nat → Nat) {v_stalls v_claimMany v_taped v_place0 v_length0 v_fault v_number0 v_open v_codeMany v_waiting v_saidMany v_clauses v_newMany v_newStalls v_lines v_salesNow v_outNow v_isKept v_keptStalls : Int} {v_now v_aside v_kept v_oneOf v_otherOf v_signOf v_byOf v_tape v_said v_waitsAt v_saidLetter v_saidFrom v_saidHalf v_saidTo v_codes v_clauseOf v_codeFrom v_codeHalf v_codeTo v_stack v_facts v_newOne v_newOther v_newSign v_newBy v_moreOf v_firstOf v_toldOf v_mostOf v_mostThen v_sumTo v_rowFrom v_ordersOf v_lessOf v_weightOf v_rowNow v_slowRow v_fastRow v_lineNow v_firstLine v_freeBy v_heldBy v_heightOf v_upTo v_downTo v_oftenOf v_newUpper v_newLower : Nat → Int} {p0 : Int} (kr_v_stalls : 0 ≤ v_stalls ∧ v_stalls ≤ 255) (hp0 : IR p0) : CtI l yX10_isStall cX10_isStall 2 (some .boolean) ⟨1, 0, 0, 22⟩ D (TY cI cB cJ) (wX10 cI cB cJ h q v_stalls v_claimMany v_taped v_place0 v_length0 v_fault v_number0 v_open v_codeMany v_waiting v_saidMany v_clauses v_newMany v_newStalls v_lines v_salesNow v_outNow v_isKept v_keptStalls v_now v_aside v_kept v_oneOf v_otherOf v_signOf v_byOf v_tape v_said v_waitsAt v_saidLetter v_saidFrom v_saidHalf v_saidTo v_codes v_clauseOf v_codeFrom v_codeHalf v_codeTo v_stack v_facts v_newOne v_newOther v_newSign v_newBy v_moreOf v_firstOf v_toldOf v_mostOf v_mostThen v_sumTo v_rowFrom v_ordersOf v_lessOf v_weightOf v_rowNow v_slowRow v_fastRow v_lineNow v_firstLine v_freeBy v_heldBy v_heightOf v_upTo v_downTo v_oftenOf v_newUpper v_newLower) [.ref h, vI p0] (fun z ws' => (z = 0 ∨ z = 1) ∧ (z = 1 → 0 ≤ p0 ∧ p0 ≤ 7) ∧ (ws' = (wX10 cI cB cJ h q v_stalls v_claimMany v_taped v_place0 v_length0 v_fault v_number0 v_open v_codeMany v_waiting v_saidMany v_clauses v_newMany v_newStalls v_lines v_salesNow v_outNow v_isKept v_keptStalls v_now v_aside v_kept v_oneOf v_otherOf v_signOf v_byOf v_tape v_said v_waitsAt v_saidLetter v_saidFrom v_saidHalf v_saidTo v_codes v_clauseOf v_codeFrom v_codeHalf v_codeTo v_stack v_facts v_newOne v_newOther v_newSign v_newBy v_moreOf v_firstOf v_toldOf v_mostOf v_mostThen v_sumTo v_rowFrom v_ordersOf v_lessOf v_weightOf v_rowNow v_slowRow v_fastRow v_lineNow v_firstLine v_freeBy v_heldBy v_heightOf v_upTo v_downTo v_oftenOf v_newUpper v_newLower))) := by
  refine hdrZ (own := RX10) rfl (by decide +kernel) (Nat.le_of_ble_eq_true rfl) ?_
  intro p e s m args below meth c Q A X hQ
  refine g_lvE (lv2 := [(0, .ref h), (1, vI p0)]) rfl ?_
  refine g_iload_n X dX10_isStall_0 1 rfl ?_
  refine g_iconst X dX10_isStall_1 ?_
  refine g_bipush X (z := 7) dX10_isStall_2 (by decide) ?_
  refine g_callSIE X (c_X10_in l D cI cB cJ (p0 := p0) (p1 := 0) (p2 := 7) (by first | assumption | omega) (by first | assumption | omega) (by first | assumption | omega)) cv_X10_in uw1394 ⟨rfl, rfl, by decide, by decide⟩ rfl rfl (Nat.le_of_ble_eq_true rfl) ⟨Nat.zero_le _, Nat.zero_le _⟩ dX10_isStall_4 (fun t4 ws4 k4 => ?_)
  obtain ⟨kb_4, ⟨kp0_4, rfl⟩⟩ := k4
  refine g_if_eq X (tgt := 25) dX10_isStall_7 (by decide) (by omega) (fun c7 => ?_) (fun c7 => ?_)
  · refine g_iconst X dX10_isStall_25 ?_
    exact hQ _ _ _ _ dX10_isStall_26 ⟨by omega, ⟨(by first | assumption | omega), rfl⟩⟩
  · refine g_aload_n X dX10_isStall_10 0 rfl ?_
    refine gM_get X 0 rfl 7 (by decide) uw1186 rfl dX10_isStall_11 ?_
    refine g_iload_n X dX10_isStall_14 1 rfl ?_
    refine g_callSIE X (c_X10_has l D cI cB cJ (p0 := v_stalls) (p1 := p0) (by first | assumption | omega) (by first | assumption | omega)) cv_X10_has uw1531 ⟨rfl, rfl, by decide, by decide⟩ rfl rfl (Nat.le_of_ble_eq_true rfl) ⟨Nat.zero_le _, Nat.zero_le _⟩ dX10_isStall_15 (fun t15 ws15 k15 => ?_)
    obtain ⟨kb_15, ⟨kp0_15, rfl⟩⟩ := k15
    refine g_if_eq X (tgt := 25) dX10_isStall_18 (by decide) (by omega) (fun c18 => ?_) (fun c18 => ?_)
    · refine g_iconst X dX10_isStall_25 ?_
      exact hQ _ _ _ _ dX10_isStall_26 ⟨by omega, ⟨(by first | assumption | omega), rfl⟩⟩
    · refine g_iconst X dX10_isStall_21 ?_
      refine g_goto X (tgt := 26) dX10_isStall_22 (by decide) ?_
      exact hQ _ _ _ _ dX10_isStall_26 ⟨by omega, ⟨(by first | assumption | omega), rfl⟩⟩
set_option maxHeartbeats 4000000 in
set_option maxRecDepth 100000 in
theorem c_X10_types (l : Launch) (D : va_G) (cI cB cJ : ClassId) (h : Nat) (q : Nat → Nat) {v_stalls v_claimMany v_taped v_place0 v_length0 v_fault v_number0 v_open v_codeMany v_waiting v_saidMany v_clauses v_newMany v_newStalls v_lines v_salesNow v_outNow v_isKept v_keptStalls : Int} {v_now v_aside v_kept v_oneOf v_otherOf v_signOf v_byOf v_tape v_said v_waitsAt v_saidLetter v_saidFrom v_saidHalf v_saidTo v_codes v_clauseOf v_codeFrom v_codeHalf v_codeTo v_stack v_facts v_newOne v_newOther v_newSign v_newBy v_moreOf v_firstOf v_toldOf v_mostOf v_mostThen v_sumTo v_rowFrom v_ordersOf v_lessOf v_weightOf v_rowNow v_slowRow v_fastRow v_lineNow v_firstLine v_freeBy v_heldBy v_heightOf v_upTo v_downTo v_oftenOf v_newUpper v_newLower : Nat → Int} {p0 : Int} (kr_v_taped : 0 ≤ v_taped ∧ v_taped ≤ 260) (r_v_tape : RA (-128) 127 v_tape) (hp0 : IR p0) (hp1 : v_taped ≤ 256) : CtV l yX10_types cX10_types 3 none ⟨0, 0, 0, 0⟩ D (TY cI cB cJ) (wX10 cI cB cJ h q v_stalls v_claimMany v_taped v_place0 v_length0 v_fault v_number0 v_open v_codeMany v_waiting v_saidMany v_clauses v_newMany v_newStalls v_lines v_salesNow v_outNow v_isKept v_keptStalls v_now v_aside v_kept v_oneOf v_otherOf v_signOf v_byOf v_tape v_said v_waitsAt v_saidLetter v_saidFrom v_saidHalf v_saidTo v_codes v_clauseOf v_codeFrom v_codeHalf v_codeTo v_stack v_facts v_newOne v_newOther v_newSign v_newBy v_moreOf v_firstOf v_toldOf v_mostOf v_mostThen v_sumTo v_rowFrom v_ordersOf v_lessOf v_weightOf v_rowNow v_slowRow v_fastRow v_lineNow v_firstLine v_freeBy v_heldBy v_heightOf v_upTo v_downTo v_oftenOf v_newUpper v_newLower) [.ref h, vI p0] (fun ws' => ∃ n_taped : Int, ∃ n_tape : Nat → Int, (0 ≤ n_taped ∧ n_taped ≤ 260) ∧ (RA (-128) 127 n_tape) ∧ (n_taped = v_taped + 4) ∧ (oct n_tape = wr (oct v_tape) v_taped.toNat p0 4) ∧ (ws' = (wX10 cI cB cJ h q v_stalls v_claimMany n_taped v_place0 v_length0 v_fault v_number0 v_open v_codeMany v_waiting v_saidMany v_clauses v_newMany v_newStalls v_lines v_salesNow v_outNow v_isKept v_keptStalls v_now v_aside v_kept v_oneOf v_otherOf v_signOf v_byOf n_tape v_said v_waitsAt v_saidLetter v_saidFrom v_saidHalf v_saidTo v_codes v_clauseOf v_codeFrom v_codeHalf v_codeTo v_stack v_facts v_newOne v_newOther v_newSign v_newBy v_moreOf v_firstOf v_toldOf v_mostOf v_mostThen v_sumTo v_rowFrom v_ordersOf v_lessOf v_weightOf v_rowNow v_slowRow v_fastRow v_lineNow v_firstLine v_freeBy v_heldBy v_heightOf v_upTo v_downTo v_oftenOf v_newUpper v_newLower))) := by
  refine hdrV (own := RX10) rfl (by decide +kernel) (Nat.le_of_ble_eq_true rfl) ?_
  intro p e s m args below meth c Q A X hQ
  refine g_lvE (lv2 := [(0, .ref h), (1, vI p0)]) rfl ?_
  refine g_iconst X dX10_types_0 ?_
  refine g_istore_n X (lv' := [(2, vI 3), (0, .ref h), (1, vI p0)]) dX10_types_1 (by decide) rfl ?_
  have L2 : ∀ (n : Nat) (x2_2 : Int) (taped_2 : Int) (tape_2 : Nat → Int), (0 ≤ taped_2 ∧ taped_2 ≤ 260) → (RA (-128) 127 tape_2) → (-1 ≤ x2_2 ∧ x2_2 ≤ 3) → (taped_2 = v_taped + (3 - x2_2)) → (oct tape_2 = wr (oct v_tape) v_taped.toNat p0 (taped_2 - v_taped).toNat) → (x2_2 + 1).toNat < n → GG p l e ⟨0, 0, 0, 0⟩ s m args below meth c 0 0 Q D A s.heap 3 (wX10 cI cB cJ h q v_stalls v_claimMany taped_2 v_place0 v_length0 v_fault v_number0 v_open v_codeMany v_waiting v_saidMany v_clauses v_newMany v_newStalls v_lines v_salesNow v_outNow v_isKept v_keptStalls v_now v_aside v_kept v_oneOf v_otherOf v_signOf v_byOf tape_2 v_said v_waitsAt v_saidLetter v_saidFrom v_saidHalf v_saidTo v_codes v_clauseOf v_codeFrom v_codeHalf v_codeTo v_stack v_facts v_newOne v_newOther v_newSign v_newBy v_moreOf v_firstOf v_toldOf v_mostOf v_mostThen v_sumTo v_rowFrom v_ordersOf v_lessOf v_weightOf v_rowNow v_slowRow v_fastRow v_lineNow v_firstLine v_freeBy v_heldBy v_heightOf v_upTo v_downTo v_oftenOf v_newUpper v_newLower) 2 [(0, .ref h), (1, vI p0), (2, vI x2_2)] [] := by
    intro n
    induction n with
    | zero => intros; exfalso; omega
    | succ n ih2 =>
      intro x2_2 taped_2 tape_2 kr_taped_2 r_tape_2 w2_0 w2_1 w2_2 wm2
      refine g_iload_n X dX10_types_2 2 rfl ?_
      refine g_if_lt X (tgt := 38) dX10_types_3 (by decide) (by omega) (fun c3 => ?_) (fun c3 => ?_)
      · exact hQ _ _ _ dX10_types_38 ⟨taped_2, tape_2, (by omega), r_tape_2, (by first | assumption | omega), (by rw [w2_2, show (taped_2 - v_taped).toNat = 4 by omega]), rfl⟩
      · refine g_aload_n X dX10_types_6 0 rfl ?_
        refine gM_get X 0 rfl 9 (by decide) uw1188 rfl dX10_types_7 ?_
        refine g_aload_n X dX10_types_10 0 rfl ?_
        refine gM_get X 0 rfl 10 (by decide) uw1189 rfl dX10_types_11 ?_
        refine g_iload_n X dX10_types_14 1 rfl ?_
        refine g_bipush X (z := 8) dX10_types_15 (by decide) ?_
        refine g_iload_n X dX10_types_17 2 rfl ?_
        refine g_imul X dX10_types_18 ?_
        refine g_ishr X dX10_types_19 ?_
        refine g_nm (fun t19 e19 => ?_)
        have r19 : IR t19 := by rw [e19]; exact z_ir _
        refine g_i2b X dX10_types_20 ?_
        refine g_nm (fun t20 e20 => ?_)
        have r20 := z_i2b_r t19; rw [← e20] at r20
        refine g_bast X 8 1 rfl rfl (by omega) (by decide) (by omega) dX10_types_21 (fun tape_21 e21 => ?_)
        have r_tape_21 : RA (-128) 127 tape_21 := by rw [e21]; exact RA_up r_tape_2 (by omega)
        refine g_ws (ws2 := (wX10 cI cB cJ h q v_stalls v_claimMany taped_2 v_place0 v_length0 v_fault v_number0 v_open v_codeMany v_waiting v_saidMany v_clauses v_newMany v_newStalls v_lines v_salesNow v_outNow v_isKept v_keptStalls v_now v_aside v_kept v_oneOf v_otherOf v_signOf v_byOf tape_21 v_said v_waitsAt v_saidLetter v_saidFrom v_saidHalf v_saidTo v_codes v_clauseOf v_codeFrom v_codeHalf v_codeTo v_stack v_facts v_newOne v_newOther v_newSign v_newBy v_moreOf v_firstOf v_toldOf v_mostOf v_mostThen v_sumTo v_rowFrom v_ordersOf v_lessOf v_weightOf v_rowNow v_slowRow v_fastRow v_lineNow v_firstLine v_freeBy v_heldBy v_heightOf v_upTo v_downTo v_oftenOf v_newUpper v_newLower)) rfl ?_
        refine g_aload_n X dX10_types_22 0 rfl ?_
        refine g_aload_n X dX10_types_23 0 rfl ?_
        refine gM_get X 0 rfl 10 (by decide) uw1189 rfl dX10_types_24 ?_
        refine g_iconst X dX10_types_27 ?_
        refine g_iadd X dX10_types_28 ?_
        refine gM_put X 0 rfl 10 (by decide) uw1189 rfl rfl rfl (Nat.le_of_ble_eq_true rfl) dX10_types_29 (ws2 := (wX10 cI cB cJ h q v_stalls v_claimMany (taped_2 + 1) v_place0 v_length0 v_fault v_number0 v_open v_codeMany v_waiting v_saidMany v_clauses v_newMany v_newStalls v_lines v_salesNow v_outNow v_isKept v_keptStalls v_now v_aside v_kept v_oneOf v_otherOf v_signOf v_byOf tape_21 v_said v_waitsAt v_saidLetter v_saidFrom v_saidHalf v_saidTo v_codes v_clauseOf v_codeFrom v_codeHalf v_codeTo v_stack v_facts v_newOne v_newOther v_newSign v_newBy v_moreOf v_firstOf v_toldOf v_mostOf v_mostThen v_sumTo v_rowFrom v_ordersOf v_lessOf v_weightOf v_rowNow v_slowRow v_fastRow v_lineNow v_firstLine v_freeBy v_heldBy v_heightOf v_upTo v_downTo v_oftenOf v_newUpper v_newLower)) rfl ?_
        refine g_iinc X (lv' := [(2, vI (x2_2 + (-1))), (0, .ref h), (1, vI p0)]) dX10_types_32 2 rfl (by decide) rfl ?_
        refine g_goto X (tgt := 2) dX10_types_35 (by decide) ?_
        refine g_lv [1, 2, 0] rfl ?_
        exact ih2 (x2_2 + (-1)) (taped_2 + 1) tape_21 (by omega) r_tape_21 (by first | assumption | omega) (by first | assumption | omega) (by first | assumption | (rw [Int.sub_self]; rfl) | (rw [e21, oct_up, w2_2]; exact wr_st (k := taped_2 - v_taped) (by omega) (by omega) (by omega) (by rw [e20, e19]; exact bt_r (by omega) (by omega)))) (by omega)
  refine g_lv [1, 2, 0] rfl ?_
  exact L2 _ 3 v_taped v_tape (by omega) r_v_tape (by first | assumption | omega) (by first | assumption | omega) (by first | assumption | (rw [Int.sub_self]; rfl) | (rw [e21, oct_up, w2_2]; exact wr_st (k := taped_2 - v_taped) (by omega) (by omega) (by omega) (by rw [e20, e19]; exact bt_r (by omega) (by omega)))) (Nat.lt_succ_self _)
set_option maxHeartbeats 4000000 in
set_option maxRecDepth 100000 in
theorem c_X10_feed (l : Launch) (D : va_G) (cI cB cJ : ClassId) (h : Nat) (q : Nat → Nat) {v_stalls v_claimMany v_taped v_place0 v_length0 v_fault v_number0 v_open v_codeMany v_waiting v_saidMany v_clauses v_newMany v_newStalls v_lines v_salesNow v_outNow v_isKept v_keptStalls : Int} {v_now v_aside v_kept v_oneOf v_otherOf v_signOf v_byOf v_tape v_said v_waitsAt v_saidLetter v_saidFrom v_saidHalf v_saidTo v_codes v_clauseOf v_codeFrom v_codeHalf v_codeTo v_stack v_facts v_newOne v_newOther v_newSign v_newBy v_moreOf v_firstOf v_toldOf v_mostOf v_mostThen v_sumTo v_rowFrom v_ordersOf v_lessOf v_weightOf v_rowNow v_slowRow v_fastRow v_lineNow v_firstLine v_freeBy v_heldBy v_heightOf v_upTo v_downTo v_oftenOf v_newUpper v_newLower : Nat → Int} {p0 p1 p2 p3 p4 : Int} (kr_v_taped : 0 ≤ v_taped ∧ v_taped ≤ 260) (r_v_tape : RA (-128) 127 v_tape) (hp0 : IR p0) (hp1 : IR p1) (hp2 : IR p2) (hp3 : IR p3) (hp4 : IR p4) : CtI l yX10_feed cX10_feed 6 (some .int) ⟨1, 0, 0, 22⟩ D (TY cI cB cJ) (wX10 cI cB cJ h q v_stalls v_claimMany v_taped v_place0 v_length0 v_fault v_number0 v_open v_codeMany v_waiting v_saidMany v_clauses v_newMany v_newStalls v_lines v_salesNow v_outNow v_isKept v_keptStalls v_now v_aside v_kept v_oneOf v_otherOf v_signOf v_byOf v_tape v_said v_waitsAt v_saidLetter v_saidFrom v_saidHalf v_saidTo v_codes v_clauseOf v_codeFrom v_codeHalf v_codeTo v_stack v_facts v_newOne v_newOther v_newSign v_newBy v_moreOf v_firstOf v_toldOf v_mostOf v_mostThen v_sumTo v_rowFrom v_ordersOf v_lessOf v_weightOf v_rowNow v_slowRow v_fastRow v_lineNow v_firstLine v_freeBy v_heldBy v_heightOf v_upTo v_downTo v_oftenOf v_newUpper v_newLower) [.ref h, vI p0, vI p1, vI p2, vI p3, vI p4] (fun z ws' => ∃ n_taped : Int, ∃ n_tape : Nat → Int, (0 ≤ n_taped ∧ n_taped ≤ 260) ∧ (RA (-128) 127 n_tape) ∧ ((260 < v_taped + 20 ∧ z = -1 ∧ n_taped = v_taped) ∨ (v_taped + 20 ≤ 260 ∧ z = v_taped + 20 ∧ n_taped = z)) ∧ (IR z) ∧ (oct n_tape = fdB (oct v_tape) v_taped p0 p1 p2 p3 p4) ∧ (ws' = (wX10 cI cB cJ h q v_stalls v_claimMany n_taped v_place0 v_length0 v_fault v_number0 v_open v_codeMany v_waiting v_saidMany v_clauses v_newMany v_newStalls v_lines v_salesNow v_outNow v_isKept v_keptStalls v_now v_aside v_kept v_oneOf v_otherOf v_signOf v_byOf n_tape v_said v_waitsAt v_saidLetter v_saidFrom v_saidHalf v_saidTo v_codes v_clauseOf v_codeFrom v_codeHalf v_codeTo v_stack v_facts v_newOne v_newOther v_newSign v_newBy v_moreOf v_firstOf v_toldOf v_mostOf v_mostThen v_sumTo v_rowFrom v_ordersOf v_lessOf v_weightOf v_rowNow v_slowRow v_fastRow v_lineNow v_firstLine v_freeBy v_heldBy v_heightOf v_upTo v_downTo v_oftenOf v_newUpper v_newLower))) := by
  refine hdrI (own := RX10) rfl (by decide +kernel) (Nat.le_of_ble_eq_true rfl) ?_
  intro p e s m args below meth c Q A X hQ
  refine g_lvE (lv2 := [(0, .ref h), (1, vI p0), (2, vI p1), (3, vI p2), (4, vI p3), (5, vI p4)]) rfl ?_
  refine g_aload_n X dX10_feed_0 0 rfl ?_
  refine gM_get X 0 rfl 10 (by decide) uw1189 rfl dX10_feed_1 ?_
  refine g_bipush X (z := 20) dX10_feed_4 (by decide) ?_
  refine g_iadd X dX10_feed_6 ?_
  refine g_sipush X (z := 260) dX10_feed_7 (by decide) ?_
  refine g_icmp_le X (tgt := 15) dX10_feed_10 (by decide) (by omega) (by omega) (fun c10 => ?_) (fun c10 => ?_)
  · refine g_aload_n X dX10_feed_15 0 rfl ?_
    refine g_iload_n X dX10_feed_16 1 rfl ?_
    refine g_callVV0 X (c_X10_types l D cI cB cJ h q (p0 := p0) (by omega) r_v_tape (by first | assumption | omega) (by first | assumption | omega)) cv_X10_types uw1386 ⟨rfl, rfl, by decide, by decide⟩ 0 rfl rfl rfl rfl rfl (Nat.le_of_ble_eq_true rfl) ⟨Nat.zero_le _, Nat.zero_le _⟩ dX10_feed_17 (fun ws17 k17 => ?_)
    obtain ⟨taped_17, tape_17, kr_taped_17, r_tape_17, kp0_17, kp1_17, rfl⟩ := k17
    refine g_aload_n X dX10_feed_20 0 rfl ?_
    refine g_iload_n X dX10_feed_21 2 rfl ?_
    refine g_callVV0 X (c_X10_types l D cI cB cJ h q (p0 := p1) (by omega) r_tape_17 (by first | assumption | omega) (by first | assumption | omega)) cv_X10_types uw1386 ⟨rfl, rfl, by decide, by decide⟩ 0 rfl rfl rfl rfl rfl (Nat.le_of_ble_eq_true rfl) ⟨Nat.zero_le _, Nat.zero_le _⟩ dX10_feed_22 (fun ws22 k22 => ?_)
    obtain ⟨taped_22, tape_22, kr_taped_22, r_tape_22, kp0_22, kp1_22, rfl⟩ := k22
    refine g_aload_n X dX10_feed_25 0 rfl ?_
    refine g_iload_n X dX10_feed_26 3 rfl ?_
    refine g_callVV0 X (c_X10_types l D cI cB cJ h q (p0 := p2) (by omega) r_tape_22 (by first | assumption | omega) (by first | assumption | omega)) cv_X10_types uw1386 ⟨rfl, rfl, by decide, by decide⟩ 0 rfl rfl rfl rfl rfl (Nat.le_of_ble_eq_true rfl) ⟨Nat.zero_le _, Nat.zero_le _⟩ dX10_feed_27 (fun ws27 k27 => ?_)
    obtain ⟨taped_27, tape_27, kr_taped_27, r_tape_27, kp0_27, kp1_27, rfl⟩ := k27
    refine g_aload_n X dX10_feed_30 0 rfl ?_
    refine g_iload X dX10_feed_31 4 rfl ?_
    refine g_callVV0 X (c_X10_types l D cI cB cJ h q (p0 := p3) (by omega) r_tape_27 (by first | assumption | omega) (by first | assumption | omega)) cv_X10_types uw1386 ⟨rfl, rfl, by decide, by decide⟩ 0 rfl rfl rfl rfl rfl (Nat.le_of_ble_eq_true rfl) ⟨Nat.zero_le _, Nat.zero_le _⟩ dX10_feed_33 (fun ws33 k33 => ?_)
    obtain ⟨taped_33, tape_33, kr_taped_33, r_tape_33, kp0_33, kp1_33, rfl⟩ := k33
    refine g_aload_n X dX10_feed_36 0 rfl ?_
    refine g_iload X dX10_feed_37 5 rfl ?_
    refine g_callVV0 X (c_X10_types l D cI cB cJ h q (p0 := p4) (by omega) r_tape_33 (by first | assumption | omega) (by first | assumption | omega)) cv_X10_types uw1386 ⟨rfl, rfl, by decide, by decide⟩ 0 rfl rfl rfl rfl rfl (Nat.le_of_ble_eq_true rfl) ⟨Nat.zero_le _, Nat.zero_le _⟩ dX10_feed_39 (fun ws39 k39 => ?_)
    obtain ⟨taped_39, tape_39, kr_taped_39, r_tape_39, kp0_39, kp1_39, rfl⟩ := k39
    refine g_aload_n X dX10_feed_42 0 rfl ?_
    refine gM_get X 0 rfl 10 (by decide) uw1189 rfl dX10_feed_43 ?_
    have hF : oct tape_39 = fdB (oct v_tape) v_taped p0 p1 p2 p3 p4 := fdB_y (by omega) (by omega) kp0_17 kp0_22 kp0_27 kp0_33 kp1_17 kp1_22 kp1_27 kp1_33 kp1_39
    exact hQ _ _ _ _ dX10_feed_46 ⟨taped_39, tape_39, (by omega), r_tape_39, (by first | assumption | omega), (by first | assumption | omega), (by exact hF), rfl⟩
  · refine g_iconst X dX10_feed_13 ?_
    have hF : oct v_tape = fdB (oct v_tape) v_taped p0 p1 p2 p3 p4 := fdB_n (by omega)
    exact hQ _ _ _ _ dX10_feed_14 ⟨v_taped, v_tape, (by omega), r_v_tape, (by first | assumption | omega), (by first | assumption | omega), (by exact hF), rfl⟩
set_option maxHeartbeats 4000000 in
set_option maxRecDepth 100000 in
theorem c_X10_octet (l : Launch) (D : va_G) (cI cB cJ : ClassId) (h : Nat) (q : Nat → Nat) {v_stalls v_claimMany v_taped v_place0 v_length0 v_fault v_number0 v_open v_codeMany v_waiting v_saidMany v_clauses v_newMany v_newStalls v_lines v_salesNow v_outNow v_isKept v_keptStalls : Int} {v_now v_aside v_kept v_oneOf v_otherOf v_signOf v_byOf v_tape v_said v_waitsAt v_saidLetter v_saidFrom v_saidHalf v_saidTo v_codes v_clauseOf v_codeFrom v_codeHalf v_codeTo v_stack v_facts v_newOne v_newOther v_newSign v_newBy v_moreOf v_firstOf v_toldOf v_mostOf v_mostThen v_sumTo v_rowFrom v_ordersOf v_lessOf v_weightOf v_rowNow v_slowRow v_fastRow v_lineNow v_firstLine v_freeBy v_heldBy v_heightOf v_upTo v_downTo v_oftenOf v_newUpper v_newLower : Nat → Int} {p0 : Int} (r_v_tape : RA (-128) 127 v_tape) (hp0 : IR p0) (hp1 : 0 ≤ p0 ∧ p0 < 260) : CtI l yX10_octet cX10_octet 2 (some .int) ⟨0, 0, 0, 0⟩ D (TY cI cB cJ) (wX10 cI cB cJ h q v_stalls v_claimMany v_taped v_place0 v_length0 v_fault v_number0 v_open v_codeMany v_waiting v_saidMany v_clauses v_newMany v_newStalls v_lines v_salesNow v_outNow v_isKept v_keptStalls v_now v_aside v_kept v_oneOf v_otherOf v_signOf v_byOf v_tape v_said v_waitsAt v_saidLetter v_saidFrom v_saidHalf v_saidTo v_codes v_clauseOf v_codeFrom v_codeHalf v_codeTo v_stack v_facts v_newOne v_newOther v_newSign v_newBy v_moreOf v_firstOf v_toldOf v_mostOf v_mostThen v_sumTo v_rowFrom v_ordersOf v_lessOf v_weightOf v_rowNow v_slowRow v_fastRow v_lineNow v_firstLine v_freeBy v_heldBy v_heightOf v_upTo v_downTo v_oftenOf v_newUpper v_newLower) [.ref h, vI p0] (fun z ws' => (0 ≤ z ∧ z ≤ 255) ∧ (z = z_iand (v_tape p0.toNat) 255) ∧ (z = oct v_tape p0.toNat) ∧ (ws' = (wX10 cI cB cJ h q v_stalls v_claimMany v_taped v_place0 v_length0 v_fault v_number0 v_open v_codeMany v_waiting v_saidMany v_clauses v_newMany v_newStalls v_lines v_salesNow v_outNow v_isKept v_keptStalls v_now v_aside v_kept v_oneOf v_otherOf v_signOf v_byOf v_tape v_said v_waitsAt v_saidLetter v_saidFrom v_saidHalf v_saidTo v_codes v_clauseOf v_codeFrom v_codeHalf v_codeTo v_stack v_facts v_newOne v_newOther v_newSign v_newBy v_moreOf v_firstOf v_toldOf v_mostOf v_mostThen v_sumTo v_rowFrom v_ordersOf v_lessOf v_weightOf v_rowNow v_slowRow v_fastRow v_lineNow v_firstLine v_freeBy v_heldBy v_heightOf v_upTo v_downTo v_oftenOf v_newUpper v_newLower))) := by
  refine hdrI (own := RX10) rfl (by decide +kernel) (Nat.le_of_ble_eq_true rfl) ?_
  intro p e s m args below meth c Q A X hQ
  refine g_lvE (lv2 := [(0, .ref h), (1, vI p0)]) rfl ?_
  refine g_aload_n X dX10_octet_0 0 rfl ?_
  refine gM_get X 0 rfl 9 (by decide) uw1188 rfl dX10_octet_1 ?_
  refine g_iload_n X dX10_octet_4 1 rfl ?_
  refine g_bald X 8 1 rfl rfl (by omega) (by decide) dX10_octet_5 (fun t5 e5 => ?_)
  have r5 := r_v_tape (p0 : Int).toNat; rw [← e5] at r5
  refine g_sipush X (z := 255) dX10_octet_6 (by decide) ?_
  refine g_iand X dX10_octet_9 ?_
  refine g_nm (fun t9 e9 => ?_)
  have r9 := z_iand_r t5 255 (by omega) (by omega); rw [← e9] at r9
  have hr : t9 = z_iand (v_tape p0.toNat) 255 := by rw [e9, e5]
  exact hQ _ _ _ _ dX10_octet_10 ⟨(by first | assumption | omega), (by first | assumption | omega), (by exact hr), rfl⟩
set_option maxHeartbeats 4000000 in
set_option maxRecDepth 100000 in
theorem c_X10_here (l : Launch) (D : va_G) (cI cB cJ : ClassId) (h : Nat) (q : Nat → Nat) {v_stalls v_claimMany v_taped v_place0 v_length0 v_fault v_number0 v_open v_codeMany v_waiting v_saidMany v_clauses v_newMany v_newStalls v_lines v_salesNow v_outNow v_isKept v_keptStalls : Int} {v_now v_aside v_kept v_oneOf v_otherOf v_signOf v_byOf v_tape v_said v_waitsAt v_saidLetter v_saidFrom v_saidHalf v_saidTo v_codes v_clauseOf v_codeFrom v_codeHalf v_codeTo v_stack v_facts v_newOne v_newOther v_newSign v_newBy v_moreOf v_firstOf v_toldOf v_mostOf v_mostThen v_sumTo v_rowFrom v_ordersOf v_lessOf v_weightOf v_rowNow v_slowRow v_fastRow v_lineNow v_firstLine v_freeBy v_heldBy v_heightOf v_upTo v_downTo v_oftenOf v_newUpper v_newLower : Nat → Int} (kr_v_place0 : 0 ≤ v_place0 ∧ v_place0 ≤ 260) (kr_v_length0 : 0 ≤ v_length0 ∧ v_length0 ≤ 260) (r_v_tape : RA (-128) 127 v_tape) : CtI l yX10_here cX10_here 1 (some .int) ⟨0, 0, 0, 0⟩ D (TY cI cB cJ) (wX10 cI cB cJ h q v_stalls v_claimMany v_taped v_place0 v_length0 v_fault v_number0 v_open v_codeMany v_waiting v_saidMany v_clauses v_newMany v_newStalls v_lines v_salesNow v_outNow v_isKept v_keptStalls v_now v_aside v_kept v_oneOf v_otherOf v_signOf v_byOf v_tape v_said v_waitsAt v_saidLetter v_saidFrom v_saidHalf v_saidTo v_codes v_clauseOf v_codeFrom v_codeHalf v_codeTo v_stack v_facts v_newOne v_newOther v_newSign v_newBy v_moreOf v_firstOf v_toldOf v_mostOf v_mostThen v_sumTo v_rowFrom v_ordersOf v_lessOf v_weightOf v_rowNow v_slowRow v_fastRow v_lineNow v_firstLine v_freeBy v_heldBy v_heightOf v_upTo v_downTo v_oftenOf v_newUpper v_newLower) [.ref h] (fun z ws' => (z = hereZ v_place0 v_length0 v_tape) ∧ (-1 ≤ z ∧ z ≤ 255) ∧ (0 ≤ z → v_place0 < v_length0) ∧ (ws' = (wX10 cI cB cJ h q v_stalls v_claimMany v_taped v_place0 v_length0 v_fault v_number0 v_open v_codeMany v_waiting v_saidMany v_clauses v_newMany v_newStalls v_lines v_salesNow v_outNow v_isKept v_keptStalls v_now v_aside v_kept v_oneOf v_otherOf v_signOf v_byOf v_tape v_said v_waitsAt v_saidLetter v_saidFrom v_saidHalf v_saidTo v_codes v_clauseOf v_codeFrom v_codeHalf v_codeTo v_stack v_facts v_newOne v_newOther v_newSign v_newBy v_moreOf v_firstOf v_toldOf v_mostOf v_mostThen v_sumTo v_rowFrom v_ordersOf v_lessOf v_weightOf v_rowNow v_slowRow v_fastRow v_lineNow v_firstLine v_freeBy v_heldBy v_heightOf v_upTo v_downTo v_oftenOf v_newUpper v_newLower))) := by
  refine hdrI (own := RX10) rfl (by decide +kernel) (Nat.le_of_ble_eq_true rfl) ?_
  intro p e s m args below meth c Q A X hQ
  refine g_lvE (lv2 := [(0, .ref h)]) rfl ?_
  refine g_aload_n X dX10_here_0 0 rfl ?_
  refine gM_get X 0 rfl 11 (by decide) uw1190 rfl dX10_here_1 ?_
  refine g_aload_n X dX10_here_4 0 rfl ?_
  refine gM_get X 0 rfl 12 (by decide) uw1191 rfl dX10_here_5 ?_
  refine g_icmp_ge X (tgt := 27) dX10_here_8 (by decide) (by omega) (by omega) (fun c8 => ?_) (fun c8 => ?_)
  · refine g_iconst X dX10_here_27 ?_
    have hr : (-1) = hereZ v_place0 v_length0 v_tape := by unfold hereZ; first | rw [if_neg (by omega)] | (rw [if_pos (by omega)]; simp only [e19, e23])
    exact hQ _ _ _ _ dX10_here_28 ⟨(by first | assumption | omega), (by first | assumption | omega), (by first | assumption | omega), rfl⟩
  · refine g_aload_n X dX10_here_11 0 rfl ?_
    refine gM_get X 0 rfl 9 (by decide) uw1188 rfl dX10_here_12 ?_
    refine g_aload_n X dX10_here_15 0 rfl ?_
    refine gM_get X 0 rfl 11 (by decide) uw1190 rfl dX10_here_16 ?_
    refine g_bald X 8 1 rfl rfl (by omega) (by decide) dX10_here_19 (fun t19 e19 => ?_)
    have r19 := r_v_tape (v_place0 : Int).toNat; rw [← e19] at r19
    refine g_sipush X (z := 255) dX10_here_20 (by decide) ?_
    refine g_iand X dX10_here_23 ?_
    refine g_nm (fun t23 e23 => ?_)
    have r23 := z_iand_r t19 255 (by omega) (by omega); rw [← e23] at r23
    refine g_goto X (tgt := 28) dX10_here_24 (by decide) ?_
    have hr : t23 = hereZ v_place0 v_length0 v_tape := by unfold hereZ; first | rw [if_neg (by omega)] | (rw [if_pos (by omega)]; simp only [e19, e23])
    exact hQ _ _ _ _ dX10_here_28 ⟨(by first | assumption | omega), (by first | assumption | omega), (by first | assumption | omega), rfl⟩
set_option maxHeartbeats 4000000 in
set_option maxRecDepth 100000 in
theorem c_X10_isDigit (l : Launch) (D : va_G) (cI cB cJ : ClassId) (h : Nat) (q : Nat → Nat) {v_stalls v_claimMany v_taped v_place0 v_length0 v_fault v_number0 v_open v_codeMany v_waiting v_saidMany v_clauses v_newMany v_newStalls v_lines v_salesNow v_outNow v_isKept v_keptStalls : Int} {v_now v_aside v_kept v_oneOf v_otherOf v_signOf v_byOf v_tape v_said v_waitsAt v_saidLetter v_saidFrom v_saidHalf v_saidTo v_codes v_clauseOf v_codeFrom v_codeHalf v_codeTo v_stack v_facts v_newOne v_newOther v_newSign v_newBy v_moreOf v_firstOf v_toldOf v_mostOf v_mostThen v_sumTo v_rowFrom v_ordersOf v_lessOf v_weightOf v_rowNow v_slowRow v_fastRow v_lineNow v_firstLine v_freeBy v_heldBy v_heightOf v_upTo v_downTo v_oftenOf v_newUpper v_newLower : Nat → Int} (kr_v_place0 : 0 ≤ v_place0 ∧ v_place0 ≤ 260) (kr_v_length0 : 0 ≤ v_length0 ∧ v_length0 ≤ 260) (r_v_tape : RA (-128) 127 v_tape) : CtI l yX10_isDigit cX10_isDigit 1 (some .boolean) ⟨1, 0, 0, 20⟩ D (TY cI cB cJ) (wX10 cI cB cJ h q v_stalls v_claimMany v_taped v_place0 v_length0 v_fault v_number0 v_open v_codeMany v_waiting v_saidMany v_clauses v_newMany v_newStalls v_lines v_salesNow v_outNow v_isKept v_keptStalls v_now v_aside v_kept v_oneOf v_otherOf v_signOf v_byOf v_tape v_said v_waitsAt v_saidLetter v_saidFrom v_saidHalf v_saidTo v_codes v_clauseOf v_codeFrom v_codeHalf v_codeTo v_stack v_facts v_newOne v_newOther v_newSign v_newBy v_moreOf v_firstOf v_toldOf v_mostOf v_mostThen v_sumTo v_rowFrom v_ordersOf v_lessOf v_weightOf v_rowNow v_slowRow v_fastRow v_lineNow v_firstLine v_freeBy v_heldBy v_heightOf v_upTo v_downTo v_oftenOf v_newUpper v_newLower) [.ref h] (fun z ws' => (z = 0 ∨ z = 1) ∧ ((z = 1 ∧ 48 ≤ hereZ v_place0 v_length0 v_tape ∧ hereZ v_place0 v_length0 v_tape ≤ 57) ∨ (z = 0 ∧ ¬ (48 ≤ hereZ v_place0 v_length0 v_tape ∧ hereZ v_place0 v_length0 v_tape ≤ 57))) ∧ (z = 1 → v_place0 < v_length0) ∧ (ws' = (wX10 cI cB cJ h q v_stalls v_claimMany v_taped v_place0 v_length0 v_fault v_number0 v_open v_codeMany v_waiting v_saidMany v_clauses v_newMany v_newStalls v_lines v_salesNow v_outNow v_isKept v_keptStalls v_now v_aside v_kept v_oneOf v_otherOf v_signOf v_byOf v_tape v_said v_waitsAt v_saidLetter v_saidFrom v_saidHalf v_saidTo v_codes v_clauseOf v_codeFrom v_codeHalf v_codeTo v_stack v_facts v_newOne v_newOther v_newSign v_newBy v_moreOf v_firstOf v_toldOf v_mostOf v_mostThen v_sumTo v_rowFrom v_ordersOf v_lessOf v_weightOf v_rowNow v_slowRow v_fastRow v_lineNow v_firstLine v_freeBy v_heldBy v_heightOf v_upTo v_downTo v_oftenOf v_newUpper v_newLower))) := by
  refine hdrZ (own := RX10) rfl (by decide +kernel) (Nat.le_of_ble_eq_true rfl) ?_
  intro p e s m args below meth c Q A X hQ
  refine g_lvE (lv2 := [(0, .ref h)]) rfl ?_
  refine g_aload_n X dX10_isDigit_0 0 rfl ?_
  refine g_callVI0 X (c_X10_here l D cI cB cJ h q  (by omega) (by omega) r_v_tape) cv_X10_here uw1405 ⟨rfl, rfl, by decide, by decide⟩ 0 rfl rfl rfl rfl rfl (Nat.le_of_ble_eq_true rfl) ⟨Nat.zero_le _, Nat.zero_le _⟩ dX10_isDigit_1 (fun t1 ws1 k1 => ?_)
  obtain ⟨kp0_1, kp1_1, kp2_1, rfl⟩ := k1
  refine g_bipush X (z := 48) dX10_isDigit_4 (by decide) ?_
  refine g_icmp_lt X (tgt := 22) dX10_isDigit_6 (by decide) (by omega) (by omega) (fun c6 => ?_) (fun c6 => ?_)
  · refine g_iconst X dX10_isDigit_22 ?_
    exact hQ _ _ _ _ dX10_isDigit_23 ⟨by omega, ⟨(by first | assumption | omega), (by first | assumption | omega), rfl⟩⟩
  · refine g_aload_n X dX10_isDigit_9 0 rfl ?_
    refine g_callVI0 X (c_X10_here l D cI cB cJ h q  (by omega) (by omega) r_v_tape) cv_X10_here uw1405 ⟨rfl, rfl, by decide, by decide⟩ 0 rfl rfl rfl rfl rfl (Nat.le_of_ble_eq_true rfl) ⟨Nat.zero_le _, Nat.zero_le _⟩ dX10_isDigit_10 (fun t10 ws10 k10 => ?_)
    obtain ⟨kp0_10, kp1_10, kp2_10, rfl⟩ := k10
    refine g_bipush X (z := 57) dX10_isDigit_13 (by decide) ?_
    refine g_icmp_gt X (tgt := 22) dX10_isDigit_15 (by decide) (by omega) (by omega) (fun c15 => ?_) (fun c15 => ?_)
    · refine g_iconst X dX10_isDigit_22 ?_
      exact hQ _ _ _ _ dX10_isDigit_23 ⟨by omega, ⟨(by first | assumption | omega), (by first | assumption | omega), rfl⟩⟩
    · refine g_iconst X dX10_isDigit_18 ?_
      refine g_goto X (tgt := 23) dX10_isDigit_19 (by decide) ?_
      exact hQ _ _ _ _ dX10_isDigit_23 ⟨by omega, ⟨(by first | assumption | omega), (by first | assumption | omega), rfl⟩⟩
set_option maxHeartbeats 4000000 in
set_option maxRecDepth 100000 in
theorem c_X10_wrongAt (l : Launch) (D : va_G) (cI cB cJ : ClassId) (h : Nat) (q : Nat → Nat) {v_stalls v_claimMany v_taped v_place0 v_length0 v_fault v_number0 v_open v_codeMany v_waiting v_saidMany v_clauses v_newMany v_newStalls v_lines v_salesNow v_outNow v_isKept v_keptStalls : Int} {v_now v_aside v_kept v_oneOf v_otherOf v_signOf v_byOf v_tape v_said v_waitsAt v_saidLetter v_saidFrom v_saidHalf v_saidTo v_codes v_clauseOf v_codeFrom v_codeHalf v_codeTo v_stack v_facts v_newOne v_newOther v_newSign v_newBy v_moreOf v_firstOf v_toldOf v_mostOf v_mostThen v_sumTo v_rowFrom v_ordersOf v_lessOf v_weightOf v_rowNow v_slowRow v_fastRow v_lineNow v_firstLine v_freeBy v_heldBy v_heightOf v_upTo v_downTo v_oftenOf v_newUpper v_newLower : Nat → Int} {p0 p1 : Int} (kr_v_fault : (-1000000) ≤ v_fault ∧ v_fault ≤ 1000000) (hp0 : IR p0) (hp1 : IR p1) (hp2 : 0 ≤ p0 ∧ p0 ≤ 8) (hp3 : 0 ≤ p1 ∧ p1 ≤ 260) : CtI l yX10_wrongAt cX10_wrongAt 3 (some .boolean) ⟨0, 0, 0, 0⟩ D (TY cI cB cJ) (wX10 cI cB cJ h q v_stalls v_claimMany v_taped v_place0 v_length0 v_fault v_number0 v_open v_codeMany v_waiting v_saidMany v_clauses v_newMany v_newStalls v_lines v_salesNow v_outNow v_isKept v_keptStalls v_now v_aside v_kept v_oneOf v_otherOf v_signOf v_byOf v_tape v_said v_waitsAt v_saidLetter v_saidFrom v_saidHalf v_saidTo v_codes v_clauseOf v_codeFrom v_codeHalf v_codeTo v_stack v_facts v_newOne v_newOther v_newSign v_newBy v_moreOf v_firstOf v_toldOf v_mostOf v_mostThen v_sumTo v_rowFrom v_ordersOf v_lessOf v_weightOf v_rowNow v_slowRow v_fastRow v_lineNow v_firstLine v_freeBy v_heldBy v_heightOf v_upTo v_downTo v_oftenOf v_newUpper v_newLower) [.ref h, vI p0, vI p1] (fun z ws' => (z = 0 ∨ z = 1) ∧ ∃ n_fault : Int, ((-1000000) ≤ n_fault ∧ n_fault ≤ 1000000) ∧ (z = 0) ∧ (n_fault = -1000 * p0 - p1) ∧ (ws' = (wX10 cI cB cJ h q v_stalls v_claimMany v_taped v_place0 v_length0 n_fault v_number0 v_open v_codeMany v_waiting v_saidMany v_clauses v_newMany v_newStalls v_lines v_salesNow v_outNow v_isKept v_keptStalls v_now v_aside v_kept v_oneOf v_otherOf v_signOf v_byOf v_tape v_said v_waitsAt v_saidLetter v_saidFrom v_saidHalf v_saidTo v_codes v_clauseOf v_codeFrom v_codeHalf v_codeTo v_stack v_facts v_newOne v_newOther v_newSign v_newBy v_moreOf v_firstOf v_toldOf v_mostOf v_mostThen v_sumTo v_rowFrom v_ordersOf v_lessOf v_weightOf v_rowNow v_slowRow v_fastRow v_lineNow v_firstLine v_freeBy v_heldBy v_heightOf v_upTo v_downTo v_oftenOf v_newUpper v_newLower))) := by
  refine hdrZ (own := RX10) rfl (by decide +kernel) (Nat.le_of_ble_eq_true rfl) ?_
  intro p e s m args below meth c Q A X hQ
  refine g_lvE (lv2 := [(0, .ref h), (1, vI p0), (2, vI p1)]) rfl ?_
  refine g_aload_n X dX10_wrongAt_0 0 rfl ?_
  refine g_sipush X (z := (-1000)) dX10_wrongAt_1 (by decide) ?_
  refine g_iload_n X dX10_wrongAt_4 1 rfl ?_
  refine g_imul X dX10_wrongAt_5 ?_
  refine g_iload_n X dX10_wrongAt_6 2 rfl ?_
  refine g_isub X dX10_wrongAt_7 ?_
  refine gM_put X 0 rfl 13 (by decide) uw1192 rfl rfl rfl (Nat.le_of_ble_eq_true rfl) dX10_wrongAt_8 (ws2 := (wX10 cI cB cJ h q v_stalls v_claimMany v_taped v_place0 v_length0 (((-1000) * p0) - p1) v_number0 v_open v_codeMany v_waiting v_saidMany v_clauses v_newMany v_newStalls v_lines v_salesNow v_outNow v_isKept v_keptStalls v_now v_aside v_kept v_oneOf v_otherOf v_signOf v_byOf v_tape v_said v_waitsAt v_saidLetter v_saidFrom v_saidHalf v_saidTo v_codes v_clauseOf v_codeFrom v_codeHalf v_codeTo v_stack v_facts v_newOne v_newOther v_newSign v_newBy v_moreOf v_firstOf v_toldOf v_mostOf v_mostThen v_sumTo v_rowFrom v_ordersOf v_lessOf v_weightOf v_rowNow v_slowRow v_fastRow v_lineNow v_firstLine v_freeBy v_heldBy v_heightOf v_upTo v_downTo v_oftenOf v_newUpper v_newLower)) rfl ?_
  refine g_iconst X dX10_wrongAt_11 ?_
  exact hQ _ _ _ _ dX10_wrongAt_12 ⟨by omega, ⟨((-1000) * p0) - p1, (by omega), (by first | assumption | omega), (by first | assumption | omega), rfl⟩⟩
set_option maxHeartbeats 4000000 in
set_option maxRecDepth 100000 in
theorem c_X10_takes (l : Launch) (D : va_G) (cI cB cJ : ClassId) (h : Nat) (q : Nat → Nat) {v_stalls v_claimMany v_taped v_place0 v_length0 v_fault v_number0 v_open v_codeMany v_waiting v_saidMany v_clauses v_newMany v_newStalls v_lines v_salesNow v_outNow v_isKept v_keptStalls : Int} {v_now v_aside v_kept v_oneOf v_otherOf v_signOf v_byOf v_tape v_said v_waitsAt v_saidLetter v_saidFrom v_saidHalf v_saidTo v_codes v_clauseOf v_codeFrom v_codeHalf v_codeTo v_stack v_facts v_newOne v_newOther v_newSign v_newBy v_moreOf v_firstOf v_toldOf v_mostOf v_mostThen v_sumTo v_rowFrom v_ordersOf v_lessOf v_weightOf v_rowNow v_slowRow v_fastRow v_lineNow v_firstLine v_freeBy v_heldBy v_heightOf v_upTo v_downTo v_oftenOf v_newUpper v_newLower : Nat → Int} {p0 : Int} (kr_v_place0 : 0 ≤ v_place0 ∧ v_place0 ≤ 260) (kr_v_length0 : 0 ≤ v_length0 ∧ v_length0 ≤ 260) (kr_v_fault : (-1000000) ≤ v_fault ∧ v_fault ≤ 1000000) (r_v_tape : RA (-128) 127 v_tape) (hp0 : IR p0) (hp1 : 0 ≤ p0) : CtI l yX10_takes cX10_takes 2 (some .boolean) ⟨1, 0, 0, 22⟩ D (TY cI cB cJ) (wX10 cI cB cJ h q v_stalls v_claimMany v_taped v_place0 v_length0 v_fault v_number0 v_open v_codeMany v_waiting v_saidMany v_clauses v_newMany v_newStalls v_lines v_salesNow v_outNow v_isKept v_keptStalls v_now v_aside v_kept v_oneOf v_otherOf v_signOf v_byOf v_tape v_said v_waitsAt v_saidLetter v_saidFrom v_saidHalf v_saidTo v_codes v_clauseOf v_codeFrom v_codeHalf v_codeTo v_stack v_facts v_newOne v_newOther v_newSign v_newBy v_moreOf v_firstOf v_toldOf v_mostOf v_mostThen v_sumTo v_rowFrom v_ordersOf v_lessOf v_weightOf v_rowNow v_slowRow v_fastRow v_lineNow v_firstLine v_freeBy v_heldBy v_heightOf v_upTo v_downTo v_oftenOf v_newUpper v_newLower) [.ref h, vI p0] (fun z ws' => (z = 0 ∨ z = 1) ∧ ∃ n_place0 : Int, ∃ n_fault : Int, (0 ≤ n_place0 ∧ n_place0 ≤ 260) ∧ ((-1000000) ≤ n_fault ∧ n_fault ≤ 1000000) ∧ ((z = 1 ∧ n_place0 = v_place0 + 1 ∧ v_place0 < v_length0 ∧ hereZ v_place0 v_length0 v_tape = p0) ∨ (z = 0 ∧ n_place0 = v_place0 ∧ hereZ v_place0 v_length0 v_tape ≠ p0)) ∧ ((z = 1 ∧ psC (sgP v_length0 (oct v_tape)) p0 v_place0 = 0) ∨ (z = 0 ∧ psC (sgP v_length0 (oct v_tape)) p0 v_place0 = n_fault ∧ n_fault < 0)) ∧ (ws' = (wX10 cI cB cJ h q v_stalls v_claimMany v_taped n_place0 v_length0 n_fault v_number0 v_open v_codeMany v_waiting v_saidMany v_clauses v_newMany v_newStalls v_lines v_salesNow v_outNow v_isKept v_keptStalls v_now v_aside v_kept v_oneOf v_otherOf v_signOf v_byOf v_tape v_said v_waitsAt v_saidLetter v_saidFrom v_saidHalf v_saidTo v_codes v_clauseOf v_codeFrom v_codeHalf v_codeTo v_stack v_facts v_newOne v_newOther v_newSign v_newBy v_moreOf v_firstOf v_toldOf v_mostOf v_mostThen v_sumTo v_rowFrom v_ordersOf v_lessOf v_weightOf v_rowNow v_slowRow v_fastRow v_lineNow v_firstLine v_freeBy v_heldBy v_heightOf v_upTo v_downTo v_oftenOf v_newUpper v_newLower))) := by
  refine hdrZ (own := RX10) rfl (by decide +kernel) (Nat.le_of_ble_eq_true rfl) ?_
  intro p e s m args below meth c Q A X hQ
  refine g_lvE (lv2 := [(0, .ref h), (1, vI p0)]) rfl ?_
  have hP := psC_e (sgP v_length0 (oct v_tape)) p0 v_place0
  have hH : sgP v_length0 (oct v_tape) v_place0 = hereZ v_place0 v_length0 v_tape := rfl
  refine g_aload_n X dX10_takes_0 0 rfl ?_
  refine g_callVI0 X (c_X10_here l D cI cB cJ h q  (by omega) (by omega) r_v_tape) cv_X10_here uw1405 ⟨rfl, rfl, by decide, by decide⟩ 0 rfl rfl rfl rfl rfl (Nat.le_of_ble_eq_true rfl) ⟨Nat.zero_le _, Nat.zero_le _⟩ dX10_takes_1 (fun t1 ws1 k1 => ?_)
  obtain ⟨kp0_1, kp1_1, kp2_1, rfl⟩ := k1
  refine g_iload_n X dX10_takes_4 1 rfl ?_
  refine g_icmp_eq X (tgt := 18) dX10_takes_5 (by decide) (by omega) (by omega) (fun c5 => ?_) (fun c5 => ?_)
  · refine g_aload_n X dX10_takes_18 0 rfl ?_
    refine g_aload_n X dX10_takes_19 0 rfl ?_
    refine gM_get X 0 rfl 11 (by decide) uw1190 rfl dX10_takes_20 ?_
    refine g_iconst X dX10_takes_23 ?_
    refine g_iadd X dX10_takes_24 ?_
    refine gM_put X 0 rfl 11 (by decide) uw1190 rfl rfl rfl (Nat.le_of_ble_eq_true rfl) dX10_takes_25 (ws2 := (wX10 cI cB cJ h q v_stalls v_claimMany v_taped (v_place0 + 1) v_length0 v_fault v_number0 v_open v_codeMany v_waiting v_saidMany v_clauses v_newMany v_newStalls v_lines v_salesNow v_outNow v_isKept v_keptStalls v_now v_aside v_kept v_oneOf v_otherOf v_signOf v_byOf v_tape v_said v_waitsAt v_saidLetter v_saidFrom v_saidHalf v_saidTo v_codes v_clauseOf v_codeFrom v_codeHalf v_codeTo v_stack v_facts v_newOne v_newOther v_newSign v_newBy v_moreOf v_firstOf v_toldOf v_mostOf v_mostThen v_sumTo v_rowFrom v_ordersOf v_lessOf v_weightOf v_rowNow v_slowRow v_fastRow v_lineNow v_firstLine v_freeBy v_heldBy v_heightOf v_upTo v_downTo v_oftenOf v_newUpper v_newLower)) rfl ?_
    refine g_iconst X dX10_takes_28 ?_
    exact hQ _ _ _ _ dX10_takes_29 ⟨by omega, ⟨v_place0 + 1, v_fault, (by omega), (by omega), (by first | assumption | omega), (by first | assumption | omega), rfl⟩⟩
  · refine g_aload_n X dX10_takes_8 0 rfl ?_
    refine g_iconst X dX10_takes_9 ?_
    refine g_aload_n X dX10_takes_10 0 rfl ?_
    refine gM_get X 0 rfl 11 (by decide) uw1190 rfl dX10_takes_11 ?_
    refine g_callVI0 X (c_X10_wrongAt l D cI cB cJ h q (p0 := 1) (p1 := v_place0) (by omega) (by first | assumption | omega) (by first | assumption | omega) (by first | assumption | omega) (by first | assumption | omega)) cv_X10_wrongAt uw1409 ⟨rfl, rfl, by decide, by decide⟩ 0 rfl rfl rfl rfl rfl (Nat.le_of_ble_eq_true rfl) ⟨Nat.zero_le _, Nat.zero_le _⟩ dX10_takes_14 (fun t14 ws14 k14 => ?_)
    obtain ⟨kb_14, ⟨fault_14, kr_fault_14, kp0_14, kp1_14, rfl⟩⟩ := k14
    exact hQ _ _ _ _ dX10_takes_17 ⟨by omega, ⟨v_place0, fault_14, (by omega), (by omega), (by first | assumption | omega), (by first | assumption | omega), rfl⟩⟩
set_option maxHeartbeats 4000000 in
set_option maxRecDepth 100000 in
theorem c_X10_readsNumber (l : Launch) (D : va_G) (cI cB cJ : ClassId) (h : Nat) (q : Nat → Nat) {v_stalls v_claimMany v_taped v_place0 v_length0 v_fault v_number0 v_open v_codeMany v_waiting v_saidMany v_clauses v_newMany v_newStalls v_lines v_salesNow v_outNow v_isKept v_keptStalls : Int} {v_now v_aside v_kept v_oneOf v_otherOf v_signOf v_byOf v_tape v_said v_waitsAt v_saidLetter v_saidFrom v_saidHalf v_saidTo v_codes v_clauseOf v_codeFrom v_codeHalf v_codeTo v_stack v_facts v_newOne v_newOther v_newSign v_newBy v_moreOf v_firstOf v_toldOf v_mostOf v_mostThen v_sumTo v_rowFrom v_ordersOf v_lessOf v_weightOf v_rowNow v_slowRow v_fastRow v_lineNow v_firstLine v_freeBy v_heldBy v_heightOf v_upTo v_downTo v_oftenOf v_newUpper v_newLower : Nat → Int} (kr_v_place0 : 0 ≤ v_place0 ∧ v_place0 ≤ 260) (kr_v_length0 : 0 ≤ v_length0 ∧ v_length0 ≤ 260) (kr_v_fault : (-1000000) ≤ v_fault ∧ v_fault ≤ 1000000) (kr_v_number0 : 0 ≤ v_number0 ∧ v_number0 ≤ 99999) (r_v_tape : RA (-128) 127 v_tape) : CtI l yX10_readsNumber cX10_readsNumber 2 (some .boolean) ⟨2, 0, 0, 40⟩ D (TY cI cB cJ) (wX10 cI cB cJ h q v_stalls v_claimMany v_taped v_place0 v_length0 v_fault v_number0 v_open v_codeMany v_waiting v_saidMany v_clauses v_newMany v_newStalls v_lines v_salesNow v_outNow v_isKept v_keptStalls v_now v_aside v_kept v_oneOf v_otherOf v_signOf v_byOf v_tape v_said v_waitsAt v_saidLetter v_saidFrom v_saidHalf v_saidTo v_codes v_clauseOf v_codeFrom v_codeHalf v_codeTo v_stack v_facts v_newOne v_newOther v_newSign v_newBy v_moreOf v_firstOf v_toldOf v_mostOf v_mostThen v_sumTo v_rowFrom v_ordersOf v_lessOf v_weightOf v_rowNow v_slowRow v_fastRow v_lineNow v_firstLine v_freeBy v_heldBy v_heightOf v_upTo v_downTo v_oftenOf v_newUpper v_newLower) [.ref h] (fun z ws' => (z = 0 ∨ z = 1) ∧ ∃ n_place0 : Int, ∃ n_fault : Int, ∃ n_number0 : Int, (0 ≤ n_place0 ∧ n_place0 ≤ 260) ∧ ((-1000000) ≤ n_fault ∧ n_fault ≤ 1000000) ∧ (0 ≤ n_number0 ∧ n_number0 ≤ 99999) ∧ (v_place0 ≤ n_place0) ∧ (48 ≤ hereZ v_place0 v_length0 v_tape ∧ hereZ v_place0 v_length0 v_tape ≤ 57 → v_place0 < n_place0) ∧ (ws' = (wX10 cI cB cJ h q v_stalls v_claimMany v_taped n_place0 v_length0 n_fault n_number0 v_open v_codeMany v_waiting v_saidMany v_clauses v_newMany v_newStalls v_lines v_salesNow v_outNow v_isKept v_keptStalls v_now v_aside v_kept v_oneOf v_otherOf v_signOf v_byOf v_tape v_said v_waitsAt v_saidLetter v_saidFrom v_saidHalf v_saidTo v_codes v_clauseOf v_codeFrom v_codeHalf v_codeTo v_stack v_facts v_newOne v_newOther v_newSign v_newBy v_moreOf v_firstOf v_toldOf v_mostOf v_mostThen v_sumTo v_rowFrom v_ordersOf v_lessOf v_weightOf v_rowNow v_slowRow v_fastRow v_lineNow v_firstLine v_freeBy v_heldBy v_heightOf v_upTo v_downTo v_oftenOf v_newUpper v_newLower))) := by
  refine hdrZ (own := RX10) rfl (by decide +kernel) (Nat.le_of_ble_eq_true rfl) ?_
  intro p e s m args below meth c Q A X hQ
  refine g_lvE (lv2 := [(0, .ref h)]) rfl ?_
  refine g_aload_n X dX10_readsNumber_0 0 rfl ?_
  refine gM_get X 0 rfl 11 (by decide) uw1190 rfl dX10_readsNumber_1 ?_
  refine g_istore_n X (lv' := [(1, vI v_place0), (0, .ref h)]) dX10_readsNumber_4 (by decide) rfl ?_
  refine g_aload_n X dX10_readsNumber_5 1 rfl ?_
  refine g_iconst X dX10_readsNumber_6 ?_
  refine gM_put X 0 rfl 14 (by decide) uw1193 rfl rfl rfl (Nat.le_of_ble_eq_true rfl) dX10_readsNumber_7 (ws2 := (wX10 cI cB cJ h q v_stalls v_claimMany v_taped v_place0 v_length0 v_fault 0 v_open v_codeMany v_waiting v_saidMany v_clauses v_newMany v_newStalls v_lines v_salesNow v_outNow v_isKept v_keptStalls v_now v_aside v_kept v_oneOf v_otherOf v_signOf v_byOf v_tape v_said v_waitsAt v_saidLetter v_saidFrom v_saidHalf v_saidTo v_codes v_clauseOf v_codeFrom v_codeHalf v_codeTo v_stack v_facts v_newOne v_newOther v_newSign v_newBy v_moreOf v_firstOf v_toldOf v_mostOf v_mostThen v_sumTo v_rowFrom v_ordersOf v_lessOf v_weightOf v_rowNow v_slowRow v_fastRow v_lineNow v_firstLine v_freeBy v_heldBy v_heightOf v_upTo v_downTo v_oftenOf v_newUpper v_newLower)) rfl ?_
  have L10 : ∀ (n : Nat) (place0_10 : Int) (number0_10 : Int), (0 ≤ place0_10 ∧ place0_10 ≤ 260) → (0 ≤ number0_10 ∧ number0_10 ≤ 99999) → ((place0_10 = v_place0 ∧ number0_10 ≤ 0) ∨ (place0_10 = v_place0 + 1 ∧ number0_10 ≤ 9) ∨ (place0_10 = v_place0 + 2 ∧ number0_10 ≤ 99) ∨ (place0_10 = v_place0 + 3 ∧ number0_10 ≤ 999) ∨ (place0_10 = v_place0 + 4 ∧ number0_10 ≤ 9999) ∨ (place0_10 = v_place0 + 5 ∧ number0_10 ≤ 99999)) → (v_place0 + 5 - place0_10).toNat < n → GG p l e ⟨2, 0, 0, 40⟩ s m args below meth c 0 0 Q D A s.heap 2 (wX10 cI cB cJ h q v_stalls v_claimMany v_taped place0_10 v_length0 v_fault number0_10 v_open v_codeMany v_waiting v_saidMany v_clauses v_newMany v_newStalls v_lines v_salesNow v_outNow v_isKept v_keptStalls v_now v_aside v_kept v_oneOf v_otherOf v_signOf v_byOf v_tape v_said v_waitsAt v_saidLetter v_saidFrom v_saidHalf v_saidTo v_codes v_clauseOf v_codeFrom v_codeHalf v_codeTo v_stack v_facts v_newOne v_newOther v_newSign v_newBy v_moreOf v_firstOf v_toldOf v_mostOf v_mostThen v_sumTo v_rowFrom v_ordersOf v_lessOf v_weightOf v_rowNow v_slowRow v_fastRow v_lineNow v_firstLine v_freeBy v_heldBy v_heightOf v_upTo v_downTo v_oftenOf v_newUpper v_newLower) 10 [(0, .ref h), (1, vI v_place0)] [] := by
    intro n
    induction n with
    | zero => intros; exfalso; omega
    | succ n ih10 =>
      intro place0_10 number0_10 kr_place0_10 kr_number0_10 w10_0 wm10
      refine g_aload_n X dX10_readsNumber_10 0 rfl ?_
      refine g_callVI0 X (c_X10_isDigit l D cI cB cJ h q  (by omega) (by omega) r_v_tape) cv_X10_isDigit uw1426 ⟨rfl, rfl, by decide, by decide⟩ 0 rfl rfl rfl rfl rfl (Nat.le_of_ble_eq_true rfl) ⟨Nat.zero_le _, Nat.zero_le _⟩ dX10_readsNumber_11 (fun t11 ws11 k11 => ?_)
      obtain ⟨kb_11, ⟨kp0_11, kp1_11, rfl⟩⟩ := k11
      refine g_if_eq X (tgt := 69) dX10_readsNumber_14 (by decide) (by omega) (fun c14 => ?_) (fun c14 => ?_)
      · refine g_iconst X dX10_readsNumber_69 ?_
        have hq9 : place0_10 = v_place0 → hereZ place0_10 v_length0 v_tape = hereZ v_place0 v_length0 v_tape := fun h => by rw [h]
        exact hQ _ _ _ _ dX10_readsNumber_70 ⟨by omega, ⟨place0_10, v_fault, number0_10, (by omega), (by omega), (by omega), (by first | assumption | omega), (by first | assumption | omega), rfl⟩⟩
      · refine g_aload_n X dX10_readsNumber_17 0 rfl ?_
        refine gM_get X 0 rfl 11 (by decide) uw1190 rfl dX10_readsNumber_18 ?_
        refine g_iload_n X dX10_readsNumber_21 1 rfl ?_
        refine g_iconst X dX10_readsNumber_22 ?_
        refine g_iadd X dX10_readsNumber_23 ?_
        refine g_icmp_ne X (tgt := 37) dX10_readsNumber_24 (by decide) (by omega) (by omega) (fun c24 => ?_) (fun c24 => ?_)
        · refine g_aload_n X dX10_readsNumber_37 0 rfl ?_
          refine g_bipush X (z := 10) dX10_readsNumber_38 (by decide) ?_
          refine g_aload_n X dX10_readsNumber_40 0 rfl ?_
          refine gM_get X 0 rfl 14 (by decide) uw1193 rfl dX10_readsNumber_41 ?_
          refine g_imul X dX10_readsNumber_44 ?_
          refine g_aload_n X dX10_readsNumber_45 0 rfl ?_
          refine g_callVI0 X (c_X10_here l D cI cB cJ h q  (by omega) (by omega) r_v_tape) cv_X10_here uw1405 ⟨rfl, rfl, by decide, by decide⟩ 0 rfl rfl rfl rfl rfl (Nat.le_of_ble_eq_true rfl) ⟨Nat.zero_le _, Nat.zero_le _⟩ dX10_readsNumber_46 (fun t46 ws46 k46 => ?_)
          obtain ⟨kp0_46, kp1_46, kp2_46, rfl⟩ := k46
          refine g_iadd X dX10_readsNumber_49 ?_
          refine g_bipush X (z := 48) dX10_readsNumber_50 (by decide) ?_
          refine g_isub X dX10_readsNumber_52 ?_
          refine gM_put X 0 rfl 14 (by decide) uw1193 rfl rfl rfl (Nat.le_of_ble_eq_true rfl) dX10_readsNumber_53 (ws2 := (wX10 cI cB cJ h q v_stalls v_claimMany v_taped place0_10 v_length0 v_fault (((10 * number0_10) + t46) - 48) v_open v_codeMany v_waiting v_saidMany v_clauses v_newMany v_newStalls v_lines v_salesNow v_outNow v_isKept v_keptStalls v_now v_aside v_kept v_oneOf v_otherOf v_signOf v_byOf v_tape v_said v_waitsAt v_saidLetter v_saidFrom v_saidHalf v_saidTo v_codes v_clauseOf v_codeFrom v_codeHalf v_codeTo v_stack v_facts v_newOne v_newOther v_newSign v_newBy v_moreOf v_firstOf v_toldOf v_mostOf v_mostThen v_sumTo v_rowFrom v_ordersOf v_lessOf v_weightOf v_rowNow v_slowRow v_fastRow v_lineNow v_firstLine v_freeBy v_heldBy v_heightOf v_upTo v_downTo v_oftenOf v_newUpper v_newLower)) rfl ?_
          refine g_aload_n X dX10_readsNumber_56 0 rfl ?_
          refine g_aload_n X dX10_readsNumber_57 0 rfl ?_
          refine gM_get X 0 rfl 11 (by decide) uw1190 rfl dX10_readsNumber_58 ?_
          refine g_iconst X dX10_readsNumber_61 ?_
          refine g_iadd X dX10_readsNumber_62 ?_
          refine gM_put X 0 rfl 11 (by decide) uw1190 rfl rfl rfl (Nat.le_of_ble_eq_true rfl) dX10_readsNumber_63 (ws2 := (wX10 cI cB cJ h q v_stalls v_claimMany v_taped (place0_10 + 1) v_length0 v_fault (((10 * number0_10) + t46) - 48) v_open v_codeMany v_waiting v_saidMany v_clauses v_newMany v_newStalls v_lines v_salesNow v_outNow v_isKept v_keptStalls v_now v_aside v_kept v_oneOf v_otherOf v_signOf v_byOf v_tape v_said v_waitsAt v_saidLetter v_saidFrom v_saidHalf v_saidTo v_codes v_clauseOf v_codeFrom v_codeHalf v_codeTo v_stack v_facts v_newOne v_newOther v_newSign v_newBy v_moreOf v_firstOf v_toldOf v_mostOf v_mostThen v_sumTo v_rowFrom v_ordersOf v_lessOf v_weightOf v_rowNow v_slowRow v_fastRow v_lineNow v_firstLine v_freeBy v_heldBy v_heightOf v_upTo v_downTo v_oftenOf v_newUpper v_newLower)) rfl ?_
          refine g_goto X (tgt := 10) dX10_readsNumber_66 (by decide) ?_
          exact ih10 (place0_10 + 1) (((10 * number0_10) + t46) - 48) (by omega) (by omega) (by first | assumption | omega) (by omega)
        · refine g_aload_n X dX10_readsNumber_27 0 rfl ?_
          refine g_iconst X dX10_readsNumber_28 ?_
          refine g_aload_n X dX10_readsNumber_29 0 rfl ?_
          refine gM_get X 0 rfl 11 (by decide) uw1190 rfl dX10_readsNumber_30 ?_
          refine g_callVI0 X (c_X10_wrongAt l D cI cB cJ h q (p0 := 2) (p1 := place0_10) (by omega) (by first | assumption | omega) (by first | assumption | omega) (by first | assumption | omega) (by first | assumption | omega)) cv_X10_wrongAt uw1409 ⟨rfl, rfl, by decide, by decide⟩ 0 rfl rfl rfl rfl rfl (Nat.le_of_ble_eq_true rfl) ⟨Nat.zero_le _, Nat.zero_le _⟩ dX10_readsNumber_33 (fun t33 ws33 k33 => ?_)
          obtain ⟨kb_33, ⟨fault_33, kr_fault_33, kp0_33, kp1_33, rfl⟩⟩ := k33
          have hq9 : place0_10 = v_place0 → hereZ place0_10 v_length0 v_tape = hereZ v_place0 v_length0 v_tape := fun h => by rw [h]
          exact hQ _ _ _ _ dX10_readsNumber_36 ⟨by omega, ⟨place0_10, fault_33, number0_10, (by omega), (by omega), (by omega), (by first | assumption | omega), (by first | assumption | omega), rfl⟩⟩
  refine g_lv [1, 0] rfl ?_
  exact L10 _ v_place0 0 (by omega) (by omega) (by first | assumption | omega) (Nat.lt_succ_self _)
set_option maxHeartbeats 4000000 in
set_option maxRecDepth 100000 in
theorem c_X10_waitTop (l : Launch) (D : va_G) (cI cB cJ : ClassId) (h : Nat) (q : Nat → Nat) {v_stalls v_claimMany v_taped v_place0 v_length0 v_fault v_number0 v_open v_codeMany v_waiting v_saidMany v_clauses v_newMany v_newStalls v_lines v_salesNow v_outNow v_isKept v_keptStalls : Int} {v_now v_aside v_kept v_oneOf v_otherOf v_signOf v_byOf v_tape v_said v_waitsAt v_saidLetter v_saidFrom v_saidHalf v_saidTo v_codes v_clauseOf v_codeFrom v_codeHalf v_codeTo v_stack v_facts v_newOne v_newOther v_newSign v_newBy v_moreOf v_firstOf v_toldOf v_mostOf v_mostThen v_sumTo v_rowFrom v_ordersOf v_lessOf v_weightOf v_rowNow v_slowRow v_fastRow v_lineNow v_firstLine v_freeBy v_heldBy v_heightOf v_upTo v_downTo v_oftenOf v_newUpper v_newLower : Nat → Int} (kr_v_waiting : 0 ≤ v_waiting ∧ v_waiting ≤ 260) (r_v_waitsAt : RA 0 16777215 v_waitsAt) : CtI l yX10_waitTop cX10_waitTop 1 (some .int) ⟨0, 0, 0, 0⟩ D (TY cI cB cJ) (wX10 cI cB cJ h q v_stalls v_claimMany v_taped v_place0 v_length0 v_fault v_number0 v_open v_codeMany v_waiting v_saidMany v_clauses v_newMany v_newStalls v_lines v_salesNow v_outNow v_isKept v_keptStalls v_now v_aside v_kept v_oneOf v_otherOf v_signOf v_byOf v_tape v_said v_waitsAt v_saidLetter v_saidFrom v_saidHalf v_saidTo v_codes v_clauseOf v_codeFrom v_codeHalf v_codeTo v_stack v_facts v_newOne v_newOther v_newSign v_newBy v_moreOf v_firstOf v_toldOf v_mostOf v_mostThen v_sumTo v_rowFrom v_ordersOf v_lessOf v_weightOf v_rowNow v_slowRow v_fastRow v_lineNow v_firstLine v_freeBy v_heldBy v_heightOf v_upTo v_downTo v_oftenOf v_newUpper v_newLower) [.ref h] (fun z ws' => (-1 ≤ z ∧ z ≤ 2147483647) ∧ ((v_waiting = 0 ∧ z = -1) ∨ (0 < v_waiting ∧ z = v_waitsAt (v_waiting - 1).toNat / 1048576)) ∧ (ws' = (wX10 cI cB cJ h q v_stalls v_claimMany v_taped v_place0 v_length0 v_fault v_number0 v_open v_codeMany v_waiting v_saidMany v_clauses v_newMany v_newStalls v_lines v_salesNow v_outNow v_isKept v_keptStalls v_now v_aside v_kept v_oneOf v_otherOf v_signOf v_byOf v_tape v_said v_waitsAt v_saidLetter v_saidFrom v_saidHalf v_saidTo v_codes v_clauseOf v_codeFrom v_codeHalf v_codeTo v_stack v_facts v_newOne v_newOther v_newSign v_newBy v_moreOf v_firstOf v_toldOf v_mostOf v_mostThen v_sumTo v_rowFrom v_ordersOf v_lessOf v_weightOf v_rowNow v_slowRow v_fastRow v_lineNow v_firstLine v_freeBy v_heldBy v_heightOf v_upTo v_downTo v_oftenOf v_newUpper v_newLower))) := by
  refine hdrI (own := RX10) rfl (by decide +kernel) (Nat.le_of_ble_eq_true rfl) ?_
  intro p e s m args below meth c Q A X hQ
  refine g_lvE (lv2 := [(0, .ref h)]) rfl ?_
  refine g_aload_n X dX10_waitTop_0 0 rfl ?_
  refine gM_get X 0 rfl 17 (by decide) uw1196 rfl dX10_waitTop_1 ?_
  refine g_if_ne X (tgt := 11) dX10_waitTop_4 (by decide) (by omega) (fun c4 => ?_) (fun c4 => ?_)
  · refine g_aload_n X dX10_waitTop_11 0 rfl ?_
    refine gM_get X 0 rfl 21 (by decide) uw1200 rfl dX10_waitTop_12 ?_
    refine g_aload_n X dX10_waitTop_15 0 rfl ?_
    refine gM_get X 0 rfl 17 (by decide) uw1196 rfl dX10_waitTop_16 ?_
    refine g_iconst X dX10_waitTop_19 ?_
    refine g_isub X dX10_waitTop_20 ?_
    refine g_iald X 10 0 rfl rfl (by omega) (by decide) dX10_waitTop_21 (fun t21 e21 => ?_)
    have r21 := r_v_waitsAt (v_waiting - 1 : Int).toNat; rw [← e21] at r21
    refine g_ldc X (z := 1048576) dX10_waitTop_22 uw1425 (by decide) ?_
    refine g_idiv X dX10_waitTop_24 (by omega) (by omega) ?_
    refine g_nm (fun t24 e24 => ?_)
    exact hQ _ _ _ _ dX10_waitTop_25 ⟨(by first | assumption | omega), (by first | assumption | omega), rfl⟩
  · refine g_iconst X dX10_waitTop_7 ?_
    refine g_goto X (tgt := 25) dX10_waitTop_8 (by decide) ?_
    exact hQ _ _ _ _ dX10_waitTop_25 ⟨(by first | assumption | omega), (by first | assumption | omega), rfl⟩
set_option maxHeartbeats 4000000 in
set_option maxRecDepth 100000 in
theorem c_X10_factOf (l : Launch) (D : va_G) (cI cB cJ : ClassId) {p0 : Int} (hp0 : IR p0) : CtI l yX10_factOf cX10_factOf 1 (some .int) ⟨0, 0, 0, 0⟩ D (TY cI cB cJ) [] [vI p0] (fun z ws' => (z = -1 ∨ (0 ≤ z ∧ z ≤ 8 ∧ 97 ≤ p0)) ∧ (ws' = [])) := by
  refine hdrI (own := RX10) rfl (by decide +kernel) (Nat.le_of_ble_eq_true rfl) ?_
  intro p e s m args below meth c Q A X hQ
  refine g_lvE (lv2 := [(0, vI p0)]) rfl ?_
  refine g_iload_n X dX10_factOf_0 0 rfl ?_
  refine g_nm (fun sw1 es1 => ?_)
  rcases (show sw1 = 103 ∨ sw1 = 104 ∨ sw1 = 105 ∨ sw1 = 106 ∨ sw1 = 107 ∨ sw1 = 108 ∨ sw1 = 109 ∨ sw1 = 110 ∨ sw1 = 111 ∨ sw1 = 112 ∨ sw1 = 113 ∨ sw1 = 114 ∨ sw1 = 115 ∨ sw1 = 116 ∨ sw1 = 117 ∨ sw1 = 118 ∨ sw1 = 119 ∨ (sw1 < 103 ∨ 119 < sw1) by omega) with hs1 | hs1 | hs1 | hs1 | hs1 | hs1 | hs1 | hs1 | hs1 | hs1 | hs1 | hs1 | hs1 | hs1 | hs1 | hs1 | hs1 | hs1
  · rw [hs1]
    refine g_tab X (off := 89) (tgt := 90) dX10_factOf_1 (by omega) (by omega) rfl (by decide) ?_
    refine g_iconst X dX10_factOf_90 ?_
    exact hQ _ _ _ _ dX10_factOf_91 ⟨(by first | assumption | omega), rfl⟩
  · rw [hs1]
    refine g_tab X (off := 104) (tgt := 105) dX10_factOf_1 (by omega) (by omega) rfl (by decide) ?_
    refine g_iconst X dX10_factOf_105 ?_
    exact hQ _ _ _ _ dX10_factOf_106 ⟨(by first | assumption | omega), rfl⟩
  · rw [hs1]
    refine g_tab X (off := 104) (tgt := 105) dX10_factOf_1 (by omega) (by omega) rfl (by decide) ?_
    refine g_iconst X dX10_factOf_105 ?_
    exact hQ _ _ _ _ dX10_factOf_106 ⟨(by first | assumption | omega), rfl⟩
  · rw [hs1]
    refine g_tab X (off := 104) (tgt := 105) dX10_factOf_1 (by omega) (by omega) rfl (by decide) ?_
    refine g_iconst X dX10_factOf_105 ?_
    exact hQ _ _ _ _ dX10_factOf_106 ⟨(by first | assumption | omega), rfl⟩
  · rw [hs1]
    refine g_tab X (off := 83) (tgt := 84) dX10_factOf_1 (by omega) (by omega) rfl (by decide) ?_
    refine g_iconst X dX10_factOf_84 ?_
    exact hQ _ _ _ _ dX10_factOf_85 ⟨(by first | assumption | omega), rfl⟩
  · rw [hs1]
    refine g_tab X (off := 87) (tgt := 88) dX10_factOf_1 (by omega) (by omega) rfl (by decide) ?_
    refine g_iconst X dX10_factOf_88 ?_
    exact hQ _ _ _ _ dX10_factOf_89 ⟨(by first | assumption | omega), rfl⟩
  · rw [hs1]
    refine g_tab X (off := 91) (tgt := 92) dX10_factOf_1 (by omega) (by omega) rfl (by decide) ?_
    refine g_iconst X dX10_factOf_92 ?_
    exact hQ _ _ _ _ dX10_factOf_93 ⟨(by first | assumption | omega), rfl⟩
  · rw [hs1]
    refine g_tab X (off := 93) (tgt := 94) dX10_factOf_1 (by omega) (by omega) rfl (by decide) ?_
    refine g_iconst X dX10_factOf_94 ?_
    exact hQ _ _ _ _ dX10_factOf_95 ⟨(by first | assumption | omega), rfl⟩
  · rw [hs1]
    refine g_tab X (off := 95) (tgt := 96) dX10_factOf_1 (by omega) (by omega) rfl (by decide) ?_
    refine g_bipush X (z := 6) dX10_factOf_96 (by decide) ?_
    exact hQ _ _ _ _ dX10_factOf_98 ⟨(by first | assumption | omega), rfl⟩
  · rw [hs1]
    refine g_tab X (off := 104) (tgt := 105) dX10_factOf_1 (by omega) (by omega) rfl (by decide) ?_
    refine g_iconst X dX10_factOf_105 ?_
    exact hQ _ _ _ _ dX10_factOf_106 ⟨(by first | assumption | omega), rfl⟩
  · rw [hs1]
    refine g_tab X (off := 104) (tgt := 105) dX10_factOf_1 (by omega) (by omega) rfl (by decide) ?_
    refine g_iconst X dX10_factOf_105 ?_
    exact hQ _ _ _ _ dX10_factOf_106 ⟨(by first | assumption | omega), rfl⟩
  · rw [hs1]
    refine g_tab X (off := 104) (tgt := 105) dX10_factOf_1 (by omega) (by omega) rfl (by decide) ?_
    refine g_iconst X dX10_factOf_105 ?_
    exact hQ _ _ _ _ dX10_factOf_106 ⟨(by first | assumption | omega), rfl⟩
  · rw [hs1]
    refine g_tab X (off := 104) (tgt := 105) dX10_factOf_1 (by omega) (by omega) rfl (by decide) ?_
    refine g_iconst X dX10_factOf_105 ?_
    exact hQ _ _ _ _ dX10_factOf_106 ⟨(by first | assumption | omega), rfl⟩
  · rw [hs1]
    refine g_tab X (off := 98) (tgt := 99) dX10_factOf_1 (by omega) (by omega) rfl (by decide) ?_
    refine g_bipush X (z := 7) dX10_factOf_99 (by decide) ?_
    exact hQ _ _ _ _ dX10_factOf_101 ⟨(by first | assumption | omega), rfl⟩
  · rw [hs1]
    refine g_tab X (off := 85) (tgt := 86) dX10_factOf_1 (by omega) (by omega) rfl (by decide) ?_
    refine g_iconst X dX10_factOf_86 ?_
    exact hQ _ _ _ _ dX10_factOf_87 ⟨(by first | assumption | omega), rfl⟩
  · rw [hs1]
    refine g_tab X (off := 104) (tgt := 105) dX10_factOf_1 (by omega) (by omega) rfl (by decide) ?_
    refine g_iconst X dX10_factOf_105 ?_
    exact hQ _ _ _ _ dX10_factOf_106 ⟨(by first | assumption | omega), rfl⟩
  · rw [hs1]
    refine g_tab X (off := 101) (tgt := 102) dX10_factOf_1 (by omega) (by omega) rfl (by decide) ?_
    refine g_bipush X (z := 8) dX10_factOf_102 (by decide) ?_
    exact hQ _ _ _ _ dX10_factOf_104 ⟨(by first | assumption | omega), rfl⟩
  · refine g_tabD X (tgt := 105) dX10_factOf_1 (by omega) hs1 (by decide) ?_
    refine g_iconst X dX10_factOf_105 ?_
    exact hQ _ _ _ _ dX10_factOf_106 ⟨(by first | assumption | omega), rfl⟩
set_option maxHeartbeats 4000000 in
set_option maxRecDepth 100000 in
theorem c_X10_sumSign (l : Launch) (D : va_G) (cI cB cJ : ClassId) {p0 : Int} (hp0 : IR p0) : CtI l yX10_sumSign cX10_sumSign 1 (some .int) ⟨0, 0, 0, 0⟩ D (TY cI cB cJ) [] [vI p0] (fun z ws' => (z = -1 ∨ (2 ≤ z ∧ z ≤ 6 ∧ 37 ≤ p0 ∧ p0 ≤ 47)) ∧ (ws' = [])) := by
  refine hdrI (own := RX10) rfl (by decide +kernel) (Nat.le_of_ble_eq_true rfl) ?_
  intro p e s m args below meth c Q A X hQ
  refine g_lvE (lv2 := [(0, vI p0)]) rfl ?_
  refine g_iload_n X dX10_sumSign_0 0 rfl ?_
  refine g_bipush X (z := 43) dX10_sumSign_1 (by decide) ?_
  refine g_icmp_ne X (tgt := 10) dX10_sumSign_3 (by decide) (by omega) (by omega) (fun c3 => ?_) (fun c3 => ?_)
  · refine g_iload_n X dX10_sumSign_10 0 rfl ?_
    refine g_bipush X (z := 45) dX10_sumSign_11 (by decide) ?_
    refine g_icmp_ne X (tgt := 20) dX10_sumSign_13 (by decide) (by omega) (by omega) (fun c13 => ?_) (fun c13 => ?_)
    · refine g_iload_n X dX10_sumSign_20 0 rfl ?_
      refine g_bipush X (z := 42) dX10_sumSign_21 (by decide) ?_
      refine g_icmp_ne X (tgt := 30) dX10_sumSign_23 (by decide) (by omega) (by omega) (fun c23 => ?_) (fun c23 => ?_)
      · refine g_iload_n X dX10_sumSign_30 0 rfl ?_
        refine g_bipush X (z := 47) dX10_sumSign_31 (by decide) ?_
        refine g_icmp_ne X (tgt := 40) dX10_sumSign_33 (by decide) (by omega) (by omega) (fun c33 => ?_) (fun c33 => ?_)
        · refine g_iload_n X dX10_sumSign_40 0 rfl ?_
          refine g_bipush X (z := 37) dX10_sumSign_41 (by decide) ?_
          refine g_icmp_ne X (tgt := 51) dX10_sumSign_43 (by decide) (by omega) (by omega) (fun c43 => ?_) (fun c43 => ?_)
          · refine g_iconst X dX10_sumSign_51 ?_
            exact hQ _ _ _ _ dX10_sumSign_52 ⟨(by first | assumption | omega), rfl⟩
          · refine g_bipush X (z := 6) dX10_sumSign_46 (by decide) ?_
            refine g_goto X (tgt := 52) dX10_sumSign_48 (by decide) ?_
            exact hQ _ _ _ _ dX10_sumSign_52 ⟨(by first | assumption | omega), rfl⟩
        · refine g_iconst X dX10_sumSign_36 ?_
          refine g_goto X (tgt := 52) dX10_sumSign_37 (by decide) ?_
          exact hQ _ _ _ _ dX10_sumSign_52 ⟨(by first | assumption | omega), rfl⟩
      · refine g_iconst X dX10_sumSign_26 ?_
        refine g_goto X (tgt := 52) dX10_sumSign_27 (by decide) ?_
        exact hQ _ _ _ _ dX10_sumSign_52 ⟨(by first | assumption | omega), rfl⟩
    · refine g_iconst X dX10_sumSign_16 ?_
      refine g_goto X (tgt := 52) dX10_sumSign_17 (by decide) ?_
      exact hQ _ _ _ _ dX10_sumSign_52 ⟨(by first | assumption | omega), rfl⟩
  · refine g_iconst X dX10_sumSign_6 ?_
    refine g_goto X (tgt := 52) dX10_sumSign_7 (by decide) ?_
    exact hQ _ _ _ _ dX10_sumSign_52 ⟨(by first | assumption | omega), rfl⟩
set_option maxHeartbeats 4000000 in
set_option maxRecDepth 100000 in
theorem c_X10_signBy (l : Launch) (D : va_G) (cI cB cJ : ClassId) {p0 : Int} (hp0 : IR p0) : CtI l yX10_signBy cX10_signBy 1 (some .int) ⟨0, 0, 0, 0⟩ D (TY cI cB cJ) [] [vI p0] (fun z ws' => ((p0 = 61 ∧ z = 0) ∨ (p0 = 60 ∧ z = 1) ∨ (p0 = 62 ∧ z = 2) ∨ (p0 ≠ 60 ∧ p0 ≠ 61 ∧ p0 ≠ 62 ∧ z = -1)) ∧ (ws' = [])) := by
  refine hdrI (own := RX10) rfl (by decide +kernel) (Nat.le_of_ble_eq_true rfl) ?_
  intro p e s m args below meth c Q A X hQ
  refine g_lvE (lv2 := [(0, vI p0)]) rfl ?_
  refine g_iload_n X dX10_signBy_0 0 rfl ?_
  refine g_bipush X (z := 61) dX10_signBy_1 (by decide) ?_
  refine g_icmp_ne X (tgt := 10) dX10_signBy_3 (by decide) (by omega) (by omega) (fun c3 => ?_) (fun c3 => ?_)
  · refine g_iload_n X dX10_signBy_10 0 rfl ?_
    refine g_bipush X (z := 60) dX10_signBy_11 (by decide) ?_
    refine g_icmp_ne X (tgt := 20) dX10_signBy_13 (by decide) (by omega) (by omega) (fun c13 => ?_) (fun c13 => ?_)
    · refine g_iload_n X dX10_signBy_20 0 rfl ?_
      refine g_bipush X (z := 62) dX10_signBy_21 (by decide) ?_
      refine g_icmp_ne X (tgt := 30) dX10_signBy_23 (by decide) (by omega) (by omega) (fun c23 => ?_) (fun c23 => ?_)
      · refine g_iconst X dX10_signBy_30 ?_
        exact hQ _ _ _ _ dX10_signBy_31 ⟨(by first | assumption | omega), rfl⟩
      · refine g_iconst X dX10_signBy_26 ?_
        refine g_goto X (tgt := 31) dX10_signBy_27 (by decide) ?_
        exact hQ _ _ _ _ dX10_signBy_31 ⟨(by first | assumption | omega), rfl⟩
    · refine g_iconst X dX10_signBy_16 ?_
      refine g_goto X (tgt := 31) dX10_signBy_17 (by decide) ?_
      exact hQ _ _ _ _ dX10_signBy_31 ⟨(by first | assumption | omega), rfl⟩
  · refine g_iconst X dX10_signBy_6 ?_
    refine g_goto X (tgt := 31) dX10_signBy_7 (by decide) ?_
    exact hQ _ _ _ _ dX10_signBy_31 ⟨(by first | assumption | omega), rfl⟩
set_option maxHeartbeats 4000000 in
set_option maxRecDepth 100000 in
theorem c_X10_beginsText (l : Launch) (D : va_G) (cI cB cJ : ClassId) (h : Nat) (q : Nat → Nat) {v_stalls v_claimMany v_taped v_place0 v_length0 v_fault v_number0 v_open v_codeMany v_waiting v_saidMany v_clauses v_newMany v_newStalls v_lines v_salesNow v_outNow v_isKept v_keptStalls : Int} {v_now v_aside v_kept v_oneOf v_otherOf v_signOf v_byOf v_tape v_said v_waitsAt v_saidLetter v_saidFrom v_saidHalf v_saidTo v_codes v_clauseOf v_codeFrom v_codeHalf v_codeTo v_stack v_facts v_newOne v_newOther v_newSign v_newBy v_moreOf v_firstOf v_toldOf v_mostOf v_mostThen v_sumTo v_rowFrom v_ordersOf v_lessOf v_weightOf v_rowNow v_slowRow v_fastRow v_lineNow v_firstLine v_freeBy v_heldBy v_heightOf v_upTo v_downTo v_oftenOf v_newUpper v_newLower : Nat → Int} {p0 : Int} (kr_v_place0 : 0 ≤ v_place0 ∧ v_place0 ≤ 260) (kr_v_length0 : 0 ≤ v_length0 ∧ v_length0 ≤ 260) (kr_v_codeMany : 0 ≤ v_codeMany ∧ v_codeMany ≤ 260) (kr_v_saidMany : 0 ≤ v_saidMany ∧ v_saidMany ≤ 16) (hp0 : IR p0) (hp1 : 0 ≤ p0 ∧ p0 ≤ 260) : CtV l yX10_beginsText cX10_beginsText 2 none ⟨0, 0, 0, 0⟩ D (TY cI cB cJ) (wX10 cI cB cJ h q v_stalls v_claimMany v_taped v_place0 v_length0 v_fault v_number0 v_open v_codeMany v_waiting v_saidMany v_clauses v_newMany v_newStalls v_lines v_salesNow v_outNow v_isKept v_keptStalls v_now v_aside v_kept v_oneOf v_otherOf v_signOf v_byOf v_tape v_said v_waitsAt v_saidLetter v_saidFrom v_saidHalf v_saidTo v_codes v_clauseOf v_codeFrom v_codeHalf v_codeTo v_stack v_facts v_newOne v_newOther v_newSign v_newBy v_moreOf v_firstOf v_toldOf v_mostOf v_mostThen v_sumTo v_rowFrom v_ordersOf v_lessOf v_weightOf v_rowNow v_slowRow v_fastRow v_lineNow v_firstLine v_freeBy v_heldBy v_heightOf v_upTo v_downTo v_oftenOf v_newUpper v_newLower) [.ref h, vI p0] (fun ws' => ∃ n_place0 : Int, ∃ n_length0 : Int, ∃ n_codeMany : Int, ∃ n_saidMany : Int, (0 ≤ n_place0 ∧ n_place0 ≤ 260) ∧ (0 ≤ n_length0 ∧ n_length0 ≤ 260) ∧ (0 ≤ n_codeMany ∧ n_codeMany ≤ 260) ∧ (0 ≤ n_saidMany ∧ n_saidMany ≤ 16) ∧ (n_place0 = 0) ∧ (n_length0 = p0) ∧ (n_codeMany = 0) ∧ (n_saidMany = 0) ∧ (ws' = (wX10 cI cB cJ h q v_stalls v_claimMany v_taped n_place0 n_length0 v_fault v_number0 v_open n_codeMany v_waiting n_saidMany v_clauses v_newMany v_newStalls v_lines v_salesNow v_outNow v_isKept v_keptStalls v_now v_aside v_kept v_oneOf v_otherOf v_signOf v_byOf v_tape v_said v_waitsAt v_saidLetter v_saidFrom v_saidHalf v_saidTo v_codes v_clauseOf v_codeFrom v_codeHalf v_codeTo v_stack v_facts v_newOne v_newOther v_newSign v_newBy v_moreOf v_firstOf v_toldOf v_mostOf v_mostThen v_sumTo v_rowFrom v_ordersOf v_lessOf v_weightOf v_rowNow v_slowRow v_fastRow v_lineNow v_firstLine v_freeBy v_heldBy v_heightOf v_upTo v_downTo v_oftenOf v_newUpper v_newLower))) := by
  refine hdrV (own := RX10) rfl (by decide +kernel) (Nat.le_of_ble_eq_true rfl) ?_
  intro p e s m args below meth c Q A X hQ
  refine g_lvE (lv2 := [(0, .ref h), (1, vI p0)]) rfl ?_
  refine g_aload_n X dX10_beginsText_0 0 rfl ?_
  refine g_iconst X dX10_beginsText_1 ?_
  refine gM_put X 0 rfl 11 (by decide) uw1190 rfl rfl rfl (Nat.le_of_ble_eq_true rfl) dX10_beginsText_2 (ws2 := (wX10 cI cB cJ h q v_stalls v_claimMany v_taped 0 v_length0 v_fault v_number0 v_open v_codeMany v_waiting v_saidMany v_clauses v_newMany v_newStalls v_lines v_salesNow v_outNow v_isKept v_keptStalls v_now v_aside v_kept v_oneOf v_otherOf v_signOf v_byOf v_tape v_said v_waitsAt v_saidLetter v_saidFrom v_saidHalf v_saidTo v_codes v_clauseOf v_codeFrom v_codeHalf v_codeTo v_stack v_facts v_newOne v_newOther v_newSign v_newBy v_moreOf v_firstOf v_toldOf v_mostOf v_mostThen v_sumTo v_rowFrom v_ordersOf v_lessOf v_weightOf v_rowNow v_slowRow v_fastRow v_lineNow v_firstLine v_freeBy v_heldBy v_heightOf v_upTo v_downTo v_oftenOf v_newUpper v_newLower)) rfl ?_
  refine g_aload_n X dX10_beginsText_5 0 rfl ?_
  refine g_iload_n X dX10_beginsText_6 1 rfl ?_
  refine gM_put X 0 rfl 12 (by decide) uw1191 rfl rfl rfl (Nat.le_of_ble_eq_true rfl) dX10_beginsText_7 (ws2 := (wX10 cI cB cJ h q v_stalls v_claimMany v_taped 0 p0 v_fault v_number0 v_open v_codeMany v_waiting v_saidMany v_clauses v_newMany v_newStalls v_lines v_salesNow v_outNow v_isKept v_keptStalls v_now v_aside v_kept v_oneOf v_otherOf v_signOf v_byOf v_tape v_said v_waitsAt v_saidLetter v_saidFrom v_saidHalf v_saidTo v_codes v_clauseOf v_codeFrom v_codeHalf v_codeTo v_stack v_facts v_newOne v_newOther v_newSign v_newBy v_moreOf v_firstOf v_toldOf v_mostOf v_mostThen v_sumTo v_rowFrom v_ordersOf v_lessOf v_weightOf v_rowNow v_slowRow v_fastRow v_lineNow v_firstLine v_freeBy v_heldBy v_heightOf v_upTo v_downTo v_oftenOf v_newUpper v_newLower)) rfl ?_
  refine g_aload_n X dX10_beginsText_10 0 rfl ?_
  refine g_iconst X dX10_beginsText_11 ?_
  refine gM_put X 0 rfl 16 (by decide) uw1195 rfl rfl rfl (Nat.le_of_ble_eq_true rfl) dX10_beginsText_12 (ws2 := (wX10 cI cB cJ h q v_stalls v_claimMany v_taped 0 p0 v_fault v_number0 v_open 0 v_waiting v_saidMany v_clauses v_newMany v_newStalls v_lines v_salesNow v_outNow v_isKept v_keptStalls v_now v_aside v_kept v_oneOf v_otherOf v_signOf v_byOf v_tape v_said v_waitsAt v_saidLetter v_saidFrom v_saidHalf v_saidTo v_codes v_clauseOf v_codeFrom v_codeHalf v_codeTo v_stack v_facts v_newOne v_newOther v_newSign v_newBy v_moreOf v_firstOf v_toldOf v_mostOf v_mostThen v_sumTo v_rowFrom v_ordersOf v_lessOf v_weightOf v_rowNow v_slowRow v_fastRow v_lineNow v_firstLine v_freeBy v_heldBy v_heightOf v_upTo v_downTo v_oftenOf v_newUpper v_newLower)) rfl ?_
  refine g_aload_n X dX10_beginsText_15 0 rfl ?_
  refine g_iconst X dX10_beginsText_16 ?_
  refine gM_put X 0 rfl 18 (by decide) uw1197 rfl rfl rfl (Nat.le_of_ble_eq_true rfl) dX10_beginsText_17 (ws2 := (wX10 cI cB cJ h q v_stalls v_claimMany v_taped 0 p0 v_fault v_number0 v_open 0 v_waiting 0 v_clauses v_newMany v_newStalls v_lines v_salesNow v_outNow v_isKept v_keptStalls v_now v_aside v_kept v_oneOf v_otherOf v_signOf v_byOf v_tape v_said v_waitsAt v_saidLetter v_saidFrom v_saidHalf v_saidTo v_codes v_clauseOf v_codeFrom v_codeHalf v_codeTo v_stack v_facts v_newOne v_newOther v_newSign v_newBy v_moreOf v_firstOf v_toldOf v_mostOf v_mostThen v_sumTo v_rowFrom v_ordersOf v_lessOf v_weightOf v_rowNow v_slowRow v_fastRow v_lineNow v_firstLine v_freeBy v_heldBy v_heightOf v_upTo v_downTo v_oftenOf v_newUpper v_newLower)) rfl ?_
  exact hQ _ _ _ dX10_beginsText_20 ⟨0, p0, 0, 0, (by omega), (by omega), (by omega), (by omega), (by first | assumption | omega), (by first | assumption | omega), (by first | assumption | omega), (by first | assumption | omega), rfl⟩
set_option maxHeartbeats 4000000 in
set_option maxRecDepth 100000 in
theorem c_X10_most (l : Launch) (D : va_G) (cI cB cJ : ClassId) (h : Nat) (q : Nat → Nat) {v_stalls v_claimMany v_taped v_place0 v_length0 v_fault v_number0 v_open v_codeMany v_waiting v_saidMany v_clauses v_newMany v_newStalls v_lines v_salesNow v_outNow v_isKept v_keptStalls : Int} {v_now v_aside v_kept v_oneOf v_otherOf v_signOf v_byOf v_tape v_said v_waitsAt v_saidLetter v_saidFrom v_saidHalf v_saidTo v_codes v_clauseOf v_codeFrom v_codeHalf v_codeTo v_stack v_facts v_newOne v_newOther v_newSign v_newBy v_moreOf v_firstOf v_toldOf v_mostOf v_mostThen v_sumTo v_rowFrom v_ordersOf v_lessOf v_weightOf v_rowNow v_slowRow v_fastRow v_lineNow v_firstLine v_freeBy v_heldBy v_heightOf v_upTo v_downTo v_oftenOf v_newUpper v_newLower : Nat → Int} {p0 p1 : Int} (r_v_mostOf : RA (-1000000) 1000000 v_mostOf) (hp0 : IR p0) (hp1 : IR p1) (hp2 : 0 ≤ p0 ∧ p0 ≤ 11) (hp3 : 0 ≤ p1 ∧ p1 ≤ 11) : CtI l yX10_most cX10_most 3 (some .int) ⟨0, 0, 0, 0⟩ D (TY cI cB cJ) (wX10 cI cB cJ h q v_stalls v_claimMany v_taped v_place0 v_length0 v_fault v_number0 v_open v_codeMany v_waiting v_saidMany v_clauses v_newMany v_newStalls v_lines v_salesNow v_outNow v_isKept v_keptStalls v_now v_aside v_kept v_oneOf v_otherOf v_signOf v_byOf v_tape v_said v_waitsAt v_saidLetter v_saidFrom v_saidHalf v_saidTo v_codes v_clauseOf v_codeFrom v_codeHalf v_codeTo v_stack v_facts v_newOne v_newOther v_newSign v_newBy v_moreOf v_firstOf v_toldOf v_mostOf v_mostThen v_sumTo v_rowFrom v_ordersOf v_lessOf v_weightOf v_rowNow v_slowRow v_fastRow v_lineNow v_firstLine v_freeBy v_heldBy v_heightOf v_upTo v_downTo v_oftenOf v_newUpper v_newLower) [.ref h, vI p0, vI p1] (fun z ws' => (-1000000 ≤ z ∧ z ≤ 1000000) ∧ (z = v_mostOf (12 * p0.toNat + p1.toNat)) ∧ (ws' = (wX10 cI cB cJ h q v_stalls v_claimMany v_taped v_place0 v_length0 v_fault v_number0 v_open v_codeMany v_waiting v_saidMany v_clauses v_newMany v_newStalls v_lines v_salesNow v_outNow v_isKept v_keptStalls v_now v_aside v_kept v_oneOf v_otherOf v_signOf v_byOf v_tape v_said v_waitsAt v_saidLetter v_saidFrom v_saidHalf v_saidTo v_codes v_clauseOf v_codeFrom v_codeHalf v_codeTo v_stack v_facts v_newOne v_newOther v_newSign v_newBy v_moreOf v_firstOf v_toldOf v_mostOf v_mostThen v_sumTo v_rowFrom v_ordersOf v_lessOf v_weightOf v_rowNow v_slowRow v_fastRow v_lineNow v_firstLine v_freeBy v_heldBy v_heightOf v_upTo v_downTo v_oftenOf v_newUpper v_newLower))) := by
  refine hdrI (own := RX10) rfl (by decide +kernel) (Nat.le_of_ble_eq_true rfl) ?_
  intro p e s m args below meth c Q A X hQ
  refine g_lvE (lv2 := [(0, .ref h), (1, vI p0), (2, vI p1)]) rfl ?_
  refine g_aload_n X dX10_most_0 0 rfl ?_
  refine gM_get X 0 rfl 41 (by decide) uw1220 rfl dX10_most_1 ?_
  refine g_bipush X (z := 12) dX10_most_4 (by decide) ?_
  refine g_iload_n X dX10_most_6 1 rfl ?_
  refine g_imul X dX10_most_7 ?_
  refine g_iload_n X dX10_most_8 2 rfl ?_
  refine g_iadd X dX10_most_9 ?_
  refine g_iald X 29 0 rfl rfl (by omega) (by decide) dX10_most_10 (fun t10 e10 => ?_)
  have r10 := r_v_mostOf ((12 * p0) + p1 : Int).toNat; rw [← e10] at r10
  have hq : t10 = v_mostOf (12 * p0.toNat + p1.toNat) := by rw [e10]; congr 1; omega
  exact hQ _ _ _ _ dX10_most_11 ⟨(by first | assumption | omega), (by first | assumption | omega), rfl⟩
set_option maxHeartbeats 4000000 in
set_option maxRecDepth 100000 in
theorem c_X10_told (l : Launch) (D : va_G) (cI cB cJ : ClassId) (h : Nat) (q : Nat → Nat) {v_stalls v_claimMany v_taped v_place0 v_length0 v_fault v_number0 v_open v_codeMany v_waiting v_saidMany v_clauses v_newMany v_newStalls v_lines v_salesNow v_outNow v_isKept v_keptStalls : Int} {v_now v_aside v_kept v_oneOf v_otherOf v_signOf v_byOf v_tape v_said v_waitsAt v_saidLetter v_saidFrom v_saidHalf v_saidTo v_codes v_clauseOf v_codeFrom v_codeHalf v_codeTo v_stack v_facts v_newOne v_newOther v_newSign v_newBy v_moreOf v_firstOf v_toldOf v_mostOf v_mostThen v_sumTo v_rowFrom v_ordersOf v_lessOf v_weightOf v_rowNow v_slowRow v_fastRow v_lineNow v_firstLine v_freeBy v_heldBy v_heightOf v_upTo v_downTo v_oftenOf v_newUpper v_newLower : Nat → Int} {p0 p1 : Int} (r_v_toldOf : RA (-9999) 1000000 v_toldOf) (hp0 : IR p0) (hp1 : IR p1) (hp2 : 0 ≤ p0 ∧ p0 ≤ 11) (hp3 : 0 ≤ p1 ∧ p1 ≤ 11) : CtI l yX10_told cX10_told 3 (some .int) ⟨0, 0, 0, 0⟩ D (TY cI cB cJ) (wX10 cI cB cJ h q v_stalls v_claimMany v_taped v_place0 v_length0 v_fault v_number0 v_open v_codeMany v_waiting v_saidMany v_clauses v_newMany v_newStalls v_lines v_salesNow v_outNow v_isKept v_keptStalls v_now v_aside v_kept v_oneOf v_otherOf v_signOf v_byOf v_tape v_said v_waitsAt v_saidLetter v_saidFrom v_saidHalf v_saidTo v_codes v_clauseOf v_codeFrom v_codeHalf v_codeTo v_stack v_facts v_newOne v_newOther v_newSign v_newBy v_moreOf v_firstOf v_toldOf v_mostOf v_mostThen v_sumTo v_rowFrom v_ordersOf v_lessOf v_weightOf v_rowNow v_slowRow v_fastRow v_lineNow v_firstLine v_freeBy v_heldBy v_heightOf v_upTo v_downTo v_oftenOf v_newUpper v_newLower) [.ref h, vI p0, vI p1] (fun z ws' => (-9999 ≤ z ∧ z ≤ 1000000) ∧ (z = v_toldOf (12 * p0.toNat + p1.toNat)) ∧ (ws' = (wX10 cI cB cJ h q v_stalls v_claimMany v_taped v_place0 v_length0 v_fault v_number0 v_open v_codeMany v_waiting v_saidMany v_clauses v_newMany v_newStalls v_lines v_salesNow v_outNow v_isKept v_keptStalls v_now v_aside v_kept v_oneOf v_otherOf v_signOf v_byOf v_tape v_said v_waitsAt v_saidLetter v_saidFrom v_saidHalf v_saidTo v_codes v_clauseOf v_codeFrom v_codeHalf v_codeTo v_stack v_facts v_newOne v_newOther v_newSign v_newBy v_moreOf v_firstOf v_toldOf v_mostOf v_mostThen v_sumTo v_rowFrom v_ordersOf v_lessOf v_weightOf v_rowNow v_slowRow v_fastRow v_lineNow v_firstLine v_freeBy v_heldBy v_heightOf v_upTo v_downTo v_oftenOf v_newUpper v_newLower))) := by
  refine hdrI (own := RX10) rfl (by decide +kernel) (Nat.le_of_ble_eq_true rfl) ?_
  intro p e s m args below meth c Q A X hQ
  refine g_lvE (lv2 := [(0, .ref h), (1, vI p0), (2, vI p1)]) rfl ?_
  refine g_aload_n X dX10_told_0 0 rfl ?_
  refine gM_get X 0 rfl 40 (by decide) uw1219 rfl dX10_told_1 ?_
  refine g_bipush X (z := 12) dX10_told_4 (by decide) ?_
  refine g_iload_n X dX10_told_6 1 rfl ?_
  refine g_imul X dX10_told_7 ?_
  refine g_iload_n X dX10_told_8 2 rfl ?_
  refine g_iadd X dX10_told_9 ?_
  refine g_iald X 28 0 rfl rfl (by omega) (by decide) dX10_told_10 (fun t10 e10 => ?_)
  have r10 := r_v_toldOf ((12 * p0) + p1 : Int).toNat; rw [← e10] at r10
  have hq : t10 = v_toldOf (12 * p0.toNat + p1.toNat) := by rw [e10]; congr 1; omega
  exact hQ _ _ _ _ dX10_told_11 ⟨(by first | assumption | omega), (by first | assumption | omega), rfl⟩
set_option maxHeartbeats 4000000 in
set_option maxRecDepth 100000 in
theorem c_X10_tells (l : Launch) (D : va_G) (cI cB cJ : ClassId) (h : Nat) (q : Nat → Nat) {v_stalls v_claimMany v_taped v_place0 v_length0 v_fault v_number0 v_open v_codeMany v_waiting v_saidMany v_clauses v_newMany v_newStalls v_lines v_salesNow v_outNow v_isKept v_keptStalls : Int} {v_now v_aside v_kept v_oneOf v_otherOf v_signOf v_byOf v_tape v_said v_waitsAt v_saidLetter v_saidFrom v_saidHalf v_saidTo v_codes v_clauseOf v_codeFrom v_codeHalf v_codeTo v_stack v_facts v_newOne v_newOther v_newSign v_newBy v_moreOf v_firstOf v_toldOf v_mostOf v_mostThen v_sumTo v_rowFrom v_ordersOf v_lessOf v_weightOf v_rowNow v_slowRow v_fastRow v_lineNow v_firstLine v_freeBy v_heldBy v_heightOf v_upTo v_downTo v_oftenOf v_newUpper v_newLower : Nat → Int} {p0 p1 p2 : Int} (r_v_toldOf : RA (-9999) 1000000 v_toldOf) (hp0 : IR p0) (hp1 : IR p1) (hp2 : IR p2) (hp3 : 0 ≤ p0 ∧ p0 ≤ 11) (hp4 : 0 ≤ p1 ∧ p1 ≤ 11) (hp5 : -9999 ≤ p2 ∧ p2 ≤ 9999) : CtV l yX10_tells cX10_tells 4 none ⟨1, 0, 0, 21⟩ D (TY cI cB cJ) (wX10 cI cB cJ h q v_stalls v_claimMany v_taped v_place0 v_length0 v_fault v_number0 v_open v_codeMany v_waiting v_saidMany v_clauses v_newMany v_newStalls v_lines v_salesNow v_outNow v_isKept v_keptStalls v_now v_aside v_kept v_oneOf v_otherOf v_signOf v_byOf v_tape v_said v_waitsAt v_saidLetter v_saidFrom v_saidHalf v_saidTo v_codes v_clauseOf v_codeFrom v_codeHalf v_codeTo v_stack v_facts v_newOne v_newOther v_newSign v_newBy v_moreOf v_firstOf v_toldOf v_mostOf v_mostThen v_sumTo v_rowFrom v_ordersOf v_lessOf v_weightOf v_rowNow v_slowRow v_fastRow v_lineNow v_firstLine v_freeBy v_heldBy v_heightOf v_upTo v_downTo v_oftenOf v_newUpper v_newLower) [.ref h, vI p0, vI p1, vI p2] (fun ws' => ∃ n_toldOf : Nat → Int, (RA (-9999) 1000000 n_toldOf) ∧ (n_toldOf = tlU v_toldOf (12 * p0.toNat + p1.toNat) p2) ∧ (ws' = (wX10 cI cB cJ h q v_stalls v_claimMany v_taped v_place0 v_length0 v_fault v_number0 v_open v_codeMany v_waiting v_saidMany v_clauses v_newMany v_newStalls v_lines v_salesNow v_outNow v_isKept v_keptStalls v_now v_aside v_kept v_oneOf v_otherOf v_signOf v_byOf v_tape v_said v_waitsAt v_saidLetter v_saidFrom v_saidHalf v_saidTo v_codes v_clauseOf v_codeFrom v_codeHalf v_codeTo v_stack v_facts v_newOne v_newOther v_newSign v_newBy v_moreOf v_firstOf n_toldOf v_mostOf v_mostThen v_sumTo v_rowFrom v_ordersOf v_lessOf v_weightOf v_rowNow v_slowRow v_fastRow v_lineNow v_firstLine v_freeBy v_heldBy v_heightOf v_upTo v_downTo v_oftenOf v_newUpper v_newLower))) := by
  refine hdrV (own := RX10) rfl (by decide +kernel) (Nat.le_of_ble_eq_true rfl) ?_
  intro p e s m args below meth c Q A X hQ
  refine g_lvE (lv2 := [(0, .ref h), (1, vI p0), (2, vI p1), (3, vI p2)]) rfl ?_
  refine g_aload_n X dX10_tells_0 0 rfl ?_
  refine gM_get X 0 rfl 40 (by decide) uw1219 rfl dX10_tells_1 ?_
  refine g_bipush X (z := 12) dX10_tells_4 (by decide) ?_
  refine g_iload_n X dX10_tells_6 1 rfl ?_
  refine g_imul X dX10_tells_7 ?_
  refine g_iload_n X dX10_tells_8 2 rfl ?_
  refine g_iadd X dX10_tells_9 ?_
  refine g_aload_n X dX10_tells_10 0 rfl ?_
  refine gM_get X 0 rfl 40 (by decide) uw1219 rfl dX10_tells_11 ?_
  refine g_bipush X (z := 12) dX10_tells_14 (by decide) ?_
  refine g_iload_n X dX10_tells_16 1 rfl ?_
  refine g_imul X dX10_tells_17 ?_
  refine g_iload_n X dX10_tells_18 2 rfl ?_
  refine g_iadd X dX10_tells_19 ?_
  refine g_iald X 28 0 rfl rfl (by omega) (by decide) dX10_tells_20 (fun t20 e20 => ?_)
  have r20 := r_v_toldOf ((12 * p0) + p1 : Int).toNat; rw [← e20] at r20
  refine g_iload_n X dX10_tells_21 3 rfl ?_
  refine g_callSIE X (c_X10_min l D cI cB cJ (p0 := t20) (p1 := p2) (by first | assumption | omega) (by first | assumption | omega)) cv_X10_min uw1551 ⟨rfl, rfl, by decide, by decide⟩ rfl rfl (Nat.le_of_ble_eq_true rfl) ⟨Nat.zero_le _, Nat.zero_le _⟩ dX10_tells_22 (fun t22 ws22 k22 => ?_)
  obtain ⟨kp0_22, rfl⟩ := k22
  refine g_iast X 28 0 rfl rfl (by omega) (by decide) dX10_tells_25 (fun toldOf_25 e25 => ?_)
  have r_toldOf_25 : RA (-9999) 1000000 toldOf_25 := by rw [e25]; exact RA_up r_v_toldOf (by omega)
  refine g_ws (ws2 := (wX10 cI cB cJ h q v_stalls v_claimMany v_taped v_place0 v_length0 v_fault v_number0 v_open v_codeMany v_waiting v_saidMany v_clauses v_newMany v_newStalls v_lines v_salesNow v_outNow v_isKept v_keptStalls v_now v_aside v_kept v_oneOf v_otherOf v_signOf v_byOf v_tape v_said v_waitsAt v_saidLetter v_saidFrom v_saidHalf v_saidTo v_codes v_clauseOf v_codeFrom v_codeHalf v_codeTo v_stack v_facts v_newOne v_newOther v_newSign v_newBy v_moreOf v_firstOf toldOf_25 v_mostOf v_mostThen v_sumTo v_rowFrom v_ordersOf v_lessOf v_weightOf v_rowNow v_slowRow v_fastRow v_lineNow v_firstLine v_freeBy v_heldBy v_heightOf v_upTo v_downTo v_oftenOf v_newUpper v_newLower)) rfl ?_
  exact hQ _ _ _ dX10_tells_26 ⟨toldOf_25, r_toldOf_25, (by exact tl_st e25 (by omega) (by rw [e20]; congr 1; omega) kp0_22), rfl⟩
set_option maxHeartbeats 4000000 in
set_option maxRecDepth 100000 in
theorem c_X10_laysTold (l : Launch) (D : va_G) (cI cB cJ : ClassId) (h : Nat) (q : Nat → Nat) {v_stalls v_claimMany v_taped v_place0 v_length0 v_fault v_number0 v_open v_codeMany v_waiting v_saidMany v_clauses v_newMany v_newStalls v_lines v_salesNow v_outNow v_isKept v_keptStalls : Int} {v_now v_aside v_kept v_oneOf v_otherOf v_signOf v_byOf v_tape v_said v_waitsAt v_saidLetter v_saidFrom v_saidHalf v_saidTo v_codes v_clauseOf v_codeFrom v_codeHalf v_codeTo v_stack v_facts v_newOne v_newOther v_newSign v_newBy v_moreOf v_firstOf v_toldOf v_mostOf v_mostThen v_sumTo v_rowFrom v_ordersOf v_lessOf v_weightOf v_rowNow v_slowRow v_fastRow v_lineNow v_firstLine v_freeBy v_heldBy v_heightOf v_upTo v_downTo v_oftenOf v_newUpper v_newLower : Nat → Int} {p0 : Int} (kr_v_claimMany : 0 ≤ v_claimMany ∧ v_claimMany ≤ 40) (r_v_oneOf : RA 0 11 v_oneOf) (r_v_otherOf : RA 0 11 v_otherOf) (r_v_signOf : RA (-2147483648) 2147483647 v_signOf) (r_v_byOf : RA (-9999) 9999 v_byOf) (r_v_toldOf : RA (-9999) 1000000 v_toldOf) (hp0 : IR p0) : CtV l yX10_laysTold cX10_laysTold 3 none ⟨2, 0, 0, 44⟩ D (TY cI cB cJ) (wX10 cI cB cJ h q v_stalls v_claimMany v_taped v_place0 v_length0 v_fault v_number0 v_open v_codeMany v_waiting v_saidMany v_clauses v_newMany v_newStalls v_lines v_salesNow v_outNow v_isKept v_keptStalls v_now v_aside v_kept v_oneOf v_otherOf v_signOf v_byOf v_tape v_said v_waitsAt v_saidLetter v_saidFrom v_saidHalf v_saidTo v_codes v_clauseOf v_codeFrom v_codeHalf v_codeTo v_stack v_facts v_newOne v_newOther v_newSign v_newBy v_moreOf v_firstOf v_toldOf v_mostOf v_mostThen v_sumTo v_rowFrom v_ordersOf v_lessOf v_weightOf v_rowNow v_slowRow v_fastRow v_lineNow v_firstLine v_freeBy v_heldBy v_heightOf v_upTo v_downTo v_oftenOf v_newUpper v_newLower) [.ref h, vI p0] (fun ws' => ∃ n_toldOf : Nat → Int, (RA (-9999) 1000000 n_toldOf) ∧ (∀ c : Nat, c < 144 → n_toldOf c = (toF v_oneOf v_otherOf v_signOf v_byOf p0 v_claimMany.toNat) c) ∧ (ws' = (wX10 cI cB cJ h q v_stalls v_claimMany v_taped v_place0 v_length0 v_fault v_number0 v_open v_codeMany v_waiting v_saidMany v_clauses v_newMany v_newStalls v_lines v_salesNow v_outNow v_isKept v_keptStalls v_now v_aside v_kept v_oneOf v_otherOf v_signOf v_byOf v_tape v_said v_waitsAt v_saidLetter v_saidFrom v_saidHalf v_saidTo v_codes v_clauseOf v_codeFrom v_codeHalf v_codeTo v_stack v_facts v_newOne v_newOther v_newSign v_newBy v_moreOf v_firstOf n_toldOf v_mostOf v_mostThen v_sumTo v_rowFrom v_ordersOf v_lessOf v_weightOf v_rowNow v_slowRow v_fastRow v_lineNow v_firstLine v_freeBy v_heldBy v_heightOf v_upTo v_downTo v_oftenOf v_newUpper v_newLower))) := by
  refine hdrV (own := RX10) rfl (by decide +kernel) (Nat.le_of_ble_eq_true rfl) ?_
  intro p e s m args below meth c Q A X hQ
  refine g_lvE (lv2 := [(0, .ref h), (1, vI p0)]) rfl ?_
  refine g_iconst X dX10_laysTold_0 ?_
  refine g_istore_n X (lv' := [(2, vI 0), (0, .ref h), (1, vI p0)]) dX10_laysTold_1 (by decide) rfl ?_
  have L2 : ∀ (n : Nat) (x2_2 : Int) (toldOf_2 : Nat → Int), (RA (-9999) 1000000 toldOf_2) → (0 ≤ x2_2 ∧ x2_2 ≤ 144) → (∀ c : Nat, (c : Int) < x2_2 → toldOf_2 c = if c / 12 = c % 12 then 0 else 1000000) → (144 - x2_2).toNat < n → GG p l e ⟨2, 0, 0, 44⟩ s m args below meth c 0 0 Q D A s.heap 3 (wX10 cI cB cJ h q v_stalls v_claimMany v_taped v_place0 v_length0 v_fault v_number0 v_open v_codeMany v_waiting v_saidMany v_clauses v_newMany v_newStalls v_lines v_salesNow v_outNow v_isKept v_keptStalls v_now v_aside v_kept v_oneOf v_otherOf v_signOf v_byOf v_tape v_said v_waitsAt v_saidLetter v_saidFrom v_saidHalf v_saidTo v_codes v_clauseOf v_codeFrom v_codeHalf v_codeTo v_stack v_facts v_newOne v_newOther v_newSign v_newBy v_moreOf v_firstOf toldOf_2 v_mostOf v_mostThen v_sumTo v_rowFrom v_ordersOf v_lessOf v_weightOf v_rowNow v_slowRow v_fastRow v_lineNow v_firstLine v_freeBy v_heldBy v_heightOf v_upTo v_downTo v_oftenOf v_newUpper v_newLower) 2 [(0, .ref h), (1, vI p0), (2, vI x2_2)] [] := by
    intro n
    induction n with
    | zero => intros; exfalso; omega
    | succ n ih2 =>
      intro x2_2 toldOf_2 r_toldOf_2 w2_0 w2_1 wm2
      refine g_iload_n X dX10_laysTold_2 2 rfl ?_
      refine g_sipush X (z := 144) dX10_laysTold_3 (by decide) ?_
      refine g_icmp_ge X (tgt := 39) dX10_laysTold_6 (by decide) (by omega) (by omega) (fun c6 => ?_) (fun c6 => ?_)
      · refine g_iconst X dX10_laysTold_39 ?_
        refine g_istore_n X (lv' := [(2, vI 0), (0, .ref h), (1, vI p0)]) dX10_laysTold_40 (by decide) rfl ?_
        have L41 : ∀ (n : Nat) (x2_41 : Int) (toldOf_41 : Nat → Int), (RA (-9999) 1000000 toldOf_41) → (0 ≤ x2_41 ∧ x2_41 ≤ v_claimMany) → (∀ c : Nat, c < 144 → toldOf_41 c = toF v_oneOf v_otherOf v_signOf v_byOf p0 (x2_41).toNat c) → (v_claimMany - x2_41).toNat < n → GG p l e ⟨2, 0, 0, 44⟩ s m args below meth c 0 0 Q D A s.heap 3 (wX10 cI cB cJ h q v_stalls v_claimMany v_taped v_place0 v_length0 v_fault v_number0 v_open v_codeMany v_waiting v_saidMany v_clauses v_newMany v_newStalls v_lines v_salesNow v_outNow v_isKept v_keptStalls v_now v_aside v_kept v_oneOf v_otherOf v_signOf v_byOf v_tape v_said v_waitsAt v_saidLetter v_saidFrom v_saidHalf v_saidTo v_codes v_clauseOf v_codeFrom v_codeHalf v_codeTo v_stack v_facts v_newOne v_newOther v_newSign v_newBy v_moreOf v_firstOf toldOf_41 v_mostOf v_mostThen v_sumTo v_rowFrom v_ordersOf v_lessOf v_weightOf v_rowNow v_slowRow v_fastRow v_lineNow v_firstLine v_freeBy v_heldBy v_heightOf v_upTo v_downTo v_oftenOf v_newUpper v_newLower) 41 [(0, .ref h), (1, vI p0), (2, vI x2_41)] [] := by
          intro n
          induction n with
          | zero => intros; exfalso; omega
          | succ n ih41 =>
            intro x2_41 toldOf_41 r_toldOf_41 w41_0 w41_1 wm41
            have hS := toF_s (A := v_oneOf) (B := v_otherOf) (K := v_signOf) (V := v_byOf) (w := p0) (x := x2_41) (by omega)
            have hfr := r_v_oneOf (x2_41).toNat
            have hse := r_v_otherOf (x2_41).toNat
            refine g_iload_n X dX10_laysTold_41 2 rfl ?_
            refine g_aload_n X dX10_laysTold_42 0 rfl ?_
            refine gM_get X 0 rfl 8 (by decide) uw1187 rfl dX10_laysTold_43 ?_
            refine g_icmp_ge X (tgt := 128) dX10_laysTold_46 (by decide) (by omega) (by omega) (fun c46 => ?_) (fun c46 => ?_)
            · exact hQ _ _ _ dX10_laysTold_128 ⟨toldOf_41, r_toldOf_41, (by intro c hc; rw [← show (x2_41).toNat = v_claimMany.toNat by omega]; exact w41_1 c hc), rfl⟩
            · refine g_iload_n X dX10_laysTold_49 2 rfl ?_
              refine g_iload_n X dX10_laysTold_50 1 rfl ?_
              refine g_icmp_ne X (tgt := 57) dX10_laysTold_51 (by decide) (by omega) (by omega) (fun c51 => ?_) (fun c51 => ?_)
              · refine g_aload_n X dX10_laysTold_57 0 rfl ?_
                refine gM_get X 0 rfl 5 (by decide) uw1184 rfl dX10_laysTold_58 ?_
                refine g_iload_n X dX10_laysTold_61 2 rfl ?_
                refine g_iald X 6 0 rfl rfl (by omega) (by decide) dX10_laysTold_62 (fun t62 e62 => ?_)
                have r62 := r_v_signOf (x2_41 : Int).toNat; rw [← e62] at r62
                refine g_iconst X dX10_laysTold_63 ?_
                refine g_icmp_eq X (tgt := 89) dX10_laysTold_64 (by decide) (by omega) (by omega) (fun c64 => ?_) (fun c64 => ?_)
                · refine g_aload_n X dX10_laysTold_89 0 rfl ?_
                  refine gM_get X 0 rfl 5 (by decide) uw1184 rfl dX10_laysTold_90 ?_
                  refine g_iload_n X dX10_laysTold_93 2 rfl ?_
                  refine g_iald X 6 0 rfl rfl (by omega) (by decide) dX10_laysTold_94 (fun t94 e94 => ?_)
                  have r94 := r_v_signOf (x2_41 : Int).toNat; rw [← e94] at r94
                  refine g_iconst X dX10_laysTold_95 ?_
                  refine g_icmp_eq X (tgt := 122) dX10_laysTold_96 (by decide) (by omega) (by omega) (fun c96 => ?_) (fun c96 => ?_)
                  · have hN : ∀ c : Nat, c < 144 → toldOf_41 c = toF v_oneOf v_otherOf v_signOf v_byOf p0 (x2_41 + 1).toNat c := by rcases hS with ⟨g1, g2⟩ | ⟨g1, g2⟩; (first | (rw [g2]; exact w41_1) | (exfalso; omega)); (first | (exfalso; omega) | (rw [g2]; intro c hc; first | (rw [to1_x (by omega), to2_x (by omega), kp0_119, kp0_86, e73, e79, e85, e105, e111, e117]; exact tlU_c (by omega) (tlU_c (by omega) w41_1) c hc) | (rw [to1_2 (by omega), to2_x (by omega), kp0_119, e105, e111, e117]; exact tlU_c (by omega) w41_1 c hc) | (rw [to1_x (by omega), to2_1 (by omega), kp0_86, e73, e79, e85]; exact tlU_c (by omega) w41_1 c hc)))
                    refine g_iinc X (lv' := [(2, vI (x2_41 + 1)), (0, .ref h), (1, vI p0)]) dX10_laysTold_122 2 rfl (by decide) rfl ?_
                    refine g_goto X (tgt := 41) dX10_laysTold_125 (by decide) ?_
                    refine g_lv [1, 2, 0] rfl ?_
                    exact ih41 (x2_41 + 1) toldOf_41 r_toldOf_41 (by first | assumption | omega) (by intro c hc; first | exact w2_1 c (by omega) | exact hN c hc) (by omega)
                  · refine g_aload_n X dX10_laysTold_99 0 rfl ?_
                    refine g_aload_n X dX10_laysTold_100 0 rfl ?_
                    refine gM_get X 0 rfl 4 (by decide) uw1183 rfl dX10_laysTold_101 ?_
                    refine g_iload_n X dX10_laysTold_104 2 rfl ?_
                    refine g_iald X 5 0 rfl rfl (by omega) (by decide) dX10_laysTold_105 (fun t105 e105 => ?_)
                    have r105 := r_v_otherOf (x2_41 : Int).toNat; rw [← e105] at r105
                    refine g_aload_n X dX10_laysTold_106 0 rfl ?_
                    refine gM_get X 0 rfl 3 (by decide) uw1182 rfl dX10_laysTold_107 ?_
                    refine g_iload_n X dX10_laysTold_110 2 rfl ?_
                    refine g_iald X 4 0 rfl rfl (by omega) (by decide) dX10_laysTold_111 (fun t111 e111 => ?_)
                    have r111 := r_v_oneOf (x2_41 : Int).toNat; rw [← e111] at r111
                    refine g_aload_n X dX10_laysTold_112 0 rfl ?_
                    refine gM_get X 0 rfl 6 (by decide) uw1185 rfl dX10_laysTold_113 ?_
                    refine g_iload_n X dX10_laysTold_116 2 rfl ?_
                    refine g_iald X 7 0 rfl rfl (by omega) (by decide) dX10_laysTold_117 (fun t117 e117 => ?_)
                    have r117 := r_v_byOf (x2_41 : Int).toNat; rw [← e117] at r117
                    refine g_ineg X dX10_laysTold_118 ?_
                    refine g_callVV0 X (c_X10_tells l D cI cB cJ h q (p0 := t105) (p1 := t111) (p2 := -t117) r_toldOf_41 (by first | assumption | omega) (by first | assumption | omega) (by first | assumption | omega) (by first | assumption | omega) (by first | assumption | omega) (by first | assumption | omega)) cv_X10_tells uw1547 ⟨rfl, rfl, by decide, by decide⟩ 0 rfl rfl rfl rfl rfl (Nat.le_of_ble_eq_true rfl) ⟨Nat.zero_le _, Nat.zero_le _⟩ dX10_laysTold_119 (fun ws119 k119 => ?_)
                    obtain ⟨toldOf_119, r_toldOf_119, kp0_119, rfl⟩ := k119
                    have hN : ∀ c : Nat, c < 144 → toldOf_119 c = toF v_oneOf v_otherOf v_signOf v_byOf p0 (x2_41 + 1).toNat c := by rcases hS with ⟨g1, g2⟩ | ⟨g1, g2⟩; (first | (rw [g2]; exact w41_1) | (exfalso; omega)); (first | (exfalso; omega) | (rw [g2]; intro c hc; first | (rw [to1_x (by omega), to2_x (by omega), kp0_119, kp0_86, e73, e79, e85, e105, e111, e117]; exact tlU_c (by omega) (tlU_c (by omega) w41_1) c hc) | (rw [to1_2 (by omega), to2_x (by omega), kp0_119, e105, e111, e117]; exact tlU_c (by omega) w41_1 c hc) | (rw [to1_x (by omega), to2_1 (by omega), kp0_86, e73, e79, e85]; exact tlU_c (by omega) w41_1 c hc)))
                    refine g_iinc X (lv' := [(2, vI (x2_41 + 1)), (0, .ref h), (1, vI p0)]) dX10_laysTold_122 2 rfl (by decide) rfl ?_
                    refine g_goto X (tgt := 41) dX10_laysTold_125 (by decide) ?_
                    refine g_lv [1, 2, 0] rfl ?_
                    exact ih41 (x2_41 + 1) toldOf_119 r_toldOf_119 (by first | assumption | omega) (by intro c hc; first | exact w2_1 c (by omega) | exact hN c hc) (by omega)
                · refine g_aload_n X dX10_laysTold_67 0 rfl ?_
                  refine g_aload_n X dX10_laysTold_68 0 rfl ?_
                  refine gM_get X 0 rfl 3 (by decide) uw1182 rfl dX10_laysTold_69 ?_
                  refine g_iload_n X dX10_laysTold_72 2 rfl ?_
                  refine g_iald X 4 0 rfl rfl (by omega) (by decide) dX10_laysTold_73 (fun t73 e73 => ?_)
                  have r73 := r_v_oneOf (x2_41 : Int).toNat; rw [← e73] at r73
                  refine g_aload_n X dX10_laysTold_74 0 rfl ?_
                  refine gM_get X 0 rfl 4 (by decide) uw1183 rfl dX10_laysTold_75 ?_
                  refine g_iload_n X dX10_laysTold_78 2 rfl ?_
                  refine g_iald X 5 0 rfl rfl (by omega) (by decide) dX10_laysTold_79 (fun t79 e79 => ?_)
                  have r79 := r_v_otherOf (x2_41 : Int).toNat; rw [← e79] at r79
                  refine g_aload_n X dX10_laysTold_80 0 rfl ?_
                  refine gM_get X 0 rfl 6 (by decide) uw1185 rfl dX10_laysTold_81 ?_
                  refine g_iload_n X dX10_laysTold_84 2 rfl ?_
                  refine g_iald X 7 0 rfl rfl (by omega) (by decide) dX10_laysTold_85 (fun t85 e85 => ?_)
                  have r85 := r_v_byOf (x2_41 : Int).toNat; rw [← e85] at r85
                  refine g_callVV0 X (c_X10_tells l D cI cB cJ h q (p0 := t73) (p1 := t79) (p2 := t85) r_toldOf_41 (by first | assumption | omega) (by first | assumption | omega) (by first | assumption | omega) (by first | assumption | omega) (by first | assumption | omega) (by first | assumption | omega)) cv_X10_tells uw1547 ⟨rfl, rfl, by decide, by decide⟩ 0 rfl rfl rfl rfl rfl (Nat.le_of_ble_eq_true rfl) ⟨Nat.zero_le _, Nat.zero_le _⟩ dX10_laysTold_86 (fun ws86 k86 => ?_)
                  obtain ⟨toldOf_86, r_toldOf_86, kp0_86, rfl⟩ := k86
                  refine g_aload_n X dX10_laysTold_89 0 rfl ?_
                  refine gM_get X 0 rfl 5 (by decide) uw1184 rfl dX10_laysTold_90 ?_
                  refine g_iload_n X dX10_laysTold_93 2 rfl ?_
                  refine g_iald X 6 0 rfl rfl (by omega) (by decide) dX10_laysTold_94 (fun t94 e94 => ?_)
                  have r94 := r_v_signOf (x2_41 : Int).toNat; rw [← e94] at r94
                  refine g_iconst X dX10_laysTold_95 ?_
                  refine g_icmp_eq X (tgt := 122) dX10_laysTold_96 (by decide) (by omega) (by omega) (fun c96 => ?_) (fun c96 => ?_)
                  · have hN : ∀ c : Nat, c < 144 → toldOf_86 c = toF v_oneOf v_otherOf v_signOf v_byOf p0 (x2_41 + 1).toNat c := by rcases hS with ⟨g1, g2⟩ | ⟨g1, g2⟩; (first | (rw [g2]; exact w41_1) | (exfalso; omega)); (first | (exfalso; omega) | (rw [g2]; intro c hc; first | (rw [to1_x (by omega), to2_x (by omega), kp0_119, kp0_86, e73, e79, e85, e105, e111, e117]; exact tlU_c (by omega) (tlU_c (by omega) w41_1) c hc) | (rw [to1_2 (by omega), to2_x (by omega), kp0_119, e105, e111, e117]; exact tlU_c (by omega) w41_1 c hc) | (rw [to1_x (by omega), to2_1 (by omega), kp0_86, e73, e79, e85]; exact tlU_c (by omega) w41_1 c hc)))
                    refine g_iinc X (lv' := [(2, vI (x2_41 + 1)), (0, .ref h), (1, vI p0)]) dX10_laysTold_122 2 rfl (by decide) rfl ?_
                    refine g_goto X (tgt := 41) dX10_laysTold_125 (by decide) ?_
                    refine g_lv [1, 2, 0] rfl ?_
                    exact ih41 (x2_41 + 1) toldOf_86 r_toldOf_86 (by first | assumption | omega) (by intro c hc; first | exact w2_1 c (by omega) | exact hN c hc) (by omega)
                  · refine g_aload_n X dX10_laysTold_99 0 rfl ?_
                    refine g_aload_n X dX10_laysTold_100 0 rfl ?_
                    refine gM_get X 0 rfl 4 (by decide) uw1183 rfl dX10_laysTold_101 ?_
                    refine g_iload_n X dX10_laysTold_104 2 rfl ?_
                    refine g_iald X 5 0 rfl rfl (by omega) (by decide) dX10_laysTold_105 (fun t105 e105 => ?_)
                    have r105 := r_v_otherOf (x2_41 : Int).toNat; rw [← e105] at r105
                    refine g_aload_n X dX10_laysTold_106 0 rfl ?_
                    refine gM_get X 0 rfl 3 (by decide) uw1182 rfl dX10_laysTold_107 ?_
                    refine g_iload_n X dX10_laysTold_110 2 rfl ?_
                    refine g_iald X 4 0 rfl rfl (by omega) (by decide) dX10_laysTold_111 (fun t111 e111 => ?_)
                    have r111 := r_v_oneOf (x2_41 : Int).toNat; rw [← e111] at r111
                    refine g_aload_n X dX10_laysTold_112 0 rfl ?_
                    refine gM_get X 0 rfl 6 (by decide) uw1185 rfl dX10_laysTold_113 ?_
                    refine g_iload_n X dX10_laysTold_116 2 rfl ?_
                    refine g_iald X 7 0 rfl rfl (by omega) (by decide) dX10_laysTold_117 (fun t117 e117 => ?_)
                    have r117 := r_v_byOf (x2_41 : Int).toNat; rw [← e117] at r117
                    refine g_ineg X dX10_laysTold_118 ?_
                    refine g_callVV0 X (c_X10_tells l D cI cB cJ h q (p0 := t105) (p1 := t111) (p2 := -t117) r_toldOf_86 (by first | assumption | omega) (by first | assumption | omega) (by first | assumption | omega) (by first | assumption | omega) (by first | assumption | omega) (by first | assumption | omega)) cv_X10_tells uw1547 ⟨rfl, rfl, by decide, by decide⟩ 0 rfl rfl rfl rfl rfl (Nat.le_of_ble_eq_true rfl) ⟨Nat.zero_le _, Nat.zero_le _⟩ dX10_laysTold_119 (fun ws119 k119 => ?_)
                    obtain ⟨toldOf_119, r_toldOf_119, kp0_119, rfl⟩ := k119
                    have hN : ∀ c : Nat, c < 144 → toldOf_119 c = toF v_oneOf v_otherOf v_signOf v_byOf p0 (x2_41 + 1).toNat c := by rcases hS with ⟨g1, g2⟩ | ⟨g1, g2⟩; (first | (rw [g2]; exact w41_1) | (exfalso; omega)); (first | (exfalso; omega) | (rw [g2]; intro c hc; first | (rw [to1_x (by omega), to2_x (by omega), kp0_119, kp0_86, e73, e79, e85, e105, e111, e117]; exact tlU_c (by omega) (tlU_c (by omega) w41_1) c hc) | (rw [to1_2 (by omega), to2_x (by omega), kp0_119, e105, e111, e117]; exact tlU_c (by omega) w41_1 c hc) | (rw [to1_x (by omega), to2_1 (by omega), kp0_86, e73, e79, e85]; exact tlU_c (by omega) w41_1 c hc)))
                    refine g_iinc X (lv' := [(2, vI (x2_41 + 1)), (0, .ref h), (1, vI p0)]) dX10_laysTold_122 2 rfl (by decide) rfl ?_
                    refine g_goto X (tgt := 41) dX10_laysTold_125 (by decide) ?_
                    refine g_lv [1, 2, 0] rfl ?_
                    exact ih41 (x2_41 + 1) toldOf_119 r_toldOf_119 (by first | assumption | omega) (by intro c hc; first | exact w2_1 c (by omega) | exact hN c hc) (by omega)
              · refine g_goto X (tgt := 122) dX10_laysTold_54 (by decide) ?_
                have hN : ∀ c : Nat, c < 144 → toldOf_41 c = toF v_oneOf v_otherOf v_signOf v_byOf p0 (x2_41 + 1).toNat c := by rcases hS with ⟨g1, g2⟩ | ⟨g1, g2⟩; (first | (rw [g2]; exact w41_1) | (exfalso; omega)); (first | (exfalso; omega) | (rw [g2]; intro c hc; first | (rw [to1_x (by omega), to2_x (by omega), kp0_119, kp0_86, e73, e79, e85, e105, e111, e117]; exact tlU_c (by omega) (tlU_c (by omega) w41_1) c hc) | (rw [to1_2 (by omega), to2_x (by omega), kp0_119, e105, e111, e117]; exact tlU_c (by omega) w41_1 c hc) | (rw [to1_x (by omega), to2_1 (by omega), kp0_86, e73, e79, e85]; exact tlU_c (by omega) w41_1 c hc)))
                refine g_iinc X (lv' := [(2, vI (x2_41 + 1)), (0, .ref h), (1, vI p0)]) dX10_laysTold_122 2 rfl (by decide) rfl ?_
                refine g_goto X (tgt := 41) dX10_laysTold_125 (by decide) ?_
                refine g_lv [1, 2, 0] rfl ?_
                exact ih41 (x2_41 + 1) toldOf_41 r_toldOf_41 (by first | assumption | omega) (by intro c hc; first | exact w2_1 c (by omega) | exact hN c hc) (by omega)
        refine g_lv [1, 2, 0] rfl ?_
        exact L41 _ 0 toldOf_2 r_toldOf_2 (by first | assumption | omega) (by intro c hc; first | exact w2_1 c (by omega) | exact hN c hc) (Nat.lt_succ_self _)
      · refine g_aload_n X dX10_laysTold_9 0 rfl ?_
        refine gM_get X 0 rfl 40 (by decide) uw1219 rfl dX10_laysTold_10 ?_
        refine g_iload_n X dX10_laysTold_13 2 rfl ?_
        refine g_iload_n X dX10_laysTold_14 2 rfl ?_
        refine g_bipush X (z := 12) dX10_laysTold_15 (by decide) ?_
        refine g_idiv X dX10_laysTold_17 (by omega) (by omega) ?_
        refine g_nm (fun t17 e17 => ?_)
        refine g_iload_n X dX10_laysTold_18 2 rfl ?_
        refine g_bipush X (z := 12) dX10_laysTold_19 (by decide) ?_
        refine g_irem X dX10_laysTold_21 (by omega) (by omega) ?_
        refine g_nm (fun t21 e21 => ?_)
        have r21 : 0 ≤ t21 ∧ ((0 : Int) < 12 → t21 < 12) := by rw [e21]; exact ⟨Int.emod_nonneg _ (by omega), fun h => Int.emod_lt_of_pos _ h⟩
        refine g_icmp_ne X (tgt := 29) dX10_laysTold_22 (by decide) (by omega) (by omega) (fun c22 => ?_) (fun c22 => ?_)
        · refine g_ldcw X (z := 1000000) dX10_laysTold_29 uw1546 (by decide) ?_
          refine g_iast X 28 0 rfl rfl (by omega) (by decide) dX10_laysTold_32 (fun toldOf_32 e32 => ?_)
          have r_toldOf_32 : RA (-9999) 1000000 toldOf_32 := by rw [e32]; exact RA_up r_toldOf_2 (by omega)
          refine g_ws (ws2 := (wX10 cI cB cJ h q v_stalls v_claimMany v_taped v_place0 v_length0 v_fault v_number0 v_open v_codeMany v_waiting v_saidMany v_clauses v_newMany v_newStalls v_lines v_salesNow v_outNow v_isKept v_keptStalls v_now v_aside v_kept v_oneOf v_otherOf v_signOf v_byOf v_tape v_said v_waitsAt v_saidLetter v_saidFrom v_saidHalf v_saidTo v_codes v_clauseOf v_codeFrom v_codeHalf v_codeTo v_stack v_facts v_newOne v_newOther v_newSign v_newBy v_moreOf v_firstOf toldOf_32 v_mostOf v_mostThen v_sumTo v_rowFrom v_ordersOf v_lessOf v_weightOf v_rowNow v_slowRow v_fastRow v_lineNow v_firstLine v_freeBy v_heldBy v_heightOf v_upTo v_downTo v_oftenOf v_newUpper v_newLower)) rfl ?_
          refine g_iinc X (lv' := [(2, vI (x2_2 + 1)), (0, .ref h), (1, vI p0)]) dX10_laysTold_33 2 rfl (by decide) rfl ?_
          refine g_goto X (tgt := 2) dX10_laysTold_36 (by decide) ?_
          refine g_lv [1, 2, 0] rfl ?_
          exact ih2 (x2_2 + 1) toldOf_32 r_toldOf_32 (by first | assumption | omega) (by intro c hc; first | (exfalso; omega) | (rcases (show (c : Int) < x2_2 ∨ c = (x2_2).toNat by omega) with h | h; (rw [e32, updZ_n _ _ (by omega)]; exact w2_1 c h); (rw [e32, h, updZ_s]; first | (rw [if_pos (by omega)]) | (rw [if_neg (by omega)])))) (by omega)
        · refine g_iconst X dX10_laysTold_25 ?_
          refine g_goto X (tgt := 32) dX10_laysTold_26 (by decide) ?_
          refine g_iast X 28 0 rfl rfl (by omega) (by decide) dX10_laysTold_32 (fun toldOf_32 e32 => ?_)
          have r_toldOf_32 : RA (-9999) 1000000 toldOf_32 := by rw [e32]; exact RA_up r_toldOf_2 (by omega)
          refine g_ws (ws2 := (wX10 cI cB cJ h q v_stalls v_claimMany v_taped v_place0 v_length0 v_fault v_number0 v_open v_codeMany v_waiting v_saidMany v_clauses v_newMany v_newStalls v_lines v_salesNow v_outNow v_isKept v_keptStalls v_now v_aside v_kept v_oneOf v_otherOf v_signOf v_byOf v_tape v_said v_waitsAt v_saidLetter v_saidFrom v_saidHalf v_saidTo v_codes v_clauseOf v_codeFrom v_codeHalf v_codeTo v_stack v_facts v_newOne v_newOther v_newSign v_newBy v_moreOf v_firstOf toldOf_32 v_mostOf v_mostThen v_sumTo v_rowFrom v_ordersOf v_lessOf v_weightOf v_rowNow v_slowRow v_fastRow v_lineNow v_firstLine v_freeBy v_heldBy v_heightOf v_upTo v_downTo v_oftenOf v_newUpper v_newLower)) rfl ?_
          refine g_iinc X (lv' := [(2, vI (x2_2 + 1)), (0, .ref h), (1, vI p0)]) dX10_laysTold_33 2 rfl (by decide) rfl ?_
          refine g_goto X (tgt := 2) dX10_laysTold_36 (by decide) ?_
          refine g_lv [1, 2, 0] rfl ?_
          exact ih2 (x2_2 + 1) toldOf_32 r_toldOf_32 (by first | assumption | omega) (by intro c hc; first | (exfalso; omega) | (rcases (show (c : Int) < x2_2 ∨ c = (x2_2).toNat by omega) with h | h; (rw [e32, updZ_n _ _ (by omega)]; exact w2_1 c h); (rw [e32, h, updZ_s]; first | (rw [if_pos (by omega)]) | (rw [if_neg (by omega)])))) (by omega)
  refine g_lv [1, 2, 0] rfl ?_
  exact L2 _ 0 v_toldOf r_v_toldOf (by first | assumption | omega) (by intro c hc; first | (exfalso; omega) | (rcases (show (c : Int) < x2_2 ∨ c = (x2_2).toNat by omega) with h | h; (rw [e32, updZ_n _ _ (by omega)]; exact w2_1 c h); (rw [e32, h, updZ_s]; first | (rw [if_pos (by omega)]) | (rw [if_neg (by omega)])))) (Nat.lt_succ_self _)
set_option maxHeartbeats 4000000 in
set_option maxRecDepth 100000 in
theorem c_X10_laysMost (l : Launch) (D : va_G) (cI cB cJ : ClassId) (h : Nat) (q : Nat → Nat) {v_stalls v_claimMany v_taped v_place0 v_length0 v_fault v_number0 v_open v_codeMany v_waiting v_saidMany v_clauses v_newMany v_newStalls v_lines v_salesNow v_outNow v_isKept v_keptStalls : Int} {v_now v_aside v_kept v_oneOf v_otherOf v_signOf v_byOf v_tape v_said v_waitsAt v_saidLetter v_saidFrom v_saidHalf v_saidTo v_codes v_clauseOf v_codeFrom v_codeHalf v_codeTo v_stack v_facts v_newOne v_newOther v_newSign v_newBy v_moreOf v_firstOf v_toldOf v_mostOf v_mostThen v_sumTo v_rowFrom v_ordersOf v_lessOf v_weightOf v_rowNow v_slowRow v_fastRow v_lineNow v_firstLine v_freeBy v_heldBy v_heightOf v_upTo v_downTo v_oftenOf v_newUpper v_newLower : Nat → Int} {p0 : Int} (kr_v_claimMany : 0 ≤ v_claimMany ∧ v_claimMany ≤ 40) (r_v_oneOf : RA 0 11 v_oneOf) (r_v_otherOf : RA 0 11 v_otherOf) (r_v_signOf : RA (-2147483648) 2147483647 v_signOf) (r_v_byOf : RA (-9999) 9999 v_byOf) (r_v_toldOf : RA (-9999) 1000000 v_toldOf) (r_v_mostOf : RA (-1000000) 1000000 v_mostOf) (hp0 : IR p0) (hp1 : ∀ j : Nat, (j : Int) < v_claimMany → v_oneOf j ≠ v_otherOf j) : CtV l yX10_laysMost cX10_laysMost 6 none ⟨3, 0, 0, 66⟩ D (TY cI cB cJ) (wX10 cI cB cJ h q v_stalls v_claimMany v_taped v_place0 v_length0 v_fault v_number0 v_open v_codeMany v_waiting v_saidMany v_clauses v_newMany v_newStalls v_lines v_salesNow v_outNow v_isKept v_keptStalls v_now v_aside v_kept v_oneOf v_otherOf v_signOf v_byOf v_tape v_said v_waitsAt v_saidLetter v_saidFrom v_saidHalf v_saidTo v_codes v_clauseOf v_codeFrom v_codeHalf v_codeTo v_stack v_facts v_newOne v_newOther v_newSign v_newBy v_moreOf v_firstOf v_toldOf v_mostOf v_mostThen v_sumTo v_rowFrom v_ordersOf v_lessOf v_weightOf v_rowNow v_slowRow v_fastRow v_lineNow v_firstLine v_freeBy v_heldBy v_heightOf v_upTo v_downTo v_oftenOf v_newUpper v_newLower) [.ref h, vI p0] (fun ws' => ∃ n_toldOf : Nat → Int, ∃ n_mostOf : Nat → Int, (RA (-9999) 1000000 n_toldOf) ∧ (RA (-1000000) 1000000 n_mostOf) ∧ (∀ c : Nat, c < 144 → n_toldOf c = (toF v_oneOf v_otherOf v_signOf v_byOf p0 v_claimMany.toNat) c) ∧ ((okN (toF v_oneOf v_otherOf v_signOf v_byOf p0 v_claimMany.toNat) 12 ∧ ∀ c : Nat, c < 144 → n_mostOf c = fwN (toF v_oneOf v_otherOf v_signOf v_byOf p0 v_claimMany.toNat) 12 c) ∨ (¬ okN (toF v_oneOf v_otherOf v_signOf v_byOf p0 v_claimMany.toNat) 12 ∧ ∃ t : Nat, t < 12 ∧ n_mostOf (13 * t) < 0)) ∧ (ws' = (wX10 cI cB cJ h q v_stalls v_claimMany v_taped v_place0 v_length0 v_fault v_number0 v_open v_codeMany v_waiting v_saidMany v_clauses v_newMany v_newStalls v_lines v_salesNow v_outNow v_isKept v_keptStalls v_now v_aside v_kept v_oneOf v_otherOf v_signOf v_byOf v_tape v_said v_waitsAt v_saidLetter v_saidFrom v_saidHalf v_saidTo v_codes v_clauseOf v_codeFrom v_codeHalf v_codeTo v_stack v_facts v_newOne v_newOther v_newSign v_newBy v_moreOf v_firstOf n_toldOf n_mostOf v_mostThen v_sumTo v_rowFrom v_ordersOf v_lessOf v_weightOf v_rowNow v_slowRow v_fastRow v_lineNow v_firstLine v_freeBy v_heldBy v_heightOf v_upTo v_downTo v_oftenOf v_newUpper v_newLower))) := by
  refine hdrV (own := RX10) rfl (by decide +kernel) (Nat.le_of_ble_eq_true rfl) ?_
  intro p e s m args below meth c Q A X hQ
  refine g_lvE (lv2 := [(0, .ref h), (1, vI p0)]) rfl ?_
  have hT : TD (toF v_oneOf v_otherOf v_signOf v_byOf p0 v_claimMany.toNat) := toF_T p0 r_v_oneOf r_v_otherOf r_v_byOf _ (fun j hj => hp1 j (by omega))
  refine g_aload_n X dX10_laysMost_0 0 rfl ?_
  refine g_iload_n X dX10_laysMost_1 1 rfl ?_
  refine g_callVV0 X (c_X10_laysTold l D cI cB cJ h q (p0 := p0) (by omega) r_v_oneOf r_v_otherOf r_v_signOf r_v_byOf r_v_toldOf (by first | assumption | omega)) cv_X10_laysTold uw1542 ⟨rfl, rfl, by decide, by decide⟩ 0 rfl rfl rfl rfl rfl (Nat.le_of_ble_eq_true rfl) ⟨Nat.zero_le _, Nat.zero_le _⟩ dX10_laysMost_2 (fun ws2 k2 => ?_)
  obtain ⟨toldOf_2, r_toldOf_2, kp0_2, rfl⟩ := k2
  refine g_iconst X dX10_laysMost_5 ?_
  refine g_istore_n X (lv' := [(2, vI 0), (0, .ref h), (1, vI p0)]) dX10_laysMost_6 (by decide) rfl ?_
  have L7 : ∀ (n : Nat) (x2_7 : Int) (mostOf_7 : Nat → Int), (RA (-1000000) 1000000 mostOf_7) → (0 ≤ x2_7 ∧ x2_7 ≤ 144) → (∀ c : Nat, (c : Int) < x2_7 → mostOf_7 c = (toF v_oneOf v_otherOf v_signOf v_byOf p0 v_claimMany.toNat) c) → (144 - x2_7).toNat < n → GG p l e ⟨3, 0, 0, 66⟩ s m args below meth c 0 0 Q D A s.heap 6 (wX10 cI cB cJ h q v_stalls v_claimMany v_taped v_place0 v_length0 v_fault v_number0 v_open v_codeMany v_waiting v_saidMany v_clauses v_newMany v_newStalls v_lines v_salesNow v_outNow v_isKept v_keptStalls v_now v_aside v_kept v_oneOf v_otherOf v_signOf v_byOf v_tape v_said v_waitsAt v_saidLetter v_saidFrom v_saidHalf v_saidTo v_codes v_clauseOf v_codeFrom v_codeHalf v_codeTo v_stack v_facts v_newOne v_newOther v_newSign v_newBy v_moreOf v_firstOf toldOf_2 mostOf_7 v_mostThen v_sumTo v_rowFrom v_ordersOf v_lessOf v_weightOf v_rowNow v_slowRow v_fastRow v_lineNow v_firstLine v_freeBy v_heldBy v_heightOf v_upTo v_downTo v_oftenOf v_newUpper v_newLower) 7 [(0, .ref h), (2, vI x2_7)] [] := by
    intro n
    induction n with
    | zero => intros; exfalso; omega
    | succ n ih7 =>
      intro x2_7 mostOf_7 r_mostOf_7 w7_0 w7_1 wm7
      refine g_iload_n X dX10_laysMost_7 1 rfl ?_
      refine g_sipush X (z := 144) dX10_laysMost_8 (by decide) ?_
      refine g_icmp_ge X (tgt := 32) dX10_laysMost_11 (by decide) (by omega) (by omega) (fun c11 => ?_) (fun c11 => ?_)
      · refine g_iconst X dX10_laysMost_32 ?_
        refine g_istore_n X (lv' := [(2, vI 0), (0, .ref h)]) dX10_laysMost_33 (by decide) rfl ?_
        have L34 : ∀ (n : Nat) (x2_34 : Int) (mostOf_34 : Nat → Int), (RA (-1000000) 1000000 mostOf_34) → (0 ≤ x2_34 ∧ x2_34 ≤ 12) → (FR (toF v_oneOf v_otherOf v_signOf v_byOf p0 v_claimMany.toNat) (x2_34).toNat 0 mostOf_34) → (12 - x2_34).toNat < n → GG p l e ⟨3, 0, 0, 66⟩ s m args below meth c 0 0 Q D A s.heap 6 (wX10 cI cB cJ h q v_stalls v_claimMany v_taped v_place0 v_length0 v_fault v_number0 v_open v_codeMany v_waiting v_saidMany v_clauses v_newMany v_newStalls v_lines v_salesNow v_outNow v_isKept v_keptStalls v_now v_aside v_kept v_oneOf v_otherOf v_signOf v_byOf v_tape v_said v_waitsAt v_saidLetter v_saidFrom v_saidHalf v_saidTo v_codes v_clauseOf v_codeFrom v_codeHalf v_codeTo v_stack v_facts v_newOne v_newOther v_newSign v_newBy v_moreOf v_firstOf toldOf_2 mostOf_34 v_mostThen v_sumTo v_rowFrom v_ordersOf v_lessOf v_weightOf v_rowNow v_slowRow v_fastRow v_lineNow v_firstLine v_freeBy v_heldBy v_heightOf v_upTo v_downTo v_oftenOf v_newUpper v_newLower) 34 [(0, .ref h), (2, vI x2_34)] [] := by
          intro n
          induction n with
          | zero => intros; exfalso; omega
          | succ n ih34 =>
            intro x2_34 mostOf_34 r_mostOf_34 w34_0 w34_1 wm34
            refine g_iload_n X dX10_laysMost_34 1 rfl ?_
            refine g_bipush X (z := 12) dX10_laysMost_35 (by decide) ?_
            refine g_icmp_ge X (tgt := 135) dX10_laysMost_37 (by decide) (by omega) (by omega) (fun c37 => ?_) (fun c37 => ?_)
            · exact hQ _ _ _ dX10_laysMost_135 ⟨toldOf_2, mostOf_34, r_toldOf_2, r_mostOf_34, (by exact kp0_2), (by have h9 := w34_1; rw [show (x2_34).toNat = 12 by omega] at h9; exact FR.out h9), rfl⟩
            · refine g_iconst X dX10_laysMost_40 ?_
              refine g_istore_n X (lv' := [(3, vI 0), (0, .ref h), (2, vI x2_34)]) dX10_laysMost_41 (by decide) rfl ?_
              have L42 : ∀ (n : Nat) (x3_42 : Int) (mostOf_42 : Nat → Int), (RA (-1000000) 1000000 mostOf_42) → (0 ≤ x3_42 ∧ x3_42 ≤ 144) → (FR (toF v_oneOf v_otherOf v_signOf v_byOf p0 v_claimMany.toNat) (x2_34).toNat (x3_42).toNat mostOf_42) → (144 - x3_42).toNat < n → GG p l e ⟨3, 0, 0, 66⟩ s m args below meth c 0 0 Q D A s.heap 6 (wX10 cI cB cJ h q v_stalls v_claimMany v_taped v_place0 v_length0 v_fault v_number0 v_open v_codeMany v_waiting v_saidMany v_clauses v_newMany v_newStalls v_lines v_salesNow v_outNow v_isKept v_keptStalls v_now v_aside v_kept v_oneOf v_otherOf v_signOf v_byOf v_tape v_said v_waitsAt v_saidLetter v_saidFrom v_saidHalf v_saidTo v_codes v_clauseOf v_codeFrom v_codeHalf v_codeTo v_stack v_facts v_newOne v_newOther v_newSign v_newBy v_moreOf v_firstOf toldOf_2 mostOf_42 v_mostThen v_sumTo v_rowFrom v_ordersOf v_lessOf v_weightOf v_rowNow v_slowRow v_fastRow v_lineNow v_firstLine v_freeBy v_heldBy v_heightOf v_upTo v_downTo v_oftenOf v_newUpper v_newLower) 42 [(0, .ref h), (2, vI x2_34), (3, vI x3_42)] [] := by
                intro n
                induction n with
                | zero => intros; exfalso; omega
                | succ n ih42 =>
                  intro x3_42 mostOf_42 r_mostOf_42 w42_0 w42_1 wm42
                  refine g_iload_n X dX10_laysMost_42 2 rfl ?_
                  refine g_sipush X (z := 144) dX10_laysMost_43 (by decide) ?_
                  refine g_icmp_ge X (tgt := 129) dX10_laysMost_46 (by decide) (by omega) (by omega) (fun c46 => ?_) (fun c46 => ?_)
                  · refine g_iinc X (lv' := [(2, vI (x2_34 + 1)), (0, .ref h), (3, vI x3_42)]) dX10_laysMost_129 1 rfl (by decide) rfl ?_
                    refine g_goto X (tgt := 34) dX10_laysMost_132 (by decide) ?_
                    refine g_lv [1, 0] rfl ?_
                    exact ih34 (x2_34 + 1) mostOf_42 r_mostOf_42 (by first | assumption | omega) (by first | exact FR.ini hT (fun c hc => w7_1 c (by omega)) | (rw [show (x2_34 + 1).toNat = (x2_34).toNat + 1 by omega]; have h9 := w42_1; rw [show (x3_42).toNat = 144 by omega] at h9; exact FR.next h9)) (by omega)
                  · refine g_aload_n X dX10_laysMost_49 0 rfl ?_
                    refine gM_get X 0 rfl 41 (by decide) uw1220 rfl dX10_laysMost_50 ?_
                    refine g_iload_n X dX10_laysMost_53 2 rfl ?_
                    refine g_bipush X (z := 12) dX10_laysMost_54 (by decide) ?_
                    refine g_idiv X dX10_laysMost_56 (by omega) (by omega) ?_
                    refine g_nm (fun t56 e56 => ?_)
                    refine g_bipush X (z := 12) dX10_laysMost_57 (by decide) ?_
                    refine g_imul X dX10_laysMost_59 ?_
                    refine g_iload_n X dX10_laysMost_60 1 rfl ?_
                    refine g_iadd X dX10_laysMost_61 ?_
                    refine g_iald X 29 0 rfl rfl (by omega) (by decide) dX10_laysMost_62 (fun t62 e62 => ?_)
                    have r62 := r_mostOf_42 ((t56 * 12) + x2_34 : Int).toNat; rw [← e62] at r62
                    refine g_istore X (lv' := [(4, vI t62), (0, .ref h), (2, vI x2_34), (3, vI x3_42)]) dX10_laysMost_63 (by decide) rfl ?_
                    refine g_aload_n X dX10_laysMost_65 1 rfl ?_
                    refine gM_get X 0 rfl 41 (by decide) uw1220 rfl dX10_laysMost_66 ?_
                    refine g_bipush X (z := 12) dX10_laysMost_69 (by decide) ?_
                    refine g_iload_n X dX10_laysMost_71 2 rfl ?_
                    refine g_imul X dX10_laysMost_72 ?_
                    refine g_iload_n X dX10_laysMost_73 3 rfl ?_
                    refine g_bipush X (z := 12) dX10_laysMost_74 (by decide) ?_
                    refine g_irem X dX10_laysMost_76 (by omega) (by omega) ?_
                    refine g_nm (fun t76 e76 => ?_)
                    have r76 : 0 ≤ t76 ∧ ((0 : Int) < 12 → t76 < 12) := by rw [e76]; exact ⟨Int.emod_nonneg _ (by omega), fun h => Int.emod_lt_of_pos _ h⟩
                    refine g_iadd X dX10_laysMost_77 ?_
                    refine g_iald X 29 0 rfl rfl (by omega) (by decide) dX10_laysMost_78 (fun t78 e78 => ?_)
                    have r78 := r_mostOf_42 ((12 * x2_34) + t76 : Int).toNat; rw [← e78] at r78
                    refine g_istore X (lv' := [(5, vI t78), (4, vI t62), (0, .ref h), (2, vI x2_34), (3, vI x3_42)]) dX10_laysMost_79 (by decide) rfl ?_
                    have h62 : t62 = mostOf_42 (12 * ((x3_42).toNat / 12) + (x2_34).toNat) := by rw [e62]; congr 1; omega
                    have h78 : t78 = mostOf_42 (12 * (x2_34).toNat + (x3_42).toNat % 12) := by rw [e78]; congr 1; omega
                    refine g_iload X dX10_laysMost_81 1 rfl ?_
                    refine g_ldcw X (z := 1000000) dX10_laysMost_83 uw1546 (by decide) ?_
                    refine g_icmp_ge X (tgt := 123) dX10_laysMost_86 (by decide) (by omega) (by omega) (fun c86 => ?_) (fun c86 => ?_)
                    · have hN : FR (toF v_oneOf v_otherOf v_signOf v_byOf p0 v_claimMany.toNat) (x2_34).toNat ((x3_42).toNat + 1) mostOf_42 := by first | exact FR.step (a := t116) (v := t119) (p := (x3_42).toNat) hT.1 (by omega) (by omega) w42_1 h62 h78 (Or.inr ⟨by omega, rfl, e122, by rw [e110] at kp0_116; exact kp0_116, by omega⟩) | exact FR.step (a := 0) (v := 0) (p := 0) hT.1 (by omega) (by omega) w42_1 h62 h78 (Or.inl ⟨by omega, rfl⟩)
                      refine g_iinc X (lv' := [(3, vI (x3_42 + 1)), (5, vI t78), (4, vI t62), (0, .ref h), (2, vI x2_34)]) dX10_laysMost_123 4 rfl (by decide) rfl ?_
                      refine g_goto X (tgt := 42) dX10_laysMost_126 (by decide) ?_
                      refine g_lv [3, 4, 0] rfl ?_
                      exact ih42 (x3_42 + 1) mostOf_42 r_mostOf_42 (by first | assumption | omega) (by first | exact w34_1 | (rw [show (x3_42 + 1).toNat = (x3_42).toNat + 1 by omega]; exact hN)) (by omega)
                    · refine g_iload X dX10_laysMost_89 0 rfl ?_
                      refine g_ldcw X (z := 1000000) dX10_laysMost_91 uw1546 (by decide) ?_
                      refine g_icmp_ge X (tgt := 123) dX10_laysMost_94 (by decide) (by omega) (by omega) (fun c94 => ?_) (fun c94 => ?_)
                      · have hN : FR (toF v_oneOf v_otherOf v_signOf v_byOf p0 v_claimMany.toNat) (x2_34).toNat ((x3_42).toNat + 1) mostOf_42 := by first | exact FR.step (a := t116) (v := t119) (p := (x3_42).toNat) hT.1 (by omega) (by omega) w42_1 h62 h78 (Or.inr ⟨by omega, rfl, e122, by rw [e110] at kp0_116; exact kp0_116, by omega⟩) | exact FR.step (a := 0) (v := 0) (p := 0) hT.1 (by omega) (by omega) w42_1 h62 h78 (Or.inl ⟨by omega, rfl⟩)
                        refine g_iinc X (lv' := [(3, vI (x3_42 + 1)), (5, vI t78), (4, vI t62), (0, .ref h), (2, vI x2_34)]) dX10_laysMost_123 4 rfl (by decide) rfl ?_
                        refine g_goto X (tgt := 42) dX10_laysMost_126 (by decide) ?_
                        refine g_lv [3, 4, 0] rfl ?_
                        exact ih42 (x3_42 + 1) mostOf_42 r_mostOf_42 (by first | assumption | omega) (by first | exact w34_1 | (rw [show (x3_42 + 1).toNat = (x3_42).toNat + 1 by omega]; exact hN)) (by omega)
                      · refine g_aload_n X dX10_laysMost_97 2 rfl ?_
                        refine gM_get X 0 rfl 41 (by decide) uw1220 rfl dX10_laysMost_98 ?_
                        refine g_iload_n X dX10_laysMost_101 4 rfl ?_
                        refine g_ldcw X (z := (-1000000)) dX10_laysMost_102 uw1519 (by decide) ?_
                        refine g_aload_n X dX10_laysMost_105 2 rfl ?_
                        refine gM_get X 0 rfl 41 (by decide) uw1220 rfl dX10_laysMost_106 ?_
                        refine g_iload_n X dX10_laysMost_109 4 rfl ?_
                        refine g_iald X 29 0 rfl rfl (by omega) (by decide) dX10_laysMost_110 (fun t110 e110 => ?_)
                        have r110 := r_mostOf_42 (x3_42 : Int).toNat; rw [← e110] at r110
                        refine g_iload X dX10_laysMost_111 1 rfl ?_
                        refine g_iload X dX10_laysMost_113 0 rfl ?_
                        refine g_iadd X dX10_laysMost_115 ?_
                        refine g_callSIE X (c_X10_min l D cI cB cJ (p0 := t110) (p1 := t62 + t78) (by first | assumption | omega) (by first | assumption | omega)) cv_X10_min uw1551 ⟨rfl, rfl, by decide, by decide⟩ rfl rfl (Nat.le_of_ble_eq_true rfl) ⟨Nat.zero_le _, Nat.zero_le _⟩ dX10_laysMost_116 (fun t116 ws116 k116 => ?_)
                        obtain ⟨kp0_116, rfl⟩ := k116
                        refine g_callSIE X (c_X10_max l D cI cB cJ (p0 := (-1000000)) (p1 := t116) (by first | assumption | omega) (by first | assumption | omega)) cv_X10_max uw1554 ⟨rfl, rfl, by decide, by decide⟩ rfl rfl (Nat.le_of_ble_eq_true rfl) ⟨Nat.zero_le _, Nat.zero_le _⟩ dX10_laysMost_119 (fun t119 ws119 k119 => ?_)
                        obtain ⟨kp0_119, rfl⟩ := k119
                        refine g_iast X 29 0 rfl rfl (by omega) (by decide) dX10_laysMost_122 (fun mostOf_122 e122 => ?_)
                        have r_mostOf_122 : RA (-1000000) 1000000 mostOf_122 := by rw [e122]; exact RA_up r_mostOf_42 (by omega)
                        refine g_ws (ws2 := (wX10 cI cB cJ h q v_stalls v_claimMany v_taped v_place0 v_length0 v_fault v_number0 v_open v_codeMany v_waiting v_saidMany v_clauses v_newMany v_newStalls v_lines v_salesNow v_outNow v_isKept v_keptStalls v_now v_aside v_kept v_oneOf v_otherOf v_signOf v_byOf v_tape v_said v_waitsAt v_saidLetter v_saidFrom v_saidHalf v_saidTo v_codes v_clauseOf v_codeFrom v_codeHalf v_codeTo v_stack v_facts v_newOne v_newOther v_newSign v_newBy v_moreOf v_firstOf toldOf_2 mostOf_122 v_mostThen v_sumTo v_rowFrom v_ordersOf v_lessOf v_weightOf v_rowNow v_slowRow v_fastRow v_lineNow v_firstLine v_freeBy v_heldBy v_heightOf v_upTo v_downTo v_oftenOf v_newUpper v_newLower)) rfl ?_
                        have hN : FR (toF v_oneOf v_otherOf v_signOf v_byOf p0 v_claimMany.toNat) (x2_34).toNat ((x3_42).toNat + 1) mostOf_122 := by first | exact FR.step (a := t116) (v := t119) (p := (x3_42).toNat) hT.1 (by omega) (by omega) w42_1 h62 h78 (Or.inr ⟨by omega, rfl, e122, by rw [e110] at kp0_116; exact kp0_116, by omega⟩) | exact FR.step (a := 0) (v := 0) (p := 0) hT.1 (by omega) (by omega) w42_1 h62 h78 (Or.inl ⟨by omega, rfl⟩)
                        refine g_iinc X (lv' := [(3, vI (x3_42 + 1)), (5, vI t78), (4, vI t62), (0, .ref h), (2, vI x2_34)]) dX10_laysMost_123 4 rfl (by decide) rfl ?_
                        refine g_goto X (tgt := 42) dX10_laysMost_126 (by decide) ?_
                        refine g_lv [3, 4, 0] rfl ?_
                        exact ih42 (x3_42 + 1) mostOf_122 r_mostOf_122 (by first | assumption | omega) (by first | exact w34_1 | (rw [show (x3_42 + 1).toNat = (x3_42).toNat + 1 by omega]; exact hN)) (by omega)
              refine g_lv [1, 2, 0] rfl ?_
              exact L42 _ 0 mostOf_34 r_mostOf_34 (by first | assumption | omega) (by first | exact w34_1 | (rw [show (x3_42 + 1).toNat = (x3_42).toNat + 1 by omega]; exact hN)) (Nat.lt_succ_self _)
        refine g_lv [1, 0] rfl ?_
        exact L34 _ 0 mostOf_7 r_mostOf_7 (by first | assumption | omega) (by first | exact FR.ini hT (fun c hc => w7_1 c (by omega)) | (rw [show (x2_34 + 1).toNat = (x2_34).toNat + 1 by omega]; have h9 := w42_1; rw [show (x3_42).toNat = 144 by omega] at h9; exact FR.next h9)) (Nat.lt_succ_self _)
      · refine g_aload_n X dX10_laysMost_14 0 rfl ?_
        refine gM_get X 0 rfl 41 (by decide) uw1220 rfl dX10_laysMost_15 ?_
        refine g_iload_n X dX10_laysMost_18 1 rfl ?_
        refine g_aload_n X dX10_laysMost_19 0 rfl ?_
        refine gM_get X 0 rfl 40 (by decide) uw1219 rfl dX10_laysMost_20 ?_
        refine g_iload_n X dX10_laysMost_23 1 rfl ?_
        refine g_iald X 28 0 rfl rfl (by omega) (by decide) dX10_laysMost_24 (fun t24 e24 => ?_)
        have r24 := r_toldOf_2 (x2_7 : Int).toNat; rw [← e24] at r24
        refine g_iast X 29 0 rfl rfl (by omega) (by decide) dX10_laysMost_25 (fun mostOf_25 e25 => ?_)
        have r_mostOf_25 : RA (-1000000) 1000000 mostOf_25 := by rw [e25]; exact RA_up r_mostOf_7 (by omega)
        refine g_ws (ws2 := (wX10 cI cB cJ h q v_stalls v_claimMany v_taped v_place0 v_length0 v_fault v_number0 v_open v_codeMany v_waiting v_saidMany v_clauses v_newMany v_newStalls v_lines v_salesNow v_outNow v_isKept v_keptStalls v_now v_aside v_kept v_oneOf v_otherOf v_signOf v_byOf v_tape v_said v_waitsAt v_saidLetter v_saidFrom v_saidHalf v_saidTo v_codes v_clauseOf v_codeFrom v_codeHalf v_codeTo v_stack v_facts v_newOne v_newOther v_newSign v_newBy v_moreOf v_firstOf toldOf_2 mostOf_25 v_mostThen v_sumTo v_rowFrom v_ordersOf v_lessOf v_weightOf v_rowNow v_slowRow v_fastRow v_lineNow v_firstLine v_freeBy v_heldBy v_heightOf v_upTo v_downTo v_oftenOf v_newUpper v_newLower)) rfl ?_
        refine g_iinc X (lv' := [(2, vI (x2_7 + 1)), (0, .ref h)]) dX10_laysMost_26 1 rfl (by decide) rfl ?_
        refine g_goto X (tgt := 7) dX10_laysMost_29 (by decide) ?_
        refine g_lv [1, 0] rfl ?_
        exact ih7 (x2_7 + 1) mostOf_25 r_mostOf_25 (by first | assumption | omega) (by intro c hc; first | (exfalso; omega) | (rcases (show (c : Int) < x2_7 ∨ c = (x2_7).toNat by omega) with h | h; (rw [e25, updZ_n _ _ (by omega)]; exact w7_1 c h); (rw [e25, h, updZ_s, e24]; exact kp0_2 _ (by omega)))) (by omega)
  refine g_lv [1, 0] rfl ?_
  exact L7 _ 0 v_mostOf r_v_mostOf (by first | assumption | omega) (by intro c hc; first | (exfalso; omega) | (rcases (show (c : Int) < x2_7 ∨ c = (x2_7).toNat by omega) with h | h; (rw [e25, updZ_n _ _ (by omega)]; exact w7_1 c h); (rw [e25, h, updZ_s, e24]; exact kp0_2 _ (by omega)))) (Nat.lt_succ_self _)
set_option maxHeartbeats 4000000 in
set_option maxRecDepth 100000 in
theorem c_X10_canBeSo (l : Launch) (D : va_G) (cI cB cJ : ClassId) (h : Nat) (q : Nat → Nat) {v_stalls v_claimMany v_taped v_place0 v_length0 v_fault v_number0 v_open v_codeMany v_waiting v_saidMany v_clauses v_newMany v_newStalls v_lines v_salesNow v_outNow v_isKept v_keptStalls : Int} {v_now v_aside v_kept v_oneOf v_otherOf v_signOf v_byOf v_tape v_said v_waitsAt v_saidLetter v_saidFrom v_saidHalf v_saidTo v_codes v_clauseOf v_codeFrom v_codeHalf v_codeTo v_stack v_facts v_newOne v_newOther v_newSign v_newBy v_moreOf v_firstOf v_toldOf v_mostOf v_mostThen v_sumTo v_rowFrom v_ordersOf v_lessOf v_weightOf v_rowNow v_slowRow v_fastRow v_lineNow v_firstLine v_freeBy v_heldBy v_heightOf v_upTo v_downTo v_oftenOf v_newUpper v_newLower : Nat → Int} (r_v_mostOf : RA (-1000000) 1000000 v_mostOf) : CtI l yX10_canBeSo cX10_canBeSo 2 (some .boolean) ⟨0, 0, 0, 0⟩ D (TY cI cB cJ) (wX10 cI cB cJ h q v_stalls v_claimMany v_taped v_place0 v_length0 v_fault v_number0 v_open v_codeMany v_waiting v_saidMany v_clauses v_newMany v_newStalls v_lines v_salesNow v_outNow v_isKept v_keptStalls v_now v_aside v_kept v_oneOf v_otherOf v_signOf v_byOf v_tape v_said v_waitsAt v_saidLetter v_saidFrom v_saidHalf v_saidTo v_codes v_clauseOf v_codeFrom v_codeHalf v_codeTo v_stack v_facts v_newOne v_newOther v_newSign v_newBy v_moreOf v_firstOf v_toldOf v_mostOf v_mostThen v_sumTo v_rowFrom v_ordersOf v_lessOf v_weightOf v_rowNow v_slowRow v_fastRow v_lineNow v_firstLine v_freeBy v_heldBy v_heightOf v_upTo v_downTo v_oftenOf v_newUpper v_newLower) [.ref h] (fun z ws' => (z = 0 ∨ z = 1) ∧ ((z = 1 ∧ ∀ t : Nat, t < 12 → 0 ≤ v_mostOf (13 * t)) ∨ (z = 0 ∧ ∃ t : Nat, t < 12 ∧ v_mostOf (13 * t) < 0)) ∧ (ws' = (wX10 cI cB cJ h q v_stalls v_claimMany v_taped v_place0 v_length0 v_fault v_number0 v_open v_codeMany v_waiting v_saidMany v_clauses v_newMany v_newStalls v_lines v_salesNow v_outNow v_isKept v_keptStalls v_now v_aside v_kept v_oneOf v_otherOf v_signOf v_byOf v_tape v_said v_waitsAt v_saidLetter v_saidFrom v_saidHalf v_saidTo v_codes v_clauseOf v_codeFrom v_codeHalf v_codeTo v_stack v_facts v_newOne v_newOther v_newSign v_newBy v_moreOf v_firstOf v_toldOf v_mostOf v_mostThen v_sumTo v_rowFrom v_ordersOf v_lessOf v_weightOf v_rowNow v_slowRow v_fastRow v_lineNow v_firstLine v_freeBy v_heldBy v_heightOf v_upTo v_downTo v_oftenOf v_newUpper v_newLower))) := by
  refine hdrZ (own := RX10) rfl (by decide +kernel) (Nat.le_of_ble_eq_true rfl) ?_
  intro p e s m args below meth c Q A X hQ
  refine g_lvE (lv2 := [(0, .ref h)]) rfl ?_
  refine g_iconst X dX10_canBeSo_0 ?_
  refine g_istore_n X (lv' := [(1, vI 0), (0, .ref h)]) dX10_canBeSo_1 (by decide) rfl ?_
  have L2 : ∀ (n : Nat) (x1_2 : Int), (0 ≤ x1_2 ∧ x1_2 ≤ 12) → (∀ t : Nat, (t : Int) < x1_2 → 0 ≤ v_mostOf (13 * t)) → (12 - x1_2).toNat < n → GG p l e ⟨0, 0, 0, 0⟩ s m args below meth c 0 0 Q D A s.heap 2 (wX10 cI cB cJ h q v_stalls v_claimMany v_taped v_place0 v_length0 v_fault v_number0 v_open v_codeMany v_waiting v_saidMany v_clauses v_newMany v_newStalls v_lines v_salesNow v_outNow v_isKept v_keptStalls v_now v_aside v_kept v_oneOf v_otherOf v_signOf v_byOf v_tape v_said v_waitsAt v_saidLetter v_saidFrom v_saidHalf v_saidTo v_codes v_clauseOf v_codeFrom v_codeHalf v_codeTo v_stack v_facts v_newOne v_newOther v_newSign v_newBy v_moreOf v_firstOf v_toldOf v_mostOf v_mostThen v_sumTo v_rowFrom v_ordersOf v_lessOf v_weightOf v_rowNow v_slowRow v_fastRow v_lineNow v_firstLine v_freeBy v_heldBy v_heightOf v_upTo v_downTo v_oftenOf v_newUpper v_newLower) 2 [(0, .ref h), (1, vI x1_2)] [] := by
    intro n
    induction n with
    | zero => intros; exfalso; omega
    | succ n ih2 =>
      intro x1_2 w2_0 w2_1 wm2
      refine g_iload_n X dX10_canBeSo_2 1 rfl ?_
      refine g_bipush X (z := 12) dX10_canBeSo_3 (by decide) ?_
      refine g_icmp_ge X (tgt := 30) dX10_canBeSo_5 (by decide) (by omega) (by omega) (fun c5 => ?_) (fun c5 => ?_)
      · refine g_iconst X dX10_canBeSo_30 ?_
        exact hQ _ _ _ _ dX10_canBeSo_31 ⟨by omega, ⟨(by first | exact Or.inl ⟨rfl, fun t ht => w2_1 t (by omega)⟩ | exact Or.inr ⟨rfl, (x1_2).toNat, by omega, by omega⟩), rfl⟩⟩
      · refine g_aload_n X dX10_canBeSo_8 0 rfl ?_
        refine gM_get X 0 rfl 41 (by decide) uw1220 rfl dX10_canBeSo_9 ?_
        refine g_bipush X (z := 12) dX10_canBeSo_12 (by decide) ?_
        refine g_iload_n X dX10_canBeSo_14 1 rfl ?_
        refine g_imul X dX10_canBeSo_15 ?_
        refine g_iload_n X dX10_canBeSo_16 1 rfl ?_
        refine g_iadd X dX10_canBeSo_17 ?_
        refine g_iald X 29 0 rfl rfl (by omega) (by decide) dX10_canBeSo_18 (fun t18 e18 => ?_)
        have r18 := r_v_mostOf ((12 * x1_2) + x1_2 : Int).toNat; rw [← e18] at r18
        have h18 : t18 = v_mostOf (13 * (x1_2).toNat) := by rw [e18]; congr 1; omega
        refine g_if_ge X (tgt := 24) dX10_canBeSo_19 (by decide) (by omega) (fun c19 => ?_) (fun c19 => ?_)
        · refine g_iinc X (lv' := [(1, vI (x1_2 + 1)), (0, .ref h)]) dX10_canBeSo_24 1 rfl (by decide) rfl ?_
          refine g_goto X (tgt := 2) dX10_canBeSo_27 (by decide) ?_
          refine g_lv [1, 0] rfl ?_
          exact ih2 (x1_2 + 1) (by first | assumption | omega) (by intro t ht; first | (exfalso; omega) | (rcases (show (t : Int) < x1_2 ∨ t = (x1_2).toNat by omega) with h | h; exact w2_1 t h; (rw [h]; omega))) (by omega)
        · refine g_iconst X dX10_canBeSo_22 ?_
          exact hQ _ _ _ _ dX10_canBeSo_23 ⟨by omega, ⟨(by first | exact Or.inl ⟨rfl, fun t ht => w2_1 t (by omega)⟩ | exact Or.inr ⟨rfl, (x1_2).toNat, by omega, by omega⟩), rfl⟩⟩
  refine g_lv [1, 0] rfl ?_
  exact L2 _ 0 (by first | assumption | omega) (by intro t ht; first | (exfalso; omega) | (rcases (show (t : Int) < x1_2 ∨ t = (x1_2).toNat by omega) with h | h; exact w2_1 t h; (rw [h]; omega))) (Nat.lt_succ_self _)
set_option maxHeartbeats 4000000 in
set_option maxRecDepth 100000 in
theorem c_X10_bound (l : Launch) (D : va_G) (cI cB cJ : ClassId) (h : Nat) (q : Nat → Nat) {v_stalls v_claimMany v_taped v_place0 v_length0 v_fault v_number0 v_open v_codeMany v_waiting v_saidMany v_clauses v_newMany v_newStalls v_lines v_salesNow v_outNow v_isKept v_keptStalls : Int} {v_now v_aside v_kept v_oneOf v_otherOf v_signOf v_byOf v_tape v_said v_waitsAt v_saidLetter v_saidFrom v_saidHalf v_saidTo v_codes v_clauseOf v_codeFrom v_codeHalf v_codeTo v_stack v_facts v_newOne v_newOther v_newSign v_newBy v_moreOf v_firstOf v_toldOf v_mostOf v_mostThen v_sumTo v_rowFrom v_ordersOf v_lessOf v_weightOf v_rowNow v_slowRow v_fastRow v_lineNow v_firstLine v_freeBy v_heldBy v_heightOf v_upTo v_downTo v_oftenOf v_newUpper v_newLower : Nat → Int} {p0 p1 : Int} (kr_v_claimMany : 0 ≤ v_claimMany ∧ v_claimMany ≤ 40) (r_v_oneOf : RA 0 11 v_oneOf) (r_v_otherOf : RA 0 11 v_otherOf) (r_v_signOf : RA (-2147483648) 2147483647 v_signOf) (r_v_byOf : RA (-9999) 9999 v_byOf) (r_v_toldOf : RA (-9999) 1000000 v_toldOf) (r_v_mostOf : RA (-1000000) 1000000 v_mostOf) (hp0 : IR p0) (hp1 : IR p1) (hp2 : ∀ j : Nat, (j : Int) < v_claimMany → v_oneOf j ≠ v_otherOf j) : CtI l yX10_bound cX10_bound 3 (some .int) ⟨4, 0, 0, 91⟩ D (TY cI cB cJ) (wX10 cI cB cJ h q v_stalls v_claimMany v_taped v_place0 v_length0 v_fault v_number0 v_open v_codeMany v_waiting v_saidMany v_clauses v_newMany v_newStalls v_lines v_salesNow v_outNow v_isKept v_keptStalls v_now v_aside v_kept v_oneOf v_otherOf v_signOf v_byOf v_tape v_said v_waitsAt v_saidLetter v_saidFrom v_saidHalf v_saidTo v_codes v_clauseOf v_codeFrom v_codeHalf v_codeTo v_stack v_facts v_newOne v_newOther v_newSign v_newBy v_moreOf v_firstOf v_toldOf v_mostOf v_mostThen v_sumTo v_rowFrom v_ordersOf v_lessOf v_weightOf v_rowNow v_slowRow v_fastRow v_lineNow v_firstLine v_freeBy v_heldBy v_heightOf v_upTo v_downTo v_oftenOf v_newUpper v_newLower) [.ref h, vI p0, vI p1] (fun z ws' => ∃ n_toldOf : Nat → Int, ∃ n_mostOf : Nat → Int, (RA (-9999) 1000000 n_toldOf) ∧ (RA (-1000000) 1000000 n_mostOf) ∧ (IR z) ∧ (((0 ≤ p0 ∧ p0 ≤ 11 ∧ 0 ≤ p1 ∧ p1 ≤ 11) ∧ (okZ (toF v_oneOf v_otherOf v_signOf v_byOf (-1) v_claimMany.toNat)) = 1 ∧ z = (fwN (toF v_oneOf v_otherOf v_signOf v_byOf (-1) v_claimMany.toNat) 12) (12 * p0.toNat + p1.toNat)) ∨ (¬ ((0 ≤ p0 ∧ p0 ≤ 11 ∧ 0 ≤ p1 ∧ p1 ≤ 11) ∧ (okZ (toF v_oneOf v_otherOf v_signOf v_byOf (-1) v_claimMany.toNat)) = 1) ∧ z = -1000000)) ∧ (ws' = (wX10 cI cB cJ h q v_stalls v_claimMany v_taped v_place0 v_length0 v_fault v_number0 v_open v_codeMany v_waiting v_saidMany v_clauses v_newMany v_newStalls v_lines v_salesNow v_outNow v_isKept v_keptStalls v_now v_aside v_kept v_oneOf v_otherOf v_signOf v_byOf v_tape v_said v_waitsAt v_saidLetter v_saidFrom v_saidHalf v_saidTo v_codes v_clauseOf v_codeFrom v_codeHalf v_codeTo v_stack v_facts v_newOne v_newOther v_newSign v_newBy v_moreOf v_firstOf n_toldOf n_mostOf v_mostThen v_sumTo v_rowFrom v_ordersOf v_lessOf v_weightOf v_rowNow v_slowRow v_fastRow v_lineNow v_firstLine v_freeBy v_heldBy v_heightOf v_upTo v_downTo v_oftenOf v_newUpper v_newLower))) := by
  refine hdrI (own := RX10) rfl (by decide +kernel) (Nat.le_of_ble_eq_true rfl) ?_
  intro p e s m args below meth c Q A X hQ
  refine g_lvE (lv2 := [(0, .ref h), (1, vI p0), (2, vI p1)]) rfl ?_
  refine g_iload_n X dX10_bound_0 1 rfl ?_
  refine g_callSIE X (c_X10_isThing l D cI cB cJ (p0 := p0) (by first | assumption | omega)) cv_X10_isThing uw1488 ⟨rfl, rfl, by decide, by decide⟩ rfl rfl (Nat.le_of_ble_eq_true rfl) ⟨Nat.zero_le _, Nat.zero_le _⟩ dX10_bound_1 (fun t1 ws1 k1 => ?_)
  obtain ⟨kb_1, ⟨kp0_1, rfl⟩⟩ := k1
  refine g_if_eq X (tgt := 14) dX10_bound_4 (by decide) (by omega) (fun c4 => ?_) (fun c4 => ?_)
  · refine g_ldcw X (z := (-1000000)) dX10_bound_14 uw1519 (by decide) ?_
    exact hQ _ _ _ _ dX10_bound_17 ⟨v_toldOf, v_mostOf, r_v_toldOf, r_v_mostOf, (by first | assumption | omega), (by first | assumption | omega), rfl⟩
  · refine g_iload_n X dX10_bound_7 2 rfl ?_
    refine g_callSIE X (c_X10_isThing l D cI cB cJ (p0 := p1) (by first | assumption | omega)) cv_X10_isThing uw1488 ⟨rfl, rfl, by decide, by decide⟩ rfl rfl (Nat.le_of_ble_eq_true rfl) ⟨Nat.zero_le _, Nat.zero_le _⟩ dX10_bound_8 (fun t8 ws8 k8 => ?_)
    obtain ⟨kb_8, ⟨kp0_8, rfl⟩⟩ := k8
    refine g_if_ne X (tgt := 18) dX10_bound_11 (by decide) (by omega) (fun c11 => ?_) (fun c11 => ?_)
    · refine g_aload_n X dX10_bound_18 0 rfl ?_
      refine g_iconst X dX10_bound_19 ?_
      refine g_callVV0 X (c_X10_laysMost l D cI cB cJ h q (p0 := (-1)) (by omega) r_v_oneOf r_v_otherOf r_v_signOf r_v_byOf r_v_toldOf r_v_mostOf (by first | assumption | omega) (by first | assumption | omega)) cv_X10_laysMost uw1538 ⟨rfl, rfl, by decide, by decide⟩ 0 rfl rfl rfl rfl rfl (Nat.le_of_ble_eq_true rfl) ⟨Nat.zero_le _, Nat.zero_le _⟩ dX10_bound_20 (fun ws20 k20 => ?_)
      obtain ⟨toldOf_20, mostOf_20, r_toldOf_20, r_mostOf_20, kp0_20, kp1_20, rfl⟩ := k20
      refine g_aload_n X dX10_bound_23 0 rfl ?_
      refine g_callVI0 X (c_X10_canBeSo l D cI cB cJ h q  r_mostOf_20) cv_X10_canBeSo uw1557 ⟨rfl, rfl, by decide, by decide⟩ 0 rfl rfl rfl rfl rfl (Nat.le_of_ble_eq_true rfl) ⟨Nat.zero_le _, Nat.zero_le _⟩ dX10_bound_24 (fun t24 ws24 k24 => ?_)
      obtain ⟨kb_24, ⟨kp0_24, rfl⟩⟩ := k24
      have hcan : (t24 = 1 ∧ okN (toF v_oneOf v_otherOf v_signOf v_byOf (-1) v_claimMany.toNat) 12 ∧ ∀ c : Nat, c < 144 → mostOf_20 c = fwN (toF v_oneOf v_otherOf v_signOf v_byOf (-1) v_claimMany.toNat) 12 c) ∨ (t24 = 0 ∧ ¬ okN (toF v_oneOf v_otherOf v_signOf v_byOf (-1) v_claimMany.toNat) 12) := can_e kp1_20 kp0_24
      have hoz := okZ_e (toF v_oneOf v_otherOf v_signOf v_byOf (-1) v_claimMany.toNat)
      have hok : t24 = okZ (toF v_oneOf v_otherOf v_signOf v_byOf (-1) v_claimMany.toNat) := by rcases hcan with ⟨g1, g2, _⟩ | ⟨g1, g2⟩; (rcases hoz with ⟨k1, k2⟩ | ⟨k1, k2⟩; omega; exact absurd g2 k1); (rcases hoz with ⟨k1, k2⟩ | ⟨k1, k2⟩; exact absurd k1 g2; omega)
      have hM9 : t24 = 1 → okN (toF v_oneOf v_otherOf v_signOf v_byOf (-1) v_claimMany.toNat) 12 ∧ ∀ c : Nat, c < 144 → mostOf_20 c = fwN (toF v_oneOf v_otherOf v_signOf v_byOf (-1) v_claimMany.toNat) 12 c := fun h => (hcan.resolve_right (fun g => by omega)).2
      clear hcan hoz kp1_20 kp0_24
      refine g_if_eq X (tgt := 39) dX10_bound_27 (by decide) (by omega) (fun c27 => ?_) (fun c27 => ?_)
      · refine g_ldcw X (z := (-1000000)) dX10_bound_39 uw1519 (by decide) ?_
        try (have hm : (-1000000) = fwN (toF v_oneOf v_otherOf v_signOf v_byOf (-1) v_claimMany.toNat) 12 (12 * p0.toNat + p1.toNat) := by rw [kp1_33]; exact hM _ (by omega))
        exact hQ _ _ _ _ dX10_bound_42 ⟨toldOf_20, mostOf_20, r_toldOf_20, r_mostOf_20, (by first | assumption | omega), (by first | assumption | omega), rfl⟩
      · have hM := (hM9 (by omega)).2
        refine g_aload_n X dX10_bound_30 0 rfl ?_
        refine g_iload_n X dX10_bound_31 1 rfl ?_
        refine g_iload_n X dX10_bound_32 2 rfl ?_
        refine g_callVI0 X (c_X10_most l D cI cB cJ h q (p0 := p0) (p1 := p1) r_mostOf_20 (by first | assumption | omega) (by first | assumption | omega) (by first | assumption | omega) (by first | assumption | omega)) cv_X10_most uw1561 ⟨rfl, rfl, by decide, by decide⟩ 0 rfl rfl rfl rfl rfl (Nat.le_of_ble_eq_true rfl) ⟨Nat.zero_le _, Nat.zero_le _⟩ dX10_bound_33 (fun t33 ws33 k33 => ?_)
        obtain ⟨kp0_33, kp1_33, rfl⟩ := k33
        refine g_goto X (tgt := 42) dX10_bound_36 (by decide) ?_
        try (have hm : t33 = fwN (toF v_oneOf v_otherOf v_signOf v_byOf (-1) v_claimMany.toNat) 12 (12 * p0.toNat + p1.toNat) := by rw [kp1_33]; exact hM _ (by omega))
        exact hQ _ _ _ _ dX10_bound_42 ⟨toldOf_20, mostOf_20, r_toldOf_20, r_mostOf_20, (by first | assumption | omega), (by first | assumption | omega), rfl⟩
    · refine g_ldcw X (z := (-1000000)) dX10_bound_14 uw1519 (by decide) ?_
      exact hQ _ _ _ _ dX10_bound_17 ⟨v_toldOf, v_mostOf, r_v_toldOf, r_v_mostOf, (by first | assumption | omega), (by first | assumption | omega), rfl⟩
set_option maxHeartbeats 4000000 in
set_option maxRecDepth 100000 in
theorem c_X10_moreThan (l : Launch) (D : va_G) (cI cB cJ : ClassId) (h : Nat) (q : Nat → Nat) {v_stalls v_claimMany v_taped v_place0 v_length0 v_fault v_number0 v_open v_codeMany v_waiting v_saidMany v_clauses v_newMany v_newStalls v_lines v_salesNow v_outNow v_isKept v_keptStalls : Int} {v_now v_aside v_kept v_oneOf v_otherOf v_signOf v_byOf v_tape v_said v_waitsAt v_saidLetter v_saidFrom v_saidHalf v_saidTo v_codes v_clauseOf v_codeFrom v_codeHalf v_codeTo v_stack v_facts v_newOne v_newOther v_newSign v_newBy v_moreOf v_firstOf v_toldOf v_mostOf v_mostThen v_sumTo v_rowFrom v_ordersOf v_lessOf v_weightOf v_rowNow v_slowRow v_fastRow v_lineNow v_firstLine v_freeBy v_heldBy v_heightOf v_upTo v_downTo v_oftenOf v_newUpper v_newLower : Nat → Int} {p0 : Int} (r_v_mostOf : RA (-1000000) 1000000 v_mostOf) (hp0 : IR p0) (hp1 : 0 ≤ p0 ∧ p0 ≤ 11) : CtI l yX10_moreThan cX10_moreThan 4 (some .int) ⟨1, 0, 0, 22⟩ D (TY cI cB cJ) (wX10 cI cB cJ h q v_stalls v_claimMany v_taped v_place0 v_length0 v_fault v_number0 v_open v_codeMany v_waiting v_saidMany v_clauses v_newMany v_newStalls v_lines v_salesNow v_outNow v_isKept v_keptStalls v_now v_aside v_kept v_oneOf v_otherOf v_signOf v_byOf v_tape v_said v_waitsAt v_saidLetter v_saidFrom v_saidHalf v_saidTo v_codes v_clauseOf v_codeFrom v_codeHalf v_codeTo v_stack v_facts v_newOne v_newOther v_newSign v_newBy v_moreOf v_firstOf v_toldOf v_mostOf v_mostThen v_sumTo v_rowFrom v_ordersOf v_lessOf v_weightOf v_rowNow v_slowRow v_fastRow v_lineNow v_firstLine v_freeBy v_heldBy v_heightOf v_upTo v_downTo v_oftenOf v_newUpper v_newLower) [.ref h, vI p0] (fun z ws' => (0 ≤ z ∧ z ≤ 4095) ∧ (z = mtB v_mostOf p0.toNat 12) ∧ (ws' = (wX10 cI cB cJ h q v_stalls v_claimMany v_taped v_place0 v_length0 v_fault v_number0 v_open v_codeMany v_waiting v_saidMany v_clauses v_newMany v_newStalls v_lines v_salesNow v_outNow v_isKept v_keptStalls v_now v_aside v_kept v_oneOf v_otherOf v_signOf v_byOf v_tape v_said v_waitsAt v_saidLetter v_saidFrom v_saidHalf v_saidTo v_codes v_clauseOf v_codeFrom v_codeHalf v_codeTo v_stack v_facts v_newOne v_newOther v_newSign v_newBy v_moreOf v_firstOf v_toldOf v_mostOf v_mostThen v_sumTo v_rowFrom v_ordersOf v_lessOf v_weightOf v_rowNow v_slowRow v_fastRow v_lineNow v_firstLine v_freeBy v_heldBy v_heightOf v_upTo v_downTo v_oftenOf v_newUpper v_newLower))) := by
  refine hdrI (own := RX10) rfl (by decide +kernel) (Nat.le_of_ble_eq_true rfl) ?_
  intro p e s m args below meth c Q A X hQ
  refine g_lvE (lv2 := [(0, .ref h), (1, vI p0)]) rfl ?_
  refine g_iconst X dX10_moreThan_0 ?_
  refine g_istore_n X (lv' := [(2, vI 0), (0, .ref h), (1, vI p0)]) dX10_moreThan_1 (by decide) rfl ?_
  refine g_iconst X dX10_moreThan_2 ?_
  refine g_istore_n X (lv' := [(3, vI 0), (2, vI 0), (0, .ref h), (1, vI p0)]) dX10_moreThan_3 (by decide) rfl ?_
  have h0 : mtB v_mostOf p0.toNat (0 : Int).toNat = 0 := rfl
  have L4 : ∀ (n : Nat) (x2_4 : Int) (x3_4 : Int), (0 ≤ x3_4 ∧ x3_4 ≤ 12) → (0 ≤ x2_4 ∧ x2_4 ≤ 4095) → (x2_4 = mtB v_mostOf p0.toNat (x3_4).toNat) → (12 - x3_4).toNat < n → GG p l e ⟨1, 0, 0, 22⟩ s m args below meth c 0 0 Q D A s.heap 4 (wX10 cI cB cJ h q v_stalls v_claimMany v_taped v_place0 v_length0 v_fault v_number0 v_open v_codeMany v_waiting v_saidMany v_clauses v_newMany v_newStalls v_lines v_salesNow v_outNow v_isKept v_keptStalls v_now v_aside v_kept v_oneOf v_otherOf v_signOf v_byOf v_tape v_said v_waitsAt v_saidLetter v_saidFrom v_saidHalf v_saidTo v_codes v_clauseOf v_codeFrom v_codeHalf v_codeTo v_stack v_facts v_newOne v_newOther v_newSign v_newBy v_moreOf v_firstOf v_toldOf v_mostOf v_mostThen v_sumTo v_rowFrom v_ordersOf v_lessOf v_weightOf v_rowNow v_slowRow v_fastRow v_lineNow v_firstLine v_freeBy v_heldBy v_heightOf v_upTo v_downTo v_oftenOf v_newUpper v_newLower) 4 [(0, .ref h), (1, vI p0), (2, vI x2_4), (3, vI x3_4)] [] := by
    intro n
    induction n with
    | zero => intros; exfalso; omega
    | succ n ih4 =>
      intro x2_4 x3_4 w4_0 w4_1 w4_2 wm4
      have hS := mtB_s v_mostOf p0.toNat (x := x3_4) (by omega)
      refine g_iload_n X dX10_moreThan_4 3 rfl ?_
      refine g_bipush X (z := 12) dX10_moreThan_5 (by decide) ?_
      refine g_icmp_ge X (tgt := 31) dX10_moreThan_7 (by decide) (by omega) (by omega) (fun c7 => ?_) (fun c7 => ?_)
      · refine g_iload_n X dX10_moreThan_31 2 rfl ?_
        have hx : x3_4 = 12 := by omega
        have hF : x2_4 = mtB v_mostOf p0.toNat 12 := by rw [w4_2, hx]; rfl
        exact hQ _ _ _ _ dX10_moreThan_32 ⟨(by first | assumption | omega), (by first | assumption | omega), rfl⟩
      · refine g_aload_n X dX10_moreThan_10 0 rfl ?_
        refine g_iload_n X dX10_moreThan_11 1 rfl ?_
        refine g_iload_n X dX10_moreThan_12 3 rfl ?_
        refine g_callVI0 X (c_X10_most l D cI cB cJ h q (p0 := p0) (p1 := x3_4) r_v_mostOf (by first | assumption | omega) (by first | assumption | omega) (by first | assumption | omega) (by first | assumption | omega)) cv_X10_most uw1561 ⟨rfl, rfl, by decide, by decide⟩ 0 rfl rfl rfl rfl rfl (Nat.le_of_ble_eq_true rfl) ⟨Nat.zero_le _, Nat.zero_le _⟩ dX10_moreThan_13 (fun t13 ws13 k13 => ?_)
        obtain ⟨kp0_13, kp1_13, rfl⟩ := k13
        refine g_if_ge X (tgt := 25) dX10_moreThan_16 (by decide) (by omega) (fun c16 => ?_) (fun c16 => ?_)
        · refine g_iinc X (lv' := [(3, vI (x3_4 + 1)), (0, .ref h), (1, vI p0), (2, vI x2_4)]) dX10_moreThan_25 3 rfl (by decide) rfl ?_
          refine g_goto X (tgt := 4) dX10_moreThan_28 (by decide) ?_
          refine g_lv [1, 2, 3, 0] rfl ?_
          exact ih4 x2_4 (x3_4 + 1) (by first | assumption | omega) (by first | assumption | omega) (by first | omega | (rw [e23, e22, w4_2]; omega)) (by omega)
        · refine g_iload_n X dX10_moreThan_19 2 rfl ?_
          refine g_iconst X dX10_moreThan_20 ?_
          refine g_iload_n X dX10_moreThan_21 3 rfl ?_
          refine g_ishl X dX10_moreThan_22 ?_
          refine g_nm (fun t22 e22 => ?_)
          have r22 := z_shl1_11 x3_4 (by omega); rw [← e22] at r22
          refine g_ior X dX10_moreThan_23 ?_
          refine g_nm (fun t23 e23 => ?_)
          have r23 := z_ior_4095 x2_4 t22 (by omega) (by omega); rw [← e23] at r23
          refine g_istore_n X (lv' := [(2, vI t23), (0, .ref h), (1, vI p0), (3, vI x3_4)]) dX10_moreThan_24 (by decide) rfl ?_
          refine g_iinc X (lv' := [(3, vI (x3_4 + 1)), (2, vI t23), (0, .ref h), (1, vI p0)]) dX10_moreThan_25 3 rfl (by decide) rfl ?_
          refine g_goto X (tgt := 4) dX10_moreThan_28 (by decide) ?_
          refine g_lv [2, 3, 1, 0] rfl ?_
          exact ih4 t23 (x3_4 + 1) (by first | assumption | omega) (by first | assumption | omega) (by first | omega | (rw [e23, e22, w4_2]; omega)) (by omega)
  refine g_lv [2, 3, 1, 0] rfl ?_
  exact L4 _ 0 0 (by first | assumption | omega) (by first | assumption | omega) (by first | omega | (rw [e23, e22, w4_2]; omega)) (Nat.lt_succ_self _)
set_option maxHeartbeats 4000000 in
set_option maxRecDepth 100000 in
theorem c_X10_lessThan (l : Launch) (D : va_G) (cI cB cJ : ClassId) (h : Nat) (q : Nat → Nat) {v_stalls v_claimMany v_taped v_place0 v_length0 v_fault v_number0 v_open v_codeMany v_waiting v_saidMany v_clauses v_newMany v_newStalls v_lines v_salesNow v_outNow v_isKept v_keptStalls : Int} {v_now v_aside v_kept v_oneOf v_otherOf v_signOf v_byOf v_tape v_said v_waitsAt v_saidLetter v_saidFrom v_saidHalf v_saidTo v_codes v_clauseOf v_codeFrom v_codeHalf v_codeTo v_stack v_facts v_newOne v_newOther v_newSign v_newBy v_moreOf v_firstOf v_toldOf v_mostOf v_mostThen v_sumTo v_rowFrom v_ordersOf v_lessOf v_weightOf v_rowNow v_slowRow v_fastRow v_lineNow v_firstLine v_freeBy v_heldBy v_heightOf v_upTo v_downTo v_oftenOf v_newUpper v_newLower : Nat → Int} {p0 : Int} (r_v_mostOf : RA (-1000000) 1000000 v_mostOf) (hp0 : IR p0) (hp1 : 0 ≤ p0 ∧ p0 ≤ 11) : CtI l yX10_lessThan cX10_lessThan 4 (some .int) ⟨1, 0, 0, 22⟩ D (TY cI cB cJ) (wX10 cI cB cJ h q v_stalls v_claimMany v_taped v_place0 v_length0 v_fault v_number0 v_open v_codeMany v_waiting v_saidMany v_clauses v_newMany v_newStalls v_lines v_salesNow v_outNow v_isKept v_keptStalls v_now v_aside v_kept v_oneOf v_otherOf v_signOf v_byOf v_tape v_said v_waitsAt v_saidLetter v_saidFrom v_saidHalf v_saidTo v_codes v_clauseOf v_codeFrom v_codeHalf v_codeTo v_stack v_facts v_newOne v_newOther v_newSign v_newBy v_moreOf v_firstOf v_toldOf v_mostOf v_mostThen v_sumTo v_rowFrom v_ordersOf v_lessOf v_weightOf v_rowNow v_slowRow v_fastRow v_lineNow v_firstLine v_freeBy v_heldBy v_heightOf v_upTo v_downTo v_oftenOf v_newUpper v_newLower) [.ref h, vI p0] (fun z ws' => (0 ≤ z ∧ z ≤ 4095) ∧ (z = ltB v_mostOf p0.toNat 12) ∧ (ws' = (wX10 cI cB cJ h q v_stalls v_claimMany v_taped v_place0 v_length0 v_fault v_number0 v_open v_codeMany v_waiting v_saidMany v_clauses v_newMany v_newStalls v_lines v_salesNow v_outNow v_isKept v_keptStalls v_now v_aside v_kept v_oneOf v_otherOf v_signOf v_byOf v_tape v_said v_waitsAt v_saidLetter v_saidFrom v_saidHalf v_saidTo v_codes v_clauseOf v_codeFrom v_codeHalf v_codeTo v_stack v_facts v_newOne v_newOther v_newSign v_newBy v_moreOf v_firstOf v_toldOf v_mostOf v_mostThen v_sumTo v_rowFrom v_ordersOf v_lessOf v_weightOf v_rowNow v_slowRow v_fastRow v_lineNow v_firstLine v_freeBy v_heldBy v_heightOf v_upTo v_downTo v_oftenOf v_newUpper v_newLower))) := by
  refine hdrI (own := RX10) rfl (by decide +kernel) (Nat.le_of_ble_eq_true rfl) ?_
  intro p e s m args below meth c Q A X hQ
  refine g_lvE (lv2 := [(0, .ref h), (1, vI p0)]) rfl ?_
  refine g_iconst X dX10_lessThan_0 ?_
  refine g_istore_n X (lv' := [(2, vI 0), (0, .ref h), (1, vI p0)]) dX10_lessThan_1 (by decide) rfl ?_
  refine g_iconst X dX10_lessThan_2 ?_
  refine g_istore_n X (lv' := [(3, vI 0), (2, vI 0), (0, .ref h), (1, vI p0)]) dX10_lessThan_3 (by decide) rfl ?_
  have h0 : ltB v_mostOf p0.toNat (0 : Int).toNat = 0 := rfl
  have L4 : ∀ (n : Nat) (x2_4 : Int) (x3_4 : Int), (0 ≤ x3_4 ∧ x3_4 ≤ 12) → (0 ≤ x2_4 ∧ x2_4 ≤ 4095) → (x2_4 = ltB v_mostOf p0.toNat (x3_4).toNat) → (12 - x3_4).toNat < n → GG p l e ⟨1, 0, 0, 22⟩ s m args below meth c 0 0 Q D A s.heap 4 (wX10 cI cB cJ h q v_stalls v_claimMany v_taped v_place0 v_length0 v_fault v_number0 v_open v_codeMany v_waiting v_saidMany v_clauses v_newMany v_newStalls v_lines v_salesNow v_outNow v_isKept v_keptStalls v_now v_aside v_kept v_oneOf v_otherOf v_signOf v_byOf v_tape v_said v_waitsAt v_saidLetter v_saidFrom v_saidHalf v_saidTo v_codes v_clauseOf v_codeFrom v_codeHalf v_codeTo v_stack v_facts v_newOne v_newOther v_newSign v_newBy v_moreOf v_firstOf v_toldOf v_mostOf v_mostThen v_sumTo v_rowFrom v_ordersOf v_lessOf v_weightOf v_rowNow v_slowRow v_fastRow v_lineNow v_firstLine v_freeBy v_heldBy v_heightOf v_upTo v_downTo v_oftenOf v_newUpper v_newLower) 4 [(0, .ref h), (1, vI p0), (2, vI x2_4), (3, vI x3_4)] [] := by
    intro n
    induction n with
    | zero => intros; exfalso; omega
    | succ n ih4 =>
      intro x2_4 x3_4 w4_0 w4_1 w4_2 wm4
      have hS := ltB_s v_mostOf p0.toNat (x := x3_4) (by omega)
      refine g_iload_n X dX10_lessThan_4 3 rfl ?_
      refine g_bipush X (z := 12) dX10_lessThan_5 (by decide) ?_
      refine g_icmp_ge X (tgt := 31) dX10_lessThan_7 (by decide) (by omega) (by omega) (fun c7 => ?_) (fun c7 => ?_)
      · refine g_iload_n X dX10_lessThan_31 2 rfl ?_
        have hx : x3_4 = 12 := by omega
        have hF : x2_4 = ltB v_mostOf p0.toNat 12 := by rw [w4_2, hx]; rfl
        exact hQ _ _ _ _ dX10_lessThan_32 ⟨(by first | assumption | omega), (by first | assumption | omega), rfl⟩
      · refine g_aload_n X dX10_lessThan_10 0 rfl ?_
        refine g_iload_n X dX10_lessThan_11 3 rfl ?_
        refine g_iload_n X dX10_lessThan_12 1 rfl ?_
        refine g_callVI0 X (c_X10_most l D cI cB cJ h q (p0 := x3_4) (p1 := p0) r_v_mostOf (by first | assumption | omega) (by first | assumption | omega) (by first | assumption | omega) (by first | assumption | omega)) cv_X10_most uw1561 ⟨rfl, rfl, by decide, by decide⟩ 0 rfl rfl rfl rfl rfl (Nat.le_of_ble_eq_true rfl) ⟨Nat.zero_le _, Nat.zero_le _⟩ dX10_lessThan_13 (fun t13 ws13 k13 => ?_)
        obtain ⟨kp0_13, kp1_13, rfl⟩ := k13
        refine g_if_ge X (tgt := 25) dX10_lessThan_16 (by decide) (by omega) (fun c16 => ?_) (fun c16 => ?_)
        · refine g_iinc X (lv' := [(3, vI (x3_4 + 1)), (0, .ref h), (1, vI p0), (2, vI x2_4)]) dX10_lessThan_25 3 rfl (by decide) rfl ?_
          refine g_goto X (tgt := 4) dX10_lessThan_28 (by decide) ?_
          refine g_lv [1, 2, 3, 0] rfl ?_
          exact ih4 x2_4 (x3_4 + 1) (by first | assumption | omega) (by first | assumption | omega) (by first | omega | (rw [e23, e22, w4_2]; omega)) (by omega)
        · refine g_iload_n X dX10_lessThan_19 2 rfl ?_
          refine g_iconst X dX10_lessThan_20 ?_
          refine g_iload_n X dX10_lessThan_21 3 rfl ?_
          refine g_ishl X dX10_lessThan_22 ?_
          refine g_nm (fun t22 e22 => ?_)
          have r22 := z_shl1_11 x3_4 (by omega); rw [← e22] at r22
          refine g_ior X dX10_lessThan_23 ?_
          refine g_nm (fun t23 e23 => ?_)
          have r23 := z_ior_4095 x2_4 t22 (by omega) (by omega); rw [← e23] at r23
          refine g_istore_n X (lv' := [(2, vI t23), (0, .ref h), (1, vI p0), (3, vI x3_4)]) dX10_lessThan_24 (by decide) rfl ?_
          refine g_iinc X (lv' := [(3, vI (x3_4 + 1)), (2, vI t23), (0, .ref h), (1, vI p0)]) dX10_lessThan_25 3 rfl (by decide) rfl ?_
          refine g_goto X (tgt := 4) dX10_lessThan_28 (by decide) ?_
          refine g_lv [2, 3, 1, 0] rfl ?_
          exact ih4 t23 (x3_4 + 1) (by first | assumption | omega) (by first | assumption | omega) (by first | omega | (rw [e23, e22, w4_2]; omega)) (by omega)
  refine g_lv [2, 3, 1, 0] rfl ?_
  exact L4 _ 0 0 (by first | assumption | omega) (by first | assumption | omega) (by first | omega | (rw [e23, e22, w4_2]; omega)) (Nat.lt_succ_self _)
set_option maxHeartbeats 4000000 in
set_option maxRecDepth 100000 in
theorem c_X10_surely (l : Launch) (D : va_G) (cI cB cJ : ClassId) (h : Nat) (q : Nat → Nat) {v_stalls v_claimMany v_taped v_place0 v_length0 v_fault v_number0 v_open v_codeMany v_waiting v_saidMany v_clauses v_newMany v_newStalls v_lines v_salesNow v_outNow v_isKept v_keptStalls : Int} {v_now v_aside v_kept v_oneOf v_otherOf v_signOf v_byOf v_tape v_said v_waitsAt v_saidLetter v_saidFrom v_saidHalf v_saidTo v_codes v_clauseOf v_codeFrom v_codeHalf v_codeTo v_stack v_facts v_newOne v_newOther v_newSign v_newBy v_moreOf v_firstOf v_toldOf v_mostOf v_mostThen v_sumTo v_rowFrom v_ordersOf v_lessOf v_weightOf v_rowNow v_slowRow v_fastRow v_lineNow v_firstLine v_freeBy v_heldBy v_heightOf v_upTo v_downTo v_oftenOf v_newUpper v_newLower : Nat → Int} {p0 p1 : Int} (kr_v_claimMany : 0 ≤ v_claimMany ∧ v_claimMany ≤ 40) (r_v_oneOf : RA 0 11 v_oneOf) (r_v_otherOf : RA 0 11 v_otherOf) (r_v_signOf : RA (-2147483648) 2147483647 v_signOf) (r_v_byOf : RA (-9999) 9999 v_byOf) (r_v_toldOf : RA (-9999) 1000000 v_toldOf) (r_v_mostOf : RA (-1000000) 1000000 v_mostOf) (hp0 : IR p0) (hp1 : IR p1) (hp2 : ∀ j : Nat, (j : Int) < v_claimMany → v_oneOf j ≠ v_otherOf j) : CtI l yX10_surely cX10_surely 3 (some .int) ⟨4, 0, 0, 91⟩ D (TY cI cB cJ) (wX10 cI cB cJ h q v_stalls v_claimMany v_taped v_place0 v_length0 v_fault v_number0 v_open v_codeMany v_waiting v_saidMany v_clauses v_newMany v_newStalls v_lines v_salesNow v_outNow v_isKept v_keptStalls v_now v_aside v_kept v_oneOf v_otherOf v_signOf v_byOf v_tape v_said v_waitsAt v_saidLetter v_saidFrom v_saidHalf v_saidTo v_codes v_clauseOf v_codeFrom v_codeHalf v_codeTo v_stack v_facts v_newOne v_newOther v_newSign v_newBy v_moreOf v_firstOf v_toldOf v_mostOf v_mostThen v_sumTo v_rowFrom v_ordersOf v_lessOf v_weightOf v_rowNow v_slowRow v_fastRow v_lineNow v_firstLine v_freeBy v_heldBy v_heightOf v_upTo v_downTo v_oftenOf v_newUpper v_newLower) [.ref h, vI p0, vI p1] (fun z ws' => ∃ n_toldOf : Nat → Int, ∃ n_mostOf : Nat → Int, (RA (-9999) 1000000 n_toldOf) ∧ (RA (-1000000) 1000000 n_mostOf) ∧ (IR z) ∧ (((0 ≤ p0 ∧ p0 ≤ 11 ∧ 0 ≤ p1 ∧ p1 ≤ 1) ∧ (okZ (toF v_oneOf v_otherOf v_signOf v_byOf (-1) v_claimMany.toNat)) ≠ 1 ∧ z = -3) ∨ ((0 ≤ p0 ∧ p0 ≤ 11 ∧ 0 ≤ p1 ∧ p1 ≤ 1) ∧ (okZ (toF v_oneOf v_otherOf v_signOf v_byOf (-1) v_claimMany.toNat)) = 1 ∧ p1 = 0 ∧ z = mtB (fwN (toF v_oneOf v_otherOf v_signOf v_byOf (-1) v_claimMany.toNat) 12) p0.toNat 12) ∨ ((0 ≤ p0 ∧ p0 ≤ 11 ∧ 0 ≤ p1 ∧ p1 ≤ 1) ∧ (okZ (toF v_oneOf v_otherOf v_signOf v_byOf (-1) v_claimMany.toNat)) = 1 ∧ p1 = 1 ∧ z = ltB (fwN (toF v_oneOf v_otherOf v_signOf v_byOf (-1) v_claimMany.toNat) 12) p0.toNat 12) ∨ (¬ (0 ≤ p0 ∧ p0 ≤ 11 ∧ 0 ≤ p1 ∧ p1 ≤ 1) ∧ z = -1)) ∧ (ws' = (wX10 cI cB cJ h q v_stalls v_claimMany v_taped v_place0 v_length0 v_fault v_number0 v_open v_codeMany v_waiting v_saidMany v_clauses v_newMany v_newStalls v_lines v_salesNow v_outNow v_isKept v_keptStalls v_now v_aside v_kept v_oneOf v_otherOf v_signOf v_byOf v_tape v_said v_waitsAt v_saidLetter v_saidFrom v_saidHalf v_saidTo v_codes v_clauseOf v_codeFrom v_codeHalf v_codeTo v_stack v_facts v_newOne v_newOther v_newSign v_newBy v_moreOf v_firstOf n_toldOf n_mostOf v_mostThen v_sumTo v_rowFrom v_ordersOf v_lessOf v_weightOf v_rowNow v_slowRow v_fastRow v_lineNow v_firstLine v_freeBy v_heldBy v_heightOf v_upTo v_downTo v_oftenOf v_newUpper v_newLower))) := by
  refine hdrI (own := RX10) rfl (by decide +kernel) (Nat.le_of_ble_eq_true rfl) ?_
  intro p e s m args below meth c Q A X hQ
  refine g_lvE (lv2 := [(0, .ref h), (1, vI p0), (2, vI p1)]) rfl ?_
  refine g_iload_n X dX10_surely_0 1 rfl ?_
  refine g_callSIE X (c_X10_isThing l D cI cB cJ (p0 := p0) (by first | assumption | omega)) cv_X10_isThing uw1488 ⟨rfl, rfl, by decide, by decide⟩ rfl rfl (Nat.le_of_ble_eq_true rfl) ⟨Nat.zero_le _, Nat.zero_le _⟩ dX10_surely_1 (fun t1 ws1 k1 => ?_)
  obtain ⟨kb_1, ⟨kp0_1, rfl⟩⟩ := k1
  refine g_if_eq X (tgt := 16) dX10_surely_4 (by decide) (by omega) (fun c4 => ?_) (fun c4 => ?_)
  · refine g_iconst X dX10_surely_16 ?_
    exact hQ _ _ _ _ dX10_surely_17 ⟨v_toldOf, v_mostOf, r_v_toldOf, r_v_mostOf, (by first | assumption | omega), (by first | assumption | omega), rfl⟩
  · refine g_iload_n X dX10_surely_7 2 rfl ?_
    refine g_iconst X dX10_surely_8 ?_
    refine g_iconst X dX10_surely_9 ?_
    refine g_callSIE X (c_X10_in l D cI cB cJ (p0 := p1) (p1 := 0) (p2 := 1) (by first | assumption | omega) (by first | assumption | omega) (by first | assumption | omega)) cv_X10_in uw1394 ⟨rfl, rfl, by decide, by decide⟩ rfl rfl (Nat.le_of_ble_eq_true rfl) ⟨Nat.zero_le _, Nat.zero_le _⟩ dX10_surely_10 (fun t10 ws10 k10 => ?_)
    obtain ⟨kb_10, ⟨kp0_10, rfl⟩⟩ := k10
    refine g_if_ne X (tgt := 18) dX10_surely_13 (by decide) (by omega) (fun c13 => ?_) (fun c13 => ?_)
    · refine g_aload_n X dX10_surely_18 0 rfl ?_
      refine g_iconst X dX10_surely_19 ?_
      refine g_callVV0 X (c_X10_laysMost l D cI cB cJ h q (p0 := (-1)) (by omega) r_v_oneOf r_v_otherOf r_v_signOf r_v_byOf r_v_toldOf r_v_mostOf (by first | assumption | omega) (by first | assumption | omega)) cv_X10_laysMost uw1538 ⟨rfl, rfl, by decide, by decide⟩ 0 rfl rfl rfl rfl rfl (Nat.le_of_ble_eq_true rfl) ⟨Nat.zero_le _, Nat.zero_le _⟩ dX10_surely_20 (fun ws20 k20 => ?_)
      obtain ⟨toldOf_20, mostOf_20, r_toldOf_20, r_mostOf_20, kp0_20, kp1_20, rfl⟩ := k20
      refine g_aload_n X dX10_surely_23 0 rfl ?_
      refine g_callVI0 X (c_X10_canBeSo l D cI cB cJ h q  r_mostOf_20) cv_X10_canBeSo uw1557 ⟨rfl, rfl, by decide, by decide⟩ 0 rfl rfl rfl rfl rfl (Nat.le_of_ble_eq_true rfl) ⟨Nat.zero_le _, Nat.zero_le _⟩ dX10_surely_24 (fun t24 ws24 k24 => ?_)
      obtain ⟨kb_24, ⟨kp0_24, rfl⟩⟩ := k24
      have hcan : (t24 = 1 ∧ okN (toF v_oneOf v_otherOf v_signOf v_byOf (-1) v_claimMany.toNat) 12 ∧ ∀ c : Nat, c < 144 → mostOf_20 c = fwN (toF v_oneOf v_otherOf v_signOf v_byOf (-1) v_claimMany.toNat) 12 c) ∨ (t24 = 0 ∧ ¬ okN (toF v_oneOf v_otherOf v_signOf v_byOf (-1) v_claimMany.toNat) 12) := can_e kp1_20 kp0_24
      have hoz := okZ_e (toF v_oneOf v_otherOf v_signOf v_byOf (-1) v_claimMany.toNat)
      have hok : t24 = okZ (toF v_oneOf v_otherOf v_signOf v_byOf (-1) v_claimMany.toNat) := by rcases hcan with ⟨g1, g2, _⟩ | ⟨g1, g2⟩; (rcases hoz with ⟨k1, k2⟩ | ⟨k1, k2⟩; omega; exact absurd g2 k1); (rcases hoz with ⟨k1, k2⟩ | ⟨k1, k2⟩; exact absurd k1 g2; omega)
      have hM9 : t24 = 1 → okN (toF v_oneOf v_otherOf v_signOf v_byOf (-1) v_claimMany.toNat) 12 ∧ ∀ c : Nat, c < 144 → mostOf_20 c = fwN (toF v_oneOf v_otherOf v_signOf v_byOf (-1) v_claimMany.toNat) 12 c := fun h => (hcan.resolve_right (fun g => by omega)).2
      clear hcan hoz kp1_20 kp0_24
      refine g_if_ne X (tgt := 35) dX10_surely_27 (by decide) (by omega) (fun c27 => ?_) (fun c27 => ?_)
      · have hM := (hM9 (by omega)).2
        refine g_iload_n X dX10_surely_35 2 rfl ?_
        refine g_if_ne X (tgt := 47) dX10_surely_36 (by decide) (by omega) (fun c36 => ?_) (fun c36 => ?_)
        · refine g_aload_n X dX10_surely_47 0 rfl ?_
          refine g_iload_n X dX10_surely_48 1 rfl ?_
          refine g_callVI0 X (c_X10_lessThan l D cI cB cJ h q (p0 := p0) r_mostOf_20 (by first | assumption | omega) (by first | assumption | omega)) cv_X10_lessThan uw1608 ⟨rfl, rfl, by decide, by decide⟩ 0 rfl rfl rfl rfl rfl (Nat.le_of_ble_eq_true rfl) ⟨Nat.zero_le _, Nat.zero_le _⟩ dX10_surely_49 (fun t49 ws49 k49 => ?_)
          obtain ⟨kp0_49, kp1_49, rfl⟩ := k49
          try (have hm := mtB_c (a := p0.toNat) 12 (by omega) (Nat.le_refl 12) hM)
          try (have hl := ltB_c (a := p0.toNat) 12 (by omega) (Nat.le_refl 12) hM)
          exact hQ _ _ _ _ dX10_surely_52 ⟨toldOf_20, mostOf_20, r_toldOf_20, r_mostOf_20, (by first | assumption | omega), (by first | assumption | omega), rfl⟩
        · refine g_aload_n X dX10_surely_39 0 rfl ?_
          refine g_iload_n X dX10_surely_40 1 rfl ?_
          refine g_callVI0 X (c_X10_moreThan l D cI cB cJ h q (p0 := p0) r_mostOf_20 (by first | assumption | omega) (by first | assumption | omega)) cv_X10_moreThan uw1604 ⟨rfl, rfl, by decide, by decide⟩ 0 rfl rfl rfl rfl rfl (Nat.le_of_ble_eq_true rfl) ⟨Nat.zero_le _, Nat.zero_le _⟩ dX10_surely_41 (fun t41 ws41 k41 => ?_)
          obtain ⟨kp0_41, kp1_41, rfl⟩ := k41
          refine g_goto X (tgt := 52) dX10_surely_44 (by decide) ?_
          try (have hm := mtB_c (a := p0.toNat) 12 (by omega) (Nat.le_refl 12) hM)
          try (have hl := ltB_c (a := p0.toNat) 12 (by omega) (Nat.le_refl 12) hM)
          exact hQ _ _ _ _ dX10_surely_52 ⟨toldOf_20, mostOf_20, r_toldOf_20, r_mostOf_20, (by first | assumption | omega), (by first | assumption | omega), rfl⟩
      · refine g_bipush X (z := (-3)) dX10_surely_30 (by decide) ?_
        refine g_goto X (tgt := 52) dX10_surely_32 (by decide) ?_
        try (have hm := mtB_c (a := p0.toNat) 12 (by omega) (Nat.le_refl 12) hM)
        try (have hl := ltB_c (a := p0.toNat) 12 (by omega) (Nat.le_refl 12) hM)
        exact hQ _ _ _ _ dX10_surely_52 ⟨toldOf_20, mostOf_20, r_toldOf_20, r_mostOf_20, (by first | assumption | omega), (by first | assumption | omega), rfl⟩
    · refine g_iconst X dX10_surely_16 ?_
      exact hQ _ _ _ _ dX10_surely_17 ⟨v_toldOf, v_mostOf, r_v_toldOf, r_v_mostOf, (by first | assumption | omega), (by first | assumption | omega), rfl⟩
set_option maxHeartbeats 4000000 in
set_option maxRecDepth 100000 in
theorem c_X10_lightest (l : Launch) (D : va_G) (cI cB cJ : ClassId) (h : Nat) (q : Nat → Nat) {v_stalls v_claimMany v_taped v_place0 v_length0 v_fault v_number0 v_open v_codeMany v_waiting v_saidMany v_clauses v_newMany v_newStalls v_lines v_salesNow v_outNow v_isKept v_keptStalls : Int} {v_now v_aside v_kept v_oneOf v_otherOf v_signOf v_byOf v_tape v_said v_waitsAt v_saidLetter v_saidFrom v_saidHalf v_saidTo v_codes v_clauseOf v_codeFrom v_codeHalf v_codeTo v_stack v_facts v_newOne v_newOther v_newSign v_newBy v_moreOf v_firstOf v_toldOf v_mostOf v_mostThen v_sumTo v_rowFrom v_ordersOf v_lessOf v_weightOf v_rowNow v_slowRow v_fastRow v_lineNow v_firstLine v_freeBy v_heldBy v_heightOf v_upTo v_downTo v_oftenOf v_newUpper v_newLower : Nat → Int} {p0 : Int} (kr_v_claimMany : 0 ≤ v_claimMany ∧ v_claimMany ≤ 40) (r_v_oneOf : RA 0 11 v_oneOf) (r_v_otherOf : RA 0 11 v_otherOf) (r_v_signOf : RA (-2147483648) 2147483647 v_signOf) (r_v_byOf : RA (-9999) 9999 v_byOf) (r_v_toldOf : RA (-9999) 1000000 v_toldOf) (r_v_mostOf : RA (-1000000) 1000000 v_mostOf) (hp0 : IR p0) (hp1 : ∀ j : Nat, (j : Int) < v_claimMany → v_oneOf j ≠ v_otherOf j) : CtI l yX10_lightest cX10_lightest 4 (some .int) ⟨4, 0, 0, 91⟩ D (TY cI cB cJ) (wX10 cI cB cJ h q v_stalls v_claimMany v_taped v_place0 v_length0 v_fault v_number0 v_open v_codeMany v_waiting v_saidMany v_clauses v_newMany v_newStalls v_lines v_salesNow v_outNow v_isKept v_keptStalls v_now v_aside v_kept v_oneOf v_otherOf v_signOf v_byOf v_tape v_said v_waitsAt v_saidLetter v_saidFrom v_saidHalf v_saidTo v_codes v_clauseOf v_codeFrom v_codeHalf v_codeTo v_stack v_facts v_newOne v_newOther v_newSign v_newBy v_moreOf v_firstOf v_toldOf v_mostOf v_mostThen v_sumTo v_rowFrom v_ordersOf v_lessOf v_weightOf v_rowNow v_slowRow v_fastRow v_lineNow v_firstLine v_freeBy v_heldBy v_heightOf v_upTo v_downTo v_oftenOf v_newUpper v_newLower) [.ref h, vI p0] (fun z ws' => ∃ n_toldOf : Nat → Int, ∃ n_mostOf : Nat → Int, (RA (-9999) 1000000 n_toldOf) ∧ (RA (-1000000) 1000000 n_mostOf) ∧ (IR z) ∧ (((0 ≤ p0 ∧ p0 ≤ 11) ∧ (okZ (toF v_oneOf v_otherOf v_signOf v_byOf (-1) v_claimMany.toNat)) ≠ 1 ∧ z = -3) ∨ ((0 ≤ p0 ∧ p0 ≤ 11) ∧ (okZ (toF v_oneOf v_otherOf v_signOf v_byOf (-1) v_claimMany.toNat)) = 1 ∧ z = lwF (fwN (toF v_oneOf v_otherOf v_signOf v_byOf (-1) v_claimMany.toNat) 12) p0.toNat 12) ∨ (¬ (0 ≤ p0 ∧ p0 ≤ 11) ∧ z = -1)) ∧ (ws' = (wX10 cI cB cJ h q v_stalls v_claimMany v_taped v_place0 v_length0 v_fault v_number0 v_open v_codeMany v_waiting v_saidMany v_clauses v_newMany v_newStalls v_lines v_salesNow v_outNow v_isKept v_keptStalls v_now v_aside v_kept v_oneOf v_otherOf v_signOf v_byOf v_tape v_said v_waitsAt v_saidLetter v_saidFrom v_saidHalf v_saidTo v_codes v_clauseOf v_codeFrom v_codeHalf v_codeTo v_stack v_facts v_newOne v_newOther v_newSign v_newBy v_moreOf v_firstOf n_toldOf n_mostOf v_mostThen v_sumTo v_rowFrom v_ordersOf v_lessOf v_weightOf v_rowNow v_slowRow v_fastRow v_lineNow v_firstLine v_freeBy v_heldBy v_heightOf v_upTo v_downTo v_oftenOf v_newUpper v_newLower))) := by
  refine hdrI (own := RX10) rfl (by decide +kernel) (Nat.le_of_ble_eq_true rfl) ?_
  intro p e s m args below meth c Q A X hQ
  refine g_lvE (lv2 := [(0, .ref h), (1, vI p0)]) rfl ?_
  refine g_iload_n X dX10_lightest_0 1 rfl ?_
  refine g_callSIE X (c_X10_isThing l D cI cB cJ (p0 := p0) (by first | assumption | omega)) cv_X10_isThing uw1488 ⟨rfl, rfl, by decide, by decide⟩ rfl rfl (Nat.le_of_ble_eq_true rfl) ⟨Nat.zero_le _, Nat.zero_le _⟩ dX10_lightest_1 (fun t1 ws1 k1 => ?_)
  obtain ⟨kb_1, ⟨kp0_1, rfl⟩⟩ := k1
  refine g_if_ne X (tgt := 9) dX10_lightest_4 (by decide) (by omega) (fun c4 => ?_) (fun c4 => ?_)
  · refine g_aload_n X dX10_lightest_9 0 rfl ?_
    refine g_iconst X dX10_lightest_10 ?_
    refine g_callVV0 X (c_X10_laysMost l D cI cB cJ h q (p0 := (-1)) (by omega) r_v_oneOf r_v_otherOf r_v_signOf r_v_byOf r_v_toldOf r_v_mostOf (by first | assumption | omega) (by first | assumption | omega)) cv_X10_laysMost uw1538 ⟨rfl, rfl, by decide, by decide⟩ 0 rfl rfl rfl rfl rfl (Nat.le_of_ble_eq_true rfl) ⟨Nat.zero_le _, Nat.zero_le _⟩ dX10_lightest_11 (fun ws11 k11 => ?_)
    obtain ⟨toldOf_11, mostOf_11, r_toldOf_11, r_mostOf_11, kp0_11, kp1_11, rfl⟩ := k11
    refine g_aload_n X dX10_lightest_14 0 rfl ?_
    refine g_callVI0 X (c_X10_canBeSo l D cI cB cJ h q  r_mostOf_11) cv_X10_canBeSo uw1557 ⟨rfl, rfl, by decide, by decide⟩ 0 rfl rfl rfl rfl rfl (Nat.le_of_ble_eq_true rfl) ⟨Nat.zero_le _, Nat.zero_le _⟩ dX10_lightest_15 (fun t15 ws15 k15 => ?_)
    obtain ⟨kb_15, ⟨kp0_15, rfl⟩⟩ := k15
    have hcan : (t15 = 1 ∧ okN (toF v_oneOf v_otherOf v_signOf v_byOf (-1) v_claimMany.toNat) 12 ∧ ∀ c : Nat, c < 144 → mostOf_11 c = fwN (toF v_oneOf v_otherOf v_signOf v_byOf (-1) v_claimMany.toNat) 12 c) ∨ (t15 = 0 ∧ ¬ okN (toF v_oneOf v_otherOf v_signOf v_byOf (-1) v_claimMany.toNat) 12) := can_e kp1_11 kp0_15
    have hoz := okZ_e (toF v_oneOf v_otherOf v_signOf v_byOf (-1) v_claimMany.toNat)
    have hok : t15 = okZ (toF v_oneOf v_otherOf v_signOf v_byOf (-1) v_claimMany.toNat) := by rcases hcan with ⟨g1, g2, _⟩ | ⟨g1, g2⟩; (rcases hoz with ⟨k1, k2⟩ | ⟨k1, k2⟩; omega; exact absurd g2 k1); (rcases hoz with ⟨k1, k2⟩ | ⟨k1, k2⟩; exact absurd k1 g2; omega)
    have hM9 : t15 = 1 → okN (toF v_oneOf v_otherOf v_signOf v_byOf (-1) v_claimMany.toNat) 12 ∧ ∀ c : Nat, c < 144 → mostOf_11 c = fwN (toF v_oneOf v_otherOf v_signOf v_byOf (-1) v_claimMany.toNat) 12 c := fun h => (hcan.resolve_right (fun g => by omega)).2
    clear hcan hoz kp1_11 kp0_15
    refine g_if_ne X (tgt := 24) dX10_lightest_18 (by decide) (by omega) (fun c18 => ?_) (fun c18 => ?_)
    · have hM := (hM9 (by omega)).2
      refine g_iconst X dX10_lightest_24 ?_
      refine g_istore_n X (lv' := [(2, vI 0), (0, .ref h), (1, vI p0)]) dX10_lightest_25 (by decide) rfl ?_
      refine g_iconst X dX10_lightest_26 ?_
      refine g_istore_n X (lv' := [(3, vI 0), (2, vI 0), (0, .ref h), (1, vI p0)]) dX10_lightest_27 (by decide) rfl ?_
      have h0 : lwF mostOf_11 p0.toNat (0 : Int).toNat = 0 := rfl
      have L28 : ∀ (n : Nat) (x2_28 : Int) (x3_28 : Int), (0 ≤ x3_28 ∧ x3_28 ≤ 12) → (0 ≤ x2_28 ∧ x2_28 ≤ 1000000) → (x2_28 = lwF mostOf_11 p0.toNat (x3_28).toNat) → (12 - x3_28).toNat < n → GG p l e ⟨4, 0, 0, 91⟩ s m args below meth c 0 0 Q D A s.heap 4 (wX10 cI cB cJ h q v_stalls v_claimMany v_taped v_place0 v_length0 v_fault v_number0 v_open v_codeMany v_waiting v_saidMany v_clauses v_newMany v_newStalls v_lines v_salesNow v_outNow v_isKept v_keptStalls v_now v_aside v_kept v_oneOf v_otherOf v_signOf v_byOf v_tape v_said v_waitsAt v_saidLetter v_saidFrom v_saidHalf v_saidTo v_codes v_clauseOf v_codeFrom v_codeHalf v_codeTo v_stack v_facts v_newOne v_newOther v_newSign v_newBy v_moreOf v_firstOf toldOf_11 mostOf_11 v_mostThen v_sumTo v_rowFrom v_ordersOf v_lessOf v_weightOf v_rowNow v_slowRow v_fastRow v_lineNow v_firstLine v_freeBy v_heldBy v_heightOf v_upTo v_downTo v_oftenOf v_newUpper v_newLower) 28 [(0, .ref h), (1, vI p0), (2, vI x2_28), (3, vI x3_28)] [] := by
        intro n
        induction n with
        | zero => intros; exfalso; omega
        | succ n ih28 =>
          intro x2_28 x3_28 w28_0 w28_1 w28_2 wm28
          have hS := lwF_s mostOf_11 p0.toNat (x := x3_28) (by omega)
          have hMx := mx_e (lwF mostOf_11 p0.toNat (x3_28).toNat) (-mostOf_11 (12 * (x3_28).toNat + p0.toNat))
          refine g_iload_n X dX10_lightest_28 3 rfl ?_
          refine g_bipush X (z := 12) dX10_lightest_29 (by decide) ?_
          refine g_icmp_ge X (tgt := 52) dX10_lightest_31 (by decide) (by omega) (by omega) (fun c31 => ?_) (fun c31 => ?_)
          · refine g_iload_n X dX10_lightest_52 2 rfl ?_
            have hx : x3_28 = 12 := by omega
            have hF : x2_28 = lwF (fwN (toF v_oneOf v_otherOf v_signOf v_byOf (-1) v_claimMany.toNat) 12) p0.toNat 12 := by rw [w28_2, hx]; exact lwF_c 12 (by omega) (Nat.le_refl 12) hM
            exact hQ _ _ _ _ dX10_lightest_53 ⟨toldOf_11, mostOf_11, r_toldOf_11, r_mostOf_11, (by first | assumption | omega), (by first | assumption | omega), rfl⟩
          · refine g_iload_n X dX10_lightest_34 2 rfl ?_
            refine g_aload_n X dX10_lightest_35 0 rfl ?_
            refine g_iload_n X dX10_lightest_36 3 rfl ?_
            refine g_iload_n X dX10_lightest_37 1 rfl ?_
            refine g_callVI0 X (c_X10_most l D cI cB cJ h q (p0 := x3_28) (p1 := p0) r_mostOf_11 (by first | assumption | omega) (by first | assumption | omega) (by first | assumption | omega) (by first | assumption | omega)) cv_X10_most uw1561 ⟨rfl, rfl, by decide, by decide⟩ 0 rfl rfl rfl rfl rfl (Nat.le_of_ble_eq_true rfl) ⟨Nat.zero_le _, Nat.zero_le _⟩ dX10_lightest_38 (fun t38 ws38 k38 => ?_)
            obtain ⟨kp0_38, kp1_38, rfl⟩ := k38
            refine g_ineg X dX10_lightest_41 ?_
            refine g_callSIE X (c_X10_max l D cI cB cJ (p0 := x2_28) (p1 := -t38) (by first | assumption | omega) (by first | assumption | omega)) cv_X10_max uw1554 ⟨rfl, rfl, by decide, by decide⟩ rfl rfl (Nat.le_of_ble_eq_true rfl) ⟨Nat.zero_le _, Nat.zero_le _⟩ dX10_lightest_42 (fun t42 ws42 k42 => ?_)
            obtain ⟨kp0_42, rfl⟩ := k42
            refine g_istore_n X (lv' := [(2, vI t42), (0, .ref h), (1, vI p0), (3, vI x3_28)]) dX10_lightest_45 (by decide) rfl ?_
            refine g_iinc X (lv' := [(3, vI (x3_28 + 1)), (2, vI t42), (0, .ref h), (1, vI p0)]) dX10_lightest_46 3 rfl (by decide) rfl ?_
            refine g_goto X (tgt := 28) dX10_lightest_49 (by decide) ?_
            refine g_lv [2, 3, 1, 0] rfl ?_
            exact ih28 t42 (x3_28 + 1) (by first | assumption | omega) (by first | assumption | omega) (by first | assumption | omega) (by omega)
      refine g_lv [2, 3, 1, 0] rfl ?_
      exact L28 _ 0 0 (by first | assumption | omega) (by first | assumption | omega) (by first | assumption | omega) (Nat.lt_succ_self _)
    · refine g_bipush X (z := (-3)) dX10_lightest_21 (by decide) ?_
      exact hQ _ _ _ _ dX10_lightest_23 ⟨toldOf_11, mostOf_11, r_toldOf_11, r_mostOf_11, (by first | assumption | omega), (by first | assumption | omega), rfl⟩
  · refine g_iconst X dX10_lightest_7 ?_
    exact hQ _ _ _ _ dX10_lightest_8 ⟨v_toldOf, v_mostOf, r_v_toldOf, r_v_mostOf, (by first | assumption | omega), (by first | assumption | omega), rfl⟩
set_option maxHeartbeats 4000000 in
set_option maxRecDepth 100000 in
theorem c_X10_slack (l : Launch) (D : va_G) (cI cB cJ : ClassId) (h : Nat) (q : Nat → Nat) {v_stalls v_claimMany v_taped v_place0 v_length0 v_fault v_number0 v_open v_codeMany v_waiting v_saidMany v_clauses v_newMany v_newStalls v_lines v_salesNow v_outNow v_isKept v_keptStalls : Int} {v_now v_aside v_kept v_oneOf v_otherOf v_signOf v_byOf v_tape v_said v_waitsAt v_saidLetter v_saidFrom v_saidHalf v_saidTo v_codes v_clauseOf v_codeFrom v_codeHalf v_codeTo v_stack v_facts v_newOne v_newOther v_newSign v_newBy v_moreOf v_firstOf v_toldOf v_mostOf v_mostThen v_sumTo v_rowFrom v_ordersOf v_lessOf v_weightOf v_rowNow v_slowRow v_fastRow v_lineNow v_firstLine v_freeBy v_heldBy v_heightOf v_upTo v_downTo v_oftenOf v_newUpper v_newLower : Nat → Int} {p0 : Int} (kr_v_claimMany : 0 ≤ v_claimMany ∧ v_claimMany ≤ 40) (r_v_oneOf : RA 0 11 v_oneOf) (r_v_otherOf : RA 0 11 v_otherOf) (r_v_signOf : RA (-2147483648) 2147483647 v_signOf) (r_v_byOf : RA (-9999) 9999 v_byOf) (r_v_toldOf : RA (-9999) 1000000 v_toldOf) (r_v_mostOf : RA (-1000000) 1000000 v_mostOf) (hp0 : IR p0) (hp1 : ∀ j : Nat, (j : Int) < v_claimMany → v_oneOf j ≠ v_otherOf j) : CtI l yX10_slack cX10_slack 2 (some .int) ⟨4, 0, 0, 91⟩ D (TY cI cB cJ) (wX10 cI cB cJ h q v_stalls v_claimMany v_taped v_place0 v_length0 v_fault v_number0 v_open v_codeMany v_waiting v_saidMany v_clauses v_newMany v_newStalls v_lines v_salesNow v_outNow v_isKept v_keptStalls v_now v_aside v_kept v_oneOf v_otherOf v_signOf v_byOf v_tape v_said v_waitsAt v_saidLetter v_saidFrom v_saidHalf v_saidTo v_codes v_clauseOf v_codeFrom v_codeHalf v_codeTo v_stack v_facts v_newOne v_newOther v_newSign v_newBy v_moreOf v_firstOf v_toldOf v_mostOf v_mostThen v_sumTo v_rowFrom v_ordersOf v_lessOf v_weightOf v_rowNow v_slowRow v_fastRow v_lineNow v_firstLine v_freeBy v_heldBy v_heightOf v_upTo v_downTo v_oftenOf v_newUpper v_newLower) [.ref h, vI p0] (fun z ws' => ∃ n_toldOf : Nat → Int, ∃ n_mostOf : Nat → Int, (RA (-9999) 1000000 n_toldOf) ∧ (RA (-1000000) 1000000 n_mostOf) ∧ (IR z) ∧ (((0 ≤ p0 ∧ p0 < v_claimMany) ∧ (okZ (toF v_oneOf v_otherOf v_signOf v_byOf (-1) v_claimMany.toNat)) = 1 ∧ z = slF v_oneOf v_otherOf v_signOf v_byOf (fwN (toF v_oneOf v_otherOf v_signOf v_byOf (-1) v_claimMany.toNat) 12) p0.toNat) ∨ (¬ ((0 ≤ p0 ∧ p0 < v_claimMany) ∧ (okZ (toF v_oneOf v_otherOf v_signOf v_byOf (-1) v_claimMany.toNat)) = 1) ∧ z = -1000000)) ∧ (ws' = (wX10 cI cB cJ h q v_stalls v_claimMany v_taped v_place0 v_length0 v_fault v_number0 v_open v_codeMany v_waiting v_saidMany v_clauses v_newMany v_newStalls v_lines v_salesNow v_outNow v_isKept v_keptStalls v_now v_aside v_kept v_oneOf v_otherOf v_signOf v_byOf v_tape v_said v_waitsAt v_saidLetter v_saidFrom v_saidHalf v_saidTo v_codes v_clauseOf v_codeFrom v_codeHalf v_codeTo v_stack v_facts v_newOne v_newOther v_newSign v_newBy v_moreOf v_firstOf n_toldOf n_mostOf v_mostThen v_sumTo v_rowFrom v_ordersOf v_lessOf v_weightOf v_rowNow v_slowRow v_fastRow v_lineNow v_firstLine v_freeBy v_heldBy v_heightOf v_upTo v_downTo v_oftenOf v_newUpper v_newLower))) := by
  refine hdrI (own := RX10) rfl (by decide +kernel) (Nat.le_of_ble_eq_true rfl) ?_
  intro p e s m args below meth c Q A X hQ
  refine g_lvE (lv2 := [(0, .ref h), (1, vI p0)]) rfl ?_
  refine g_aload_n X dX10_slack_0 0 rfl ?_
  refine g_iconst X dX10_slack_1 ?_
  refine g_callVV0 X (c_X10_laysMost l D cI cB cJ h q (p0 := (-1)) (by omega) r_v_oneOf r_v_otherOf r_v_signOf r_v_byOf r_v_toldOf r_v_mostOf (by first | assumption | omega) (by first | assumption | omega)) cv_X10_laysMost uw1538 ⟨rfl, rfl, by decide, by decide⟩ 0 rfl rfl rfl rfl rfl (Nat.le_of_ble_eq_true rfl) ⟨Nat.zero_le _, Nat.zero_le _⟩ dX10_slack_2 (fun ws2 k2 => ?_)
  obtain ⟨toldOf_2, mostOf_2, r_toldOf_2, r_mostOf_2, kp0_2, kp1_2, rfl⟩ := k2
  refine g_iload_n X dX10_slack_5 1 rfl ?_
  refine g_iconst X dX10_slack_6 ?_
  refine g_aload_n X dX10_slack_7 0 rfl ?_
  refine gM_get X 0 rfl 8 (by decide) uw1187 rfl dX10_slack_8 ?_
  refine g_iconst X dX10_slack_11 ?_
  refine g_isub X dX10_slack_12 ?_
  refine g_callSIE X (c_X10_in l D cI cB cJ (p0 := p0) (p1 := 0) (p2 := v_claimMany - 1) (by first | assumption | omega) (by first | assumption | omega) (by first | assumption | omega)) cv_X10_in uw1394 ⟨rfl, rfl, by decide, by decide⟩ rfl rfl (Nat.le_of_ble_eq_true rfl) ⟨Nat.zero_le _, Nat.zero_le _⟩ dX10_slack_13 (fun t13 ws13 k13 => ?_)
  obtain ⟨kb_13, ⟨kp0_13, rfl⟩⟩ := k13
  refine g_if_eq X (tgt := 26) dX10_slack_16 (by decide) (by omega) (fun c16 => ?_) (fun c16 => ?_)
  · refine g_ldcw X (z := (-1000000)) dX10_slack_26 uw1519 (by decide) ?_
    exact hQ _ _ _ _ dX10_slack_29 ⟨toldOf_2, mostOf_2, r_toldOf_2, r_mostOf_2, (by first | assumption | omega), (by first | assumption | omega), rfl⟩
  · refine g_aload_n X dX10_slack_19 0 rfl ?_
    refine g_callVI0 X (c_X10_canBeSo l D cI cB cJ h q  r_mostOf_2) cv_X10_canBeSo uw1557 ⟨rfl, rfl, by decide, by decide⟩ 0 rfl rfl rfl rfl rfl (Nat.le_of_ble_eq_true rfl) ⟨Nat.zero_le _, Nat.zero_le _⟩ dX10_slack_20 (fun t20 ws20 k20 => ?_)
    obtain ⟨kb_20, ⟨kp0_20, rfl⟩⟩ := k20
    have hcan : (t20 = 1 ∧ okN (toF v_oneOf v_otherOf v_signOf v_byOf (-1) v_claimMany.toNat) 12 ∧ ∀ c : Nat, c < 144 → mostOf_2 c = fwN (toF v_oneOf v_otherOf v_signOf v_byOf (-1) v_claimMany.toNat) 12 c) ∨ (t20 = 0 ∧ ¬ okN (toF v_oneOf v_otherOf v_signOf v_byOf (-1) v_claimMany.toNat) 12) := can_e kp1_2 kp0_20
    have hoz := okZ_e (toF v_oneOf v_otherOf v_signOf v_byOf (-1) v_claimMany.toNat)
    have hok : t20 = okZ (toF v_oneOf v_otherOf v_signOf v_byOf (-1) v_claimMany.toNat) := by rcases hcan with ⟨g1, g2, _⟩ | ⟨g1, g2⟩; (rcases hoz with ⟨k1, k2⟩ | ⟨k1, k2⟩; omega; exact absurd g2 k1); (rcases hoz with ⟨k1, k2⟩ | ⟨k1, k2⟩; exact absurd k1 g2; omega)
    have hM9 : t20 = 1 → okN (toF v_oneOf v_otherOf v_signOf v_byOf (-1) v_claimMany.toNat) 12 ∧ ∀ c : Nat, c < 144 → mostOf_2 c = fwN (toF v_oneOf v_otherOf v_signOf v_byOf (-1) v_claimMany.toNat) 12 c := fun h => (hcan.resolve_right (fun g => by omega)).2
    clear hcan hoz kp1_2 kp0_20
    refine g_if_ne X (tgt := 30) dX10_slack_23 (by decide) (by omega) (fun c23 => ?_) (fun c23 => ?_)
    · have hM := (hM9 (by omega)).2
      have hs := slF_e v_oneOf v_otherOf v_signOf v_byOf (fwN (toF v_oneOf v_otherOf v_signOf v_byOf (-1) v_claimMany.toNat) 12) p0.toNat
      refine g_aload_n X dX10_slack_30 0 rfl ?_
      refine gM_get X 0 rfl 5 (by decide) uw1184 rfl dX10_slack_31 ?_
      refine g_iload_n X dX10_slack_34 1 rfl ?_
      refine g_iald X 6 0 rfl rfl (by omega) (by decide) dX10_slack_35 (fun t35 e35 => ?_)
      have r35 := r_v_signOf (p0 : Int).toNat; rw [← e35] at r35
      refine g_if_ne X (tgt := 41) dX10_slack_36 (by decide) (by omega) (fun c36 => ?_) (fun c36 => ?_)
      · refine g_aload_n X dX10_slack_41 0 rfl ?_
        refine gM_get X 0 rfl 5 (by decide) uw1184 rfl dX10_slack_42 ?_
        refine g_iload_n X dX10_slack_45 1 rfl ?_
        refine g_iald X 6 0 rfl rfl (by omega) (by decide) dX10_slack_46 (fun t46 e46 => ?_)
        have r46 := r_v_signOf (p0 : Int).toNat; rw [← e46] at r46
        refine g_iconst X dX10_slack_47 ?_
        refine g_icmp_ne X (tgt := 77) dX10_slack_48 (by decide) (by omega) (by omega) (fun c48 => ?_) (fun c48 => ?_)
        · refine g_aload_n X dX10_slack_77 0 rfl ?_
          refine gM_get X 0 rfl 6 (by decide) uw1185 rfl dX10_slack_78 ?_
          refine g_iload_n X dX10_slack_81 1 rfl ?_
          refine g_iald X 7 0 rfl rfl (by omega) (by decide) dX10_slack_82 (fun t82 e82 => ?_)
          have r82 := r_v_byOf (p0 : Int).toNat; rw [← e82] at r82
          refine g_ineg X dX10_slack_83 ?_
          refine g_aload_n X dX10_slack_84 0 rfl ?_
          refine g_aload_n X dX10_slack_85 0 rfl ?_
          refine gM_get X 0 rfl 4 (by decide) uw1183 rfl dX10_slack_86 ?_
          refine g_iload_n X dX10_slack_89 1 rfl ?_
          refine g_iald X 5 0 rfl rfl (by omega) (by decide) dX10_slack_90 (fun t90 e90 => ?_)
          have r90 := r_v_otherOf (p0 : Int).toNat; rw [← e90] at r90
          refine g_aload_n X dX10_slack_91 0 rfl ?_
          refine gM_get X 0 rfl 3 (by decide) uw1182 rfl dX10_slack_92 ?_
          refine g_iload_n X dX10_slack_95 1 rfl ?_
          refine g_iald X 4 0 rfl rfl (by omega) (by decide) dX10_slack_96 (fun t96 e96 => ?_)
          have r96 := r_v_oneOf (p0 : Int).toNat; rw [← e96] at r96
          refine g_callVI0 X (c_X10_most l D cI cB cJ h q (p0 := t90) (p1 := t96) r_mostOf_2 (by first | assumption | omega) (by first | assumption | omega) (by first | assumption | omega) (by first | assumption | omega)) cv_X10_most uw1561 ⟨rfl, rfl, by decide, by decide⟩ 0 rfl rfl rfl rfl rfl (Nat.le_of_ble_eq_true rfl) ⟨Nat.zero_le _, Nat.zero_le _⟩ dX10_slack_97 (fun t97 ws97 k97 => ?_)
          obtain ⟨kp0_97, kp1_97, rfl⟩ := k97
          try (have hm2 : t97 = fwN (toF v_oneOf v_otherOf v_signOf v_byOf (-1) v_claimMany.toNat) 12 (12 * (v_otherOf p0.toNat).toNat + (v_oneOf p0.toNat).toNat) := by rw [kp1_97, e90, e96]; exact hM _ (by omega))
          refine g_isub X dX10_slack_100 ?_
          exact hQ _ _ _ _ dX10_slack_101 ⟨toldOf_2, mostOf_2, r_toldOf_2, r_mostOf_2, (by first | assumption | omega), (by first | assumption | omega), rfl⟩
        · refine g_aload_n X dX10_slack_51 0 rfl ?_
          refine gM_get X 0 rfl 6 (by decide) uw1185 rfl dX10_slack_52 ?_
          refine g_iload_n X dX10_slack_55 1 rfl ?_
          refine g_iald X 7 0 rfl rfl (by omega) (by decide) dX10_slack_56 (fun t56 e56 => ?_)
          have r56 := r_v_byOf (p0 : Int).toNat; rw [← e56] at r56
          refine g_aload_n X dX10_slack_57 0 rfl ?_
          refine g_aload_n X dX10_slack_58 0 rfl ?_
          refine gM_get X 0 rfl 3 (by decide) uw1182 rfl dX10_slack_59 ?_
          refine g_iload_n X dX10_slack_62 1 rfl ?_
          refine g_iald X 4 0 rfl rfl (by omega) (by decide) dX10_slack_63 (fun t63 e63 => ?_)
          have r63 := r_v_oneOf (p0 : Int).toNat; rw [← e63] at r63
          refine g_aload_n X dX10_slack_64 0 rfl ?_
          refine gM_get X 0 rfl 4 (by decide) uw1183 rfl dX10_slack_65 ?_
          refine g_iload_n X dX10_slack_68 1 rfl ?_
          refine g_iald X 5 0 rfl rfl (by omega) (by decide) dX10_slack_69 (fun t69 e69 => ?_)
          have r69 := r_v_otherOf (p0 : Int).toNat; rw [← e69] at r69
          refine g_callVI0 X (c_X10_most l D cI cB cJ h q (p0 := t63) (p1 := t69) r_mostOf_2 (by first | assumption | omega) (by first | assumption | omega) (by first | assumption | omega) (by first | assumption | omega)) cv_X10_most uw1561 ⟨rfl, rfl, by decide, by decide⟩ 0 rfl rfl rfl rfl rfl (Nat.le_of_ble_eq_true rfl) ⟨Nat.zero_le _, Nat.zero_le _⟩ dX10_slack_70 (fun t70 ws70 k70 => ?_)
          obtain ⟨kp0_70, kp1_70, rfl⟩ := k70
          have hm : t70 = fwN (toF v_oneOf v_otherOf v_signOf v_byOf (-1) v_claimMany.toNat) 12 (12 * (v_oneOf p0.toNat).toNat + (v_otherOf p0.toNat).toNat) := by rw [kp1_70, e63, e69]; exact hM _ (by omega)
          refine g_isub X dX10_slack_73 ?_
          refine g_goto X (tgt := 101) dX10_slack_74 (by decide) ?_
          exact hQ _ _ _ _ dX10_slack_101 ⟨toldOf_2, mostOf_2, r_toldOf_2, r_mostOf_2, (by first | assumption | omega), (by first | assumption | omega), rfl⟩
      · refine g_iconst X dX10_slack_39 ?_
        exact hQ _ _ _ _ dX10_slack_40 ⟨toldOf_2, mostOf_2, r_toldOf_2, r_mostOf_2, (by first | assumption | omega), (by first | assumption | omega), rfl⟩
    · refine g_ldcw X (z := (-1000000)) dX10_slack_26 uw1519 (by decide) ?_
      exact hQ _ _ _ _ dX10_slack_29 ⟨toldOf_2, mostOf_2, r_toldOf_2, r_mostOf_2, (by first | assumption | omega), (by first | assumption | omega), rfl⟩
set_option maxHeartbeats 4000000 in
set_option maxRecDepth 100000 in
theorem c_X10_signed (l : Launch) (D : va_G) (cI cB cJ : ClassId) (h : Nat) (q : Nat → Nat) {v_stalls v_claimMany v_taped v_place0 v_length0 v_fault v_number0 v_open v_codeMany v_waiting v_saidMany v_clauses v_newMany v_newStalls v_lines v_salesNow v_outNow v_isKept v_keptStalls : Int} {v_now v_aside v_kept v_oneOf v_otherOf v_signOf v_byOf v_tape v_said v_waitsAt v_saidLetter v_saidFrom v_saidHalf v_saidTo v_codes v_clauseOf v_codeFrom v_codeHalf v_codeTo v_stack v_facts v_newOne v_newOther v_newSign v_newBy v_moreOf v_firstOf v_toldOf v_mostOf v_mostThen v_sumTo v_rowFrom v_ordersOf v_lessOf v_weightOf v_rowNow v_slowRow v_fastRow v_lineNow v_firstLine v_freeBy v_heldBy v_heightOf v_upTo v_downTo v_oftenOf v_newUpper v_newLower : Nat → Int} {p0 : Int} (r_v_tape : RA (-128) 127 v_tape) (hp0 : IR p0) (hp1 : 0 ≤ p0 ∧ p0 < 260) : CtI l yX10_signed cX10_signed 2 (some .int) ⟨1, 0, 0, 21⟩ D (TY cI cB cJ) (wX10 cI cB cJ h q v_stalls v_claimMany v_taped v_place0 v_length0 v_fault v_number0 v_open v_codeMany v_waiting v_saidMany v_clauses v_newMany v_newStalls v_lines v_salesNow v_outNow v_isKept v_keptStalls v_now v_aside v_kept v_oneOf v_otherOf v_signOf v_byOf v_tape v_said v_waitsAt v_saidLetter v_saidFrom v_saidHalf v_saidTo v_codes v_clauseOf v_codeFrom v_codeHalf v_codeTo v_stack v_facts v_newOne v_newOther v_newSign v_newBy v_moreOf v_firstOf v_toldOf v_mostOf v_mostThen v_sumTo v_rowFrom v_ordersOf v_lessOf v_weightOf v_rowNow v_slowRow v_fastRow v_lineNow v_firstLine v_freeBy v_heldBy v_heightOf v_upTo v_downTo v_oftenOf v_newUpper v_newLower) [.ref h, vI p0] (fun z ws' => (-128 ≤ z ∧ z ≤ 127) ∧ (z = wkS (oct v_tape) p0.toNat) ∧ (ws' = (wX10 cI cB cJ h q v_stalls v_claimMany v_taped v_place0 v_length0 v_fault v_number0 v_open v_codeMany v_waiting v_saidMany v_clauses v_newMany v_newStalls v_lines v_salesNow v_outNow v_isKept v_keptStalls v_now v_aside v_kept v_oneOf v_otherOf v_signOf v_byOf v_tape v_said v_waitsAt v_saidLetter v_saidFrom v_saidHalf v_saidTo v_codes v_clauseOf v_codeFrom v_codeHalf v_codeTo v_stack v_facts v_newOne v_newOther v_newSign v_newBy v_moreOf v_firstOf v_toldOf v_mostOf v_mostThen v_sumTo v_rowFrom v_ordersOf v_lessOf v_weightOf v_rowNow v_slowRow v_fastRow v_lineNow v_firstLine v_freeBy v_heldBy v_heightOf v_upTo v_downTo v_oftenOf v_newUpper v_newLower))) := by
  refine hdrI (own := RX10) rfl (by decide +kernel) (Nat.le_of_ble_eq_true rfl) ?_
  intro p e s m args below meth c Q A X hQ
  refine g_lvE (lv2 := [(0, .ref h), (1, vI p0)]) rfl ?_
  refine g_aload_n X dX10_signed_0 0 rfl ?_
  refine g_iload_n X dX10_signed_1 1 rfl ?_
  refine g_callVI0 X (c_X10_octet l D cI cB cJ h q (p0 := p0) r_v_tape (by first | assumption | omega) (by first | assumption | omega)) cv_X10_octet uw1641 ⟨rfl, rfl, by decide, by decide⟩ 0 rfl rfl rfl rfl rfl (Nat.le_of_ble_eq_true rfl) ⟨Nat.zero_le _, Nat.zero_le _⟩ dX10_signed_2 (fun t2 ws2 k2 => ?_)
  obtain ⟨kp0_2, kp1_2, kp2_2, rfl⟩ := k2
  refine g_bipush X (z := 127) dX10_signed_5 (by decide) ?_
  refine g_icmp_le X (tgt := 22) dX10_signed_7 (by decide) (by omega) (by omega) (fun c7 => ?_) (fun c7 => ?_)
  · refine g_aload_n X dX10_signed_22 0 rfl ?_
    refine g_iload_n X dX10_signed_23 1 rfl ?_
    refine g_callVI0 X (c_X10_octet l D cI cB cJ h q (p0 := p0) r_v_tape (by first | assumption | omega) (by first | assumption | omega)) cv_X10_octet uw1641 ⟨rfl, rfl, by decide, by decide⟩ 0 rfl rfl rfl rfl rfl (Nat.le_of_ble_eq_true rfl) ⟨Nat.zero_le _, Nat.zero_le _⟩ dX10_signed_24 (fun t24 ws24 k24 => ?_)
    obtain ⟨kp0_24, kp1_24, kp2_24, rfl⟩ := k24
    have hs : t24 = sgn8 (oct v_tape p0.toNat) := by first | (rw [← kp2_12]; exact sgn8_p (by omega)) | (rw [← kp2_24]; exact sgn8_n (by omega))
    exact hQ _ _ _ _ dX10_signed_27 ⟨(by first | assumption | omega), (by exact hs), rfl⟩
  · refine g_aload_n X dX10_signed_10 0 rfl ?_
    refine g_iload_n X dX10_signed_11 1 rfl ?_
    refine g_callVI0 X (c_X10_octet l D cI cB cJ h q (p0 := p0) r_v_tape (by first | assumption | omega) (by first | assumption | omega)) cv_X10_octet uw1641 ⟨rfl, rfl, by decide, by decide⟩ 0 rfl rfl rfl rfl rfl (Nat.le_of_ble_eq_true rfl) ⟨Nat.zero_le _, Nat.zero_le _⟩ dX10_signed_12 (fun t12 ws12 k12 => ?_)
    obtain ⟨kp0_12, kp1_12, kp2_12, rfl⟩ := k12
    refine g_sipush X (z := 256) dX10_signed_15 (by decide) ?_
    refine g_isub X dX10_signed_18 ?_
    refine g_goto X (tgt := 27) dX10_signed_19 (by decide) ?_
    have hs : (t12 - 256) = sgn8 (oct v_tape p0.toNat) := by first | (rw [← kp2_12]; exact sgn8_p (by omega)) | (rw [← kp2_24]; exact sgn8_n (by omega))
    exact hQ _ _ _ _ dX10_signed_27 ⟨(by first | assumption | omega), (by exact hs), rfl⟩
set_option maxHeartbeats 4000000 in
set_option maxRecDepth 100000 in
theorem c_X10_walk (l : Launch) (D : va_G) (cI cB cJ : ClassId) (h : Nat) (q : Nat → Nat) {v_stalls v_claimMany v_taped v_place0 v_length0 v_fault v_number0 v_open v_codeMany v_waiting v_saidMany v_clauses v_newMany v_newStalls v_lines v_salesNow v_outNow v_isKept v_keptStalls : Int} {v_now v_aside v_kept v_oneOf v_otherOf v_signOf v_byOf v_tape v_said v_waitsAt v_saidLetter v_saidFrom v_saidHalf v_saidTo v_codes v_clauseOf v_codeFrom v_codeHalf v_codeTo v_stack v_facts v_newOne v_newOther v_newSign v_newBy v_moreOf v_firstOf v_toldOf v_mostOf v_mostThen v_sumTo v_rowFrom v_ordersOf v_lessOf v_weightOf v_rowNow v_slowRow v_fastRow v_lineNow v_firstLine v_freeBy v_heldBy v_heightOf v_upTo v_downTo v_oftenOf v_newUpper v_newLower : Nat → Int} {p0 p1 : Int} (kr_v_taped : 0 ≤ v_taped ∧ v_taped ≤ 260) (r_v_tape : RA (-128) 127 v_tape) (hp0 : IR p0) (hp1 : IR p1) : CtI l yX10_walk cX10_walk 11 (some .int) ⟨2, 0, 0, 42⟩ D (TY cI cB cJ) (wX10 cI cB cJ h q v_stalls v_claimMany v_taped v_place0 v_length0 v_fault v_number0 v_open v_codeMany v_waiting v_saidMany v_clauses v_newMany v_newStalls v_lines v_salesNow v_outNow v_isKept v_keptStalls v_now v_aside v_kept v_oneOf v_otherOf v_signOf v_byOf v_tape v_said v_waitsAt v_saidLetter v_saidFrom v_saidHalf v_saidTo v_codes v_clauseOf v_codeFrom v_codeHalf v_codeTo v_stack v_facts v_newOne v_newOther v_newSign v_newBy v_moreOf v_firstOf v_toldOf v_mostOf v_mostThen v_sumTo v_rowFrom v_ordersOf v_lessOf v_weightOf v_rowNow v_slowRow v_fastRow v_lineNow v_firstLine v_freeBy v_heldBy v_heightOf v_upTo v_downTo v_oftenOf v_newUpper v_newLower) [.ref h, vI p0, vI p1] (fun z ws' => ∃ n_taped : Int, (0 ≤ n_taped ∧ n_taped ≤ 260) ∧ (IR z) ∧ ((0 ≤ p1 ∧ p1 ≤ 3 ∧ 1 ≤ p0 ∧ p0 ≤ 20 ∧ p0 ≤ v_taped ∧ n_taped = 0) ∨ (¬ (0 ≤ p1 ∧ p1 ≤ 3 ∧ 1 ≤ p0 ∧ p0 ≤ 20 ∧ p0 ≤ v_taped) ∧ n_taped = v_taped)) ∧ (((0 ≤ p1 ∧ p1 ≤ 3 ∧ 1 ≤ p0 ∧ p0 ≤ 20 ∧ p0 ≤ v_taped) ∧ z = wkF (wkS (oct v_tape)) p0 p1) ∨ (¬ (0 ≤ p1 ∧ p1 ≤ 3 ∧ 1 ≤ p0 ∧ p0 ≤ 20 ∧ p0 ≤ v_taped) ∧ z = -1000000)) ∧ (ws' = (wX10 cI cB cJ h q v_stalls v_claimMany n_taped v_place0 v_length0 v_fault v_number0 v_open v_codeMany v_waiting v_saidMany v_clauses v_newMany v_newStalls v_lines v_salesNow v_outNow v_isKept v_keptStalls v_now v_aside v_kept v_oneOf v_otherOf v_signOf v_byOf v_tape v_said v_waitsAt v_saidLetter v_saidFrom v_saidHalf v_saidTo v_codes v_clauseOf v_codeFrom v_codeHalf v_codeTo v_stack v_facts v_newOne v_newOther v_newSign v_newBy v_moreOf v_firstOf v_toldOf v_mostOf v_mostThen v_sumTo v_rowFrom v_ordersOf v_lessOf v_weightOf v_rowNow v_slowRow v_fastRow v_lineNow v_firstLine v_freeBy v_heldBy v_heightOf v_upTo v_downTo v_oftenOf v_newUpper v_newLower))) := by
  refine hdrI (own := RX10) rfl (by decide +kernel) (Nat.le_of_ble_eq_true rfl) ?_
  intro p e s m args below meth c Q A X hQ
  refine g_lvE (lv2 := [(0, .ref h), (1, vI p0), (2, vI p1)]) rfl ?_
  refine g_iload_n X dX10_walk_0 1 rfl ?_
  refine g_iconst X dX10_walk_1 ?_
  refine g_bipush X (z := 20) dX10_walk_2 (by decide) ?_
  refine g_callSIE X (c_X10_in l D cI cB cJ (p0 := p0) (p1 := 1) (p2 := 20) (by first | assumption | omega) (by first | assumption | omega) (by first | assumption | omega)) cv_X10_in uw1394 ⟨rfl, rfl, by decide, by decide⟩ rfl rfl (Nat.le_of_ble_eq_true rfl) ⟨Nat.zero_le _, Nat.zero_le _⟩ dX10_walk_4 (fun t4 ws4 k4 => ?_)
  obtain ⟨kb_4, ⟨kp0_4, rfl⟩⟩ := k4
  refine g_if_eq X (tgt := 27) dX10_walk_7 (by decide) (by omega) (fun c7 => ?_) (fun c7 => ?_)
  · clear kb_4
    replace kp0_4 := (kp0_4.resolve_left (fun h => absurd h.1 (by omega))).2
    refine g_ldcw X (z := (-1000000)) dX10_walk_27 uw1519 (by decide) ?_
    exact hQ _ _ _ _ dX10_walk_30 ⟨v_taped, (by omega), (by first | assumption | omega), (by first | assumption | omega), (by first | assumption | omega), rfl⟩
  · replace kb_4 := kb_4.resolve_left (fun h => c7 h)
    replace kp0_4 := kp0_4.resolve_right (fun h => c7 h.1)
    refine g_iload_n X dX10_walk_10 2 rfl ?_
    refine g_iconst X dX10_walk_11 ?_
    refine g_iconst X dX10_walk_12 ?_
    refine g_callSIE X (c_X10_in l D cI cB cJ (p0 := p1) (p1 := 0) (p2 := 3) (by first | assumption | omega) (by first | assumption | omega) (by first | assumption | omega)) cv_X10_in uw1394 ⟨rfl, rfl, by decide, by decide⟩ rfl rfl (Nat.le_of_ble_eq_true rfl) ⟨Nat.zero_le _, Nat.zero_le _⟩ dX10_walk_13 (fun t13 ws13 k13 => ?_)
    obtain ⟨kb_13, ⟨kp0_13, rfl⟩⟩ := k13
    refine g_if_eq X (tgt := 27) dX10_walk_16 (by decide) (by omega) (fun c16 => ?_) (fun c16 => ?_)
    · clear kb_13
      replace kp0_13 := (kp0_13.resolve_left (fun h => absurd h.1 (by omega))).2
      refine g_ldcw X (z := (-1000000)) dX10_walk_27 uw1519 (by decide) ?_
      exact hQ _ _ _ _ dX10_walk_30 ⟨v_taped, (by omega), (by first | assumption | omega), (by first | assumption | omega), (by first | assumption | omega), rfl⟩
    · replace kb_13 := kb_13.resolve_left (fun h => c16 h)
      replace kp0_13 := kp0_13.resolve_right (fun h => c16 h.1)
      refine g_iload_n X dX10_walk_19 1 rfl ?_
      refine g_aload_n X dX10_walk_20 0 rfl ?_
      refine gM_get X 0 rfl 10 (by decide) uw1189 rfl dX10_walk_21 ?_
      refine g_icmp_le X (tgt := 31) dX10_walk_24 (by decide) (by omega) (by omega) (fun c24 => ?_) (fun c24 => ?_)
      · refine g_aload_n X dX10_walk_31 0 rfl ?_
        refine g_iconst X dX10_walk_32 ?_
        refine gM_put X 0 rfl 10 (by decide) uw1189 rfl rfl rfl (Nat.le_of_ble_eq_true rfl) dX10_walk_33 (ws2 := (wX10 cI cB cJ h q v_stalls v_claimMany 0 v_place0 v_length0 v_fault v_number0 v_open v_codeMany v_waiting v_saidMany v_clauses v_newMany v_newStalls v_lines v_salesNow v_outNow v_isKept v_keptStalls v_now v_aside v_kept v_oneOf v_otherOf v_signOf v_byOf v_tape v_said v_waitsAt v_saidLetter v_saidFrom v_saidHalf v_saidTo v_codes v_clauseOf v_codeFrom v_codeHalf v_codeTo v_stack v_facts v_newOne v_newOther v_newSign v_newBy v_moreOf v_firstOf v_toldOf v_mostOf v_mostThen v_sumTo v_rowFrom v_ordersOf v_lessOf v_weightOf v_rowNow v_slowRow v_fastRow v_lineNow v_firstLine v_freeBy v_heldBy v_heightOf v_upTo v_downTo v_oftenOf v_newUpper v_newLower)) rfl ?_
        refine g_iconst X dX10_walk_36 ?_
        refine g_istore_n X (lv' := [(3, vI 0), (0, .ref h), (1, vI p0), (2, vI p1)]) dX10_walk_37 (by decide) rfl ?_
        refine g_iconst X dX10_walk_38 ?_
        refine g_istore X (lv' := [(4, vI 0), (3, vI 0), (0, .ref h), (1, vI p0), (2, vI p1)]) dX10_walk_39 (by decide) rfl ?_
        refine g_iconst X dX10_walk_41 ?_
        refine g_istore X (lv' := [(5, vI 0), (4, vI 0), (3, vI 0), (0, .ref h), (1, vI p0), (2, vI p1)]) dX10_walk_42 (by decide) rfl ?_
        refine g_iconst X dX10_walk_44 ?_
        refine g_istore X (lv' := [(6, vI 0), (5, vI 0), (4, vI 0), (3, vI 0), (0, .ref h), (1, vI p0), (2, vI p1)]) dX10_walk_45 (by decide) rfl ?_
        refine g_iconst X dX10_walk_47 ?_
        refine g_istore X (lv' := [(7, vI 0), (6, vI 0), (5, vI 0), (4, vI 0), (3, vI 0), (0, .ref h), (1, vI p0), (2, vI p1)]) dX10_walk_48 (by decide) rfl ?_
        refine g_iconst X dX10_walk_50 ?_
        refine g_istore X (lv' := [(8, vI 0), (7, vI 0), (6, vI 0), (5, vI 0), (4, vI 0), (3, vI 0), (0, .ref h), (1, vI p0), (2, vI p1)]) dX10_walk_51 (by decide) rfl ?_
        have h0 : wkA (wkS (oct v_tape)) (0 : Int).toNat = 0 := rfl
        have h1 : wkM (wkS (oct v_tape)) (0 : Int).toNat = 0 := rfl
        have h2 : wkL (wkS (oct v_tape)) (0 : Int).toNat = 0 := rfl
        have h3 : wkT (wkS (oct v_tape)) (0 : Int).toNat = 0 := rfl
        have h4 : wkB (wkS (oct v_tape)) (0 : Int).toNat = 0 := rfl
        have L53 : ∀ (n : Nat) (x3_53 : Int) (x4_53 : Int) (x5_53 : Int) (x6_53 : Int) (x7_53 : Int) (x8_53 : Int), (0 ≤ x8_53 ∧ x8_53 ≤ p0) → (-128 * x8_53 ≤ x3_53 ∧ x3_53 ≤ 127 * x8_53) → (-2560 ≤ x4_53 ∧ x4_53 ≤ 2560) → (-2560 ≤ x5_53 ∧ x5_53 ≤ 2560) → (0 ≤ x6_53 ∧ x6_53 ≤ x8_53) → (-1 ≤ x7_53 ∧ x7_53 ≤ 1) → (x3_53 = wkA (wkS (oct v_tape)) (x8_53).toNat) → (x4_53 = wkM (wkS (oct v_tape)) (x8_53).toNat) → (x5_53 = wkL (wkS (oct v_tape)) (x8_53).toNat) → (x6_53 = wkT (wkS (oct v_tape)) (x8_53).toNat) → (x7_53 = wkB (wkS (oct v_tape)) (x8_53).toNat) → (p0 - x8_53).toNat < n → GG p l e ⟨2, 0, 0, 42⟩ s m args below meth c 0 0 Q D A s.heap 11 (wX10 cI cB cJ h q v_stalls v_claimMany 0 v_place0 v_length0 v_fault v_number0 v_open v_codeMany v_waiting v_saidMany v_clauses v_newMany v_newStalls v_lines v_salesNow v_outNow v_isKept v_keptStalls v_now v_aside v_kept v_oneOf v_otherOf v_signOf v_byOf v_tape v_said v_waitsAt v_saidLetter v_saidFrom v_saidHalf v_saidTo v_codes v_clauseOf v_codeFrom v_codeHalf v_codeTo v_stack v_facts v_newOne v_newOther v_newSign v_newBy v_moreOf v_firstOf v_toldOf v_mostOf v_mostThen v_sumTo v_rowFrom v_ordersOf v_lessOf v_weightOf v_rowNow v_slowRow v_fastRow v_lineNow v_firstLine v_freeBy v_heldBy v_heightOf v_upTo v_downTo v_oftenOf v_newUpper v_newLower) 53 [(0, .ref h), (1, vI p0), (2, vI p1), (3, vI x3_53), (4, vI x4_53), (5, vI x5_53), (6, vI x6_53), (7, vI x7_53), (8, vI x8_53)] [] := by
          intro n
          induction n with
          | zero => intros; exfalso; omega
          | succ n ih53 =>
            intro x3_53 x4_53 x5_53 x6_53 x7_53 x8_53 w53_0 w53_1 w53_2 w53_3 w53_4 w53_5 w53_6 w53_7 w53_8 w53_9 w53_10 wm53
            have hA := wkA_s (wkS (oct v_tape)) (x := x8_53) (by omega)
            have hM := wkM_s (wkS (oct v_tape)) (x := x8_53) (by omega)
            have hL := wkL_s (wkS (oct v_tape)) (x := x8_53) (by omega)
            have hT := wkBT_s (wkS (oct v_tape)) (x := x8_53) (by omega)
            have hR := wkB_r (wkS (oct v_tape)) (x8_53).toNat
            refine g_iload X dX10_walk_53 8 rfl ?_
            refine g_iload_n X dX10_walk_55 1 rfl ?_
            refine g_icmp_ge X (tgt := 136) dX10_walk_56 (by decide) (by omega) (by omega) (fun c56 => ?_) (fun c56 => ?_)
            · refine g_iload_n X dX10_walk_136 2 rfl ?_
              refine g_if_ne X (tgt := 144) dX10_walk_137 (by decide) (by omega) (fun c137 => ?_) (fun c137 => ?_)
              · refine g_iload_n X dX10_walk_144 2 rfl ?_
                refine g_iconst X dX10_walk_145 ?_
                refine g_icmp_ne X (tgt := 154) dX10_walk_146 (by decide) (by omega) (by omega) (fun c146 => ?_) (fun c146 => ?_)
                · refine g_iload_n X dX10_walk_154 2 rfl ?_
                  refine g_iconst X dX10_walk_155 ?_
                  refine g_icmp_ne X (tgt := 164) dX10_walk_156 (by decide) (by omega) (by omega) (fun c156 => ?_) (fun c156 => ?_)
                  · refine g_iload X dX10_walk_164 6 rfl ?_
                    have hx : x8_53 = p0 := by omega
                    rw [hx] at w53_6 w53_7 w53_8 w53_9
                    have hF := wkF_e (wkS (oct v_tape)) p0 p1 (by omega)
                    exact hQ _ _ _ _ dX10_walk_166 ⟨0, (by omega), (by first | assumption | omega), (by first | assumption | omega), (by first | assumption | omega), rfl⟩
                  · refine g_iload X dX10_walk_159 5 rfl ?_
                    refine g_goto X (tgt := 166) dX10_walk_161 (by decide) ?_
                    have hx : x8_53 = p0 := by omega
                    rw [hx] at w53_6 w53_7 w53_8 w53_9
                    have hF := wkF_e (wkS (oct v_tape)) p0 p1 (by omega)
                    exact hQ _ _ _ _ dX10_walk_166 ⟨0, (by omega), (by first | assumption | omega), (by first | assumption | omega), (by first | assumption | omega), rfl⟩
                · refine g_iload X dX10_walk_149 4 rfl ?_
                  refine g_goto X (tgt := 166) dX10_walk_151 (by decide) ?_
                  have hx : x8_53 = p0 := by omega
                  rw [hx] at w53_6 w53_7 w53_8 w53_9
                  have hF := wkF_e (wkS (oct v_tape)) p0 p1 (by omega)
                  exact hQ _ _ _ _ dX10_walk_166 ⟨0, (by omega), (by first | assumption | omega), (by first | assumption | omega), (by first | assumption | omega), rfl⟩
              · refine g_iload_n X dX10_walk_140 3 rfl ?_
                refine g_goto X (tgt := 166) dX10_walk_141 (by decide) ?_
                have hx : x8_53 = p0 := by omega
                rw [hx] at w53_6 w53_7 w53_8 w53_9
                have hF := wkF_e (wkS (oct v_tape)) p0 p1 (by omega)
                exact hQ _ _ _ _ dX10_walk_166 ⟨0, (by omega), (by first | assumption | omega), (by first | assumption | omega), (by first | assumption | omega), rfl⟩
            · refine g_aload_n X dX10_walk_59 0 rfl ?_
              refine g_iload X dX10_walk_60 8 rfl ?_
              refine g_callVI0 X (c_X10_signed l D cI cB cJ h q (p0 := x8_53) r_v_tape (by first | assumption | omega) (by first | assumption | omega)) cv_X10_signed uw1653 ⟨rfl, rfl, by decide, by decide⟩ 0 rfl rfl rfl rfl rfl (Nat.le_of_ble_eq_true rfl) ⟨Nat.zero_le _, Nat.zero_le _⟩ dX10_walk_62 (fun t62 ws62 k62 => ?_)
              obtain ⟨kp0_62, kp1_62, rfl⟩ := k62
              refine g_istore X (lv' := [(9, vI t62), (0, .ref h), (1, vI p0), (2, vI p1), (3, vI x3_53), (4, vI x4_53), (5, vI x5_53), (6, vI x6_53), (7, vI x7_53), (8, vI x8_53)]) dX10_walk_65 (by decide) rfl ?_
              refine g_iload_n X dX10_walk_67 4 rfl ?_
              refine g_iload X dX10_walk_68 0 rfl ?_
              refine g_iadd X dX10_walk_70 ?_
              refine g_istore_n X (lv' := [(3, vI (x3_53 + t62)), (9, vI t62), (0, .ref h), (1, vI p0), (2, vI p1), (4, vI x4_53), (5, vI x5_53), (6, vI x6_53), (7, vI x7_53), (8, vI x8_53)]) dX10_walk_71 (by decide) rfl ?_
              refine g_iload X dX10_walk_72 5 rfl ?_
              refine g_iload_n X dX10_walk_74 0 rfl ?_
              refine g_callSIE X (c_X10_max l D cI cB cJ (p0 := x4_53) (p1 := x3_53 + t62) (by first | assumption | omega) (by first | assumption | omega)) cv_X10_max uw1554 ⟨rfl, rfl, by decide, by decide⟩ rfl rfl (Nat.le_of_ble_eq_true rfl) ⟨Nat.zero_le _, Nat.zero_le _⟩ dX10_walk_75 (fun t75 ws75 k75 => ?_)
              obtain ⟨kp0_75, rfl⟩ := k75
              refine g_istore X (lv' := [(4, vI t75), (3, vI (x3_53 + t62)), (9, vI t62), (0, .ref h), (1, vI p0), (2, vI p1), (5, vI x5_53), (6, vI x6_53), (7, vI x7_53), (8, vI x8_53)]) dX10_walk_78 (by decide) rfl ?_
              refine g_iload X dX10_walk_80 6 rfl ?_
              refine g_iload_n X dX10_walk_82 1 rfl ?_
              refine g_callSIE X (c_X10_min l D cI cB cJ (p0 := x5_53) (p1 := x3_53 + t62) (by first | assumption | omega) (by first | assumption | omega)) cv_X10_min uw1551 ⟨rfl, rfl, by decide, by decide⟩ rfl rfl (Nat.le_of_ble_eq_true rfl) ⟨Nat.zero_le _, Nat.zero_le _⟩ dX10_walk_83 (fun t83 ws83 k83 => ?_)
              obtain ⟨kp0_83, rfl⟩ := k83
              refine g_istore X (lv' := [(5, vI t83), (4, vI t75), (3, vI (x3_53 + t62)), (9, vI t62), (0, .ref h), (1, vI p0), (2, vI p1), (6, vI x6_53), (7, vI x7_53), (8, vI x8_53)]) dX10_walk_86 (by decide) rfl ?_
              refine g_iload X dX10_walk_88 3 rfl ?_
              refine g_if_ne X (tgt := 96) dX10_walk_90 (by decide) (by omega) (fun c90 => ?_) (fun c90 => ?_)
              · refine g_iload X dX10_walk_96 3 rfl ?_
                refine g_if_le X (tgt := 105) dX10_walk_98 (by decide) (by omega) (fun c98 => ?_) (fun c98 => ?_)
                · refine g_iconst X dX10_walk_105 ?_
                  refine g_istore X (lv' := [(10, vI (-1)), (5, vI t83), (4, vI t75), (3, vI (x3_53 + t62)), (9, vI t62), (0, .ref h), (1, vI p0), (2, vI p1), (6, vI x6_53), (7, vI x7_53), (8, vI x8_53)]) dX10_walk_106 (by decide) rfl ?_
                  refine g_iload X dX10_walk_108 9 rfl ?_
                  refine g_if_eq X (tgt := 126) dX10_walk_110 (by decide) (by omega) (fun c110 => ?_) (fun c110 => ?_)
                  · refine g_iload X dX10_walk_126 0 rfl ?_
                    refine g_istore X (lv' := [(7, vI (-1)), (10, vI (-1)), (5, vI t83), (4, vI t75), (3, vI (x3_53 + t62)), (9, vI t62), (0, .ref h), (1, vI p0), (2, vI p1), (6, vI x6_53), (8, vI x8_53)]) dX10_walk_128 (by decide) rfl ?_
                    refine g_iinc X (lv' := [(8, vI (x8_53 + 1)), (7, vI (-1)), (10, vI (-1)), (5, vI t83), (4, vI t75), (3, vI (x3_53 + t62)), (9, vI t62), (0, .ref h), (1, vI p0), (2, vI p1), (6, vI x6_53)]) dX10_walk_130 10 rfl (by decide) rfl ?_
                    refine g_goto X (tgt := 53) dX10_walk_133 (by decide) ?_
                    refine g_lv [7, 8, 9, 5, 4, 3, 10, 1, 0] rfl ?_
                    exact ih53 (x3_53 + t62) t75 t83 x6_53 (-1) (x8_53 + 1) (by first | assumption | omega) (by first | assumption | omega) (by first | assumption | omega) (by first | assumption | omega) (by first | assumption | omega) (by first | assumption | omega) (by first | assumption | omega) (by first | assumption | omega) (by first | assumption | omega) (by first | assumption | omega) (by first | assumption | omega) (by omega)
                  · refine g_iload X dX10_walk_113 9 rfl ?_
                    refine g_iload X dX10_walk_115 0 rfl ?_
                    refine g_icmp_eq X (tgt := 126) dX10_walk_117 (by decide) (by omega) (by omega) (fun c117 => ?_) (fun c117 => ?_)
                    · refine g_iload X dX10_walk_126 0 rfl ?_
                      refine g_istore X (lv' := [(7, vI (-1)), (10, vI (-1)), (5, vI t83), (4, vI t75), (3, vI (x3_53 + t62)), (9, vI t62), (0, .ref h), (1, vI p0), (2, vI p1), (6, vI x6_53), (8, vI x8_53)]) dX10_walk_128 (by decide) rfl ?_
                      refine g_iinc X (lv' := [(8, vI (x8_53 + 1)), (7, vI (-1)), (10, vI (-1)), (5, vI t83), (4, vI t75), (3, vI (x3_53 + t62)), (9, vI t62), (0, .ref h), (1, vI p0), (2, vI p1), (6, vI x6_53)]) dX10_walk_130 10 rfl (by decide) rfl ?_
                      refine g_goto X (tgt := 53) dX10_walk_133 (by decide) ?_
                      refine g_lv [7, 8, 9, 5, 4, 3, 10, 1, 0] rfl ?_
                      exact ih53 (x3_53 + t62) t75 t83 x6_53 (-1) (x8_53 + 1) (by first | assumption | omega) (by first | assumption | omega) (by first | assumption | omega) (by first | assumption | omega) (by first | assumption | omega) (by first | assumption | omega) (by first | assumption | omega) (by first | assumption | omega) (by first | assumption | omega) (by first | assumption | omega) (by first | assumption | omega) (by omega)
                    · refine g_iload X dX10_walk_120 8 rfl ?_
                      refine g_iconst X dX10_walk_122 ?_
                      refine g_iadd X dX10_walk_123 ?_
                      refine g_istore X (lv' := [(6, vI (x6_53 + 1)), (10, vI (-1)), (5, vI t83), (4, vI t75), (3, vI (x3_53 + t62)), (9, vI t62), (0, .ref h), (1, vI p0), (2, vI p1), (7, vI x7_53), (8, vI x8_53)]) dX10_walk_124 (by decide) rfl ?_
                      refine g_iload X dX10_walk_126 1 rfl ?_
                      refine g_istore X (lv' := [(7, vI (-1)), (6, vI (x6_53 + 1)), (10, vI (-1)), (5, vI t83), (4, vI t75), (3, vI (x3_53 + t62)), (9, vI t62), (0, .ref h), (1, vI p0), (2, vI p1), (8, vI x8_53)]) dX10_walk_128 (by decide) rfl ?_
                      refine g_iinc X (lv' := [(8, vI (x8_53 + 1)), (7, vI (-1)), (6, vI (x6_53 + 1)), (10, vI (-1)), (5, vI t83), (4, vI t75), (3, vI (x3_53 + t62)), (9, vI t62), (0, .ref h), (1, vI p0), (2, vI p1)]) dX10_walk_130 10 rfl (by decide) rfl ?_
                      refine g_goto X (tgt := 53) dX10_walk_133 (by decide) ?_
                      refine g_lv [8, 9, 10, 6, 5, 4, 2, 1, 0] rfl ?_
                      exact ih53 (x3_53 + t62) t75 t83 (x6_53 + 1) (-1) (x8_53 + 1) (by first | assumption | omega) (by first | assumption | omega) (by first | assumption | omega) (by first | assumption | omega) (by first | assumption | omega) (by first | assumption | omega) (by first | assumption | omega) (by first | assumption | omega) (by first | assumption | omega) (by first | assumption | omega) (by first | assumption | omega) (by omega)
                · refine g_iconst X dX10_walk_101 ?_
                  refine g_goto X (tgt := 106) dX10_walk_102 (by decide) ?_
                  refine g_istore X (lv' := [(10, vI 1), (5, vI t83), (4, vI t75), (3, vI (x3_53 + t62)), (9, vI t62), (0, .ref h), (1, vI p0), (2, vI p1), (6, vI x6_53), (7, vI x7_53), (8, vI x8_53)]) dX10_walk_106 (by decide) rfl ?_
                  refine g_iload X dX10_walk_108 9 rfl ?_
                  refine g_if_eq X (tgt := 126) dX10_walk_110 (by decide) (by omega) (fun c110 => ?_) (fun c110 => ?_)
                  · refine g_iload X dX10_walk_126 0 rfl ?_
                    refine g_istore X (lv' := [(7, vI 1), (10, vI 1), (5, vI t83), (4, vI t75), (3, vI (x3_53 + t62)), (9, vI t62), (0, .ref h), (1, vI p0), (2, vI p1), (6, vI x6_53), (8, vI x8_53)]) dX10_walk_128 (by decide) rfl ?_
                    refine g_iinc X (lv' := [(8, vI (x8_53 + 1)), (7, vI 1), (10, vI 1), (5, vI t83), (4, vI t75), (3, vI (x3_53 + t62)), (9, vI t62), (0, .ref h), (1, vI p0), (2, vI p1), (6, vI x6_53)]) dX10_walk_130 10 rfl (by decide) rfl ?_
                    refine g_goto X (tgt := 53) dX10_walk_133 (by decide) ?_
                    refine g_lv [7, 8, 9, 5, 4, 3, 10, 1, 0] rfl ?_
                    exact ih53 (x3_53 + t62) t75 t83 x6_53 1 (x8_53 + 1) (by first | assumption | omega) (by first | assumption | omega) (by first | assumption | omega) (by first | assumption | omega) (by first | assumption | omega) (by first | assumption | omega) (by first | assumption | omega) (by first | assumption | omega) (by first | assumption | omega) (by first | assumption | omega) (by first | assumption | omega) (by omega)
                  · refine g_iload X dX10_walk_113 9 rfl ?_
                    refine g_iload X dX10_walk_115 0 rfl ?_
                    refine g_icmp_eq X (tgt := 126) dX10_walk_117 (by decide) (by omega) (by omega) (fun c117 => ?_) (fun c117 => ?_)
                    · refine g_iload X dX10_walk_126 0 rfl ?_
                      refine g_istore X (lv' := [(7, vI 1), (10, vI 1), (5, vI t83), (4, vI t75), (3, vI (x3_53 + t62)), (9, vI t62), (0, .ref h), (1, vI p0), (2, vI p1), (6, vI x6_53), (8, vI x8_53)]) dX10_walk_128 (by decide) rfl ?_
                      refine g_iinc X (lv' := [(8, vI (x8_53 + 1)), (7, vI 1), (10, vI 1), (5, vI t83), (4, vI t75), (3, vI (x3_53 + t62)), (9, vI t62), (0, .ref h), (1, vI p0), (2, vI p1), (6, vI x6_53)]) dX10_walk_130 10 rfl (by decide) rfl ?_
                      refine g_goto X (tgt := 53) dX10_walk_133 (by decide) ?_
                      refine g_lv [7, 8, 9, 5, 4, 3, 10, 1, 0] rfl ?_
                      exact ih53 (x3_53 + t62) t75 t83 x6_53 1 (x8_53 + 1) (by first | assumption | omega) (by first | assumption | omega) (by first | assumption | omega) (by first | assumption | omega) (by first | assumption | omega) (by first | assumption | omega) (by first | assumption | omega) (by first | assumption | omega) (by first | assumption | omega) (by first | assumption | omega) (by first | assumption | omega) (by omega)
                    · refine g_iload X dX10_walk_120 8 rfl ?_
                      refine g_iconst X dX10_walk_122 ?_
                      refine g_iadd X dX10_walk_123 ?_
                      refine g_istore X (lv' := [(6, vI (x6_53 + 1)), (10, vI 1), (5, vI t83), (4, vI t75), (3, vI (x3_53 + t62)), (9, vI t62), (0, .ref h), (1, vI p0), (2, vI p1), (7, vI x7_53), (8, vI x8_53)]) dX10_walk_124 (by decide) rfl ?_
                      refine g_iload X dX10_walk_126 1 rfl ?_
                      refine g_istore X (lv' := [(7, vI 1), (6, vI (x6_53 + 1)), (10, vI 1), (5, vI t83), (4, vI t75), (3, vI (x3_53 + t62)), (9, vI t62), (0, .ref h), (1, vI p0), (2, vI p1), (8, vI x8_53)]) dX10_walk_128 (by decide) rfl ?_
                      refine g_iinc X (lv' := [(8, vI (x8_53 + 1)), (7, vI 1), (6, vI (x6_53 + 1)), (10, vI 1), (5, vI t83), (4, vI t75), (3, vI (x3_53 + t62)), (9, vI t62), (0, .ref h), (1, vI p0), (2, vI p1)]) dX10_walk_130 10 rfl (by decide) rfl ?_
                      refine g_goto X (tgt := 53) dX10_walk_133 (by decide) ?_
                      refine g_lv [8, 9, 10, 6, 5, 4, 2, 1, 0] rfl ?_
                      exact ih53 (x3_53 + t62) t75 t83 (x6_53 + 1) 1 (x8_53 + 1) (by first | assumption | omega) (by first | assumption | omega) (by first | assumption | omega) (by first | assumption | omega) (by first | assumption | omega) (by first | assumption | omega) (by first | assumption | omega) (by first | assumption | omega) (by first | assumption | omega) (by first | assumption | omega) (by first | assumption | omega) (by omega)
              · refine g_goto X (tgt := 130) dX10_walk_93 (by decide) ?_
                refine g_iinc X (lv' := [(8, vI (x8_53 + 1)), (5, vI t83), (4, vI t75), (3, vI (x3_53 + t62)), (9, vI t62), (0, .ref h), (1, vI p0), (2, vI p1), (6, vI x6_53), (7, vI x7_53)]) dX10_walk_130 9 rfl (by decide) rfl ?_
                refine g_goto X (tgt := 53) dX10_walk_133 (by decide) ?_
                refine g_lv [5, 6, 7, 3, 2, 1, 8, 9, 0] rfl ?_
                exact ih53 (x3_53 + t62) t75 t83 x6_53 x7_53 (x8_53 + 1) (by first | assumption | omega) (by first | assumption | omega) (by first | assumption | omega) (by first | assumption | omega) (by first | assumption | omega) (by first | assumption | omega) (by first | assumption | omega) (by first | assumption | omega) (by first | assumption | omega) (by first | assumption | omega) (by first | assumption | omega) (by omega)
        refine g_lv [6, 7, 8, 5, 4, 3, 2, 1, 0] rfl ?_
        exact L53 _ 0 0 0 0 0 0 (by first | assumption | omega) (by first | assumption | omega) (by first | assumption | omega) (by first | assumption | omega) (by first | assumption | omega) (by first | assumption | omega) (by first | assumption | omega) (by first | assumption | omega) (by first | assumption | omega) (by first | assumption | omega) (by first | assumption | omega) (Nat.lt_succ_self _)
      · refine g_ldcw X (z := (-1000000)) dX10_walk_27 uw1519 (by decide) ?_
        exact hQ _ _ _ _ dX10_walk_30 ⟨v_taped, (by omega), (by first | assumption | omega), (by first | assumption | omega), (by first | assumption | omega), rfl⟩
set_option maxHeartbeats 4000000 in
set_option maxRecDepth 100000 in
theorem c_X10_between (l : Launch) (D : va_G) (cI cB cJ : ClassId) (h : Nat) (q : Nat → Nat) {v_stalls v_claimMany v_taped v_place0 v_length0 v_fault v_number0 v_open v_codeMany v_waiting v_saidMany v_clauses v_newMany v_newStalls v_lines v_salesNow v_outNow v_isKept v_keptStalls : Int} {v_now v_aside v_kept v_oneOf v_otherOf v_signOf v_byOf v_tape v_said v_waitsAt v_saidLetter v_saidFrom v_saidHalf v_saidTo v_codes v_clauseOf v_codeFrom v_codeHalf v_codeTo v_stack v_facts v_newOne v_newOther v_newSign v_newBy v_moreOf v_firstOf v_toldOf v_mostOf v_mostThen v_sumTo v_rowFrom v_ordersOf v_lessOf v_weightOf v_rowNow v_slowRow v_fastRow v_lineNow v_firstLine v_freeBy v_heldBy v_heightOf v_upTo v_downTo v_oftenOf v_newUpper v_newLower : Nat → Int} {p0 : Int} (r_v_now : RA (-2147483648) 2147483647 v_now) (hp0 : IR p0) (hp1 : 0 ≤ p0 ∧ p0 ≤ 7) : CtI l yX10_between cX10_between 2 (some .int) ⟨0, 0, 0, 0⟩ D (TY cI cB cJ) (wX10 cI cB cJ h q v_stalls v_claimMany v_taped v_place0 v_length0 v_fault v_number0 v_open v_codeMany v_waiting v_saidMany v_clauses v_newMany v_newStalls v_lines v_salesNow v_outNow v_isKept v_keptStalls v_now v_aside v_kept v_oneOf v_otherOf v_signOf v_byOf v_tape v_said v_waitsAt v_saidLetter v_saidFrom v_saidHalf v_saidTo v_codes v_clauseOf v_codeFrom v_codeHalf v_codeTo v_stack v_facts v_newOne v_newOther v_newSign v_newBy v_moreOf v_firstOf v_toldOf v_mostOf v_mostThen v_sumTo v_rowFrom v_ordersOf v_lessOf v_weightOf v_rowNow v_slowRow v_fastRow v_lineNow v_firstLine v_freeBy v_heldBy v_heightOf v_upTo v_downTo v_oftenOf v_newUpper v_newLower) [.ref h, vI p0] (fun z ws' => (IR z) ∧ (ws' = (wX10 cI cB cJ h q v_stalls v_claimMany v_taped v_place0 v_length0 v_fault v_number0 v_open v_codeMany v_waiting v_saidMany v_clauses v_newMany v_newStalls v_lines v_salesNow v_outNow v_isKept v_keptStalls v_now v_aside v_kept v_oneOf v_otherOf v_signOf v_byOf v_tape v_said v_waitsAt v_saidLetter v_saidFrom v_saidHalf v_saidTo v_codes v_clauseOf v_codeFrom v_codeHalf v_codeTo v_stack v_facts v_newOne v_newOther v_newSign v_newBy v_moreOf v_firstOf v_toldOf v_mostOf v_mostThen v_sumTo v_rowFrom v_ordersOf v_lessOf v_weightOf v_rowNow v_slowRow v_fastRow v_lineNow v_firstLine v_freeBy v_heldBy v_heightOf v_upTo v_downTo v_oftenOf v_newUpper v_newLower))) := by
  refine hdrI (own := RX10) rfl (by decide +kernel) (Nat.le_of_ble_eq_true rfl) ?_
  intro p e s m args below meth c Q A X hQ
  refine g_lvE (lv2 := [(0, .ref h), (1, vI p0)]) rfl ?_
  refine g_aload_n X dX10_between_0 0 rfl ?_
  refine gM_get X 0 rfl 0 (by decide) uw1179 rfl dX10_between_1 ?_
  refine g_iconst X dX10_between_4 ?_
  refine g_iload_n X dX10_between_5 1 rfl ?_
  refine g_iadd X dX10_between_6 ?_
  refine g_iald X 1 0 rfl rfl (by omega) (by decide) dX10_between_7 (fun t7 e7 => ?_)
  have r7 := r_v_now (0 + p0 : Int).toNat; rw [← e7] at r7
  refine g_aload_n X dX10_between_8 0 rfl ?_
  refine gM_get X 0 rfl 0 (by decide) uw1179 rfl dX10_between_9 ?_
  refine g_bipush X (z := 8) dX10_between_12 (by decide) ?_
  refine g_iload_n X dX10_between_14 1 rfl ?_
  refine g_iadd X dX10_between_15 ?_
  refine g_iald X 1 0 rfl rfl (by omega) (by decide) dX10_between_16 (fun t16 e16 => ?_)
  have r16 := r_v_now (8 + p0 : Int).toNat; rw [← e16] at r16
  refine g_isub X dX10_between_17 ?_
  refine g_nr (fun t17 e17 r17 => ?_)
  exact hQ _ _ _ _ dX10_between_18 ⟨(by omega), rfl⟩
set_option maxHeartbeats 4000000 in
set_option maxRecDepth 100000 in
theorem c_X10_othersMore (l : Launch) (D : va_G) (cI cB cJ : ClassId) (h : Nat) (q : Nat → Nat) {v_stalls v_claimMany v_taped v_place0 v_length0 v_fault v_number0 v_open v_codeMany v_waiting v_saidMany v_clauses v_newMany v_newStalls v_lines v_salesNow v_outNow v_isKept v_keptStalls : Int} {v_now v_aside v_kept v_oneOf v_otherOf v_signOf v_byOf v_tape v_said v_waitsAt v_saidLetter v_saidFrom v_saidHalf v_saidTo v_codes v_clauseOf v_codeFrom v_codeHalf v_codeTo v_stack v_facts v_newOne v_newOther v_newSign v_newBy v_moreOf v_firstOf v_toldOf v_mostOf v_mostThen v_sumTo v_rowFrom v_ordersOf v_lessOf v_weightOf v_rowNow v_slowRow v_fastRow v_lineNow v_firstLine v_freeBy v_heldBy v_heightOf v_upTo v_downTo v_oftenOf v_newUpper v_newLower : Nat → Int} {p0 : Int} (kr_v_stalls : 0 ≤ v_stalls ∧ v_stalls ≤ 255) (r_v_now : RA (-2147483648) 2147483647 v_now) (hp0 : IR p0) (hp1 : 0 ≤ p0 ∧ p0 ≤ 7) : CtI l yX10_othersMore cX10_othersMore 4 (some .int) ⟨2, 0, 0, 43⟩ D (TY cI cB cJ) (wX10 cI cB cJ h q v_stalls v_claimMany v_taped v_place0 v_length0 v_fault v_number0 v_open v_codeMany v_waiting v_saidMany v_clauses v_newMany v_newStalls v_lines v_salesNow v_outNow v_isKept v_keptStalls v_now v_aside v_kept v_oneOf v_otherOf v_signOf v_byOf v_tape v_said v_waitsAt v_saidLetter v_saidFrom v_saidHalf v_saidTo v_codes v_clauseOf v_codeFrom v_codeHalf v_codeTo v_stack v_facts v_newOne v_newOther v_newSign v_newBy v_moreOf v_firstOf v_toldOf v_mostOf v_mostThen v_sumTo v_rowFrom v_ordersOf v_lessOf v_weightOf v_rowNow v_slowRow v_fastRow v_lineNow v_firstLine v_freeBy v_heldBy v_heightOf v_upTo v_downTo v_oftenOf v_newUpper v_newLower) [.ref h, vI p0] (fun z ws' => (0 ≤ z ∧ z ≤ 8) ∧ (ws' = (wX10 cI cB cJ h q v_stalls v_claimMany v_taped v_place0 v_length0 v_fault v_number0 v_open v_codeMany v_waiting v_saidMany v_clauses v_newMany v_newStalls v_lines v_salesNow v_outNow v_isKept v_keptStalls v_now v_aside v_kept v_oneOf v_otherOf v_signOf v_byOf v_tape v_said v_waitsAt v_saidLetter v_saidFrom v_saidHalf v_saidTo v_codes v_clauseOf v_codeFrom v_codeHalf v_codeTo v_stack v_facts v_newOne v_newOther v_newSign v_newBy v_moreOf v_firstOf v_toldOf v_mostOf v_mostThen v_sumTo v_rowFrom v_ordersOf v_lessOf v_weightOf v_rowNow v_slowRow v_fastRow v_lineNow v_firstLine v_freeBy v_heldBy v_heightOf v_upTo v_downTo v_oftenOf v_newUpper v_newLower))) := by
  refine hdrI (own := RX10) rfl (by decide +kernel) (Nat.le_of_ble_eq_true rfl) ?_
  intro p e s m args below meth c Q A X hQ
  refine g_lvE (lv2 := [(0, .ref h), (1, vI p0)]) rfl ?_
  refine g_iconst X dX10_othersMore_0 ?_
  refine g_istore_n X (lv' := [(2, vI 0), (0, .ref h), (1, vI p0)]) dX10_othersMore_1 (by decide) rfl ?_
  refine g_iconst X dX10_othersMore_2 ?_
  refine g_istore_n X (lv' := [(3, vI 0), (2, vI 0), (0, .ref h), (1, vI p0)]) dX10_othersMore_3 (by decide) rfl ?_
  have L4 : ∀ (n : Nat) (x2_4 : Int) (x3_4 : Int), (0 ≤ x3_4 ∧ x3_4 ≤ 8) → (0 ≤ x2_4 ∧ x2_4 ≤ x3_4) → (8 - x3_4).toNat < n → GG p l e ⟨2, 0, 0, 43⟩ s m args below meth c 0 0 Q D A s.heap 4 (wX10 cI cB cJ h q v_stalls v_claimMany v_taped v_place0 v_length0 v_fault v_number0 v_open v_codeMany v_waiting v_saidMany v_clauses v_newMany v_newStalls v_lines v_salesNow v_outNow v_isKept v_keptStalls v_now v_aside v_kept v_oneOf v_otherOf v_signOf v_byOf v_tape v_said v_waitsAt v_saidLetter v_saidFrom v_saidHalf v_saidTo v_codes v_clauseOf v_codeFrom v_codeHalf v_codeTo v_stack v_facts v_newOne v_newOther v_newSign v_newBy v_moreOf v_firstOf v_toldOf v_mostOf v_mostThen v_sumTo v_rowFrom v_ordersOf v_lessOf v_weightOf v_rowNow v_slowRow v_fastRow v_lineNow v_firstLine v_freeBy v_heldBy v_heightOf v_upTo v_downTo v_oftenOf v_newUpper v_newLower) 4 [(0, .ref h), (1, vI p0), (2, vI x2_4), (3, vI x3_4)] [] := by
    intro n
    induction n with
    | zero => intros; exfalso; omega
    | succ n ih4 =>
      intro x2_4 x3_4 w4_0 w4_1 wm4
      refine g_iload_n X dX10_othersMore_4 3 rfl ?_
      refine g_bipush X (z := 8) dX10_othersMore_5 (by decide) ?_
      refine g_icmp_ge X (tgt := 41) dX10_othersMore_7 (by decide) (by omega) (by omega) (fun c7 => ?_) (fun c7 => ?_)
      · refine g_iload_n X dX10_othersMore_41 2 rfl ?_
        exact hQ _ _ _ _ dX10_othersMore_42 ⟨(by first | assumption | omega), rfl⟩
      · refine g_aload_n X dX10_othersMore_10 0 rfl ?_
        refine g_iload_n X dX10_othersMore_11 3 rfl ?_
        refine g_callVI0 X (c_X10_isStall l D cI cB cJ h q (p0 := x3_4) (by omega) (by first | assumption | omega)) cv_X10_isStall uw1765 ⟨rfl, rfl, by decide, by decide⟩ 0 rfl rfl rfl rfl rfl (Nat.le_of_ble_eq_true rfl) ⟨Nat.zero_le _, Nat.zero_le _⟩ dX10_othersMore_12 (fun t12 ws12 k12 => ?_)
        obtain ⟨kb_12, ⟨kp0_12, rfl⟩⟩ := k12
        refine g_if_eq X (tgt := 35) dX10_othersMore_15 (by decide) (by omega) (fun c15 => ?_) (fun c15 => ?_)
        · refine g_iinc X (lv' := [(3, vI (x3_4 + 1)), (0, .ref h), (1, vI p0), (2, vI x2_4)]) dX10_othersMore_35 3 rfl (by decide) rfl ?_
          refine g_goto X (tgt := 4) dX10_othersMore_38 (by decide) ?_
          refine g_lv [1, 2, 3, 0] rfl ?_
          exact ih4 x2_4 (x3_4 + 1) (by first | assumption | omega) (by first | assumption | omega) (by omega)
        · refine g_aload_n X dX10_othersMore_18 0 rfl ?_
          refine g_iload_n X dX10_othersMore_19 3 rfl ?_
          refine g_callVI0 X (c_X10_between l D cI cB cJ h q (p0 := x3_4) r_v_now (by first | assumption | omega) (by first | assumption | omega)) cv_X10_between uw1774 ⟨rfl, rfl, by decide, by decide⟩ 0 rfl rfl rfl rfl rfl (Nat.le_of_ble_eq_true rfl) ⟨Nat.zero_le _, Nat.zero_le _⟩ dX10_othersMore_20 (fun t20 ws20 k20 => ?_)
          obtain ⟨kp0_20, rfl⟩ := k20
          refine g_aload_n X dX10_othersMore_23 0 rfl ?_
          refine g_iload_n X dX10_othersMore_24 1 rfl ?_
          refine g_callVI0 X (c_X10_between l D cI cB cJ h q (p0 := p0) r_v_now (by first | assumption | omega) (by first | assumption | omega)) cv_X10_between uw1774 ⟨rfl, rfl, by decide, by decide⟩ 0 rfl rfl rfl rfl rfl (Nat.le_of_ble_eq_true rfl) ⟨Nat.zero_le _, Nat.zero_le _⟩ dX10_othersMore_25 (fun t25 ws25 k25 => ?_)
          obtain ⟨kp0_25, rfl⟩ := k25
          refine g_icmp_le X (tgt := 35) dX10_othersMore_28 (by decide) (by omega) (by omega) (fun c28 => ?_) (fun c28 => ?_)
          · refine g_iinc X (lv' := [(3, vI (x3_4 + 1)), (0, .ref h), (1, vI p0), (2, vI x2_4)]) dX10_othersMore_35 3 rfl (by decide) rfl ?_
            refine g_goto X (tgt := 4) dX10_othersMore_38 (by decide) ?_
            refine g_lv [1, 2, 3, 0] rfl ?_
            exact ih4 x2_4 (x3_4 + 1) (by first | assumption | omega) (by first | assumption | omega) (by omega)
          · refine g_iload_n X dX10_othersMore_31 2 rfl ?_
            refine g_iconst X dX10_othersMore_32 ?_
            refine g_iadd X dX10_othersMore_33 ?_
            refine g_istore_n X (lv' := [(2, vI (x2_4 + 1)), (0, .ref h), (1, vI p0), (3, vI x3_4)]) dX10_othersMore_34 (by decide) rfl ?_
            refine g_iinc X (lv' := [(3, vI (x3_4 + 1)), (2, vI (x2_4 + 1)), (0, .ref h), (1, vI p0)]) dX10_othersMore_35 3 rfl (by decide) rfl ?_
            refine g_goto X (tgt := 4) dX10_othersMore_38 (by decide) ?_
            refine g_lv [2, 3, 1, 0] rfl ?_
            exact ih4 (x2_4 + 1) (x3_4 + 1) (by first | assumption | omega) (by first | assumption | omega) (by omega)
  refine g_lv [2, 3, 1, 0] rfl ?_
  exact L4 _ 0 0 (by first | assumption | omega) (by first | assumption | omega) (Nat.lt_succ_self _)
set_option maxHeartbeats 4000000 in
set_option maxRecDepth 100000 in
theorem c_X10_moneyOfAll (l : Launch) (D : va_G) (cI cB cJ : ClassId) (h : Nat) (q : Nat → Nat) {v_stalls v_claimMany v_taped v_place0 v_length0 v_fault v_number0 v_open v_codeMany v_waiting v_saidMany v_clauses v_newMany v_newStalls v_lines v_salesNow v_outNow v_isKept v_keptStalls : Int} {v_now v_aside v_kept v_oneOf v_otherOf v_signOf v_byOf v_tape v_said v_waitsAt v_saidLetter v_saidFrom v_saidHalf v_saidTo v_codes v_clauseOf v_codeFrom v_codeHalf v_codeTo v_stack v_facts v_newOne v_newOther v_newSign v_newBy v_moreOf v_firstOf v_toldOf v_mostOf v_mostThen v_sumTo v_rowFrom v_ordersOf v_lessOf v_weightOf v_rowNow v_slowRow v_fastRow v_lineNow v_firstLine v_freeBy v_heldBy v_heightOf v_upTo v_downTo v_oftenOf v_newUpper v_newLower : Nat → Int} (kr_v_stalls : 0 ≤ v_stalls ∧ v_stalls ≤ 255) (r_v_now : RA (-2147483648) 2147483647 v_now) : CtI l yX10_moneyOfAll cX10_moneyOfAll 3 (some .int) ⟨2, 0, 0, 43⟩ D (TY cI cB cJ) (wX10 cI cB cJ h q v_stalls v_claimMany v_taped v_place0 v_length0 v_fault v_number0 v_open v_codeMany v_waiting v_saidMany v_clauses v_newMany v_newStalls v_lines v_salesNow v_outNow v_isKept v_keptStalls v_now v_aside v_kept v_oneOf v_otherOf v_signOf v_byOf v_tape v_said v_waitsAt v_saidLetter v_saidFrom v_saidHalf v_saidTo v_codes v_clauseOf v_codeFrom v_codeHalf v_codeTo v_stack v_facts v_newOne v_newOther v_newSign v_newBy v_moreOf v_firstOf v_toldOf v_mostOf v_mostThen v_sumTo v_rowFrom v_ordersOf v_lessOf v_weightOf v_rowNow v_slowRow v_fastRow v_lineNow v_firstLine v_freeBy v_heldBy v_heightOf v_upTo v_downTo v_oftenOf v_newUpper v_newLower) [.ref h] (fun z ws' => (IR z) ∧ (ws' = (wX10 cI cB cJ h q v_stalls v_claimMany v_taped v_place0 v_length0 v_fault v_number0 v_open v_codeMany v_waiting v_saidMany v_clauses v_newMany v_newStalls v_lines v_salesNow v_outNow v_isKept v_keptStalls v_now v_aside v_kept v_oneOf v_otherOf v_signOf v_byOf v_tape v_said v_waitsAt v_saidLetter v_saidFrom v_saidHalf v_saidTo v_codes v_clauseOf v_codeFrom v_codeHalf v_codeTo v_stack v_facts v_newOne v_newOther v_newSign v_newBy v_moreOf v_firstOf v_toldOf v_mostOf v_mostThen v_sumTo v_rowFrom v_ordersOf v_lessOf v_weightOf v_rowNow v_slowRow v_fastRow v_lineNow v_firstLine v_freeBy v_heldBy v_heightOf v_upTo v_downTo v_oftenOf v_newUpper v_newLower))) := by
  refine hdrI (own := RX10) rfl (by decide +kernel) (Nat.le_of_ble_eq_true rfl) ?_
  intro p e s m args below meth c Q A X hQ
  refine g_lvE (lv2 := [(0, .ref h)]) rfl ?_
  refine g_iconst X dX10_moneyOfAll_0 ?_
  refine g_istore_n X (lv' := [(1, vI 0), (0, .ref h)]) dX10_moneyOfAll_1 (by decide) rfl ?_
  refine g_iconst X dX10_moneyOfAll_2 ?_
  refine g_istore_n X (lv' := [(2, vI 0), (1, vI 0), (0, .ref h)]) dX10_moneyOfAll_3 (by decide) rfl ?_
  have L4 : ∀ (n : Nat) (x1_4 : Int) (x2_4 : Int), (0 ≤ x2_4 ∧ x2_4 ≤ 8) → (IR x1_4) → (8 - x2_4).toNat < n → GG p l e ⟨2, 0, 0, 43⟩ s m args below meth c 0 0 Q D A s.heap 3 (wX10 cI cB cJ h q v_stalls v_claimMany v_taped v_place0 v_length0 v_fault v_number0 v_open v_codeMany v_waiting v_saidMany v_clauses v_newMany v_newStalls v_lines v_salesNow v_outNow v_isKept v_keptStalls v_now v_aside v_kept v_oneOf v_otherOf v_signOf v_byOf v_tape v_said v_waitsAt v_saidLetter v_saidFrom v_saidHalf v_saidTo v_codes v_clauseOf v_codeFrom v_codeHalf v_codeTo v_stack v_facts v_newOne v_newOther v_newSign v_newBy v_moreOf v_firstOf v_toldOf v_mostOf v_mostThen v_sumTo v_rowFrom v_ordersOf v_lessOf v_weightOf v_rowNow v_slowRow v_fastRow v_lineNow v_firstLine v_freeBy v_heldBy v_heightOf v_upTo v_downTo v_oftenOf v_newUpper v_newLower) 4 [(0, .ref h), (1, vI x1_4), (2, vI x2_4)] [] := by
    intro n
    induction n with
    | zero => intros; exfalso; omega
    | succ n ih4 =>
      intro x1_4 x2_4 w4_0 w4_1 wm4
      refine g_iload_n X dX10_moneyOfAll_4 2 rfl ?_
      refine g_bipush X (z := 8) dX10_moneyOfAll_5 (by decide) ?_
      refine g_icmp_ge X (tgt := 36) dX10_moneyOfAll_7 (by decide) (by omega) (by omega) (fun c7 => ?_) (fun c7 => ?_)
      · refine g_iload_n X dX10_moneyOfAll_36 1 rfl ?_
        exact hQ _ _ _ _ dX10_moneyOfAll_37 ⟨(by omega), rfl⟩
      · refine g_aload_n X dX10_moneyOfAll_10 0 rfl ?_
        refine g_iload_n X dX10_moneyOfAll_11 2 rfl ?_
        refine g_callVI0 X (c_X10_isStall l D cI cB cJ h q (p0 := x2_4) (by omega) (by first | assumption | omega)) cv_X10_isStall uw1765 ⟨rfl, rfl, by decide, by decide⟩ 0 rfl rfl rfl rfl rfl (Nat.le_of_ble_eq_true rfl) ⟨Nat.zero_le _, Nat.zero_le _⟩ dX10_moneyOfAll_12 (fun t12 ws12 k12 => ?_)
        obtain ⟨kb_12, ⟨kp0_12, rfl⟩⟩ := k12
        refine g_if_eq X (tgt := 30) dX10_moneyOfAll_15 (by decide) (by omega) (fun c15 => ?_) (fun c15 => ?_)
        · refine g_iinc X (lv' := [(2, vI (x2_4 + 1)), (0, .ref h), (1, vI x1_4)]) dX10_moneyOfAll_30 2 rfl (by decide) rfl ?_
          refine g_goto X (tgt := 4) dX10_moneyOfAll_33 (by decide) ?_
          refine g_lv [1, 2, 0] rfl ?_
          exact ih4 x1_4 (x2_4 + 1) (by first | assumption | omega) (by first | assumption | omega) (by omega)
        · refine g_iload_n X dX10_moneyOfAll_18 1 rfl ?_
          refine g_aload_n X dX10_moneyOfAll_19 0 rfl ?_
          refine gM_get X 0 rfl 0 (by decide) uw1179 rfl dX10_moneyOfAll_20 ?_
          refine g_bipush X (z := 16) dX10_moneyOfAll_23 (by decide) ?_
          refine g_iload_n X dX10_moneyOfAll_25 2 rfl ?_
          refine g_iadd X dX10_moneyOfAll_26 ?_
          refine g_iald X 1 0 rfl rfl (by omega) (by decide) dX10_moneyOfAll_27 (fun t27 e27 => ?_)
          have r27 := r_v_now (16 + x2_4 : Int).toNat; rw [← e27] at r27
          refine g_iadd X dX10_moneyOfAll_28 ?_
          refine g_nr (fun t28 e28 r28 => ?_)
          refine g_istore_n X (lv' := [(1, vI t28), (0, .ref h), (2, vI x2_4)]) dX10_moneyOfAll_29 (by decide) rfl ?_
          refine g_iinc X (lv' := [(2, vI (x2_4 + 1)), (1, vI t28), (0, .ref h)]) dX10_moneyOfAll_30 2 rfl (by decide) rfl ?_
          refine g_goto X (tgt := 4) dX10_moneyOfAll_33 (by decide) ?_
          refine g_lv [2, 1, 0] rfl ?_
          exact ih4 t28 (x2_4 + 1) (by first | assumption | omega) (by first | assumption | omega) (by omega)
  refine g_lv [2, 1, 0] rfl ?_
  exact L4 _ 0 0 (by first | assumption | omega) (by first | assumption | omega) (Nat.lt_succ_self _)
set_option maxHeartbeats 4000000 in
set_option maxRecDepth 100000 in
theorem c_X10_betweenInAll (l : Launch) (D : va_G) (cI cB cJ : ClassId) (h : Nat) (q : Nat → Nat) {v_stalls v_claimMany v_taped v_place0 v_length0 v_fault v_number0 v_open v_codeMany v_waiting v_saidMany v_clauses v_newMany v_newStalls v_lines v_salesNow v_outNow v_isKept v_keptStalls : Int} {v_now v_aside v_kept v_oneOf v_otherOf v_signOf v_byOf v_tape v_said v_waitsAt v_saidLetter v_saidFrom v_saidHalf v_saidTo v_codes v_clauseOf v_codeFrom v_codeHalf v_codeTo v_stack v_facts v_newOne v_newOther v_newSign v_newBy v_moreOf v_firstOf v_toldOf v_mostOf v_mostThen v_sumTo v_rowFrom v_ordersOf v_lessOf v_weightOf v_rowNow v_slowRow v_fastRow v_lineNow v_firstLine v_freeBy v_heldBy v_heightOf v_upTo v_downTo v_oftenOf v_newUpper v_newLower : Nat → Int} (kr_v_stalls : 0 ≤ v_stalls ∧ v_stalls ≤ 255) (r_v_now : RA (-2147483648) 2147483647 v_now) : CtI l yX10_betweenInAll cX10_betweenInAll 3 (some .int) ⟨2, 0, 0, 43⟩ D (TY cI cB cJ) (wX10 cI cB cJ h q v_stalls v_claimMany v_taped v_place0 v_length0 v_fault v_number0 v_open v_codeMany v_waiting v_saidMany v_clauses v_newMany v_newStalls v_lines v_salesNow v_outNow v_isKept v_keptStalls v_now v_aside v_kept v_oneOf v_otherOf v_signOf v_byOf v_tape v_said v_waitsAt v_saidLetter v_saidFrom v_saidHalf v_saidTo v_codes v_clauseOf v_codeFrom v_codeHalf v_codeTo v_stack v_facts v_newOne v_newOther v_newSign v_newBy v_moreOf v_firstOf v_toldOf v_mostOf v_mostThen v_sumTo v_rowFrom v_ordersOf v_lessOf v_weightOf v_rowNow v_slowRow v_fastRow v_lineNow v_firstLine v_freeBy v_heldBy v_heightOf v_upTo v_downTo v_oftenOf v_newUpper v_newLower) [.ref h] (fun z ws' => (IR z) ∧ (ws' = (wX10 cI cB cJ h q v_stalls v_claimMany v_taped v_place0 v_length0 v_fault v_number0 v_open v_codeMany v_waiting v_saidMany v_clauses v_newMany v_newStalls v_lines v_salesNow v_outNow v_isKept v_keptStalls v_now v_aside v_kept v_oneOf v_otherOf v_signOf v_byOf v_tape v_said v_waitsAt v_saidLetter v_saidFrom v_saidHalf v_saidTo v_codes v_clauseOf v_codeFrom v_codeHalf v_codeTo v_stack v_facts v_newOne v_newOther v_newSign v_newBy v_moreOf v_firstOf v_toldOf v_mostOf v_mostThen v_sumTo v_rowFrom v_ordersOf v_lessOf v_weightOf v_rowNow v_slowRow v_fastRow v_lineNow v_firstLine v_freeBy v_heldBy v_heightOf v_upTo v_downTo v_oftenOf v_newUpper v_newLower))) := by
  refine hdrI (own := RX10) rfl (by decide +kernel) (Nat.le_of_ble_eq_true rfl) ?_
  intro p e s m args below meth c Q A X hQ
  refine g_lvE (lv2 := [(0, .ref h)]) rfl ?_
  refine g_iconst X dX10_betweenInAll_0 ?_
  refine g_istore_n X (lv' := [(1, vI 0), (0, .ref h)]) dX10_betweenInAll_1 (by decide) rfl ?_
  refine g_iconst X dX10_betweenInAll_2 ?_
  refine g_istore_n X (lv' := [(2, vI 0), (1, vI 0), (0, .ref h)]) dX10_betweenInAll_3 (by decide) rfl ?_
  have L4 : ∀ (n : Nat) (x1_4 : Int) (x2_4 : Int), (0 ≤ x2_4 ∧ x2_4 ≤ 8) → (IR x1_4) → (8 - x2_4).toNat < n → GG p l e ⟨2, 0, 0, 43⟩ s m args below meth c 0 0 Q D A s.heap 3 (wX10 cI cB cJ h q v_stalls v_claimMany v_taped v_place0 v_length0 v_fault v_number0 v_open v_codeMany v_waiting v_saidMany v_clauses v_newMany v_newStalls v_lines v_salesNow v_outNow v_isKept v_keptStalls v_now v_aside v_kept v_oneOf v_otherOf v_signOf v_byOf v_tape v_said v_waitsAt v_saidLetter v_saidFrom v_saidHalf v_saidTo v_codes v_clauseOf v_codeFrom v_codeHalf v_codeTo v_stack v_facts v_newOne v_newOther v_newSign v_newBy v_moreOf v_firstOf v_toldOf v_mostOf v_mostThen v_sumTo v_rowFrom v_ordersOf v_lessOf v_weightOf v_rowNow v_slowRow v_fastRow v_lineNow v_firstLine v_freeBy v_heldBy v_heightOf v_upTo v_downTo v_oftenOf v_newUpper v_newLower) 4 [(0, .ref h), (1, vI x1_4), (2, vI x2_4)] [] := by
    intro n
    induction n with
    | zero => intros; exfalso; omega
    | succ n ih4 =>
      intro x1_4 x2_4 w4_0 w4_1 wm4
      refine g_iload_n X dX10_betweenInAll_4 2 rfl ?_
      refine g_bipush X (z := 8) dX10_betweenInAll_5 (by decide) ?_
      refine g_icmp_ge X (tgt := 32) dX10_betweenInAll_7 (by decide) (by omega) (by omega) (fun c7 => ?_) (fun c7 => ?_)
      · refine g_iload_n X dX10_betweenInAll_32 1 rfl ?_
        exact hQ _ _ _ _ dX10_betweenInAll_33 ⟨(by omega), rfl⟩
      · refine g_aload_n X dX10_betweenInAll_10 0 rfl ?_
        refine g_iload_n X dX10_betweenInAll_11 2 rfl ?_
        refine g_callVI0 X (c_X10_isStall l D cI cB cJ h q (p0 := x2_4) (by omega) (by first | assumption | omega)) cv_X10_isStall uw1765 ⟨rfl, rfl, by decide, by decide⟩ 0 rfl rfl rfl rfl rfl (Nat.le_of_ble_eq_true rfl) ⟨Nat.zero_le _, Nat.zero_le _⟩ dX10_betweenInAll_12 (fun t12 ws12 k12 => ?_)
        obtain ⟨kb_12, ⟨kp0_12, rfl⟩⟩ := k12
        refine g_if_eq X (tgt := 26) dX10_betweenInAll_15 (by decide) (by omega) (fun c15 => ?_) (fun c15 => ?_)
        · refine g_iinc X (lv' := [(2, vI (x2_4 + 1)), (0, .ref h), (1, vI x1_4)]) dX10_betweenInAll_26 2 rfl (by decide) rfl ?_
          refine g_goto X (tgt := 4) dX10_betweenInAll_29 (by decide) ?_
          refine g_lv [1, 2, 0] rfl ?_
          exact ih4 x1_4 (x2_4 + 1) (by first | assumption | omega) (by first | assumption | omega) (by omega)
        · refine g_iload_n X dX10_betweenInAll_18 1 rfl ?_
          refine g_aload_n X dX10_betweenInAll_19 0 rfl ?_
          refine g_iload_n X dX10_betweenInAll_20 2 rfl ?_
          refine g_callVI0 X (c_X10_between l D cI cB cJ h q (p0 := x2_4) r_v_now (by first | assumption | omega) (by first | assumption | omega)) cv_X10_between uw1774 ⟨rfl, rfl, by decide, by decide⟩ 0 rfl rfl rfl rfl rfl (Nat.le_of_ble_eq_true rfl) ⟨Nat.zero_le _, Nat.zero_le _⟩ dX10_betweenInAll_21 (fun t21 ws21 k21 => ?_)
          obtain ⟨kp0_21, rfl⟩ := k21
          refine g_iadd X dX10_betweenInAll_24 ?_
          refine g_nr (fun t24 e24 r24 => ?_)
          refine g_istore_n X (lv' := [(1, vI t24), (0, .ref h), (2, vI x2_4)]) dX10_betweenInAll_25 (by decide) rfl ?_
          refine g_iinc X (lv' := [(2, vI (x2_4 + 1)), (1, vI t24), (0, .ref h)]) dX10_betweenInAll_26 2 rfl (by decide) rfl ?_
          refine g_goto X (tgt := 4) dX10_betweenInAll_29 (by decide) ?_
          refine g_lv [2, 1, 0] rfl ?_
          exact ih4 t24 (x2_4 + 1) (by first | assumption | omega) (by first | assumption | omega) (by omega)
  refine g_lv [2, 1, 0] rfl ?_
  exact L4 _ 0 0 (by first | assumption | omega) (by first | assumption | omega) (Nat.lt_succ_self _)
set_option maxHeartbeats 4000000 in
set_option maxRecDepth 100000 in
theorem c_X10_richest (l : Launch) (D : va_G) (cI cB cJ : ClassId) (h : Nat) (q : Nat → Nat) {v_stalls v_claimMany v_taped v_place0 v_length0 v_fault v_number0 v_open v_codeMany v_waiting v_saidMany v_clauses v_newMany v_newStalls v_lines v_salesNow v_outNow v_isKept v_keptStalls : Int} {v_now v_aside v_kept v_oneOf v_otherOf v_signOf v_byOf v_tape v_said v_waitsAt v_saidLetter v_saidFrom v_saidHalf v_saidTo v_codes v_clauseOf v_codeFrom v_codeHalf v_codeTo v_stack v_facts v_newOne v_newOther v_newSign v_newBy v_moreOf v_firstOf v_toldOf v_mostOf v_mostThen v_sumTo v_rowFrom v_ordersOf v_lessOf v_weightOf v_rowNow v_slowRow v_fastRow v_lineNow v_firstLine v_freeBy v_heldBy v_heightOf v_upTo v_downTo v_oftenOf v_newUpper v_newLower : Nat → Int} (kr_v_stalls : 0 ≤ v_stalls ∧ v_stalls ≤ 255) (r_v_now : RA (-2147483648) 2147483647 v_now) : CtI l yX10_richest cX10_richest 3 (some .int) ⟨2, 0, 0, 43⟩ D (TY cI cB cJ) (wX10 cI cB cJ h q v_stalls v_claimMany v_taped v_place0 v_length0 v_fault v_number0 v_open v_codeMany v_waiting v_saidMany v_clauses v_newMany v_newStalls v_lines v_salesNow v_outNow v_isKept v_keptStalls v_now v_aside v_kept v_oneOf v_otherOf v_signOf v_byOf v_tape v_said v_waitsAt v_saidLetter v_saidFrom v_saidHalf v_saidTo v_codes v_clauseOf v_codeFrom v_codeHalf v_codeTo v_stack v_facts v_newOne v_newOther v_newSign v_newBy v_moreOf v_firstOf v_toldOf v_mostOf v_mostThen v_sumTo v_rowFrom v_ordersOf v_lessOf v_weightOf v_rowNow v_slowRow v_fastRow v_lineNow v_firstLine v_freeBy v_heldBy v_heightOf v_upTo v_downTo v_oftenOf v_newUpper v_newLower) [.ref h] (fun z ws' => (IR z) ∧ (ws' = (wX10 cI cB cJ h q v_stalls v_claimMany v_taped v_place0 v_length0 v_fault v_number0 v_open v_codeMany v_waiting v_saidMany v_clauses v_newMany v_newStalls v_lines v_salesNow v_outNow v_isKept v_keptStalls v_now v_aside v_kept v_oneOf v_otherOf v_signOf v_byOf v_tape v_said v_waitsAt v_saidLetter v_saidFrom v_saidHalf v_saidTo v_codes v_clauseOf v_codeFrom v_codeHalf v_codeTo v_stack v_facts v_newOne v_newOther v_newSign v_newBy v_moreOf v_firstOf v_toldOf v_mostOf v_mostThen v_sumTo v_rowFrom v_ordersOf v_lessOf v_weightOf v_rowNow v_slowRow v_fastRow v_lineNow v_firstLine v_freeBy v_heldBy v_heightOf v_upTo v_downTo v_oftenOf v_newUpper v_newLower))) := by
  refine hdrI (own := RX10) rfl (by decide +kernel) (Nat.le_of_ble_eq_true rfl) ?_
  intro p e s m args below meth c Q A X hQ
  refine g_lvE (lv2 := [(0, .ref h)]) rfl ?_
  refine g_bipush X (z := (-2)) dX10_richest_0 (by decide) ?_
  refine g_istore_n X (lv' := [(1, vI (-2)), (0, .ref h)]) dX10_richest_2 (by decide) rfl ?_
  refine g_iconst X dX10_richest_3 ?_
  refine g_istore_n X (lv' := [(2, vI 0), (1, vI (-2)), (0, .ref h)]) dX10_richest_4 (by decide) rfl ?_
  have L5 : ∀ (n : Nat) (x1_5 : Int) (x2_5 : Int), (0 ≤ x2_5 ∧ x2_5 ≤ 8) → (x1_5 = -2 ∨ (0 ≤ x1_5 ∧ x1_5 ≤ 7)) → (8 - x2_5).toNat < n → GG p l e ⟨2, 0, 0, 43⟩ s m args below meth c 0 0 Q D A s.heap 3 (wX10 cI cB cJ h q v_stalls v_claimMany v_taped v_place0 v_length0 v_fault v_number0 v_open v_codeMany v_waiting v_saidMany v_clauses v_newMany v_newStalls v_lines v_salesNow v_outNow v_isKept v_keptStalls v_now v_aside v_kept v_oneOf v_otherOf v_signOf v_byOf v_tape v_said v_waitsAt v_saidLetter v_saidFrom v_saidHalf v_saidTo v_codes v_clauseOf v_codeFrom v_codeHalf v_codeTo v_stack v_facts v_newOne v_newOther v_newSign v_newBy v_moreOf v_firstOf v_toldOf v_mostOf v_mostThen v_sumTo v_rowFrom v_ordersOf v_lessOf v_weightOf v_rowNow v_slowRow v_fastRow v_lineNow v_firstLine v_freeBy v_heldBy v_heightOf v_upTo v_downTo v_oftenOf v_newUpper v_newLower) 5 [(0, .ref h), (1, vI x1_5), (2, vI x2_5)] [] := by
    intro n
    induction n with
    | zero => intros; exfalso; omega
    | succ n ih5 =>
      intro x1_5 x2_5 w5_0 w5_1 wm5
      refine g_iload_n X dX10_richest_5 2 rfl ?_
      refine g_bipush X (z := 8) dX10_richest_6 (by decide) ?_
      refine g_icmp_ge X (tgt := 54) dX10_richest_8 (by decide) (by omega) (by omega) (fun c8 => ?_) (fun c8 => ?_)
      · refine g_iload_n X dX10_richest_54 1 rfl ?_
        exact hQ _ _ _ _ dX10_richest_55 ⟨(by omega), rfl⟩
      · refine g_aload_n X dX10_richest_11 0 rfl ?_
        refine g_iload_n X dX10_richest_12 2 rfl ?_
        refine g_callVI0 X (c_X10_isStall l D cI cB cJ h q (p0 := x2_5) (by omega) (by first | assumption | omega)) cv_X10_isStall uw1765 ⟨rfl, rfl, by decide, by decide⟩ 0 rfl rfl rfl rfl rfl (Nat.le_of_ble_eq_true rfl) ⟨Nat.zero_le _, Nat.zero_le _⟩ dX10_richest_13 (fun t13 ws13 k13 => ?_)
        obtain ⟨kb_13, ⟨kp0_13, rfl⟩⟩ := k13
        refine g_if_eq X (tgt := 48) dX10_richest_16 (by decide) (by omega) (fun c16 => ?_) (fun c16 => ?_)
        · refine g_iinc X (lv' := [(2, vI (x2_5 + 1)), (0, .ref h), (1, vI x1_5)]) dX10_richest_48 2 rfl (by decide) rfl ?_
          refine g_goto X (tgt := 5) dX10_richest_51 (by decide) ?_
          refine g_lv [1, 2, 0] rfl ?_
          exact ih5 x1_5 (x2_5 + 1) (by first | assumption | omega) (by first | assumption | omega) (by omega)
        · refine g_iload_n X dX10_richest_19 1 rfl ?_
          refine g_bipush X (z := (-2)) dX10_richest_20 (by decide) ?_
          refine g_icmp_eq X (tgt := 46) dX10_richest_22 (by decide) (by omega) (by omega) (fun c22 => ?_) (fun c22 => ?_)
          · refine g_iload_n X dX10_richest_46 2 rfl ?_
            refine g_istore_n X (lv' := [(1, vI x2_5), (0, .ref h), (2, vI x2_5)]) dX10_richest_47 (by decide) rfl ?_
            refine g_iinc X (lv' := [(2, vI (x2_5 + 1)), (1, vI x2_5), (0, .ref h)]) dX10_richest_48 2 rfl (by decide) rfl ?_
            refine g_goto X (tgt := 5) dX10_richest_51 (by decide) ?_
            refine g_lv [2, 1, 0] rfl ?_
            exact ih5 x2_5 (x2_5 + 1) (by first | assumption | omega) (by first | assumption | omega) (by omega)
          · refine g_aload_n X dX10_richest_25 0 rfl ?_
            refine gM_get X 0 rfl 0 (by decide) uw1179 rfl dX10_richest_26 ?_
            refine g_bipush X (z := 16) dX10_richest_29 (by decide) ?_
            refine g_iload_n X dX10_richest_31 2 rfl ?_
            refine g_iadd X dX10_richest_32 ?_
            refine g_iald X 1 0 rfl rfl (by omega) (by decide) dX10_richest_33 (fun t33 e33 => ?_)
            have r33 := r_v_now (16 + x2_5 : Int).toNat; rw [← e33] at r33
            refine g_aload_n X dX10_richest_34 0 rfl ?_
            refine gM_get X 0 rfl 0 (by decide) uw1179 rfl dX10_richest_35 ?_
            refine g_bipush X (z := 16) dX10_richest_38 (by decide) ?_
            refine g_iload_n X dX10_richest_40 1 rfl ?_
            refine g_iadd X dX10_richest_41 ?_
            refine g_iald X 1 0 rfl rfl (by omega) (by decide) dX10_richest_42 (fun t42 e42 => ?_)
            have r42 := r_v_now (16 + x1_5 : Int).toNat; rw [← e42] at r42
            refine g_icmp_le X (tgt := 48) dX10_richest_43 (by decide) (by omega) (by omega) (fun c43 => ?_) (fun c43 => ?_)
            · refine g_iinc X (lv' := [(2, vI (x2_5 + 1)), (0, .ref h), (1, vI x1_5)]) dX10_richest_48 2 rfl (by decide) rfl ?_
              refine g_goto X (tgt := 5) dX10_richest_51 (by decide) ?_
              refine g_lv [1, 2, 0] rfl ?_
              exact ih5 x1_5 (x2_5 + 1) (by first | assumption | omega) (by first | assumption | omega) (by omega)
            · refine g_iload_n X dX10_richest_46 2 rfl ?_
              refine g_istore_n X (lv' := [(1, vI x2_5), (0, .ref h), (2, vI x2_5)]) dX10_richest_47 (by decide) rfl ?_
              refine g_iinc X (lv' := [(2, vI (x2_5 + 1)), (1, vI x2_5), (0, .ref h)]) dX10_richest_48 2 rfl (by decide) rfl ?_
              refine g_goto X (tgt := 5) dX10_richest_51 (by decide) ?_
              refine g_lv [2, 1, 0] rfl ?_
              exact ih5 x2_5 (x2_5 + 1) (by first | assumption | omega) (by first | assumption | omega) (by omega)
  refine g_lv [2, 1, 0] rfl ?_
  exact L5 _ (-2) 0 (by first | assumption | omega) (by first | assumption | omega) (Nat.lt_succ_self _)
set_option maxHeartbeats 4000000 in
set_option maxRecDepth 100000 in
theorem c_X10_stallIs (l : Launch) (D : va_G) (cI cB cJ : ClassId) (h : Nat) (q : Nat → Nat) {v_stalls v_claimMany v_taped v_place0 v_length0 v_fault v_number0 v_open v_codeMany v_waiting v_saidMany v_clauses v_newMany v_newStalls v_lines v_salesNow v_outNow v_isKept v_keptStalls : Int} {v_now v_aside v_kept v_oneOf v_otherOf v_signOf v_byOf v_tape v_said v_waitsAt v_saidLetter v_saidFrom v_saidHalf v_saidTo v_codes v_clauseOf v_codeFrom v_codeHalf v_codeTo v_stack v_facts v_newOne v_newOther v_newSign v_newBy v_moreOf v_firstOf v_toldOf v_mostOf v_mostThen v_sumTo v_rowFrom v_ordersOf v_lessOf v_weightOf v_rowNow v_slowRow v_fastRow v_lineNow v_firstLine v_freeBy v_heldBy v_heightOf v_upTo v_downTo v_oftenOf v_newUpper v_newLower : Nat → Int} {p0 p1 : Int} (kr_v_stalls : 0 ≤ v_stalls ∧ v_stalls ≤ 255) (r_v_now : RA (-2147483648) 2147483647 v_now) (hp0 : IR p0) (hp1 : IR p1) : CtI l yX10_stallIs cX10_stallIs 3 (some .int) ⟨2, 0, 0, 43⟩ D (TY cI cB cJ) (wX10 cI cB cJ h q v_stalls v_claimMany v_taped v_place0 v_length0 v_fault v_number0 v_open v_codeMany v_waiting v_saidMany v_clauses v_newMany v_newStalls v_lines v_salesNow v_outNow v_isKept v_keptStalls v_now v_aside v_kept v_oneOf v_otherOf v_signOf v_byOf v_tape v_said v_waitsAt v_saidLetter v_saidFrom v_saidHalf v_saidTo v_codes v_clauseOf v_codeFrom v_codeHalf v_codeTo v_stack v_facts v_newOne v_newOther v_newSign v_newBy v_moreOf v_firstOf v_toldOf v_mostOf v_mostThen v_sumTo v_rowFrom v_ordersOf v_lessOf v_weightOf v_rowNow v_slowRow v_fastRow v_lineNow v_firstLine v_freeBy v_heldBy v_heightOf v_upTo v_downTo v_oftenOf v_newUpper v_newLower) [.ref h, vI p0, vI p1] (fun z ws' => (IR z) ∧ (ws' = (wX10 cI cB cJ h q v_stalls v_claimMany v_taped v_place0 v_length0 v_fault v_number0 v_open v_codeMany v_waiting v_saidMany v_clauses v_newMany v_newStalls v_lines v_salesNow v_outNow v_isKept v_keptStalls v_now v_aside v_kept v_oneOf v_otherOf v_signOf v_byOf v_tape v_said v_waitsAt v_saidLetter v_saidFrom v_saidHalf v_saidTo v_codes v_clauseOf v_codeFrom v_codeHalf v_codeTo v_stack v_facts v_newOne v_newOther v_newSign v_newBy v_moreOf v_firstOf v_toldOf v_mostOf v_mostThen v_sumTo v_rowFrom v_ordersOf v_lessOf v_weightOf v_rowNow v_slowRow v_fastRow v_lineNow v_firstLine v_freeBy v_heldBy v_heightOf v_upTo v_downTo v_oftenOf v_newUpper v_newLower))) := by
  refine hdrI (own := RX10) rfl (by decide +kernel) (Nat.le_of_ble_eq_true rfl) ?_
  intro p e s m args below meth c Q A X hQ
  refine g_lvE (lv2 := [(0, .ref h), (1, vI p0), (2, vI p1)]) rfl ?_
  refine g_aload_n X dX10_stallIs_0 0 rfl ?_
  refine g_iload_n X dX10_stallIs_1 1 rfl ?_
  refine g_callVI0 X (c_X10_isStall l D cI cB cJ h q (p0 := p0) (by omega) (by first | assumption | omega)) cv_X10_isStall uw1765 ⟨rfl, rfl, by decide, by decide⟩ 0 rfl rfl rfl rfl rfl (Nat.le_of_ble_eq_true rfl) ⟨Nat.zero_le _, Nat.zero_le _⟩ dX10_stallIs_2 (fun t2 ws2 k2 => ?_)
  obtain ⟨kb_2, ⟨kp0_2, rfl⟩⟩ := k2
  refine g_if_eq X (tgt := 31) dX10_stallIs_5 (by decide) (by omega) (fun c5 => ?_) (fun c5 => ?_)
  · refine g_iconst X dX10_stallIs_31 ?_
    exact hQ _ _ _ _ dX10_stallIs_32 ⟨(by omega), rfl⟩
  · refine g_iload_n X dX10_stallIs_8 2 rfl ?_
    refine g_iconst X dX10_stallIs_9 ?_
    refine g_iconst X dX10_stallIs_10 ?_
    refine g_callSIE X (c_X10_in l D cI cB cJ (p0 := p1) (p1 := 0) (p2 := 3) (by first | assumption | omega) (by first | assumption | omega) (by first | assumption | omega)) cv_X10_in uw1394 ⟨rfl, rfl, by decide, by decide⟩ rfl rfl (Nat.le_of_ble_eq_true rfl) ⟨Nat.zero_le _, Nat.zero_le _⟩ dX10_stallIs_11 (fun t11 ws11 k11 => ?_)
    obtain ⟨kb_11, ⟨kp0_11, rfl⟩⟩ := k11
    refine g_if_eq X (tgt := 31) dX10_stallIs_14 (by decide) (by omega) (fun c14 => ?_) (fun c14 => ?_)
    · refine g_iconst X dX10_stallIs_31 ?_
      exact hQ _ _ _ _ dX10_stallIs_32 ⟨(by omega), rfl⟩
    · refine g_aload_n X dX10_stallIs_17 0 rfl ?_
      refine gM_get X 0 rfl 0 (by decide) uw1179 rfl dX10_stallIs_18 ?_
      refine g_bipush X (z := 8) dX10_stallIs_21 (by decide) ?_
      refine g_iload_n X dX10_stallIs_23 2 rfl ?_
      refine g_imul X dX10_stallIs_24 ?_
      refine g_iload_n X dX10_stallIs_25 1 rfl ?_
      refine g_iadd X dX10_stallIs_26 ?_
      refine g_iald X 1 0 rfl rfl (by omega) (by decide) dX10_stallIs_27 (fun t27 e27 => ?_)
      have r27 := r_v_now ((8 * p1) + p0 : Int).toNat; rw [← e27] at r27
      refine g_goto X (tgt := 32) dX10_stallIs_28 (by decide) ?_
      exact hQ _ _ _ _ dX10_stallIs_32 ⟨(by omega), rfl⟩
set_option maxHeartbeats 4000000 in
set_option maxRecDepth 100000 in
theorem c_X10_thingsInClaims (l : Launch) (D : va_G) (cI cB cJ : ClassId) (h : Nat) (q : Nat → Nat) {v_stalls v_claimMany v_taped v_place0 v_length0 v_fault v_number0 v_open v_codeMany v_waiting v_saidMany v_clauses v_newMany v_newStalls v_lines v_salesNow v_outNow v_isKept v_keptStalls : Int} {v_now v_aside v_kept v_oneOf v_otherOf v_signOf v_byOf v_tape v_said v_waitsAt v_saidLetter v_saidFrom v_saidHalf v_saidTo v_codes v_clauseOf v_codeFrom v_codeHalf v_codeTo v_stack v_facts v_newOne v_newOther v_newSign v_newBy v_moreOf v_firstOf v_toldOf v_mostOf v_mostThen v_sumTo v_rowFrom v_ordersOf v_lessOf v_weightOf v_rowNow v_slowRow v_fastRow v_lineNow v_firstLine v_freeBy v_heldBy v_heightOf v_upTo v_downTo v_oftenOf v_newUpper v_newLower : Nat → Int} (kr_v_claimMany : 0 ≤ v_claimMany ∧ v_claimMany ≤ 40) (r_v_oneOf : RA 0 11 v_oneOf) (r_v_otherOf : RA 0 11 v_otherOf) : CtI l yX10_thingsInClaims cX10_thingsInClaims 3 (some .int) ⟨0, 0, 0, 0⟩ D (TY cI cB cJ) (wX10 cI cB cJ h q v_stalls v_claimMany v_taped v_place0 v_length0 v_fault v_number0 v_open v_codeMany v_waiting v_saidMany v_clauses v_newMany v_newStalls v_lines v_salesNow v_outNow v_isKept v_keptStalls v_now v_aside v_kept v_oneOf v_otherOf v_signOf v_byOf v_tape v_said v_waitsAt v_saidLetter v_saidFrom v_saidHalf v_saidTo v_codes v_clauseOf v_codeFrom v_codeHalf v_codeTo v_stack v_facts v_newOne v_newOther v_newSign v_newBy v_moreOf v_firstOf v_toldOf v_mostOf v_mostThen v_sumTo v_rowFrom v_ordersOf v_lessOf v_weightOf v_rowNow v_slowRow v_fastRow v_lineNow v_firstLine v_freeBy v_heldBy v_heightOf v_upTo v_downTo v_oftenOf v_newUpper v_newLower) [.ref h] (fun z ws' => (IR z) ∧ (ws' = (wX10 cI cB cJ h q v_stalls v_claimMany v_taped v_place0 v_length0 v_fault v_number0 v_open v_codeMany v_waiting v_saidMany v_clauses v_newMany v_newStalls v_lines v_salesNow v_outNow v_isKept v_keptStalls v_now v_aside v_kept v_oneOf v_otherOf v_signOf v_byOf v_tape v_said v_waitsAt v_saidLetter v_saidFrom v_saidHalf v_saidTo v_codes v_clauseOf v_codeFrom v_codeHalf v_codeTo v_stack v_facts v_newOne v_newOther v_newSign v_newBy v_moreOf v_firstOf v_toldOf v_mostOf v_mostThen v_sumTo v_rowFrom v_ordersOf v_lessOf v_weightOf v_rowNow v_slowRow v_fastRow v_lineNow v_firstLine v_freeBy v_heldBy v_heightOf v_upTo v_downTo v_oftenOf v_newUpper v_newLower))) := by
  refine hdrI (own := RX10) rfl (by decide +kernel) (Nat.le_of_ble_eq_true rfl) ?_
  intro p e s m args below meth c Q A X hQ
  refine g_lvE (lv2 := [(0, .ref h)]) rfl ?_
  refine g_iconst X dX10_thingsInClaims_0 ?_
  refine g_istore_n X (lv' := [(1, vI 0), (0, .ref h)]) dX10_thingsInClaims_1 (by decide) rfl ?_
  refine g_iconst X dX10_thingsInClaims_2 ?_
  refine g_istore_n X (lv' := [(2, vI 0), (1, vI 0), (0, .ref h)]) dX10_thingsInClaims_3 (by decide) rfl ?_
  have L4 : ∀ (n : Nat) (x1_4 : Int) (x2_4 : Int), (0 ≤ x2_4 ∧ x2_4 ≤ v_claimMany) → (IR x1_4) → (v_claimMany - x2_4).toNat < n → GG p l e ⟨0, 0, 0, 0⟩ s m args below meth c 0 0 Q D A s.heap 3 (wX10 cI cB cJ h q v_stalls v_claimMany v_taped v_place0 v_length0 v_fault v_number0 v_open v_codeMany v_waiting v_saidMany v_clauses v_newMany v_newStalls v_lines v_salesNow v_outNow v_isKept v_keptStalls v_now v_aside v_kept v_oneOf v_otherOf v_signOf v_byOf v_tape v_said v_waitsAt v_saidLetter v_saidFrom v_saidHalf v_saidTo v_codes v_clauseOf v_codeFrom v_codeHalf v_codeTo v_stack v_facts v_newOne v_newOther v_newSign v_newBy v_moreOf v_firstOf v_toldOf v_mostOf v_mostThen v_sumTo v_rowFrom v_ordersOf v_lessOf v_weightOf v_rowNow v_slowRow v_fastRow v_lineNow v_firstLine v_freeBy v_heldBy v_heightOf v_upTo v_downTo v_oftenOf v_newUpper v_newLower) 4 [(0, .ref h), (1, vI x1_4), (2, vI x2_4)] [] := by
    intro n
    induction n with
    | zero => intros; exfalso; omega
    | succ n ih4 =>
      intro x1_4 x2_4 w4_0 w4_1 wm4
      refine g_iload_n X dX10_thingsInClaims_4 2 rfl ?_
      refine g_aload_n X dX10_thingsInClaims_5 0 rfl ?_
      refine gM_get X 0 rfl 8 (by decide) uw1187 rfl dX10_thingsInClaims_6 ?_
      refine g_icmp_ge X (tgt := 38) dX10_thingsInClaims_9 (by decide) (by omega) (by omega) (fun c9 => ?_) (fun c9 => ?_)
      · refine g_iload_n X dX10_thingsInClaims_38 1 rfl ?_
        exact hQ _ _ _ _ dX10_thingsInClaims_39 ⟨(by omega), rfl⟩
      · refine g_iload_n X dX10_thingsInClaims_12 1 rfl ?_
        refine g_iconst X dX10_thingsInClaims_13 ?_
        refine g_aload_n X dX10_thingsInClaims_14 0 rfl ?_
        refine gM_get X 0 rfl 3 (by decide) uw1182 rfl dX10_thingsInClaims_15 ?_
        refine g_iload_n X dX10_thingsInClaims_18 2 rfl ?_
        refine g_iald X 4 0 rfl rfl (by omega) (by decide) dX10_thingsInClaims_19 (fun t19 e19 => ?_)
        have r19 := r_v_oneOf (x2_4 : Int).toNat; rw [← e19] at r19
        refine g_ishl X dX10_thingsInClaims_20 ?_
        refine g_nm (fun t20 e20 => ?_)
        have r20 : IR t20 := by rw [e20]; exact z_ir _
        refine g_ior X dX10_thingsInClaims_21 ?_
        refine g_nm (fun t21 e21 => ?_)
        have r21 : IR t21 := by rw [e21]; exact z_ir _
        refine g_iconst X dX10_thingsInClaims_22 ?_
        refine g_aload_n X dX10_thingsInClaims_23 0 rfl ?_
        refine gM_get X 0 rfl 4 (by decide) uw1183 rfl dX10_thingsInClaims_24 ?_
        refine g_iload_n X dX10_thingsInClaims_27 2 rfl ?_
        refine g_iald X 5 0 rfl rfl (by omega) (by decide) dX10_thingsInClaims_28 (fun t28 e28 => ?_)
        have r28 := r_v_otherOf (x2_4 : Int).toNat; rw [← e28] at r28
        refine g_ishl X dX10_thingsInClaims_29 ?_
        refine g_nm (fun t29 e29 => ?_)
        have r29 : IR t29 := by rw [e29]; exact z_ir _
        refine g_ior X dX10_thingsInClaims_30 ?_
        refine g_nm (fun t30 e30 => ?_)
        have r30 : IR t30 := by rw [e30]; exact z_ir _
        refine g_istore_n X (lv' := [(1, vI t30), (0, .ref h), (2, vI x2_4)]) dX10_thingsInClaims_31 (by decide) rfl ?_
        refine g_iinc X (lv' := [(2, vI (x2_4 + 1)), (1, vI t30), (0, .ref h)]) dX10_thingsInClaims_32 2 rfl (by decide) rfl ?_
        refine g_goto X (tgt := 4) dX10_thingsInClaims_35 (by decide) ?_
        refine g_lv [2, 1, 0] rfl ?_
        exact ih4 t30 (x2_4 + 1) (by first | assumption | omega) (by first | assumption | omega) (by omega)
  refine g_lv [2, 1, 0] rfl ?_
  exact L4 _ 0 0 (by first | assumption | omega) (by first | assumption | omega) (Nat.lt_succ_self _)
set_option maxHeartbeats 4000000 in
set_option maxRecDepth 100000 in
theorem c_X10_claimIs (l : Launch) (D : va_G) (cI cB cJ : ClassId) (h : Nat) (q : Nat → Nat) {v_stalls v_claimMany v_taped v_place0 v_length0 v_fault v_number0 v_open v_codeMany v_waiting v_saidMany v_clauses v_newMany v_newStalls v_lines v_salesNow v_outNow v_isKept v_keptStalls : Int} {v_now v_aside v_kept v_oneOf v_otherOf v_signOf v_byOf v_tape v_said v_waitsAt v_saidLetter v_saidFrom v_saidHalf v_saidTo v_codes v_clauseOf v_codeFrom v_codeHalf v_codeTo v_stack v_facts v_newOne v_newOther v_newSign v_newBy v_moreOf v_firstOf v_toldOf v_mostOf v_mostThen v_sumTo v_rowFrom v_ordersOf v_lessOf v_weightOf v_rowNow v_slowRow v_fastRow v_lineNow v_firstLine v_freeBy v_heldBy v_heightOf v_upTo v_downTo v_oftenOf v_newUpper v_newLower : Nat → Int} {p0 p1 : Int} (kr_v_claimMany : 0 ≤ v_claimMany ∧ v_claimMany ≤ 40) (r_v_oneOf : RA 0 11 v_oneOf) (r_v_otherOf : RA 0 11 v_otherOf) (r_v_signOf : RA (-2147483648) 2147483647 v_signOf) (r_v_byOf : RA (-9999) 9999 v_byOf) (hp0 : IR p0) (hp1 : IR p1) : CtI l yX10_claimIs cX10_claimIs 3 (some .int) ⟨1, 0, 0, 22⟩ D (TY cI cB cJ) (wX10 cI cB cJ h q v_stalls v_claimMany v_taped v_place0 v_length0 v_fault v_number0 v_open v_codeMany v_waiting v_saidMany v_clauses v_newMany v_newStalls v_lines v_salesNow v_outNow v_isKept v_keptStalls v_now v_aside v_kept v_oneOf v_otherOf v_signOf v_byOf v_tape v_said v_waitsAt v_saidLetter v_saidFrom v_saidHalf v_saidTo v_codes v_clauseOf v_codeFrom v_codeHalf v_codeTo v_stack v_facts v_newOne v_newOther v_newSign v_newBy v_moreOf v_firstOf v_toldOf v_mostOf v_mostThen v_sumTo v_rowFrom v_ordersOf v_lessOf v_weightOf v_rowNow v_slowRow v_fastRow v_lineNow v_firstLine v_freeBy v_heldBy v_heightOf v_upTo v_downTo v_oftenOf v_newUpper v_newLower) [.ref h, vI p0, vI p1] (fun z ws' => (IR z) ∧ (((0 ≤ p0 ∧ p0 < v_claimMany ∧ 0 ≤ p1 ∧ p1 ≤ 3) ∧ z = ciF v_oneOf v_otherOf v_signOf v_byOf p0 p1) ∨ (¬ (0 ≤ p0 ∧ p0 < v_claimMany ∧ 0 ≤ p1 ∧ p1 ≤ 3) ∧ z = -100000)) ∧ (ws' = (wX10 cI cB cJ h q v_stalls v_claimMany v_taped v_place0 v_length0 v_fault v_number0 v_open v_codeMany v_waiting v_saidMany v_clauses v_newMany v_newStalls v_lines v_salesNow v_outNow v_isKept v_keptStalls v_now v_aside v_kept v_oneOf v_otherOf v_signOf v_byOf v_tape v_said v_waitsAt v_saidLetter v_saidFrom v_saidHalf v_saidTo v_codes v_clauseOf v_codeFrom v_codeHalf v_codeTo v_stack v_facts v_newOne v_newOther v_newSign v_newBy v_moreOf v_firstOf v_toldOf v_mostOf v_mostThen v_sumTo v_rowFrom v_ordersOf v_lessOf v_weightOf v_rowNow v_slowRow v_fastRow v_lineNow v_firstLine v_freeBy v_heldBy v_heightOf v_upTo v_downTo v_oftenOf v_newUpper v_newLower))) := by
  refine hdrI (own := RX10) rfl (by decide +kernel) (Nat.le_of_ble_eq_true rfl) ?_
  intro p e s m args below meth c Q A X hQ
  refine g_lvE (lv2 := [(0, .ref h), (1, vI p0), (2, vI p1)]) rfl ?_
  refine g_iload_n X dX10_claimIs_0 1 rfl ?_
  refine g_iconst X dX10_claimIs_1 ?_
  refine g_aload_n X dX10_claimIs_2 0 rfl ?_
  refine gM_get X 0 rfl 8 (by decide) uw1187 rfl dX10_claimIs_3 ?_
  refine g_iconst X dX10_claimIs_6 ?_
  refine g_isub X dX10_claimIs_7 ?_
  refine g_callSIE X (c_X10_in l D cI cB cJ (p0 := p0) (p1 := 0) (p2 := v_claimMany - 1) (by first | assumption | omega) (by first | assumption | omega) (by first | assumption | omega)) cv_X10_in uw1394 ⟨rfl, rfl, by decide, by decide⟩ rfl rfl (Nat.le_of_ble_eq_true rfl) ⟨Nat.zero_le _, Nat.zero_le _⟩ dX10_claimIs_8 (fun t8 ws8 k8 => ?_)
  obtain ⟨kb_8, ⟨kp0_8, rfl⟩⟩ := k8
  refine g_if_ne X (tgt := 18) dX10_claimIs_11 (by decide) (by omega) (fun c11 => ?_) (fun c11 => ?_)
  · refine g_iload_n X dX10_claimIs_18 2 rfl ?_
    refine g_nm (fun sw19 es19 => ?_)
    rcases (show sw19 = 0 ∨ sw19 = 1 ∨ sw19 = 2 ∨ sw19 = 3 ∨ (sw19 < 0 ∨ 3 < sw19) by omega) with hs19 | hs19 | hs19 | hs19 | hs19
    · rw [hs19]
      refine g_tab X (off := 29) (tgt := 48) dX10_claimIs_19 (by omega) (by omega) rfl (by decide) ?_
      refine g_aload_n X dX10_claimIs_48 0 rfl ?_
      refine gM_get X 0 rfl 3 (by decide) uw1182 rfl dX10_claimIs_49 ?_
      refine g_iload_n X dX10_claimIs_52 1 rfl ?_
      refine g_iald X 4 0 rfl rfl (by omega) (by decide) dX10_claimIs_53 (fun t53 e53 => ?_)
      have r53 := r_v_oneOf (p0 : Int).toNat; rw [← e53] at r53
      try (have hc := ciF_e v_oneOf v_otherOf v_signOf v_byOf p0 p1 (by omega))
      exact hQ _ _ _ _ dX10_claimIs_54 ⟨(by first | assumption | omega), (by first | assumption | omega), rfl⟩
    · rw [hs19]
      refine g_tab X (off := 36) (tgt := 55) dX10_claimIs_19 (by omega) (by omega) rfl (by decide) ?_
      refine g_aload_n X dX10_claimIs_55 0 rfl ?_
      refine gM_get X 0 rfl 4 (by decide) uw1183 rfl dX10_claimIs_56 ?_
      refine g_iload_n X dX10_claimIs_59 1 rfl ?_
      refine g_iald X 5 0 rfl rfl (by omega) (by decide) dX10_claimIs_60 (fun t60 e60 => ?_)
      have r60 := r_v_otherOf (p0 : Int).toNat; rw [← e60] at r60
      try (have hc := ciF_e v_oneOf v_otherOf v_signOf v_byOf p0 p1 (by omega))
      exact hQ _ _ _ _ dX10_claimIs_61 ⟨(by first | assumption | omega), (by first | assumption | omega), rfl⟩
    · rw [hs19]
      refine g_tab X (off := 43) (tgt := 62) dX10_claimIs_19 (by omega) (by omega) rfl (by decide) ?_
      refine g_aload_n X dX10_claimIs_62 0 rfl ?_
      refine gM_get X 0 rfl 5 (by decide) uw1184 rfl dX10_claimIs_63 ?_
      refine g_iload_n X dX10_claimIs_66 1 rfl ?_
      refine g_iald X 6 0 rfl rfl (by omega) (by decide) dX10_claimIs_67 (fun t67 e67 => ?_)
      have r67 := r_v_signOf (p0 : Int).toNat; rw [← e67] at r67
      try (have hc := ciF_e v_oneOf v_otherOf v_signOf v_byOf p0 p1 (by omega))
      exact hQ _ _ _ _ dX10_claimIs_68 ⟨(by first | assumption | omega), (by first | assumption | omega), rfl⟩
    · rw [hs19]
      refine g_tab X (off := 50) (tgt := 69) dX10_claimIs_19 (by omega) (by omega) rfl (by decide) ?_
      refine g_aload_n X dX10_claimIs_69 0 rfl ?_
      refine gM_get X 0 rfl 6 (by decide) uw1185 rfl dX10_claimIs_70 ?_
      refine g_iload_n X dX10_claimIs_73 1 rfl ?_
      refine g_iald X 7 0 rfl rfl (by omega) (by decide) dX10_claimIs_74 (fun t74 e74 => ?_)
      have r74 := r_v_byOf (p0 : Int).toNat; rw [← e74] at r74
      try (have hc := ciF_e v_oneOf v_otherOf v_signOf v_byOf p0 p1 (by omega))
      exact hQ _ _ _ _ dX10_claimIs_75 ⟨(by first | assumption | omega), (by first | assumption | omega), rfl⟩
    · refine g_tabD X (tgt := 76) dX10_claimIs_19 (by omega) hs19 (by decide) ?_
      refine g_ldcw X (z := (-100000)) dX10_claimIs_76 uw1514 (by decide) ?_
      try (have hc := ciF_e v_oneOf v_otherOf v_signOf v_byOf p0 p1 (by omega))
      exact hQ _ _ _ _ dX10_claimIs_79 ⟨(by first | assumption | omega), (by first | assumption | omega), rfl⟩
  · refine g_ldcw X (z := (-100000)) dX10_claimIs_14 uw1514 (by decide) ?_
    try (have hc := ciF_e v_oneOf v_otherOf v_signOf v_byOf p0 p1 (by omega))
    exact hQ _ _ _ _ dX10_claimIs_17 ⟨(by first | assumption | omega), (by first | assumption | omega), rfl⟩
set_option maxHeartbeats 4000000 in
set_option maxRecDepth 100000 in
theorem c_X10_count (l : Launch) (D : va_G) (cI cB cJ : ClassId) (h : Nat) (q : Nat → Nat) {v_stalls v_claimMany v_taped v_place0 v_length0 v_fault v_number0 v_open v_codeMany v_waiting v_saidMany v_clauses v_newMany v_newStalls v_lines v_salesNow v_outNow v_isKept v_keptStalls : Int} {v_now v_aside v_kept v_oneOf v_otherOf v_signOf v_byOf v_tape v_said v_waitsAt v_saidLetter v_saidFrom v_saidHalf v_saidTo v_codes v_clauseOf v_codeFrom v_codeHalf v_codeTo v_stack v_facts v_newOne v_newOther v_newSign v_newBy v_moreOf v_firstOf v_toldOf v_mostOf v_mostThen v_sumTo v_rowFrom v_ordersOf v_lessOf v_weightOf v_rowNow v_slowRow v_fastRow v_lineNow v_firstLine v_freeBy v_heldBy v_heightOf v_upTo v_downTo v_oftenOf v_newUpper v_newLower : Nat → Int} {p0 : Int} (kr_v_stalls : 0 ≤ v_stalls ∧ v_stalls ≤ 255) (kr_v_claimMany : 0 ≤ v_claimMany ∧ v_claimMany ≤ 40) (kr_v_taped : 0 ≤ v_taped ∧ v_taped ≤ 260) (kr_v_clauses : 0 ≤ v_clauses ∧ v_clauses ≤ 16) (r_v_now : RA (-2147483648) 2147483647 v_now) (r_v_oneOf : RA 0 11 v_oneOf) (r_v_otherOf : RA 0 11 v_otherOf) (hp0 : IR p0) : CtI l yX10_count cX10_count 2 (some .int) ⟨3, 0, 0, 65⟩ D (TY cI cB cJ) (wX10 cI cB cJ h q v_stalls v_claimMany v_taped v_place0 v_length0 v_fault v_number0 v_open v_codeMany v_waiting v_saidMany v_clauses v_newMany v_newStalls v_lines v_salesNow v_outNow v_isKept v_keptStalls v_now v_aside v_kept v_oneOf v_otherOf v_signOf v_byOf v_tape v_said v_waitsAt v_saidLetter v_saidFrom v_saidHalf v_saidTo v_codes v_clauseOf v_codeFrom v_codeHalf v_codeTo v_stack v_facts v_newOne v_newOther v_newSign v_newBy v_moreOf v_firstOf v_toldOf v_mostOf v_mostThen v_sumTo v_rowFrom v_ordersOf v_lessOf v_weightOf v_rowNow v_slowRow v_fastRow v_lineNow v_firstLine v_freeBy v_heldBy v_heightOf v_upTo v_downTo v_oftenOf v_newUpper v_newLower) [.ref h, vI p0] (fun z ws' => (IR z) ∧ (ws' = (wX10 cI cB cJ h q v_stalls v_claimMany v_taped v_place0 v_length0 v_fault v_number0 v_open v_codeMany v_waiting v_saidMany v_clauses v_newMany v_newStalls v_lines v_salesNow v_outNow v_isKept v_keptStalls v_now v_aside v_kept v_oneOf v_otherOf v_signOf v_byOf v_tape v_said v_waitsAt v_saidLetter v_saidFrom v_saidHalf v_saidTo v_codes v_clauseOf v_codeFrom v_codeHalf v_codeTo v_stack v_facts v_newOne v_newOther v_newSign v_newBy v_moreOf v_firstOf v_toldOf v_mostOf v_mostThen v_sumTo v_rowFrom v_ordersOf v_lessOf v_weightOf v_rowNow v_slowRow v_fastRow v_lineNow v_firstLine v_freeBy v_heldBy v_heightOf v_upTo v_downTo v_oftenOf v_newUpper v_newLower))) := by
  refine hdrI (own := RX10) rfl (by decide +kernel) (Nat.le_of_ble_eq_true rfl) ?_
  intro p e s m args below meth c Q A X hQ
  refine g_lvE (lv2 := [(0, .ref h), (1, vI p0)]) rfl ?_
  refine g_iload_n X dX10_count_0 1 rfl ?_
  refine g_nm (fun sw1 es1 => ?_)
  rcases (show sw1 = 0 ∨ sw1 = 1 ∨ sw1 = 2 ∨ sw1 = 3 ∨ sw1 = 4 ∨ sw1 = 5 ∨ sw1 = 6 ∨ sw1 = 7 ∨ sw1 = 8 ∨ (sw1 < 0 ∨ 8 < sw1) by omega) with hs1 | hs1 | hs1 | hs1 | hs1 | hs1 | hs1 | hs1 | hs1 | hs1
  · rw [hs1]
    refine g_tab X (off := 51) (tgt := 52) dX10_count_1 (by omega) (by omega) rfl (by decide) ?_
    refine g_aload_n X dX10_count_52 0 rfl ?_
    refine gM_get X 0 rfl 0 (by decide) uw1179 rfl dX10_count_53 ?_
    refine g_bipush X (z := 32) dX10_count_56 (by decide) ?_
    refine g_iald X 1 0 rfl rfl (by omega) (by decide) dX10_count_58 (fun t58 e58 => ?_)
    have r58 := r_v_now (32 : Int).toNat; rw [← e58] at r58
    exact hQ _ _ _ _ dX10_count_59 ⟨(by omega), rfl⟩
  · rw [hs1]
    refine g_tab X (off := 59) (tgt := 60) dX10_count_1 (by omega) (by omega) rfl (by decide) ?_
    refine g_aload_n X dX10_count_60 0 rfl ?_
    refine gM_get X 0 rfl 7 (by decide) uw1186 rfl dX10_count_61 ?_
    exact hQ _ _ _ _ dX10_count_64 ⟨(by omega), rfl⟩
  · rw [hs1]
    refine g_tab X (off := 64) (tgt := 65) dX10_count_1 (by omega) (by omega) rfl (by decide) ?_
    refine g_aload_n X dX10_count_65 0 rfl ?_
    refine gM_get X 0 rfl 8 (by decide) uw1187 rfl dX10_count_66 ?_
    exact hQ _ _ _ _ dX10_count_69 ⟨(by omega), rfl⟩
  · rw [hs1]
    refine g_tab X (off := 69) (tgt := 70) dX10_count_1 (by omega) (by omega) rfl (by decide) ?_
    refine g_aload_n X dX10_count_70 0 rfl ?_
    refine g_callVI0 X (c_X10_thingsInClaims l D cI cB cJ h q  (by omega) r_v_oneOf r_v_otherOf) cv_X10_thingsInClaims uw1846 ⟨rfl, rfl, by decide, by decide⟩ 0 rfl rfl rfl rfl rfl (Nat.le_of_ble_eq_true rfl) ⟨Nat.zero_le _, Nat.zero_le _⟩ dX10_count_71 (fun t71 ws71 k71 => ?_)
    obtain ⟨kp0_71, rfl⟩ := k71
    exact hQ _ _ _ _ dX10_count_74 ⟨(by omega), rfl⟩
  · rw [hs1]
    refine g_tab X (off := 74) (tgt := 75) dX10_count_1 (by omega) (by omega) rfl (by decide) ?_
    refine g_aload_n X dX10_count_75 0 rfl ?_
    refine gM_get X 0 rfl 19 (by decide) uw1198 rfl dX10_count_76 ?_
    exact hQ _ _ _ _ dX10_count_79 ⟨(by omega), rfl⟩
  · rw [hs1]
    refine g_tab X (off := 79) (tgt := 80) dX10_count_1 (by omega) (by omega) rfl (by decide) ?_
    refine g_aload_n X dX10_count_80 0 rfl ?_
    refine gM_get X 0 rfl 10 (by decide) uw1189 rfl dX10_count_81 ?_
    exact hQ _ _ _ _ dX10_count_84 ⟨(by omega), rfl⟩
  · rw [hs1]
    refine g_tab X (off := 84) (tgt := 85) dX10_count_1 (by omega) (by omega) rfl (by decide) ?_
    refine g_aload_n X dX10_count_85 0 rfl ?_
    refine gM_get X 0 rfl 0 (by decide) uw1179 rfl dX10_count_86 ?_
    refine g_bipush X (z := 33) dX10_count_89 (by decide) ?_
    refine g_iald X 1 0 rfl rfl (by omega) (by decide) dX10_count_91 (fun t91 e91 => ?_)
    have r91 := r_v_now (33 : Int).toNat; rw [← e91] at r91
    exact hQ _ _ _ _ dX10_count_92 ⟨(by omega), rfl⟩
  · rw [hs1]
    refine g_tab X (off := 92) (tgt := 93) dX10_count_1 (by omega) (by omega) rfl (by decide) ?_
    refine g_aload_n X dX10_count_93 0 rfl ?_
    refine g_callVI0 X (c_X10_moneyOfAll l D cI cB cJ h q  (by omega) r_v_now) cv_X10_moneyOfAll uw1809 ⟨rfl, rfl, by decide, by decide⟩ 0 rfl rfl rfl rfl rfl (Nat.le_of_ble_eq_true rfl) ⟨Nat.zero_le _, Nat.zero_le _⟩ dX10_count_94 (fun t94 ws94 k94 => ?_)
    obtain ⟨kp0_94, rfl⟩ := k94
    exact hQ _ _ _ _ dX10_count_97 ⟨(by omega), rfl⟩
  · rw [hs1]
    refine g_tab X (off := 97) (tgt := 98) dX10_count_1 (by omega) (by omega) rfl (by decide) ?_
    refine g_aload_n X dX10_count_98 0 rfl ?_
    refine g_callVI0 X (c_X10_betweenInAll l D cI cB cJ h q  (by omega) r_v_now) cv_X10_betweenInAll uw1850 ⟨rfl, rfl, by decide, by decide⟩ 0 rfl rfl rfl rfl rfl (Nat.le_of_ble_eq_true rfl) ⟨Nat.zero_le _, Nat.zero_le _⟩ dX10_count_99 (fun t99 ws99 k99 => ?_)
    obtain ⟨kp0_99, rfl⟩ := k99
    exact hQ _ _ _ _ dX10_count_102 ⟨(by omega), rfl⟩
  · refine g_tabD X (tgt := 103) dX10_count_1 (by omega) hs1 (by decide) ?_
    refine g_iconst X dX10_count_103 ?_
    exact hQ _ _ _ _ dX10_count_104 ⟨(by omega), rfl⟩
set_option maxHeartbeats 4000000 in
set_option maxRecDepth 100000 in
theorem c_X10_laysHeights (l : Launch) (D : va_G) (cI cB cJ : ClassId) (h : Nat) (q : Nat → Nat) {v_stalls v_claimMany v_taped v_place0 v_length0 v_fault v_number0 v_open v_codeMany v_waiting v_saidMany v_clauses v_newMany v_newStalls v_lines v_salesNow v_outNow v_isKept v_keptStalls : Int} {v_now v_aside v_kept v_oneOf v_otherOf v_signOf v_byOf v_tape v_said v_waitsAt v_saidLetter v_saidFrom v_saidHalf v_saidTo v_codes v_clauseOf v_codeFrom v_codeHalf v_codeTo v_stack v_facts v_newOne v_newOther v_newSign v_newBy v_moreOf v_firstOf v_toldOf v_mostOf v_mostThen v_sumTo v_rowFrom v_ordersOf v_lessOf v_weightOf v_rowNow v_slowRow v_fastRow v_lineNow v_firstLine v_freeBy v_heldBy v_heightOf v_upTo v_downTo v_oftenOf v_newUpper v_newLower : Nat → Int} {p0 : Int} (r_v_tape : RA (-128) 127 v_tape) (r_v_heightOf : RA 0 255 v_heightOf) (hp0 : IR p0) (hp1 : 0 ≤ p0 ∧ p0 ≤ 20) : CtV l yX10_laysHeights cX10_laysHeights 4 none ⟨1, 0, 0, 21⟩ D (TY cI cB cJ) (wX10 cI cB cJ h q v_stalls v_claimMany v_taped v_place0 v_length0 v_fault v_number0 v_open v_codeMany v_waiting v_saidMany v_clauses v_newMany v_newStalls v_lines v_salesNow v_outNow v_isKept v_keptStalls v_now v_aside v_kept v_oneOf v_otherOf v_signOf v_byOf v_tape v_said v_waitsAt v_saidLetter v_saidFrom v_saidHalf v_saidTo v_codes v_clauseOf v_codeFrom v_codeHalf v_codeTo v_stack v_facts v_newOne v_newOther v_newSign v_newBy v_moreOf v_firstOf v_toldOf v_mostOf v_mostThen v_sumTo v_rowFrom v_ordersOf v_lessOf v_weightOf v_rowNow v_slowRow v_fastRow v_lineNow v_firstLine v_freeBy v_heldBy v_heightOf v_upTo v_downTo v_oftenOf v_newUpper v_newLower) [.ref h, vI p0] (fun ws' => ∃ n_heightOf : Nat → Int, (RA 0 255 n_heightOf) ∧ (n_heightOf = srt v_heightOf (oct v_tape) p0.toNat) ∧ (ws' = (wX10 cI cB cJ h q v_stalls v_claimMany v_taped v_place0 v_length0 v_fault v_number0 v_open v_codeMany v_waiting v_saidMany v_clauses v_newMany v_newStalls v_lines v_salesNow v_outNow v_isKept v_keptStalls v_now v_aside v_kept v_oneOf v_otherOf v_signOf v_byOf v_tape v_said v_waitsAt v_saidLetter v_saidFrom v_saidHalf v_saidTo v_codes v_clauseOf v_codeFrom v_codeHalf v_codeTo v_stack v_facts v_newOne v_newOther v_newSign v_newBy v_moreOf v_firstOf v_toldOf v_mostOf v_mostThen v_sumTo v_rowFrom v_ordersOf v_lessOf v_weightOf v_rowNow v_slowRow v_fastRow v_lineNow v_firstLine v_freeBy v_heldBy n_heightOf v_upTo v_downTo v_oftenOf v_newUpper v_newLower))) := by
  refine hdrV (own := RX10) rfl (by decide +kernel) (Nat.le_of_ble_eq_true rfl) ?_
  intro p e s m args below meth c Q A X hQ
  refine g_lvE (lv2 := [(0, .ref h), (1, vI p0)]) rfl ?_
  refine g_iconst X dX10_laysHeights_0 ?_
  refine g_istore_n X (lv' := [(2, vI 0), (0, .ref h), (1, vI p0)]) dX10_laysHeights_1 (by decide) rfl ?_
  have L2 : ∀ (n : Nat) (x2_2 : Int) (heightOf_2 : Nat → Int), (RA 0 255 heightOf_2) → (0 ≤ x2_2 ∧ x2_2 ≤ p0) → (heightOf_2 = srt v_heightOf (oct v_tape) (x2_2).toNat) → (p0 - x2_2).toNat < n → GG p l e ⟨1, 0, 0, 21⟩ s m args below meth c 0 0 Q D A s.heap 4 (wX10 cI cB cJ h q v_stalls v_claimMany v_taped v_place0 v_length0 v_fault v_number0 v_open v_codeMany v_waiting v_saidMany v_clauses v_newMany v_newStalls v_lines v_salesNow v_outNow v_isKept v_keptStalls v_now v_aside v_kept v_oneOf v_otherOf v_signOf v_byOf v_tape v_said v_waitsAt v_saidLetter v_saidFrom v_saidHalf v_saidTo v_codes v_clauseOf v_codeFrom v_codeHalf v_codeTo v_stack v_facts v_newOne v_newOther v_newSign v_newBy v_moreOf v_firstOf v_toldOf v_mostOf v_mostThen v_sumTo v_rowFrom v_ordersOf v_lessOf v_weightOf v_rowNow v_slowRow v_fastRow v_lineNow v_firstLine v_freeBy v_heldBy heightOf_2 v_upTo v_downTo v_oftenOf v_newUpper v_newLower) 2 [(0, .ref h), (1, vI p0), (2, vI x2_2)] [] := by
    intro n
    induction n with
    | zero => intros; exfalso; omega
    | succ n ih2 =>
      intro x2_2 heightOf_2 r_heightOf_2 w2_0 w2_1 wm2
      refine g_iload_n X dX10_laysHeights_2 2 rfl ?_
      refine g_iload_n X dX10_laysHeights_3 1 rfl ?_
      refine g_icmp_ge X (tgt := 67) dX10_laysHeights_4 (by decide) (by omega) (by omega) (fun c4 => ?_) (fun c4 => ?_)
      · have hx : x2_2 = p0 := by omega
        rw [hx] at w2_1
        exact hQ _ _ _ dX10_laysHeights_67 ⟨heightOf_2, r_heightOf_2, (by first | assumption | omega), rfl⟩
      · refine g_iload_n X dX10_laysHeights_7 2 rfl ?_
        refine g_istore_n X (lv' := [(3, vI x2_2), (0, .ref h), (1, vI p0), (2, vI x2_2)]) dX10_laysHeights_8 (by decide) rfl ?_
        have L9 : ∀ (n : Nat) (x3_9 : Int) (heightOf_9 : Nat → Int), (RA 0 255 heightOf_9) → (0 ≤ x3_9 ∧ x3_9 ≤ x2_2) → (ins heightOf_9 (oct v_tape (x2_2).toNat) (x3_9).toNat = ins heightOf_2 (oct v_tape (x2_2).toNat) (x2_2).toNat) → (x3_9).toNat < n → GG p l e ⟨1, 0, 0, 21⟩ s m args below meth c 0 0 Q D A s.heap 4 (wX10 cI cB cJ h q v_stalls v_claimMany v_taped v_place0 v_length0 v_fault v_number0 v_open v_codeMany v_waiting v_saidMany v_clauses v_newMany v_newStalls v_lines v_salesNow v_outNow v_isKept v_keptStalls v_now v_aside v_kept v_oneOf v_otherOf v_signOf v_byOf v_tape v_said v_waitsAt v_saidLetter v_saidFrom v_saidHalf v_saidTo v_codes v_clauseOf v_codeFrom v_codeHalf v_codeTo v_stack v_facts v_newOne v_newOther v_newSign v_newBy v_moreOf v_firstOf v_toldOf v_mostOf v_mostThen v_sumTo v_rowFrom v_ordersOf v_lessOf v_weightOf v_rowNow v_slowRow v_fastRow v_lineNow v_firstLine v_freeBy v_heldBy heightOf_9 v_upTo v_downTo v_oftenOf v_newUpper v_newLower) 9 [(0, .ref h), (1, vI p0), (2, vI x2_2), (3, vI x3_9)] [] := by
          intro n
          induction n with
          | zero => intros; exfalso; omega
          | succ n ih9 =>
            intro x3_9 heightOf_9 r_heightOf_9 w9_0 w9_1 wm9
            refine g_iload_n X dX10_laysHeights_9 3 rfl ?_
            refine g_if_le X (tgt := 50) dX10_laysHeights_10 (by decide) (by omega) (fun c10 => ?_) (fun c10 => ?_)
            · refine g_aload_n X dX10_laysHeights_50 0 rfl ?_
              refine gM_get X 0 rfl 55 (by decide) uw1234 rfl dX10_laysHeights_51 ?_
              refine g_iload_n X dX10_laysHeights_54 3 rfl ?_
              refine g_aload_n X dX10_laysHeights_55 0 rfl ?_
              refine g_iload_n X dX10_laysHeights_56 2 rfl ?_
              refine g_callVI0 X (c_X10_octet l D cI cB cJ h q (p0 := x2_2) r_v_tape (by first | assumption | omega) (by first | assumption | omega)) cv_X10_octet uw1641 ⟨rfl, rfl, by decide, by decide⟩ 0 rfl rfl rfl rfl rfl (Nat.le_of_ble_eq_true rfl) ⟨Nat.zero_le _, Nat.zero_le _⟩ dX10_laysHeights_57 (fun t57 ws57 k57 => ?_)
              obtain ⟨kp0_57, kp1_57, kp2_57, rfl⟩ := k57
              refine g_iast X 43 0 rfl rfl (by omega) (by decide) dX10_laysHeights_60 (fun heightOf_60 e60 => ?_)
              have r_heightOf_60 : RA 0 255 heightOf_60 := by rw [e60]; exact RA_up r_heightOf_9 (by omega)
              refine g_ws (ws2 := (wX10 cI cB cJ h q v_stalls v_claimMany v_taped v_place0 v_length0 v_fault v_number0 v_open v_codeMany v_waiting v_saidMany v_clauses v_newMany v_newStalls v_lines v_salesNow v_outNow v_isKept v_keptStalls v_now v_aside v_kept v_oneOf v_otherOf v_signOf v_byOf v_tape v_said v_waitsAt v_saidLetter v_saidFrom v_saidHalf v_saidTo v_codes v_clauseOf v_codeFrom v_codeHalf v_codeTo v_stack v_facts v_newOne v_newOther v_newSign v_newBy v_moreOf v_firstOf v_toldOf v_mostOf v_mostThen v_sumTo v_rowFrom v_ordersOf v_lessOf v_weightOf v_rowNow v_slowRow v_fastRow v_lineNow v_firstLine v_freeBy v_heldBy heightOf_60 v_upTo v_downTo v_oftenOf v_newUpper v_newLower)) rfl ?_
              refine g_iinc X (lv' := [(2, vI (x2_2 + 1)), (0, .ref h), (1, vI p0), (3, vI x3_9)]) dX10_laysHeights_61 2 rfl (by decide) rfl ?_
              refine g_goto X (tgt := 2) dX10_laysHeights_64 (by decide) ?_
              refine g_lv [1, 2, 0] rfl ?_
              exact ih2 (x2_2 + 1) heightOf_60 r_heightOf_60 (by first | assumption | omega) (by first | assumption | rfl | (rw [e60, kp2_57, ← ins_stop (s := heightOf_9) (v := oct v_tape (x2_2).toNat) (x := x3_9) (by omega) (by omega), w9_1, w2_1]; exact srt_s _ _ (by omega))) (by omega)
            · refine g_aload_n X dX10_laysHeights_13 0 rfl ?_
              refine gM_get X 0 rfl 55 (by decide) uw1234 rfl dX10_laysHeights_14 ?_
              refine g_iload_n X dX10_laysHeights_17 3 rfl ?_
              refine g_iconst X dX10_laysHeights_18 ?_
              refine g_isub X dX10_laysHeights_19 ?_
              refine g_iald X 43 0 rfl rfl (by omega) (by decide) dX10_laysHeights_20 (fun t20 e20 => ?_)
              have r20 := r_heightOf_9 (x3_9 - 1 : Int).toNat; rw [← e20] at r20
              refine g_aload_n X dX10_laysHeights_21 0 rfl ?_
              refine g_iload_n X dX10_laysHeights_22 2 rfl ?_
              refine g_callVI0 X (c_X10_octet l D cI cB cJ h q (p0 := x2_2) r_v_tape (by first | assumption | omega) (by first | assumption | omega)) cv_X10_octet uw1641 ⟨rfl, rfl, by decide, by decide⟩ 0 rfl rfl rfl rfl rfl (Nat.le_of_ble_eq_true rfl) ⟨Nat.zero_le _, Nat.zero_le _⟩ dX10_laysHeights_23 (fun t23 ws23 k23 => ?_)
              obtain ⟨kp0_23, kp1_23, kp2_23, rfl⟩ := k23
              refine g_icmp_le X (tgt := 50) dX10_laysHeights_26 (by decide) (by omega) (by omega) (fun c26 => ?_) (fun c26 => ?_)
              · refine g_aload_n X dX10_laysHeights_50 0 rfl ?_
                refine gM_get X 0 rfl 55 (by decide) uw1234 rfl dX10_laysHeights_51 ?_
                refine g_iload_n X dX10_laysHeights_54 3 rfl ?_
                refine g_aload_n X dX10_laysHeights_55 0 rfl ?_
                refine g_iload_n X dX10_laysHeights_56 2 rfl ?_
                refine g_callVI0 X (c_X10_octet l D cI cB cJ h q (p0 := x2_2) r_v_tape (by first | assumption | omega) (by first | assumption | omega)) cv_X10_octet uw1641 ⟨rfl, rfl, by decide, by decide⟩ 0 rfl rfl rfl rfl rfl (Nat.le_of_ble_eq_true rfl) ⟨Nat.zero_le _, Nat.zero_le _⟩ dX10_laysHeights_57 (fun t57 ws57 k57 => ?_)
                obtain ⟨kp0_57, kp1_57, kp2_57, rfl⟩ := k57
                refine g_iast X 43 0 rfl rfl (by omega) (by decide) dX10_laysHeights_60 (fun heightOf_60 e60 => ?_)
                have r_heightOf_60 : RA 0 255 heightOf_60 := by rw [e60]; exact RA_up r_heightOf_9 (by omega)
                refine g_ws (ws2 := (wX10 cI cB cJ h q v_stalls v_claimMany v_taped v_place0 v_length0 v_fault v_number0 v_open v_codeMany v_waiting v_saidMany v_clauses v_newMany v_newStalls v_lines v_salesNow v_outNow v_isKept v_keptStalls v_now v_aside v_kept v_oneOf v_otherOf v_signOf v_byOf v_tape v_said v_waitsAt v_saidLetter v_saidFrom v_saidHalf v_saidTo v_codes v_clauseOf v_codeFrom v_codeHalf v_codeTo v_stack v_facts v_newOne v_newOther v_newSign v_newBy v_moreOf v_firstOf v_toldOf v_mostOf v_mostThen v_sumTo v_rowFrom v_ordersOf v_lessOf v_weightOf v_rowNow v_slowRow v_fastRow v_lineNow v_firstLine v_freeBy v_heldBy heightOf_60 v_upTo v_downTo v_oftenOf v_newUpper v_newLower)) rfl ?_
                refine g_iinc X (lv' := [(2, vI (x2_2 + 1)), (0, .ref h), (1, vI p0), (3, vI x3_9)]) dX10_laysHeights_61 2 rfl (by decide) rfl ?_
                refine g_goto X (tgt := 2) dX10_laysHeights_64 (by decide) ?_
                refine g_lv [1, 2, 0] rfl ?_
                exact ih2 (x2_2 + 1) heightOf_60 r_heightOf_60 (by first | assumption | omega) (by first | assumption | rfl | (rw [e60, kp2_57, ← ins_stop (s := heightOf_9) (v := oct v_tape (x2_2).toNat) (x := x3_9) (by omega) (by omega), w9_1, w2_1]; exact srt_s _ _ (by omega))) (by omega)
              · refine g_aload_n X dX10_laysHeights_29 0 rfl ?_
                refine gM_get X 0 rfl 55 (by decide) uw1234 rfl dX10_laysHeights_30 ?_
                refine g_iload_n X dX10_laysHeights_33 3 rfl ?_
                refine g_aload_n X dX10_laysHeights_34 0 rfl ?_
                refine gM_get X 0 rfl 55 (by decide) uw1234 rfl dX10_laysHeights_35 ?_
                refine g_iload_n X dX10_laysHeights_38 3 rfl ?_
                refine g_iconst X dX10_laysHeights_39 ?_
                refine g_isub X dX10_laysHeights_40 ?_
                refine g_iald X 43 0 rfl rfl (by omega) (by decide) dX10_laysHeights_41 (fun t41 e41 => ?_)
                have r41 := r_heightOf_9 (x3_9 - 1 : Int).toNat; rw [← e41] at r41
                refine g_iast X 43 0 rfl rfl (by omega) (by decide) dX10_laysHeights_42 (fun heightOf_42 e42 => ?_)
                have r_heightOf_42 : RA 0 255 heightOf_42 := by rw [e42]; exact RA_up r_heightOf_9 (by omega)
                refine g_ws (ws2 := (wX10 cI cB cJ h q v_stalls v_claimMany v_taped v_place0 v_length0 v_fault v_number0 v_open v_codeMany v_waiting v_saidMany v_clauses v_newMany v_newStalls v_lines v_salesNow v_outNow v_isKept v_keptStalls v_now v_aside v_kept v_oneOf v_otherOf v_signOf v_byOf v_tape v_said v_waitsAt v_saidLetter v_saidFrom v_saidHalf v_saidTo v_codes v_clauseOf v_codeFrom v_codeHalf v_codeTo v_stack v_facts v_newOne v_newOther v_newSign v_newBy v_moreOf v_firstOf v_toldOf v_mostOf v_mostThen v_sumTo v_rowFrom v_ordersOf v_lessOf v_weightOf v_rowNow v_slowRow v_fastRow v_lineNow v_firstLine v_freeBy v_heldBy heightOf_42 v_upTo v_downTo v_oftenOf v_newUpper v_newLower)) rfl ?_
                refine g_iload_n X dX10_laysHeights_43 3 rfl ?_
                refine g_iconst X dX10_laysHeights_44 ?_
                refine g_isub X dX10_laysHeights_45 ?_
                refine g_istore_n X (lv' := [(3, vI (x3_9 - 1)), (0, .ref h), (1, vI p0), (2, vI x2_2)]) dX10_laysHeights_46 (by decide) rfl ?_
                refine g_goto X (tgt := 9) dX10_laysHeights_47 (by decide) ?_
                refine g_lv [1, 2, 3, 0] rfl ?_
                exact ih9 (x3_9 - 1) heightOf_42 r_heightOf_42 (by first | assumption | omega) (by first | rfl | (rw [e42, e41, ins_go (s := heightOf_9) (v := oct v_tape (x2_2).toNat) (x := x3_9) (by omega) (by omega)]; exact w9_1)) (by omega)
        refine g_lv [1, 2, 3, 0] rfl ?_
        exact L9 _ x2_2 heightOf_2 r_heightOf_2 (by first | assumption | omega) (by first | rfl | (rw [e42, e41, ins_go (s := heightOf_9) (v := oct v_tape (x2_2).toNat) (x := x3_9) (by omega) (by omega)]; exact w9_1)) (Nat.lt_succ_self _)
  refine g_lv [1, 2, 0] rfl ?_
  exact L2 _ 0 v_heightOf r_v_heightOf (by first | assumption | omega) (by first | assumption | rfl | (rw [e60, kp2_57, ← ins_stop (s := heightOf_9) (v := oct v_tape (x2_2).toNat) (x := x3_9) (by omega) (by omega), w9_1, w2_1]; exact srt_s _ _ (by omega))) (Nat.lt_succ_self _)
set_option maxHeartbeats 4000000 in
set_option maxRecDepth 100000 in
theorem c_X10_narrowest (l : Launch) (D : va_G) (cI cB cJ : ClassId) (h : Nat) (q : Nat → Nat) {v_stalls v_claimMany v_taped v_place0 v_length0 v_fault v_number0 v_open v_codeMany v_waiting v_saidMany v_clauses v_newMany v_newStalls v_lines v_salesNow v_outNow v_isKept v_keptStalls : Int} {v_now v_aside v_kept v_oneOf v_otherOf v_signOf v_byOf v_tape v_said v_waitsAt v_saidLetter v_saidFrom v_saidHalf v_saidTo v_codes v_clauseOf v_codeFrom v_codeHalf v_codeTo v_stack v_facts v_newOne v_newOther v_newSign v_newBy v_moreOf v_firstOf v_toldOf v_mostOf v_mostThen v_sumTo v_rowFrom v_ordersOf v_lessOf v_weightOf v_rowNow v_slowRow v_fastRow v_lineNow v_firstLine v_freeBy v_heldBy v_heightOf v_upTo v_downTo v_oftenOf v_newUpper v_newLower : Nat → Int} {p0 p1 : Int} (kr_v_taped : 0 ≤ v_taped ∧ v_taped ≤ 260) (r_v_tape : RA (-128) 127 v_tape) (r_v_heightOf : RA 0 255 v_heightOf) (hp0 : IR p0) (hp1 : IR p1) : CtI l yX10_narrowest cX10_narrowest 5 (some .int) ⟨2, 0, 0, 44⟩ D (TY cI cB cJ) (wX10 cI cB cJ h q v_stalls v_claimMany v_taped v_place0 v_length0 v_fault v_number0 v_open v_codeMany v_waiting v_saidMany v_clauses v_newMany v_newStalls v_lines v_salesNow v_outNow v_isKept v_keptStalls v_now v_aside v_kept v_oneOf v_otherOf v_signOf v_byOf v_tape v_said v_waitsAt v_saidLetter v_saidFrom v_saidHalf v_saidTo v_codes v_clauseOf v_codeFrom v_codeHalf v_codeTo v_stack v_facts v_newOne v_newOther v_newSign v_newBy v_moreOf v_firstOf v_toldOf v_mostOf v_mostThen v_sumTo v_rowFrom v_ordersOf v_lessOf v_weightOf v_rowNow v_slowRow v_fastRow v_lineNow v_firstLine v_freeBy v_heldBy v_heightOf v_upTo v_downTo v_oftenOf v_newUpper v_newLower) [.ref h, vI p0, vI p1] (fun z ws' => ∃ n_taped : Int, ∃ n_heightOf : Nat → Int, (0 ≤ n_taped ∧ n_taped ≤ 260) ∧ (RA 0 255 n_heightOf) ∧ (IR z) ∧ ((0 ≤ p1 ∧ p1 ≤ p0 - 1 ∧ 1 ≤ p0 ∧ p0 ≤ 20 ∧ p0 ≤ v_taped ∧ n_taped = 0) ∨ (¬ (0 ≤ p1 ∧ p1 ≤ p0 - 1 ∧ 1 ≤ p0 ∧ p0 ≤ 20 ∧ p0 ≤ v_taped) ∧ n_taped = v_taped)) ∧ (((0 ≤ p1 ∧ p1 ≤ p0 - 1 ∧ 1 ≤ p0 ∧ p0 ≤ 20 ∧ p0 ≤ v_taped) ∧ z = nwF (oct v_tape) p0 p1) ∨ (¬ (0 ≤ p1 ∧ p1 ≤ p0 - 1 ∧ 1 ≤ p0 ∧ p0 ≤ 20 ∧ p0 ≤ v_taped) ∧ z = -1)) ∧ (ws' = (wX10 cI cB cJ h q v_stalls v_claimMany n_taped v_place0 v_length0 v_fault v_number0 v_open v_codeMany v_waiting v_saidMany v_clauses v_newMany v_newStalls v_lines v_salesNow v_outNow v_isKept v_keptStalls v_now v_aside v_kept v_oneOf v_otherOf v_signOf v_byOf v_tape v_said v_waitsAt v_saidLetter v_saidFrom v_saidHalf v_saidTo v_codes v_clauseOf v_codeFrom v_codeHalf v_codeTo v_stack v_facts v_newOne v_newOther v_newSign v_newBy v_moreOf v_firstOf v_toldOf v_mostOf v_mostThen v_sumTo v_rowFrom v_ordersOf v_lessOf v_weightOf v_rowNow v_slowRow v_fastRow v_lineNow v_firstLine v_freeBy v_heldBy n_heightOf v_upTo v_downTo v_oftenOf v_newUpper v_newLower))) := by
  refine hdrI (own := RX10) rfl (by decide +kernel) (Nat.le_of_ble_eq_true rfl) ?_
  intro p e s m args below meth c Q A X hQ
  refine g_lvE (lv2 := [(0, .ref h), (1, vI p0), (2, vI p1)]) rfl ?_
  refine g_iload_n X dX10_narrowest_0 1 rfl ?_
  refine g_iconst X dX10_narrowest_1 ?_
  refine g_bipush X (z := 20) dX10_narrowest_2 (by decide) ?_
  refine g_callSIE X (c_X10_in l D cI cB cJ (p0 := p0) (p1 := 1) (p2 := 20) (by first | assumption | omega) (by first | assumption | omega) (by first | assumption | omega)) cv_X10_in uw1394 ⟨rfl, rfl, by decide, by decide⟩ rfl rfl (Nat.le_of_ble_eq_true rfl) ⟨Nat.zero_le _, Nat.zero_le _⟩ dX10_narrowest_4 (fun t4 ws4 k4 => ?_)
  obtain ⟨kb_4, ⟨kp0_4, rfl⟩⟩ := k4
  refine g_if_eq X (tgt := 29) dX10_narrowest_7 (by decide) (by omega) (fun c7 => ?_) (fun c7 => ?_)
  · clear kb_4
    replace kp0_4 := (kp0_4.resolve_left (fun h => absurd h.1 (by omega))).2
    refine g_iconst X dX10_narrowest_29 ?_
    exact hQ _ _ _ _ dX10_narrowest_30 ⟨v_taped, v_heightOf, (by omega), r_v_heightOf, (by first | assumption | omega), (by first | assumption | omega), (by first | assumption | omega), rfl⟩
  · replace kb_4 := kb_4.resolve_left (fun h => c7 h)
    replace kp0_4 := kp0_4.resolve_right (fun h => c7 h.1)
    refine g_iload_n X dX10_narrowest_10 2 rfl ?_
    refine g_iconst X dX10_narrowest_11 ?_
    refine g_iload_n X dX10_narrowest_12 1 rfl ?_
    refine g_iconst X dX10_narrowest_13 ?_
    refine g_isub X dX10_narrowest_14 ?_
    refine g_callSIE X (c_X10_in l D cI cB cJ (p0 := p1) (p1 := 0) (p2 := p0 - 1) (by first | assumption | omega) (by first | assumption | omega) (by first | assumption | omega)) cv_X10_in uw1394 ⟨rfl, rfl, by decide, by decide⟩ rfl rfl (Nat.le_of_ble_eq_true rfl) ⟨Nat.zero_le _, Nat.zero_le _⟩ dX10_narrowest_15 (fun t15 ws15 k15 => ?_)
    obtain ⟨kb_15, ⟨kp0_15, rfl⟩⟩ := k15
    refine g_if_eq X (tgt := 29) dX10_narrowest_18 (by decide) (by omega) (fun c18 => ?_) (fun c18 => ?_)
    · clear kb_15
      replace kp0_15 := (kp0_15.resolve_left (fun h => absurd h.1 (by omega))).2
      refine g_iconst X dX10_narrowest_29 ?_
      exact hQ _ _ _ _ dX10_narrowest_30 ⟨v_taped, v_heightOf, (by omega), r_v_heightOf, (by first | assumption | omega), (by first | assumption | omega), (by first | assumption | omega), rfl⟩
    · replace kb_15 := kb_15.resolve_left (fun h => c18 h)
      replace kp0_15 := kp0_15.resolve_right (fun h => c18 h.1)
      refine g_iload_n X dX10_narrowest_21 1 rfl ?_
      refine g_aload_n X dX10_narrowest_22 0 rfl ?_
      refine gM_get X 0 rfl 10 (by decide) uw1189 rfl dX10_narrowest_23 ?_
      refine g_icmp_le X (tgt := 31) dX10_narrowest_26 (by decide) (by omega) (by omega) (fun c26 => ?_) (fun c26 => ?_)
      · refine g_aload_n X dX10_narrowest_31 0 rfl ?_
        refine g_iconst X dX10_narrowest_32 ?_
        refine gM_put X 0 rfl 10 (by decide) uw1189 rfl rfl rfl (Nat.le_of_ble_eq_true rfl) dX10_narrowest_33 (ws2 := (wX10 cI cB cJ h q v_stalls v_claimMany 0 v_place0 v_length0 v_fault v_number0 v_open v_codeMany v_waiting v_saidMany v_clauses v_newMany v_newStalls v_lines v_salesNow v_outNow v_isKept v_keptStalls v_now v_aside v_kept v_oneOf v_otherOf v_signOf v_byOf v_tape v_said v_waitsAt v_saidLetter v_saidFrom v_saidHalf v_saidTo v_codes v_clauseOf v_codeFrom v_codeHalf v_codeTo v_stack v_facts v_newOne v_newOther v_newSign v_newBy v_moreOf v_firstOf v_toldOf v_mostOf v_mostThen v_sumTo v_rowFrom v_ordersOf v_lessOf v_weightOf v_rowNow v_slowRow v_fastRow v_lineNow v_firstLine v_freeBy v_heldBy v_heightOf v_upTo v_downTo v_oftenOf v_newUpper v_newLower)) rfl ?_
        refine g_aload_n X dX10_narrowest_36 0 rfl ?_
        refine g_iload_n X dX10_narrowest_37 1 rfl ?_
        refine g_callVV0 X (c_X10_laysHeights l D cI cB cJ h q (p0 := p0) r_v_tape r_v_heightOf (by first | assumption | omega) (by first | assumption | omega)) cv_X10_laysHeights uw1698 ⟨rfl, rfl, by decide, by decide⟩ 0 rfl rfl rfl rfl rfl (Nat.le_of_ble_eq_true rfl) ⟨Nat.zero_le _, Nat.zero_le _⟩ dX10_narrowest_38 (fun ws38 k38 => ?_)
        obtain ⟨heightOf_38, r_heightOf_38, kp0_38, rfl⟩ := k38
        refine g_ldcw X (z := 1000000) dX10_narrowest_41 uw1546 (by decide) ?_
        refine g_istore_n X (lv' := [(3, vI 1000000), (0, .ref h), (1, vI p0), (2, vI p1)]) dX10_narrowest_44 (by decide) rfl ?_
        refine g_iconst X dX10_narrowest_45 ?_
        refine g_istore X (lv' := [(4, vI 0), (3, vI 1000000), (0, .ref h), (1, vI p0), (2, vI p1)]) dX10_narrowest_46 (by decide) rfl ?_
        have h0 : nwM heightOf_38 (p0 - 1 - p1).toNat (0 : Int).toNat = 1000000 := rfl
        have L48 : ∀ (n : Nat) (x3_48 : Int) (x4_48 : Int), (0 ≤ x4_48 ∧ x4_48 ≤ p1 + 1) → (-255 ≤ x3_48 ∧ x3_48 ≤ 1000000) → (x3_48 = nwM heightOf_38 (p0 - 1 - p1).toNat (x4_48).toNat) → (p1 + 1 - x4_48).toNat < n → GG p l e ⟨2, 0, 0, 44⟩ s m args below meth c 0 0 Q D A s.heap 5 (wX10 cI cB cJ h q v_stalls v_claimMany 0 v_place0 v_length0 v_fault v_number0 v_open v_codeMany v_waiting v_saidMany v_clauses v_newMany v_newStalls v_lines v_salesNow v_outNow v_isKept v_keptStalls v_now v_aside v_kept v_oneOf v_otherOf v_signOf v_byOf v_tape v_said v_waitsAt v_saidLetter v_saidFrom v_saidHalf v_saidTo v_codes v_clauseOf v_codeFrom v_codeHalf v_codeTo v_stack v_facts v_newOne v_newOther v_newSign v_newBy v_moreOf v_firstOf v_toldOf v_mostOf v_mostThen v_sumTo v_rowFrom v_ordersOf v_lessOf v_weightOf v_rowNow v_slowRow v_fastRow v_lineNow v_firstLine v_freeBy v_heldBy heightOf_38 v_upTo v_downTo v_oftenOf v_newUpper v_newLower) 48 [(0, .ref h), (1, vI p0), (2, vI p1), (3, vI x3_48), (4, vI x4_48)] [] := by
          intro n
          induction n with
          | zero => intros; exfalso; omega
          | succ n ih48 =>
            intro x3_48 x4_48 w48_0 w48_1 w48_2 wm48
            have hN := nwM_s heightOf_38 (p0 - 1 - p1).toNat (x := x4_48) (by omega)
            rw [show (x4_48).toNat + (p0 - 1 - p1).toNat = (x4_48 + p0 - p1 - 1).toNat by omega] at hN
            refine g_iload X dX10_narrowest_48 4 rfl ?_
            refine g_iload_n X dX10_narrowest_50 2 rfl ?_
            refine g_icmp_gt X (tgt := 86) dX10_narrowest_51 (by decide) (by omega) (by omega) (fun c51 => ?_) (fun c51 => ?_)
            · refine g_iload_n X dX10_narrowest_86 3 rfl ?_
              have hx : x4_48 = p1 + 1 := by omega
              rw [hx, kp0_38] at w48_2
              have hF := nwF_c (f := oct v_tape) (g := oct v_tape) (h := v_heightOf) (n := p0) (out := p1) (by omega) (by omega) (fun _ _ => rfl)
              exact hQ _ _ _ _ dX10_narrowest_87 ⟨0, heightOf_38, (by omega), r_heightOf_38, (by first | assumption | omega), (by first | assumption | omega), (by first | assumption | omega), rfl⟩
            · refine g_iload_n X dX10_narrowest_54 3 rfl ?_
              refine g_aload_n X dX10_narrowest_55 0 rfl ?_
              refine gM_get X 0 rfl 55 (by decide) uw1234 rfl dX10_narrowest_56 ?_
              refine g_iload X dX10_narrowest_59 4 rfl ?_
              refine g_iload_n X dX10_narrowest_61 1 rfl ?_
              refine g_iadd X dX10_narrowest_62 ?_
              refine g_iload_n X dX10_narrowest_63 2 rfl ?_
              refine g_isub X dX10_narrowest_64 ?_
              refine g_iconst X dX10_narrowest_65 ?_
              refine g_isub X dX10_narrowest_66 ?_
              refine g_iald X 43 0 rfl rfl (by omega) (by decide) dX10_narrowest_67 (fun t67 e67 => ?_)
              have r67 := r_heightOf_38 (((x4_48 + p0) - p1) - 1 : Int).toNat; rw [← e67] at r67
              refine g_aload_n X dX10_narrowest_68 0 rfl ?_
              refine gM_get X 0 rfl 55 (by decide) uw1234 rfl dX10_narrowest_69 ?_
              refine g_iload X dX10_narrowest_72 4 rfl ?_
              refine g_iald X 43 0 rfl rfl (by omega) (by decide) dX10_narrowest_74 (fun t74 e74 => ?_)
              have r74 := r_heightOf_38 (x4_48 : Int).toNat; rw [← e74] at r74
              refine g_isub X dX10_narrowest_75 ?_
              refine g_callSIE X (c_X10_min l D cI cB cJ (p0 := x3_48) (p1 := t67 - t74) (by first | assumption | omega) (by first | assumption | omega)) cv_X10_min uw1551 ⟨rfl, rfl, by decide, by decide⟩ rfl rfl (Nat.le_of_ble_eq_true rfl) ⟨Nat.zero_le _, Nat.zero_le _⟩ dX10_narrowest_76 (fun t76 ws76 k76 => ?_)
              obtain ⟨kp0_76, rfl⟩ := k76
              refine g_istore_n X (lv' := [(3, vI t76), (0, .ref h), (1, vI p0), (2, vI p1), (4, vI x4_48)]) dX10_narrowest_79 (by decide) rfl ?_
              refine g_iinc X (lv' := [(4, vI (x4_48 + 1)), (3, vI t76), (0, .ref h), (1, vI p0), (2, vI p1)]) dX10_narrowest_80 4 rfl (by decide) rfl ?_
              refine g_goto X (tgt := 48) dX10_narrowest_83 (by decide) ?_
              refine g_lv [2, 3, 4, 1, 0] rfl ?_
              exact ih48 t76 (x4_48 + 1) (by first | assumption | omega) (by first | assumption | omega) (by first | assumption | omega) (by omega)
        refine g_lv [2, 3, 4, 1, 0] rfl ?_
        exact L48 _ 1000000 0 (by first | assumption | omega) (by first | assumption | omega) (by first | assumption | omega) (Nat.lt_succ_self _)
      · refine g_iconst X dX10_narrowest_29 ?_
        exact hQ _ _ _ _ dX10_narrowest_30 ⟨v_taped, v_heightOf, (by omega), r_v_heightOf, (by first | assumption | omega), (by first | assumption | omega), (by first | assumption | omega), rfl⟩
set_option maxHeartbeats 4000000 in
set_option maxRecDepth 100000 in
theorem c_X10_twos (l : Launch) (D : va_G) (cI cB cJ : ClassId) (h : Nat) (q : Nat → Nat) {v_stalls v_claimMany v_taped v_place0 v_length0 v_fault v_number0 v_open v_codeMany v_waiting v_saidMany v_clauses v_newMany v_newStalls v_lines v_salesNow v_outNow v_isKept v_keptStalls : Int} {v_now v_aside v_kept v_oneOf v_otherOf v_signOf v_byOf v_tape v_said v_waitsAt v_saidLetter v_saidFrom v_saidHalf v_saidTo v_codes v_clauseOf v_codeFrom v_codeHalf v_codeTo v_stack v_facts v_newOne v_newOther v_newSign v_newBy v_moreOf v_firstOf v_toldOf v_mostOf v_mostThen v_sumTo v_rowFrom v_ordersOf v_lessOf v_weightOf v_rowNow v_slowRow v_fastRow v_lineNow v_firstLine v_freeBy v_heldBy v_heightOf v_upTo v_downTo v_oftenOf v_newUpper v_newLower : Nat → Int} {p0 p1 : Int} (kr_v_taped : 0 ≤ v_taped ∧ v_taped ≤ 260) (r_v_tape : RA (-128) 127 v_tape) (hp0 : IR p0) (hp1 : IR p1) : CtI l yX10_twos cX10_twos 6 (some .int) ⟨1, 0, 0, 22⟩ D (TY cI cB cJ) (wX10 cI cB cJ h q v_stalls v_claimMany v_taped v_place0 v_length0 v_fault v_number0 v_open v_codeMany v_waiting v_saidMany v_clauses v_newMany v_newStalls v_lines v_salesNow v_outNow v_isKept v_keptStalls v_now v_aside v_kept v_oneOf v_otherOf v_signOf v_byOf v_tape v_said v_waitsAt v_saidLetter v_saidFrom v_saidHalf v_saidTo v_codes v_clauseOf v_codeFrom v_codeHalf v_codeTo v_stack v_facts v_newOne v_newOther v_newSign v_newBy v_moreOf v_firstOf v_toldOf v_mostOf v_mostThen v_sumTo v_rowFrom v_ordersOf v_lessOf v_weightOf v_rowNow v_slowRow v_fastRow v_lineNow v_firstLine v_freeBy v_heldBy v_heightOf v_upTo v_downTo v_oftenOf v_newUpper v_newLower) [.ref h, vI p0, vI p1] (fun z ws' => ∃ n_taped : Int, (0 ≤ n_taped ∧ n_taped ≤ 260) ∧ (IR z) ∧ ((0 ≤ p1 ∧ p1 ≤ 255 ∧ 1 ≤ p0 ∧ p0 ≤ 20 ∧ p0 ≤ v_taped ∧ n_taped = 0) ∨ (¬ (0 ≤ p1 ∧ p1 ≤ 255 ∧ 1 ≤ p0 ∧ p0 ≤ 20 ∧ p0 ≤ v_taped) ∧ n_taped = v_taped)) ∧ (((0 ≤ p1 ∧ p1 ≤ 255 ∧ 1 ≤ p0 ∧ p0 ≤ 20 ∧ p0 ≤ v_taped) ∧ z = twO (oct v_tape) p1 p0.toNat) ∨ (¬ (0 ≤ p1 ∧ p1 ≤ 255 ∧ 1 ≤ p0 ∧ p0 ≤ 20 ∧ p0 ≤ v_taped) ∧ z = -1)) ∧ (ws' = (wX10 cI cB cJ h q v_stalls v_claimMany n_taped v_place0 v_length0 v_fault v_number0 v_open v_codeMany v_waiting v_saidMany v_clauses v_newMany v_newStalls v_lines v_salesNow v_outNow v_isKept v_keptStalls v_now v_aside v_kept v_oneOf v_otherOf v_signOf v_byOf v_tape v_said v_waitsAt v_saidLetter v_saidFrom v_saidHalf v_saidTo v_codes v_clauseOf v_codeFrom v_codeHalf v_codeTo v_stack v_facts v_newOne v_newOther v_newSign v_newBy v_moreOf v_firstOf v_toldOf v_mostOf v_mostThen v_sumTo v_rowFrom v_ordersOf v_lessOf v_weightOf v_rowNow v_slowRow v_fastRow v_lineNow v_firstLine v_freeBy v_heldBy v_heightOf v_upTo v_downTo v_oftenOf v_newUpper v_newLower))) := by
  refine hdrI (own := RX10) rfl (by decide +kernel) (Nat.le_of_ble_eq_true rfl) ?_
  intro p e s m args below meth c Q A X hQ
  refine g_lvE (lv2 := [(0, .ref h), (1, vI p0), (2, vI p1)]) rfl ?_
  refine g_iload_n X dX10_twos_0 1 rfl ?_
  refine g_iconst X dX10_twos_1 ?_
  refine g_bipush X (z := 20) dX10_twos_2 (by decide) ?_
  refine g_callSIE X (c_X10_in l D cI cB cJ (p0 := p0) (p1 := 1) (p2 := 20) (by first | assumption | omega) (by first | assumption | omega) (by first | assumption | omega)) cv_X10_in uw1394 ⟨rfl, rfl, by decide, by decide⟩ rfl rfl (Nat.le_of_ble_eq_true rfl) ⟨Nat.zero_le _, Nat.zero_le _⟩ dX10_twos_4 (fun t4 ws4 k4 => ?_)
  obtain ⟨kb_4, ⟨kp0_4, rfl⟩⟩ := k4
  refine g_if_eq X (tgt := 29) dX10_twos_7 (by decide) (by omega) (fun c7 => ?_) (fun c7 => ?_)
  · clear kb_4
    replace kp0_4 := (kp0_4.resolve_left (fun h => absurd h.1 (by omega))).2
    refine g_iconst X dX10_twos_29 ?_
    exact hQ _ _ _ _ dX10_twos_30 ⟨v_taped, (by omega), (by first | assumption | omega), (by first | assumption | omega), (by first | assumption | omega), rfl⟩
  · replace kb_4 := kb_4.resolve_left (fun h => c7 h)
    replace kp0_4 := kp0_4.resolve_right (fun h => c7 h.1)
    refine g_iload_n X dX10_twos_10 2 rfl ?_
    refine g_iconst X dX10_twos_11 ?_
    refine g_sipush X (z := 255) dX10_twos_12 (by decide) ?_
    refine g_callSIE X (c_X10_in l D cI cB cJ (p0 := p1) (p1 := 0) (p2 := 255) (by first | assumption | omega) (by first | assumption | omega) (by first | assumption | omega)) cv_X10_in uw1394 ⟨rfl, rfl, by decide, by decide⟩ rfl rfl (Nat.le_of_ble_eq_true rfl) ⟨Nat.zero_le _, Nat.zero_le _⟩ dX10_twos_15 (fun t15 ws15 k15 => ?_)
    obtain ⟨kb_15, ⟨kp0_15, rfl⟩⟩ := k15
    refine g_if_eq X (tgt := 29) dX10_twos_18 (by decide) (by omega) (fun c18 => ?_) (fun c18 => ?_)
    · clear kb_15
      replace kp0_15 := (kp0_15.resolve_left (fun h => absurd h.1 (by omega))).2
      refine g_iconst X dX10_twos_29 ?_
      exact hQ _ _ _ _ dX10_twos_30 ⟨v_taped, (by omega), (by first | assumption | omega), (by first | assumption | omega), (by first | assumption | omega), rfl⟩
    · replace kb_15 := kb_15.resolve_left (fun h => c18 h)
      replace kp0_15 := kp0_15.resolve_right (fun h => c18 h.1)
      refine g_iload_n X dX10_twos_21 1 rfl ?_
      refine g_aload_n X dX10_twos_22 0 rfl ?_
      refine gM_get X 0 rfl 10 (by decide) uw1189 rfl dX10_twos_23 ?_
      refine g_icmp_le X (tgt := 31) dX10_twos_26 (by decide) (by omega) (by omega) (fun c26 => ?_) (fun c26 => ?_)
      · refine g_aload_n X dX10_twos_31 0 rfl ?_
        refine g_iconst X dX10_twos_32 ?_
        refine gM_put X 0 rfl 10 (by decide) uw1189 rfl rfl rfl (Nat.le_of_ble_eq_true rfl) dX10_twos_33 (ws2 := (wX10 cI cB cJ h q v_stalls v_claimMany 0 v_place0 v_length0 v_fault v_number0 v_open v_codeMany v_waiting v_saidMany v_clauses v_newMany v_newStalls v_lines v_salesNow v_outNow v_isKept v_keptStalls v_now v_aside v_kept v_oneOf v_otherOf v_signOf v_byOf v_tape v_said v_waitsAt v_saidLetter v_saidFrom v_saidHalf v_saidTo v_codes v_clauseOf v_codeFrom v_codeHalf v_codeTo v_stack v_facts v_newOne v_newOther v_newSign v_newBy v_moreOf v_firstOf v_toldOf v_mostOf v_mostThen v_sumTo v_rowFrom v_ordersOf v_lessOf v_weightOf v_rowNow v_slowRow v_fastRow v_lineNow v_firstLine v_freeBy v_heldBy v_heightOf v_upTo v_downTo v_oftenOf v_newUpper v_newLower)) rfl ?_
        refine g_iconst X dX10_twos_36 ?_
        refine g_istore_n X (lv' := [(3, vI 0), (0, .ref h), (1, vI p0), (2, vI p1)]) dX10_twos_37 (by decide) rfl ?_
        refine g_iconst X dX10_twos_38 ?_
        refine g_istore X (lv' := [(4, vI 0), (3, vI 0), (0, .ref h), (1, vI p0), (2, vI p1)]) dX10_twos_39 (by decide) rfl ?_
        have h0 : twO (oct v_tape) p1 (0 : Int).toNat = 0 := rfl
        have L41 : ∀ (n : Nat) (x3_41 : Int) (x4_41 : Int), (0 ≤ x4_41 ∧ x4_41 ≤ p0) → (0 ≤ x3_41 ∧ x3_41 ≤ 20 * x4_41) → (x3_41 = twO (oct v_tape) p1 (x4_41).toNat) → (p0 - x4_41).toNat < n → GG p l e ⟨1, 0, 0, 22⟩ s m args below meth c 0 0 Q D A s.heap 6 (wX10 cI cB cJ h q v_stalls v_claimMany 0 v_place0 v_length0 v_fault v_number0 v_open v_codeMany v_waiting v_saidMany v_clauses v_newMany v_newStalls v_lines v_salesNow v_outNow v_isKept v_keptStalls v_now v_aside v_kept v_oneOf v_otherOf v_signOf v_byOf v_tape v_said v_waitsAt v_saidLetter v_saidFrom v_saidHalf v_saidTo v_codes v_clauseOf v_codeFrom v_codeHalf v_codeTo v_stack v_facts v_newOne v_newOther v_newSign v_newBy v_moreOf v_firstOf v_toldOf v_mostOf v_mostThen v_sumTo v_rowFrom v_ordersOf v_lessOf v_weightOf v_rowNow v_slowRow v_fastRow v_lineNow v_firstLine v_freeBy v_heldBy v_heightOf v_upTo v_downTo v_oftenOf v_newUpper v_newLower) 41 [(0, .ref h), (1, vI p0), (2, vI p1), (3, vI x3_41), (4, vI x4_41)] [] := by
          intro n
          induction n with
          | zero => intros; exfalso; omega
          | succ n ih41 =>
            intro x3_41 x4_41 w41_0 w41_1 w41_2 wm41
            have hO := twO_s (oct v_tape) p1 (x := x4_41) (by omega)
            refine g_iload X dX10_twos_41 4 rfl ?_
            refine g_iload_n X dX10_twos_43 1 rfl ?_
            refine g_icmp_ge X (tgt := 93) dX10_twos_44 (by decide) (by omega) (by omega) (fun c44 => ?_) (fun c44 => ?_)
            · refine g_iload_n X dX10_twos_93 3 rfl ?_
              have hx : x4_41 = p0 := by omega
              rw [hx] at w41_2
              exact hQ _ _ _ _ dX10_twos_94 ⟨0, (by omega), (by first | assumption | omega), (by first | assumption | omega), (by first | assumption | omega), rfl⟩
            · refine g_iconst X dX10_twos_47 ?_
              refine g_istore X (lv' := [(5, vI 0), (0, .ref h), (1, vI p0), (2, vI p1), (3, vI x3_41), (4, vI x4_41)]) dX10_twos_48 (by decide) rfl ?_
              have h0 : twI (oct v_tape) p1 (x4_41).toNat (twO (oct v_tape) p1 (x4_41).toNat) (0 : Int).toNat = twO (oct v_tape) p1 (x4_41).toNat := rfl
              have L50 : ∀ (n : Nat) (x3_50 : Int) (x5_50 : Int), (0 ≤ x5_50 ∧ x5_50 ≤ x4_41) → (0 ≤ x3_50 ∧ x3_50 ≤ 20 * x4_41 + x5_50) → (x3_50 = twI (oct v_tape) p1 (x4_41).toNat (twO (oct v_tape) p1 (x4_41).toNat) (x5_50).toNat) → (x4_41 - x5_50).toNat < n → GG p l e ⟨1, 0, 0, 22⟩ s m args below meth c 0 0 Q D A s.heap 6 (wX10 cI cB cJ h q v_stalls v_claimMany 0 v_place0 v_length0 v_fault v_number0 v_open v_codeMany v_waiting v_saidMany v_clauses v_newMany v_newStalls v_lines v_salesNow v_outNow v_isKept v_keptStalls v_now v_aside v_kept v_oneOf v_otherOf v_signOf v_byOf v_tape v_said v_waitsAt v_saidLetter v_saidFrom v_saidHalf v_saidTo v_codes v_clauseOf v_codeFrom v_codeHalf v_codeTo v_stack v_facts v_newOne v_newOther v_newSign v_newBy v_moreOf v_firstOf v_toldOf v_mostOf v_mostThen v_sumTo v_rowFrom v_ordersOf v_lessOf v_weightOf v_rowNow v_slowRow v_fastRow v_lineNow v_firstLine v_freeBy v_heldBy v_heightOf v_upTo v_downTo v_oftenOf v_newUpper v_newLower) 50 [(0, .ref h), (1, vI p0), (2, vI p1), (3, vI x3_50), (4, vI x4_41), (5, vI x5_50)] [] := by
                intro n
                induction n with
                | zero => intros; exfalso; omega
                | succ n ih50 =>
                  intro x3_50 x5_50 w50_0 w50_1 w50_2 wm50
                  have hI := twI_s (oct v_tape) p1 (x4_41).toNat (twO (oct v_tape) p1 (x4_41).toNat) (x := x5_50) (by omega)
                  refine g_iload X dX10_twos_50 5 rfl ?_
                  refine g_iload X dX10_twos_52 4 rfl ?_
                  refine g_icmp_ge X (tgt := 87) dX10_twos_54 (by decide) (by omega) (by omega) (fun c54 => ?_) (fun c54 => ?_)
                  · refine g_iinc X (lv' := [(4, vI (x4_41 + 1)), (0, .ref h), (1, vI p0), (2, vI p1), (3, vI x3_50), (5, vI x5_50)]) dX10_twos_87 4 rfl (by decide) rfl ?_
                    refine g_goto X (tgt := 41) dX10_twos_90 (by decide) ?_
                    have hx : x5_50 = x4_41 := by omega
                    rw [hx] at w50_2
                    refine g_lv [1, 2, 3, 4, 0] rfl ?_
                    exact ih41 x3_50 (x4_41 + 1) (by first | assumption | omega) (by first | assumption | omega) (by first | assumption | omega) (by omega)
                  · refine g_aload_n X dX10_twos_57 0 rfl ?_
                    refine g_iload X dX10_twos_58 4 rfl ?_
                    refine g_callVI0 X (c_X10_octet l D cI cB cJ h q (p0 := x4_41) r_v_tape (by first | assumption | omega) (by first | assumption | omega)) cv_X10_octet uw1641 ⟨rfl, rfl, by decide, by decide⟩ 0 rfl rfl rfl rfl rfl (Nat.le_of_ble_eq_true rfl) ⟨Nat.zero_le _, Nat.zero_le _⟩ dX10_twos_60 (fun t60 ws60 k60 => ?_)
                    obtain ⟨kp0_60, kp1_60, kp2_60, rfl⟩ := k60
                    refine g_aload_n X dX10_twos_63 0 rfl ?_
                    refine g_iload X dX10_twos_64 5 rfl ?_
                    refine g_callVI0 X (c_X10_octet l D cI cB cJ h q (p0 := x5_50) r_v_tape (by first | assumption | omega) (by first | assumption | omega)) cv_X10_octet uw1641 ⟨rfl, rfl, by decide, by decide⟩ 0 rfl rfl rfl rfl rfl (Nat.le_of_ble_eq_true rfl) ⟨Nat.zero_le _, Nat.zero_le _⟩ dX10_twos_66 (fun t66 ws66 k66 => ?_)
                    obtain ⟨kp0_66, kp1_66, kp2_66, rfl⟩ := k66
                    refine g_isub X dX10_twos_69 ?_
                    refine g_callSIE X (c_X10_size l D cI cB cJ (p0 := t60 - t66) (by first | assumption | omega) (by first | assumption | omega)) cv_X10_size uw1672 ⟨rfl, rfl, by decide, by decide⟩ rfl rfl (Nat.le_of_ble_eq_true rfl) ⟨Nat.zero_le _, Nat.zero_le _⟩ dX10_twos_70 (fun t70 ws70 k70 => ?_)
                    obtain ⟨kp0_70, rfl⟩ := k70
                    refine g_iload_n X dX10_twos_73 2 rfl ?_
                    refine g_icmp_ne X (tgt := 81) dX10_twos_74 (by decide) (by omega) (by omega) (fun c74 => ?_) (fun c74 => ?_)
                    · refine g_iinc X (lv' := [(5, vI (x5_50 + 1)), (0, .ref h), (1, vI p0), (2, vI p1), (3, vI x3_50), (4, vI x4_41)]) dX10_twos_81 5 rfl (by decide) rfl ?_
                      refine g_goto X (tgt := 50) dX10_twos_84 (by decide) ?_
                      refine g_lv [1, 2, 3, 4, 5, 0] rfl ?_
                      exact ih50 x3_50 (x5_50 + 1) (by first | assumption | omega) (by first | assumption | omega) (by first | assumption | omega) (by omega)
                    · refine g_iload_n X dX10_twos_77 3 rfl ?_
                      refine g_iconst X dX10_twos_78 ?_
                      refine g_iadd X dX10_twos_79 ?_
                      refine g_istore_n X (lv' := [(3, vI (x3_50 + 1)), (0, .ref h), (1, vI p0), (2, vI p1), (4, vI x4_41), (5, vI x5_50)]) dX10_twos_80 (by decide) rfl ?_
                      refine g_iinc X (lv' := [(5, vI (x5_50 + 1)), (3, vI (x3_50 + 1)), (0, .ref h), (1, vI p0), (2, vI p1), (4, vI x4_41)]) dX10_twos_81 5 rfl (by decide) rfl ?_
                      refine g_goto X (tgt := 50) dX10_twos_84 (by decide) ?_
                      refine g_lv [2, 3, 4, 1, 5, 0] rfl ?_
                      exact ih50 (x3_50 + 1) (x5_50 + 1) (by first | assumption | omega) (by first | assumption | omega) (by first | assumption | omega) (by omega)
              refine g_lv [1, 2, 3, 4, 5, 0] rfl ?_
              exact L50 _ x3_41 0 (by first | assumption | omega) (by first | assumption | omega) (by first | assumption | omega) (Nat.lt_succ_self _)
        refine g_lv [2, 3, 4, 1, 0] rfl ?_
        exact L41 _ 0 0 (by first | assumption | omega) (by first | assumption | omega) (by first | assumption | omega) (Nat.lt_succ_self _)
      · refine g_iconst X dX10_twos_29 ?_
        exact hQ _ _ _ _ dX10_twos_30 ⟨v_taped, (by omega), (by first | assumption | omega), (by first | assumption | omega), (by first | assumption | omega), rfl⟩
set_option maxHeartbeats 4000000 in
set_option maxRecDepth 100000 in
theorem c_X10_areUnlike (l : Launch) (D : va_G) (cI cB cJ : ClassId) (h : Nat) (q : Nat → Nat) {v_stalls v_claimMany v_taped v_place0 v_length0 v_fault v_number0 v_open v_codeMany v_waiting v_saidMany v_clauses v_newMany v_newStalls v_lines v_salesNow v_outNow v_isKept v_keptStalls : Int} {v_now v_aside v_kept v_oneOf v_otherOf v_signOf v_byOf v_tape v_said v_waitsAt v_saidLetter v_saidFrom v_saidHalf v_saidTo v_codes v_clauseOf v_codeFrom v_codeHalf v_codeTo v_stack v_facts v_newOne v_newOther v_newSign v_newBy v_moreOf v_firstOf v_toldOf v_mostOf v_mostThen v_sumTo v_rowFrom v_ordersOf v_lessOf v_weightOf v_rowNow v_slowRow v_fastRow v_lineNow v_firstLine v_freeBy v_heldBy v_heightOf v_upTo v_downTo v_oftenOf v_newUpper v_newLower : Nat → Int} {p0 : Int} (r_v_tape : RA (-128) 127 v_tape) (hp0 : IR p0) (hp1 : p0 ≤ 20) (hp2 : 0 ≤ p0) : CtI l yX10_areUnlike cX10_areUnlike 4 (some .boolean) ⟨1, 0, 0, 21⟩ D (TY cI cB cJ) (wX10 cI cB cJ h q v_stalls v_claimMany v_taped v_place0 v_length0 v_fault v_number0 v_open v_codeMany v_waiting v_saidMany v_clauses v_newMany v_newStalls v_lines v_salesNow v_outNow v_isKept v_keptStalls v_now v_aside v_kept v_oneOf v_otherOf v_signOf v_byOf v_tape v_said v_waitsAt v_saidLetter v_saidFrom v_saidHalf v_saidTo v_codes v_clauseOf v_codeFrom v_codeHalf v_codeTo v_stack v_facts v_newOne v_newOther v_newSign v_newBy v_moreOf v_firstOf v_toldOf v_mostOf v_mostThen v_sumTo v_rowFrom v_ordersOf v_lessOf v_weightOf v_rowNow v_slowRow v_fastRow v_lineNow v_firstLine v_freeBy v_heldBy v_heightOf v_upTo v_downTo v_oftenOf v_newUpper v_newLower) [.ref h, vI p0] (fun z ws' => (z = 0 ∨ z = 1) ∧ ((z = 1 ∧ ¬ 0 < twO (oct v_tape) 0 p0.toNat) ∨ (z = 0 ∧ 0 < twO (oct v_tape) 0 p0.toNat)) ∧ (ws' = (wX10 cI cB cJ h q v_stalls v_claimMany v_taped v_place0 v_length0 v_fault v_number0 v_open v_codeMany v_waiting v_saidMany v_clauses v_newMany v_newStalls v_lines v_salesNow v_outNow v_isKept v_keptStalls v_now v_aside v_kept v_oneOf v_otherOf v_signOf v_byOf v_tape v_said v_waitsAt v_saidLetter v_saidFrom v_saidHalf v_saidTo v_codes v_clauseOf v_codeFrom v_codeHalf v_codeTo v_stack v_facts v_newOne v_newOther v_newSign v_newBy v_moreOf v_firstOf v_toldOf v_mostOf v_mostThen v_sumTo v_rowFrom v_ordersOf v_lessOf v_weightOf v_rowNow v_slowRow v_fastRow v_lineNow v_firstLine v_freeBy v_heldBy v_heightOf v_upTo v_downTo v_oftenOf v_newUpper v_newLower))) := by
  refine hdrZ (own := RX10) rfl (by decide +kernel) (Nat.le_of_ble_eq_true rfl) ?_
  intro p e s m args below meth c Q A X hQ
  refine g_lvE (lv2 := [(0, .ref h), (1, vI p0)]) rfl ?_
  refine g_iconst X dX10_areUnlike_0 ?_
  refine g_istore_n X (lv' := [(2, vI 0), (0, .ref h), (1, vI p0)]) dX10_areUnlike_1 (by decide) rfl ?_
  have h0 : twO (oct v_tape) 0 (0 : Int).toNat = 0 := rfl
  have L2 : ∀ (n : Nat) (x2_2 : Int), (0 ≤ x2_2 ∧ (x2_2 ≤ p0 ∨ x2_2 = 0)) → (twO (oct v_tape) 0 (x2_2).toNat = 0) → (p0 - x2_2).toNat < n → GG p l e ⟨1, 0, 0, 21⟩ s m args below meth c 0 0 Q D A s.heap 4 (wX10 cI cB cJ h q v_stalls v_claimMany v_taped v_place0 v_length0 v_fault v_number0 v_open v_codeMany v_waiting v_saidMany v_clauses v_newMany v_newStalls v_lines v_salesNow v_outNow v_isKept v_keptStalls v_now v_aside v_kept v_oneOf v_otherOf v_signOf v_byOf v_tape v_said v_waitsAt v_saidLetter v_saidFrom v_saidHalf v_saidTo v_codes v_clauseOf v_codeFrom v_codeHalf v_codeTo v_stack v_facts v_newOne v_newOther v_newSign v_newBy v_moreOf v_firstOf v_toldOf v_mostOf v_mostThen v_sumTo v_rowFrom v_ordersOf v_lessOf v_weightOf v_rowNow v_slowRow v_fastRow v_lineNow v_firstLine v_freeBy v_heldBy v_heightOf v_upTo v_downTo v_oftenOf v_newUpper v_newLower) 2 [(0, .ref h), (1, vI p0), (2, vI x2_2)] [] := by
    intro n
    induction n with
    | zero => intros; exfalso; omega
    | succ n ih2 =>
      intro x2_2 w2_0 w2_1 wm2
      have hO := twO_s (oct v_tape) 0 (x := x2_2) (by omega)
      rw [w2_1] at hO
      refine g_iload_n X dX10_areUnlike_2 2 rfl ?_
      refine g_iload_n X dX10_areUnlike_3 1 rfl ?_
      refine g_icmp_ge X (tgt := 41) dX10_areUnlike_4 (by decide) (by omega) (by omega) (fun c4 => ?_) (fun c4 => ?_)
      · refine g_iconst X dX10_areUnlike_41 ?_
        have hx : x2_2 = p0 := by omega
        rw [hx] at w2_1
        exact hQ _ _ _ _ dX10_areUnlike_42 ⟨by omega, ⟨(by first | assumption | omega), rfl⟩⟩
      · refine g_iconst X dX10_areUnlike_7 ?_
        refine g_istore_n X (lv' := [(3, vI 0), (0, .ref h), (1, vI p0), (2, vI x2_2)]) dX10_areUnlike_8 (by decide) rfl ?_
        have h1 : twI (oct v_tape) 0 (x2_2).toNat 0 (0 : Int).toNat = 0 := rfl
        have L9 : ∀ (n : Nat) (x3_9 : Int), (0 ≤ x3_9 ∧ x3_9 ≤ x2_2) → (twI (oct v_tape) 0 (x2_2).toNat 0 (x3_9).toNat = 0) → (x2_2 - x3_9).toNat < n → GG p l e ⟨1, 0, 0, 21⟩ s m args below meth c 0 0 Q D A s.heap 4 (wX10 cI cB cJ h q v_stalls v_claimMany v_taped v_place0 v_length0 v_fault v_number0 v_open v_codeMany v_waiting v_saidMany v_clauses v_newMany v_newStalls v_lines v_salesNow v_outNow v_isKept v_keptStalls v_now v_aside v_kept v_oneOf v_otherOf v_signOf v_byOf v_tape v_said v_waitsAt v_saidLetter v_saidFrom v_saidHalf v_saidTo v_codes v_clauseOf v_codeFrom v_codeHalf v_codeTo v_stack v_facts v_newOne v_newOther v_newSign v_newBy v_moreOf v_firstOf v_toldOf v_mostOf v_mostThen v_sumTo v_rowFrom v_ordersOf v_lessOf v_weightOf v_rowNow v_slowRow v_fastRow v_lineNow v_firstLine v_freeBy v_heldBy v_heightOf v_upTo v_downTo v_oftenOf v_newUpper v_newLower) 9 [(0, .ref h), (1, vI p0), (2, vI x2_2), (3, vI x3_9)] [] := by
          intro n
          induction n with
          | zero => intros; exfalso; omega
          | succ n ih9 =>
            intro x3_9 w9_0 w9_1 wm9
            have hI := twI_s (oct v_tape) 0 (x2_2).toNat 0 (x := x3_9) (by omega)
            refine g_iload_n X dX10_areUnlike_9 3 rfl ?_
            refine g_iload_n X dX10_areUnlike_10 2 rfl ?_
            refine g_icmp_ge X (tgt := 35) dX10_areUnlike_11 (by decide) (by omega) (by omega) (fun c11 => ?_) (fun c11 => ?_)
            · refine g_iinc X (lv' := [(2, vI (x2_2 + 1)), (0, .ref h), (1, vI p0), (3, vI x3_9)]) dX10_areUnlike_35 2 rfl (by decide) rfl ?_
              refine g_goto X (tgt := 2) dX10_areUnlike_38 (by decide) ?_
              have hx : x3_9 = x2_2 := by omega
              rw [hx] at w9_1
              refine g_lv [1, 2, 0] rfl ?_
              exact ih2 (x2_2 + 1) (by first | assumption | omega) (by first | assumption | omega) (by omega)
            · refine g_aload_n X dX10_areUnlike_14 0 rfl ?_
              refine g_iload_n X dX10_areUnlike_15 2 rfl ?_
              refine g_callVI0 X (c_X10_octet l D cI cB cJ h q (p0 := x2_2) r_v_tape (by first | assumption | omega) (by first | assumption | omega)) cv_X10_octet uw1641 ⟨rfl, rfl, by decide, by decide⟩ 0 rfl rfl rfl rfl rfl (Nat.le_of_ble_eq_true rfl) ⟨Nat.zero_le _, Nat.zero_le _⟩ dX10_areUnlike_16 (fun t16 ws16 k16 => ?_)
              obtain ⟨kp0_16, kp1_16, kp2_16, rfl⟩ := k16
              refine g_aload_n X dX10_areUnlike_19 0 rfl ?_
              refine g_iload_n X dX10_areUnlike_20 3 rfl ?_
              refine g_callVI0 X (c_X10_octet l D cI cB cJ h q (p0 := x3_9) r_v_tape (by first | assumption | omega) (by first | assumption | omega)) cv_X10_octet uw1641 ⟨rfl, rfl, by decide, by decide⟩ 0 rfl rfl rfl rfl rfl (Nat.le_of_ble_eq_true rfl) ⟨Nat.zero_le _, Nat.zero_le _⟩ dX10_areUnlike_21 (fun t21 ws21 k21 => ?_)
              obtain ⟨kp0_21, kp1_21, kp2_21, rfl⟩ := k21
              refine g_icmp_ne X (tgt := 29) dX10_areUnlike_24 (by decide) (by omega) (by omega) (fun c24 => ?_) (fun c24 => ?_)
              · refine g_iinc X (lv' := [(3, vI (x3_9 + 1)), (0, .ref h), (1, vI p0), (2, vI x2_2)]) dX10_areUnlike_29 3 rfl (by decide) rfl ?_
                refine g_goto X (tgt := 9) dX10_areUnlike_32 (by decide) ?_
                refine g_lv [1, 2, 3, 0] rfl ?_
                exact ih9 (x3_9 + 1) (by first | assumption | omega) (by first | assumption | omega) (by omega)
              · refine g_iconst X dX10_areUnlike_27 ?_
                have hq : 0 < twO (oct v_tape) 0 p0.toNat := twO_pos (i := (x2_2).toNat) (j := (x3_9).toNat) (by omega) (by omega) (by omega)
                exact hQ _ _ _ _ dX10_areUnlike_28 ⟨by omega, ⟨(by first | assumption | omega), rfl⟩⟩
        refine g_lv [1, 2, 3, 0] rfl ?_
        exact L9 _ 0 (by first | assumption | omega) (by first | assumption | omega) (Nat.lt_succ_self _)
  refine g_lv [1, 2, 0] rfl ?_
  exact L2 _ 0 (by first | assumption | omega) (by first | assumption | omega) (Nat.lt_succ_self _)
