def PS_X3_readTest (lev : Nat) : Prop := ∀ (l : Launch) (D : va_G) (cI cB cJ : ClassId) (h : Nat) (q : Nat → Nat) (h_tp : Nat) (q_tp : Nat → Nat) (h_lw : Nat) (q_lw : Nat → Nat) {v_tp_length v_tp_end v_tp_at v_tp_fault v_tp_faultAt v_lw_size v_lw_length v_lw_height : Int} {v_tp_bytes v_tp_taken v_lw_letter v_lw_valueAt v_lw_testAt v_lw_endAt v_lw_sign v_lw_beside v_lw_seen v_lw_stack : Nat → Int} (p0 : Int) (kr_v_tp_end : 0 ≤ v_tp_end ∧ v_tp_end ≤ 260) (kr_v_tp_at : 0 ≤ v_tp_at ∧ v_tp_at ≤ 260) (kr_v_tp_fault : 0 ≤ v_tp_fault ∧ v_tp_fault ≤ 8) (kr_v_tp_faultAt : 0 ≤ v_tp_faultAt ∧ v_tp_faultAt ≤ 260) (r_v_tp_bytes : RA 0 255 v_tp_bytes) (kr_v_lw_length : 0 ≤ v_lw_length ∧ v_lw_length ≤ 256) (r_v_lw_sign : RA (-2147483648) 2147483647 v_lw_sign) (r_v_lw_beside : RA 0 99999 v_lw_beside) (hp0 : IR p0) (hp1 : 0 ≤ p0 ∧ p0 ≤ 6) (hp2 : v_lw_length ≤ v_tp_at) (hp3 : v_tp_at ≤ v_tp_end) (hp4 : v_tp_end ≤ 240) (hp5 : LInv v_lw_sign v_lw_beside) (hp6 : 6 - p0 ≤ (lev : Int)), CtV l yX3_readTest cX3_readTest 4 none ⟨40 + 4 * lev, 0, 0, 930 + 75 * lev⟩ D (TY cI cB cJ) ((wX3 cI cB cJ h q h_tp (.ref h_lw)) ++ (wX7 cI cB cJ h_tp q_tp v_tp_length v_tp_end v_tp_at v_tp_fault v_tp_faultAt v_tp_bytes v_tp_taken) ++ (wX2 cI cB cJ h_lw q_lw v_lw_size v_lw_length v_lw_height v_lw_letter v_lw_valueAt v_lw_testAt v_lw_endAt v_lw_sign v_lw_beside v_lw_seen v_lw_stack)) [.ref h, vI p0] (fun ws' => ∃ n_tp_at : Int, ∃ n_tp_fault : Int, ∃ n_tp_faultAt : Int, ∃ n_lw_length : Int, ∃ n_lw_sign : Nat → Int, ∃ n_lw_beside : Nat → Int, (0 ≤ n_tp_at ∧ n_tp_at ≤ 260) ∧ (0 ≤ n_tp_fault ∧ n_tp_fault ≤ 8) ∧ (0 ≤ n_tp_faultAt ∧ n_tp_faultAt ≤ 260) ∧ (0 ≤ n_lw_length ∧ n_lw_length ≤ 256) ∧ (RA (-2147483648) 2147483647 n_lw_sign) ∧ (RA 0 99999 n_lw_beside) ∧ (v_tp_at ≤ n_tp_at) ∧ (n_tp_at ≤ v_tp_end) ∧ (v_lw_length ≤ n_lw_length) ∧ (LInv n_lw_sign n_lw_beside) ∧ (Same v_lw_length v_lw_sign n_lw_sign) ∧ (v_tp_fault ≠ 0 → n_tp_fault ≠ 0) ∧ (n_lw_length - n_tp_at ≤ v_lw_length - v_tp_at + 1) ∧ (n_tp_fault = 0 → n_lw_length - n_tp_at ≤ v_lw_length - v_tp_at) ∧ (ws' = ((wX3 cI cB cJ h q h_tp (.ref h_lw)) ++ (wX7 cI cB cJ h_tp q_tp v_tp_length v_tp_end n_tp_at n_tp_fault n_tp_faultAt v_tp_bytes v_tp_taken) ++ (wX2 cI cB cJ h_lw q_lw v_lw_size n_lw_length v_lw_height v_lw_letter v_lw_valueAt v_lw_testAt v_lw_endAt n_lw_sign n_lw_beside v_lw_seen v_lw_stack))))
def PS_X3_readPart (lev : Nat) : Prop := ∀ (l : Launch) (D : va_G) (cI cB cJ : ClassId) (h : Nat) (q : Nat → Nat) (h_tp : Nat) (q_tp : Nat → Nat) (h_lw : Nat) (q_lw : Nat → Nat) {v_tp_length v_tp_end v_tp_at v_tp_fault v_tp_faultAt v_lw_size v_lw_length v_lw_height : Int} {v_tp_bytes v_tp_taken v_lw_letter v_lw_valueAt v_lw_testAt v_lw_endAt v_lw_sign v_lw_beside v_lw_seen v_lw_stack : Nat → Int} (p0 : Int) (kr_v_tp_end : 0 ≤ v_tp_end ∧ v_tp_end ≤ 260) (kr_v_tp_at : 0 ≤ v_tp_at ∧ v_tp_at ≤ 260) (kr_v_tp_fault : 0 ≤ v_tp_fault ∧ v_tp_fault ≤ 8) (kr_v_tp_faultAt : 0 ≤ v_tp_faultAt ∧ v_tp_faultAt ≤ 260) (r_v_tp_bytes : RA 0 255 v_tp_bytes) (kr_v_lw_length : 0 ≤ v_lw_length ∧ v_lw_length ≤ 256) (r_v_lw_sign : RA (-2147483648) 2147483647 v_lw_sign) (r_v_lw_beside : RA 0 99999 v_lw_beside) (hp0 : IR p0) (hp1 : 0 ≤ p0 ∧ p0 ≤ 6) (hp2 : v_lw_length ≤ v_tp_at) (hp3 : v_tp_at ≤ v_tp_end) (hp4 : v_tp_end ≤ 240) (hp5 : LInv v_lw_sign v_lw_beside) (hp6 : 6 - p0 ≤ (lev : Int)), CtV l yX3_readPart cX3_readPart 4 none ⟨41 + 4 * lev, 0, 0, 955 + 75 * lev⟩ D (TY cI cB cJ) ((wX3 cI cB cJ h q h_tp (.ref h_lw)) ++ (wX7 cI cB cJ h_tp q_tp v_tp_length v_tp_end v_tp_at v_tp_fault v_tp_faultAt v_tp_bytes v_tp_taken) ++ (wX2 cI cB cJ h_lw q_lw v_lw_size v_lw_length v_lw_height v_lw_letter v_lw_valueAt v_lw_testAt v_lw_endAt v_lw_sign v_lw_beside v_lw_seen v_lw_stack)) [.ref h, vI p0] (fun ws' => ∃ n_tp_at : Int, ∃ n_tp_fault : Int, ∃ n_tp_faultAt : Int, ∃ n_lw_length : Int, ∃ n_lw_sign : Nat → Int, ∃ n_lw_beside : Nat → Int, (0 ≤ n_tp_at ∧ n_tp_at ≤ 260) ∧ (0 ≤ n_tp_fault ∧ n_tp_fault ≤ 8) ∧ (0 ≤ n_tp_faultAt ∧ n_tp_faultAt ≤ 260) ∧ (0 ≤ n_lw_length ∧ n_lw_length ≤ 256) ∧ (RA (-2147483648) 2147483647 n_lw_sign) ∧ (RA 0 99999 n_lw_beside) ∧ (v_tp_at ≤ n_tp_at) ∧ (n_tp_at ≤ v_tp_end) ∧ (v_lw_length ≤ n_lw_length) ∧ (LInv n_lw_sign n_lw_beside) ∧ (Same v_lw_length v_lw_sign n_lw_sign) ∧ (v_tp_fault ≠ 0 → n_tp_fault ≠ 0) ∧ (n_lw_length - n_tp_at ≤ v_lw_length - v_tp_at + 1) ∧ (n_tp_fault = 0 → n_lw_length - n_tp_at ≤ v_lw_length - v_tp_at) ∧ (ws' = ((wX3 cI cB cJ h q h_tp (.ref h_lw)) ++ (wX7 cI cB cJ h_tp q_tp v_tp_length v_tp_end n_tp_at n_tp_fault n_tp_faultAt v_tp_bytes v_tp_taken) ++ (wX2 cI cB cJ h_lw q_lw v_lw_size n_lw_length v_lw_height v_lw_letter v_lw_valueAt v_lw_testAt v_lw_endAt n_lw_sign n_lw_beside v_lw_seen v_lw_stack))))
def PS_X3_readChoice (lev : Nat) : Prop := ∀ (l : Launch) (D : va_G) (cI cB cJ : ClassId) (h : Nat) (q : Nat → Nat) (h_tp : Nat) (q_tp : Nat → Nat) (h_lw : Nat) (q_lw : Nat → Nat) {v_tp_length v_tp_end v_tp_at v_tp_fault v_tp_faultAt v_lw_size v_lw_length v_lw_height : Int} {v_tp_bytes v_tp_taken v_lw_letter v_lw_valueAt v_lw_testAt v_lw_endAt v_lw_sign v_lw_beside v_lw_seen v_lw_stack : Nat → Int} (p0 : Int) (kr_v_tp_end : 0 ≤ v_tp_end ∧ v_tp_end ≤ 260) (kr_v_tp_at : 0 ≤ v_tp_at ∧ v_tp_at ≤ 260) (kr_v_tp_fault : 0 ≤ v_tp_fault ∧ v_tp_fault ≤ 8) (kr_v_tp_faultAt : 0 ≤ v_tp_faultAt ∧ v_tp_faultAt ≤ 260) (r_v_tp_bytes : RA 0 255 v_tp_bytes) (kr_v_lw_length : 0 ≤ v_lw_length ∧ v_lw_length ≤ 256) (r_v_lw_sign : RA (-2147483648) 2147483647 v_lw_sign) (r_v_lw_beside : RA 0 99999 v_lw_beside) (hp0 : IR p0) (hp1 : 0 ≤ p0 ∧ p0 ≤ 6) (hp2 : v_lw_length ≤ v_tp_at) (hp3 : v_tp_at ≤ v_tp_end) (hp4 : v_tp_end ≤ 240) (hp5 : LInv v_lw_sign v_lw_beside) (hp6 : 6 - p0 ≤ (lev : Int)), CtV l yX3_readChoice cX3_readChoice 4 none ⟨42 + 4 * lev, 0, 0, 980 + 75 * lev⟩ D (TY cI cB cJ) ((wX3 cI cB cJ h q h_tp (.ref h_lw)) ++ (wX7 cI cB cJ h_tp q_tp v_tp_length v_tp_end v_tp_at v_tp_fault v_tp_faultAt v_tp_bytes v_tp_taken) ++ (wX2 cI cB cJ h_lw q_lw v_lw_size v_lw_length v_lw_height v_lw_letter v_lw_valueAt v_lw_testAt v_lw_endAt v_lw_sign v_lw_beside v_lw_seen v_lw_stack)) [.ref h, vI p0] (fun ws' => ∃ n_tp_at : Int, ∃ n_tp_fault : Int, ∃ n_tp_faultAt : Int, ∃ n_lw_length : Int, ∃ n_lw_sign : Nat → Int, ∃ n_lw_beside : Nat → Int, (0 ≤ n_tp_at ∧ n_tp_at ≤ 260) ∧ (0 ≤ n_tp_fault ∧ n_tp_fault ≤ 8) ∧ (0 ≤ n_tp_faultAt ∧ n_tp_faultAt ≤ 260) ∧ (0 ≤ n_lw_length ∧ n_lw_length ≤ 256) ∧ (RA (-2147483648) 2147483647 n_lw_sign) ∧ (RA 0 99999 n_lw_beside) ∧ (v_tp_at ≤ n_tp_at) ∧ (n_tp_at ≤ v_tp_end) ∧ (v_lw_length ≤ n_lw_length) ∧ (LInv n_lw_sign n_lw_beside) ∧ (Same v_lw_length v_lw_sign n_lw_sign) ∧ (v_tp_fault ≠ 0 → n_tp_fault ≠ 0) ∧ (n_lw_length - n_tp_at ≤ v_lw_length - v_tp_at + 1) ∧ (n_tp_fault = 0 → n_lw_length - n_tp_at ≤ v_lw_length - v_tp_at) ∧ (ws' = ((wX3 cI cB cJ h q h_tp (.ref h_lw)) ++ (wX7 cI cB cJ h_tp q_tp v_tp_length v_tp_end n_tp_at n_tp_fault n_tp_faultAt v_tp_bytes v_tp_taken) ++ (wX2 cI cB cJ h_lw q_lw v_lw_size n_lw_length v_lw_height v_lw_letter v_lw_valueAt v_lw_testAt v_lw_endAt n_lw_sign n_lw_beside v_lw_seen v_lw_stack))))
set_option maxHeartbeats 1500000 in
set_option maxRecDepth 100000 in
theorem r_X3_readTest (lev : Nat) (IH : ∀ m : Nat, lev = m + 1 → PS_X3_readChoice m) : PS_X3_readTest lev := by
  intro l D cI cB cJ h q h_tp q_tp h_lw q_lw v_tp_length v_tp_end v_tp_at v_tp_fault v_tp_faultAt v_lw_size v_lw_length v_lw_height v_tp_bytes v_tp_taken v_lw_letter v_lw_valueAt v_lw_testAt v_lw_endAt v_lw_sign v_lw_beside v_lw_seen v_lw_stack p0 kr_v_tp_end kr_v_tp_at kr_v_tp_fault kr_v_tp_faultAt r_v_tp_bytes kr_v_lw_length r_v_lw_sign r_v_lw_beside hp0 hp1 hp2 hp3 hp4 hp5 hp6
  refine hdrV (own := RX3) rfl (by decide +kernel) (Nat.le_of_ble_eq_true rfl) ?_
  intro p e s m args below meth c Q A X hQ
  refine g_lvE (lv2 := [(0, .ref h), (1, vI p0)]) rfl ?_
  refine g_iload_n X dX3_readTest_0 1 rfl ?_
  refine g_istore_n X (lv' := [(2, vI p0), (0, .ref h), (1, vI p0)]) dX3_readTest_1 (by decide) rfl ?_
  refine g_iconst X dX3_readTest_2 ?_
  refine g_istore_n X (lv' := [(3, vI 0), (2, vI p0), (0, .ref h), (1, vI p0)]) dX3_readTest_3 (by decide) rfl ?_
  have L4 : ∀ (n : Nat) (x2_4 : Int) (x3_4 : Int) (tp_at_4 : Int) (tp_fault_4 : Int) (tp_faultAt_4 : Int), (0 ≤ tp_at_4 ∧ tp_at_4 ≤ 260) → (0 ≤ tp_fault_4 ∧ tp_fault_4 ≤ 8) → (0 ≤ tp_faultAt_4 ∧ tp_faultAt_4 ≤ 260) → (0 ≤ x3_4 ∧ x3_4 ≤ 240) → (p0 ≤ x2_4 ∧ x2_4 ≤ 6) → (v_tp_at ≤ tp_at_4) → (tp_at_4 ≤ v_tp_end) → (x2_4 - p0 ≤ tp_at_4 - v_tp_at) → (v_tp_fault ≠ 0 → tp_fault_4 ≠ 0) → (240 - x3_4).toNat < n → GG p l e ⟨40 + 4 * lev, 0, 0, 930 + 75 * lev⟩ s m args below meth c 0 0 Q D A s.heap 4 ((wX3 cI cB cJ h q h_tp (.ref h_lw)) ++ (wX7 cI cB cJ h_tp q_tp v_tp_length v_tp_end tp_at_4 tp_fault_4 tp_faultAt_4 v_tp_bytes v_tp_taken) ++ (wX2 cI cB cJ h_lw q_lw v_lw_size v_lw_length v_lw_height v_lw_letter v_lw_valueAt v_lw_testAt v_lw_endAt v_lw_sign v_lw_beside v_lw_seen v_lw_stack)) 4 [(0, .ref h), (1, vI p0), (2, vI x2_4), (3, vI x3_4)] [] := by
    intro n
    induction n with
    | zero => intros; exfalso; omega
    | succ n ih4 =>
      intro x2_4 x3_4 tp_at_4 tp_fault_4 tp_faultAt_4 kr_tp_at_4 kr_tp_fault_4 kr_tp_faultAt_4 w4_0 w4_1 w4_2 w4_3 w4_4 w4_5 wm4
      refine g_iload_n X dX3_readTest_4 3 rfl ?_
      refine g_sipush X (z := 240) dX3_readTest_5 (by decide) ?_
      refine g_icmp_ge X (tgt := 35) dX3_readTest_8 (by decide) (by omega) (by omega) (fun c8 => ?_) (fun c8 => ?_)
      · have J148 : ∀ (tp_at_148 : Int) (tp_fault_148 : Int) (tp_faultAt_148 : Int) (lw_length_148 : Int) (lw_sign_148 : Nat → Int) (lw_beside_148 : Nat → Int), (0 ≤ tp_at_148 ∧ tp_at_148 ≤ 260) → (0 ≤ tp_fault_148 ∧ tp_fault_148 ≤ 8) → (0 ≤ tp_faultAt_148 ∧ tp_faultAt_148 ≤ 260) → (0 ≤ lw_length_148 ∧ lw_length_148 ≤ 256) → (RA (-2147483648) 2147483647 lw_sign_148) → (RA 0 99999 lw_beside_148) → (v_tp_at ≤ tp_at_148) → (tp_at_148 ≤ v_tp_end) → (v_lw_length ≤ lw_length_148) → (LInv lw_sign_148 lw_beside_148) → (Same v_lw_length v_lw_sign lw_sign_148) → (v_tp_fault ≠ 0 → tp_fault_148 ≠ 0) → (lw_length_148 - tp_at_148 ≤ v_lw_length - v_tp_at + 1 - (x2_4 - p0)) → (tp_fault_148 = 0 → lw_length_148 - tp_at_148 ≤ v_lw_length - v_tp_at - (x2_4 - p0)) → GG p l e ⟨40 + 4 * lev, 0, 0, 930 + 75 * lev⟩ s m args below meth c 0 0 Q D A s.heap 4 ((wX3 cI cB cJ h q h_tp (.ref h_lw)) ++ (wX7 cI cB cJ h_tp q_tp v_tp_length v_tp_end tp_at_148 tp_fault_148 tp_faultAt_148 v_tp_bytes v_tp_taken) ++ (wX2 cI cB cJ h_lw q_lw v_lw_size lw_length_148 v_lw_height v_lw_letter v_lw_valueAt v_lw_testAt v_lw_endAt lw_sign_148 lw_beside_148 v_lw_seen v_lw_stack)) 148 [(0, .ref h), (1, vI p0), (2, vI x2_4)] [] := by
          intro tp_at_148 tp_fault_148 tp_faultAt_148 lw_length_148 lw_sign_148 lw_beside_148 kr_tp_at_148 kr_tp_fault_148 kr_tp_faultAt_148 kr_lw_length_148 r_lw_sign_148 r_lw_beside_148 w148_0 w148_1 w148_2 w148_3 w148_4 w148_5 w148_6 w148_7
          refine g_iload_n X dX3_readTest_148 2 rfl ?_
          refine g_iload_n X dX3_readTest_149 1 rfl ?_
          refine g_isub X dX3_readTest_150 ?_
          refine g_iconst X dX3_readTest_151 ?_
          refine g_iand X dX3_readTest_152 ?_
          refine g_nm (fun t152 e152 => ?_)
          have r152 := z_iand_r (x2_4 - p0) 1 (by omega) (by omega); rw [← e152] at r152
          have hz : x2_4 = p0 → t152 = 0 := fun h => by rw [e152, h, Int.sub_self]; exact z_iand01
          refine g_if_eq X (tgt := 167) dX3_readTest_153 (by decide) (by omega) (fun c153 => ?_) (fun c153 => ?_)
          · exact hQ _ _ _ dX3_readTest_167 ⟨tp_at_148, tp_fault_148, tp_faultAt_148, lw_length_148, lw_sign_148, lw_beside_148, (by omega), (by omega), (by omega), (by omega), r_lw_sign_148, r_lw_beside_148, (by first | assumption | omega), (by first | assumption | omega), (by first | assumption | omega), (by first | assumption | (rw [kp2_163, kp3_163]; exact LInv.up w148_3 _ _ _ (fun h => by omega))), (by first | assumption | exact Same.refl _ _ | (rw [kp2_163]; exact Same.up w148_4 (by omega))), (by first | assumption | omega), (by first | assumption | omega), (by first | assumption | omega), rfl⟩
          · refine g_aload_n X dX3_readTest_156 0 rfl ?_
            refine gX3_get X 0 rfl 1 (by decide) uw243 rfl dX3_readTest_157 ?_
            refine g_bipush X (z := 33) dX3_readTest_160 (by decide) ?_
            refine g_iconst X dX3_readTest_162 ?_
            refine g_callVIw X (c_X2_add l D cI cB cJ h_lw q_lw (p0 := 33) (p1 := 0) (by omega) r_lw_sign_148 r_lw_beside_148 (by first | assumption | omega) (by first | assumption | omega) (by first | assumption | omega) (by first | assumption | omega)) [4, 5, 6, 7, 8, 9, 10, 11, 12] rfl rfl rfl cv_X2_add uw544 ⟨rfl, rfl, (by dsimp only; omega), (by dsimp only; omega)⟩ 0 rfl rfl rfl rfl rfl (Nat.le_of_ble_eq_true rfl) ⟨Nat.zero_le _, Nat.zero_le _⟩ dX3_readTest_163 (fun t163 ws163 k163 => ?_)
            obtain ⟨lw_length_163, lw_sign_163, lw_beside_163, kr_lw_length_163, r_lw_sign_163, r_lw_beside_163, kp0_163, kp1_163, kp2_163, kp3_163, rfl⟩ := k163
            refine ⟨rfl, ?_⟩
            refine g_ws (ws2 := ((wX3 cI cB cJ h q h_tp (.ref h_lw)) ++ (wX7 cI cB cJ h_tp q_tp v_tp_length v_tp_end tp_at_148 tp_fault_148 tp_faultAt_148 v_tp_bytes v_tp_taken) ++ (wX2 cI cB cJ h_lw q_lw v_lw_size lw_length_163 v_lw_height v_lw_letter v_lw_valueAt v_lw_testAt v_lw_endAt lw_sign_163 lw_beside_163 v_lw_seen v_lw_stack))) rfl ?_
            refine g_pop X rfl dX3_readTest_166 ?_
            exact hQ _ _ _ dX3_readTest_167 ⟨tp_at_148, tp_fault_148, tp_faultAt_148, lw_length_163, lw_sign_163, lw_beside_163, (by omega), (by omega), (by omega), (by omega), r_lw_sign_163, r_lw_beside_163, (by first | assumption | omega), (by first | assumption | omega), (by first | assumption | omega), (by first | assumption | (rw [kp2_163, kp3_163]; exact LInv.up w148_3 _ _ _ (fun h => by omega))), (by first | assumption | exact Same.refl _ _ | (rw [kp2_163]; exact Same.up w148_4 (by omega))), (by first | assumption | omega), (by first | assumption | omega), (by first | assumption | omega), rfl⟩
        refine g_aload_n X dX3_readTest_35 0 rfl ?_
        refine gX3_get X 0 rfl 0 (by decide) uw242 rfl dX3_readTest_36 ?_
        refine g_callVIw X (c_X7_sign l D cI cB cJ h_tp q_tp  (by omega) (by omega) (by omega) r_v_tp_bytes) [1, 2, 3] rfl rfl rfl cv_X7_sign uw497 ⟨rfl, rfl, (by dsimp only; omega), (by dsimp only; omega)⟩ 0 rfl rfl rfl rfl rfl (Nat.le_of_ble_eq_true rfl) ⟨Nat.zero_le _, Nat.zero_le _⟩ dX3_readTest_39 (fun t39 ws39 k39 => ?_)
        obtain ⟨kp0_39, kp1_39, kp2_39, rfl⟩ := k39
        refine ⟨rfl, ?_⟩
        refine g_ws (ws2 := ((wX3 cI cB cJ h q h_tp (.ref h_lw)) ++ (wX7 cI cB cJ h_tp q_tp v_tp_length v_tp_end tp_at_4 tp_fault_4 tp_faultAt_4 v_tp_bytes v_tp_taken) ++ (wX2 cI cB cJ h_lw q_lw v_lw_size v_lw_length v_lw_height v_lw_letter v_lw_valueAt v_lw_testAt v_lw_endAt v_lw_sign v_lw_beside v_lw_seen v_lw_stack))) rfl ?_
        refine g_bipush X (z := 40) dX3_readTest_42 (by decide) ?_
        refine g_icmp_ne X (tgt := 80) dX3_readTest_44 (by decide) (by omega) (by omega) (fun c44 => ?_) (fun c44 => ?_)
        · refine g_aload_n X dX3_readTest_80 0 rfl ?_
          refine g_iload_n X dX3_readTest_81 2 rfl ?_
          refine g_callVV0 X (all_X3_readSum 6 l D cI cB cJ h q h_tp q_tp h_lw q_lw x2_4 (by omega) (by omega) (by omega) (by omega) r_v_tp_bytes (by omega) r_v_lw_sign r_v_lw_beside (by first | assumption | omega) (by first | assumption | omega) (by first | assumption | omega) (by first | assumption | omega) (by first | assumption | omega) (by first | assumption | omega) (by first | assumption | omega)) cv_X3_readSum uw509 ⟨rfl, rfl, (by dsimp only; omega), (by dsimp only; omega)⟩ 0 rfl rfl rfl rfl rfl (Nat.le_of_ble_eq_true rfl) ⟨Nat.zero_le _, Nat.zero_le _⟩ dX3_readTest_82 (fun ws82 k82 => ?_)
          obtain ⟨tp_at_82, tp_fault_82, tp_faultAt_82, lw_length_82, lw_sign_82, lw_beside_82, kr_tp_at_82, kr_tp_fault_82, kr_tp_faultAt_82, kr_lw_length_82, r_lw_sign_82, r_lw_beside_82, kp0_82, kp1_82, kp2_82, kp3_82, kp4_82, kp5_82, kp6_82, rfl⟩ := k82
          refine g_aload_n X dX3_readTest_85 0 rfl ?_
          refine gX3_get X 0 rfl 0 (by decide) uw242 rfl dX3_readTest_86 ?_
          refine g_callVIw X (c_X7_sign l D cI cB cJ h_tp q_tp  (by omega) (by omega) (by omega) r_v_tp_bytes) [1, 2, 3] rfl rfl rfl cv_X7_sign uw497 ⟨rfl, rfl, (by dsimp only; omega), (by dsimp only; omega)⟩ 0 rfl rfl rfl rfl rfl (Nat.le_of_ble_eq_true rfl) ⟨Nat.zero_le _, Nat.zero_le _⟩ dX3_readTest_89 (fun t89 ws89 k89 => ?_)
          obtain ⟨kp0_89, kp1_89, kp2_89, rfl⟩ := k89
          refine ⟨rfl, ?_⟩
          refine g_ws (ws2 := ((wX3 cI cB cJ h q h_tp (.ref h_lw)) ++ (wX7 cI cB cJ h_tp q_tp v_tp_length v_tp_end tp_at_82 tp_fault_82 tp_faultAt_82 v_tp_bytes v_tp_taken) ++ (wX2 cI cB cJ h_lw q_lw v_lw_size lw_length_82 v_lw_height v_lw_letter v_lw_valueAt v_lw_testAt v_lw_endAt lw_sign_82 lw_beside_82 v_lw_seen v_lw_stack))) rfl ?_
          refine g_istore_n X (lv' := [(3, vI t89), (0, .ref h), (1, vI p0), (2, vI x2_4)]) dX3_readTest_92 (by decide) rfl ?_
          have J126 : ∀ (tp_fault_126 : Int) (tp_faultAt_126 : Int), (0 ≤ tp_fault_126 ∧ tp_fault_126 ≤ 8) → (0 ≤ tp_faultAt_126 ∧ tp_faultAt_126 ≤ 260) → ((t89 = 60 ∨ t89 = 62 ∨ t89 = 61) ∨ tp_fault_126 ≠ 0) → (v_tp_fault ≠ 0 → tp_fault_126 ≠ 0) → GG p l e ⟨40 + 4 * lev, 0, 0, 930 + 75 * lev⟩ s m args below meth c 0 0 Q D A s.heap 4 ((wX3 cI cB cJ h q h_tp (.ref h_lw)) ++ (wX7 cI cB cJ h_tp q_tp v_tp_length v_tp_end tp_at_82 tp_fault_126 tp_faultAt_126 v_tp_bytes v_tp_taken) ++ (wX2 cI cB cJ h_lw q_lw v_lw_size lw_length_82 v_lw_height v_lw_letter v_lw_valueAt v_lw_testAt v_lw_endAt lw_sign_82 lw_beside_82 v_lw_seen v_lw_stack)) 126 [(0, .ref h), (1, vI p0), (2, vI x2_4), (3, vI t89)] [] := by
            intro tp_fault_126 tp_faultAt_126 kr_tp_fault_126 kr_tp_faultAt_126 w126_0 w126_1
            refine g_aload_n X dX3_readTest_126 0 rfl ?_
            refine gX3_get X 0 rfl 0 (by decide) uw242 rfl dX3_readTest_127 ?_
            refine g_callVVw X (c_X7_step l D cI cB cJ h_tp q_tp  (by omega) (by omega) (by omega) (by first | assumption | omega)) [1, 2, 3] rfl rfl rfl cv_X7_step uw505 ⟨rfl, rfl, (by dsimp only; omega), (by dsimp only; omega)⟩ 0 rfl rfl rfl rfl rfl (Nat.le_of_ble_eq_true rfl) ⟨Nat.zero_le _, Nat.zero_le _⟩ dX3_readTest_130 (fun ws130 k130 => ?_)
            obtain ⟨tp_at_130, kr_tp_at_130, kp0_130, kp1_130, rfl⟩ := k130
            refine ⟨rfl, ?_⟩
            refine g_ws (ws2 := ((wX3 cI cB cJ h q h_tp (.ref h_lw)) ++ (wX7 cI cB cJ h_tp q_tp v_tp_length v_tp_end tp_at_130 tp_fault_126 tp_faultAt_126 v_tp_bytes v_tp_taken) ++ (wX2 cI cB cJ h_lw q_lw v_lw_size lw_length_82 v_lw_height v_lw_letter v_lw_valueAt v_lw_testAt v_lw_endAt lw_sign_82 lw_beside_82 v_lw_seen v_lw_stack))) rfl ?_
            refine g_aload_n X dX3_readTest_133 0 rfl ?_
            refine g_iload_n X dX3_readTest_134 2 rfl ?_
            refine g_callVV0 X (all_X3_readSum 6 l D cI cB cJ h q h_tp q_tp h_lw q_lw x2_4 (by omega) (by omega) (by omega) (by omega) r_v_tp_bytes (by omega) r_lw_sign_82 r_lw_beside_82 (by first | assumption | omega) (by first | assumption | omega) (by first | assumption | omega) (by first | assumption | omega) (by first | assumption | omega) (by first | assumption | omega) (by first | assumption | omega)) cv_X3_readSum uw509 ⟨rfl, rfl, (by dsimp only; omega), (by dsimp only; omega)⟩ 0 rfl rfl rfl rfl rfl (Nat.le_of_ble_eq_true rfl) ⟨Nat.zero_le _, Nat.zero_le _⟩ dX3_readTest_135 (fun ws135 k135 => ?_)
            obtain ⟨tp_at_135, tp_fault_135, tp_faultAt_135, lw_length_135, lw_sign_135, lw_beside_135, kr_tp_at_135, kr_tp_fault_135, kr_tp_faultAt_135, kr_lw_length_135, r_lw_sign_135, r_lw_beside_135, kp0_135, kp1_135, kp2_135, kp3_135, kp4_135, kp5_135, kp6_135, rfl⟩ := k135
            refine g_aload_n X dX3_readTest_138 0 rfl ?_
            refine gX3_get X 0 rfl 1 (by decide) uw243 rfl dX3_readTest_139 ?_
            refine g_iload_n X dX3_readTest_142 3 rfl ?_
            refine g_iconst X dX3_readTest_143 ?_
            refine g_callVIw X (c_X2_add l D cI cB cJ h_lw q_lw (p0 := t89) (p1 := 0) (by omega) r_lw_sign_135 r_lw_beside_135 (by first | assumption | omega) (by first | assumption | omega) (by first | assumption | omega) (by first | assumption | omega)) [4, 5, 6, 7, 8, 9, 10, 11, 12] rfl rfl rfl cv_X2_add uw544 ⟨rfl, rfl, (by dsimp only; omega), (by dsimp only; omega)⟩ 0 rfl rfl rfl rfl rfl (Nat.le_of_ble_eq_true rfl) ⟨Nat.zero_le _, Nat.zero_le _⟩ dX3_readTest_144 (fun t144 ws144 k144 => ?_)
            obtain ⟨lw_length_144, lw_sign_144, lw_beside_144, kr_lw_length_144, r_lw_sign_144, r_lw_beside_144, kp0_144, kp1_144, kp2_144, kp3_144, rfl⟩ := k144
            refine ⟨rfl, ?_⟩
            refine g_ws (ws2 := ((wX3 cI cB cJ h q h_tp (.ref h_lw)) ++ (wX7 cI cB cJ h_tp q_tp v_tp_length v_tp_end tp_at_135 tp_fault_135 tp_faultAt_135 v_tp_bytes v_tp_taken) ++ (wX2 cI cB cJ h_lw q_lw v_lw_size lw_length_144 v_lw_height v_lw_letter v_lw_valueAt v_lw_testAt v_lw_endAt lw_sign_144 lw_beside_144 v_lw_seen v_lw_stack))) rfl ?_
            refine g_pop X rfl dX3_readTest_147 ?_
            refine g_lv [0, 1, 2] rfl ?_
            exact J148 tp_at_135 tp_fault_135 tp_faultAt_135 lw_length_144 lw_sign_144 lw_beside_144 (by omega) (by omega) (by omega) (by omega) r_lw_sign_144 r_lw_beside_144 (by first | assumption | omega) (by first | assumption | omega) (by first | assumption | omega) (by first | assumption | (rw [kp2_144, kp3_144]; exact LInv.up kp3_135 _ _ _ (fun h => by omega))) (by first | assumption | exact Same.refl _ _ | (rw [kp2_144]; exact Same.up (Same.trans kp4_82 kp4_135 (by omega)) (by omega))) (by first | assumption | omega) (by first | assumption | omega) (by first | assumption | omega)
          refine g_iload_n X dX3_readTest_93 0 rfl ?_
          refine g_bipush X (z := 60) dX3_readTest_94 (by decide) ?_
          refine g_icmp_eq X (tgt := 126) dX3_readTest_96 (by decide) (by omega) (by omega) (fun c96 => ?_) (fun c96 => ?_)
          · refine g_lv [1, 2, 3, 0] rfl ?_
            exact J126 tp_fault_82 tp_faultAt_82 (by omega) (by omega) (by first | assumption | omega) (by first | assumption | omega)
          · refine g_iload_n X dX3_readTest_99 0 rfl ?_
            refine g_bipush X (z := 62) dX3_readTest_100 (by decide) ?_
            refine g_icmp_eq X (tgt := 126) dX3_readTest_102 (by decide) (by omega) (by omega) (fun c102 => ?_) (fun c102 => ?_)
            · refine g_lv [1, 2, 3, 0] rfl ?_
              exact J126 tp_fault_82 tp_faultAt_82 (by omega) (by omega) (by first | assumption | omega) (by first | assumption | omega)
            · refine g_iload_n X dX3_readTest_105 0 rfl ?_
              refine g_bipush X (z := 61) dX3_readTest_106 (by decide) ?_
              refine g_icmp_eq X (tgt := 126) dX3_readTest_108 (by decide) (by omega) (by omega) (fun c108 => ?_) (fun c108 => ?_)
              · refine g_lv [1, 2, 3, 0] rfl ?_
                exact J126 tp_fault_82 tp_faultAt_82 (by omega) (by omega) (by first | assumption | omega) (by first | assumption | omega)
              · refine g_aload_n X dX3_readTest_111 1 rfl ?_
                refine gX3_get X 0 rfl 0 (by decide) uw242 rfl dX3_readTest_112 ?_
                refine g_iconst X dX3_readTest_115 ?_
                refine g_aload_n X dX3_readTest_116 1 rfl ?_
                refine gX3_get X 0 rfl 0 (by decide) uw242 rfl dX3_readTest_117 ?_
                refine gN_get X (T := TX7) 1 rfl rfl inU_X7 4 (by decide) nw140 rfl rfl dX3_readTest_120 ?_
                refine g_callVVw X (c_X7_fail l D cI cB cJ h_tp q_tp (p0 := 1) (p1 := tp_at_82) (by omega) (by omega) (by first | assumption | omega) (by first | assumption | omega) (by first | assumption | omega) (by first | assumption | omega)) [1, 2, 3] rfl rfl rfl cv_X7_fail uw501 ⟨rfl, rfl, (by dsimp only; omega), (by dsimp only; omega)⟩ 0 rfl rfl rfl rfl rfl (Nat.le_of_ble_eq_true rfl) ⟨Nat.zero_le _, Nat.zero_le _⟩ dX3_readTest_123 (fun ws123 k123 => ?_)
                obtain ⟨tp_fault_123, tp_faultAt_123, kr_tp_fault_123, kr_tp_faultAt_123, kp0_123, kp1_123, rfl⟩ := k123
                refine ⟨rfl, ?_⟩
                refine g_ws (ws2 := ((wX3 cI cB cJ h q h_tp (.ref h_lw)) ++ (wX7 cI cB cJ h_tp q_tp v_tp_length v_tp_end tp_at_82 tp_fault_123 tp_faultAt_123 v_tp_bytes v_tp_taken) ++ (wX2 cI cB cJ h_lw q_lw v_lw_size lw_length_82 v_lw_height v_lw_letter v_lw_valueAt v_lw_testAt v_lw_endAt lw_sign_82 lw_beside_82 v_lw_seen v_lw_stack))) rfl ?_
                refine g_lv [1, 2, 3, 0] rfl ?_
                exact J126 tp_fault_123 tp_faultAt_123 (by omega) (by omega) (by first | assumption | omega) (by first | assumption | omega)
        · refine g_aload_n X dX3_readTest_47 0 rfl ?_
          refine g_iload_n X dX3_readTest_48 2 rfl ?_
          refine g_callVIw X (c_X3_open l D cI cB cJ h q h_tp q_tp (p0 := x2_4) (by omega) (by omega) (by omega) (by omega) (by first | assumption | omega) (by first | assumption | omega) (by first | assumption | omega)) [0, 1, 2, 3] rfl rfl rfl cv_X3_open uw521 ⟨rfl, rfl, (by dsimp only; omega), (by dsimp only; omega)⟩ 0 rfl rfl rfl rfl rfl (Nat.le_of_ble_eq_true rfl) ⟨Nat.zero_le _, Nat.zero_le _⟩ dX3_readTest_49 (fun t49 ws49 k49 => ?_)
          obtain ⟨tp_at_49, tp_fault_49, tp_faultAt_49, kr_tp_at_49, kr_tp_fault_49, kr_tp_faultAt_49, kp0_49, rfl⟩ := k49
          refine ⟨rfl, ?_⟩
          refine g_ws (ws2 := ((wX3 cI cB cJ h q h_tp (.ref h_lw)) ++ (wX7 cI cB cJ h_tp q_tp v_tp_length v_tp_end tp_at_49 tp_fault_49 tp_faultAt_49 v_tp_bytes v_tp_taken) ++ (wX2 cI cB cJ h_lw q_lw v_lw_size v_lw_length v_lw_height v_lw_letter v_lw_valueAt v_lw_testAt v_lw_endAt v_lw_sign v_lw_beside v_lw_seen v_lw_stack))) rfl ?_
          refine g_istore_n X (lv' := [(3, vI t49), (0, .ref h), (1, vI p0), (2, vI x2_4)]) dX3_readTest_52 (by decide) rfl ?_
          refine g_aload_n X dX3_readTest_53 1 rfl ?_
          refine gX3_get X 0 rfl 0 (by decide) uw242 rfl dX3_readTest_54 ?_
          refine g_callVIw X (c_X7_hasFailed l D cI cB cJ h_tp q_tp  (by omega)) [1, 2, 3] rfl rfl rfl cv_X7_hasFailed uw525 ⟨rfl, rfl, (by dsimp only; omega), (by dsimp only; omega)⟩ 0 rfl rfl rfl rfl rfl (Nat.le_of_ble_eq_true rfl) ⟨Nat.zero_le _, Nat.zero_le _⟩ dX3_readTest_57 (fun t57 ws57 k57 => ?_)
          obtain ⟨kb_57, ⟨kp0_57, rfl⟩⟩ := k57
          refine ⟨rfl, ?_⟩
          refine g_ws (ws2 := ((wX3 cI cB cJ h q h_tp (.ref h_lw)) ++ (wX7 cI cB cJ h_tp q_tp v_tp_length v_tp_end tp_at_49 tp_fault_49 tp_faultAt_49 v_tp_bytes v_tp_taken) ++ (wX2 cI cB cJ h_lw q_lw v_lw_size v_lw_length v_lw_height v_lw_letter v_lw_valueAt v_lw_testAt v_lw_endAt v_lw_sign v_lw_beside v_lw_seen v_lw_stack))) rfl ?_
          refine g_if_ne X (tgt := 77) dX3_readTest_60 (by decide) (by omega) (fun c60 => ?_) (fun c60 => ?_)
          · replace kb_57 := kb_57.resolve_left (fun h => c60 h)
            replace kp0_57 := kp0_57.resolve_right (fun h => c60 h.1)
            refine g_goto X (tgt := 148) dX3_readTest_77 (by decide) ?_
            refine g_lv [1, 2, 3] rfl ?_
            exact J148 tp_at_49 tp_fault_49 tp_faultAt_49 v_lw_length v_lw_sign v_lw_beside (by omega) (by omega) (by omega) (by omega) r_v_lw_sign r_v_lw_beside (by first | assumption | omega) (by first | assumption | omega) (by first | assumption | omega) (by first | assumption | (rw [kp2_144, kp3_144]; exact LInv.up kp3_135 _ _ _ (fun h => by omega))) (by first | assumption | exact Same.refl _ _ | (rw [kp2_144]; exact Same.up (Same.trans kp4_82 kp4_135 (by omega)) (by omega))) (by first | assumption | omega) (by first | assumption | omega) (by first | assumption | omega)
          · clear kb_57
            replace kp0_57 := (kp0_57.resolve_left (fun h => absurd h.1 (by omega))).2
            obtain ⟨mm, rfl⟩ : ∃ mm, lev = mm + 1 := ⟨lev - 1, by omega⟩
            refine g_aload_n X dX3_readTest_63 1 rfl ?_
            refine g_iload_n X dX3_readTest_64 0 rfl ?_
            refine g_callVV0 X (IH mm rfl l D cI cB cJ h q h_tp q_tp h_lw q_lw t49 (by omega) (by omega) (by omega) (by omega) r_v_tp_bytes (by omega) r_v_lw_sign r_v_lw_beside (by first | assumption | omega) (by first | assumption | omega) (by first | assumption | omega) (by first | assumption | omega) (by first | assumption | omega) (by first | assumption | omega) (by first | assumption | omega)) cv_X3_readChoice uw595 ⟨rfl, rfl, (by dsimp only; omega), (by dsimp only; omega)⟩ 0 rfl rfl rfl rfl rfl (Nat.le_of_ble_eq_true rfl) ⟨Nat.zero_le _, Nat.zero_le _⟩ dX3_readTest_65 (fun ws65 k65 => ?_)
            obtain ⟨tp_at_65, tp_fault_65, tp_faultAt_65, lw_length_65, lw_sign_65, lw_beside_65, kr_tp_at_65, kr_tp_fault_65, kr_tp_faultAt_65, kr_lw_length_65, r_lw_sign_65, r_lw_beside_65, kp0_65, kp1_65, kp2_65, kp3_65, kp4_65, kp5_65, kp6_65, kp7_65, rfl⟩ := k65
            refine g_aload_n X dX3_readTest_68 1 rfl ?_
            refine gX3_get X 0 rfl 0 (by decide) uw242 rfl dX3_readTest_69 ?_
            refine g_bipush X (z := 41) dX3_readTest_72 (by decide) ?_
            refine g_callVVw X (c_X7_pass l D cI cB cJ h_tp q_tp (p0 := 41) (by omega) (by omega) (by omega) (by omega) r_v_tp_bytes (by first | assumption | omega) (by first | assumption | omega) (by first | assumption | omega)) [1, 2, 3] rfl rfl rfl cv_X7_pass uw529 ⟨rfl, rfl, (by dsimp only; omega), (by dsimp only; omega)⟩ 0 rfl rfl rfl rfl rfl (Nat.le_of_ble_eq_true rfl) ⟨Nat.zero_le _, Nat.zero_le _⟩ dX3_readTest_74 (fun ws74 k74 => ?_)
            obtain ⟨tp_at_74, tp_fault_74, tp_faultAt_74, kr_tp_at_74, kr_tp_fault_74, kr_tp_faultAt_74, kp0_74, kp1_74, kp2_74, kp3_74, rfl⟩ := k74
            refine ⟨rfl, ?_⟩
            refine g_ws (ws2 := ((wX3 cI cB cJ h q h_tp (.ref h_lw)) ++ (wX7 cI cB cJ h_tp q_tp v_tp_length v_tp_end tp_at_74 tp_fault_74 tp_faultAt_74 v_tp_bytes v_tp_taken) ++ (wX2 cI cB cJ h_lw q_lw v_lw_size lw_length_65 v_lw_height v_lw_letter v_lw_valueAt v_lw_testAt v_lw_endAt lw_sign_65 lw_beside_65 v_lw_seen v_lw_stack))) rfl ?_
            refine g_goto X (tgt := 148) dX3_readTest_77 (by decide) ?_
            refine g_lv [1, 2, 3] rfl ?_
            exact J148 tp_at_74 tp_fault_74 tp_faultAt_74 lw_length_65 lw_sign_65 lw_beside_65 (by omega) (by omega) (by omega) (by omega) r_lw_sign_65 r_lw_beside_65 (by first | assumption | omega) (by first | assumption | omega) (by first | assumption | omega) (by first | assumption | (rw [kp2_144, kp3_144]; exact LInv.up kp3_135 _ _ _ (fun h => by omega))) (by first | assumption | exact Same.refl _ _ | (rw [kp2_144]; exact Same.up (Same.trans kp4_82 kp4_135 (by omega)) (by omega))) (by first | assumption | omega) (by first | assumption | omega) (by first | assumption | omega)
      · refine g_aload_n X dX3_readTest_11 0 rfl ?_
        refine gX3_get X 0 rfl 0 (by decide) uw242 rfl dX3_readTest_12 ?_
        refine g_callVIw X (c_X7_sign l D cI cB cJ h_tp q_tp  (by omega) (by omega) (by omega) r_v_tp_bytes) [1, 2, 3] rfl rfl rfl cv_X7_sign uw497 ⟨rfl, rfl, (by dsimp only; omega), (by dsimp only; omega)⟩ 0 rfl rfl rfl rfl rfl (Nat.le_of_ble_eq_true rfl) ⟨Nat.zero_le _, Nat.zero_le _⟩ dX3_readTest_15 (fun t15 ws15 k15 => ?_)
        obtain ⟨kp0_15, kp1_15, kp2_15, rfl⟩ := k15
        refine ⟨rfl, ?_⟩
        refine g_ws (ws2 := ((wX3 cI cB cJ h q h_tp (.ref h_lw)) ++ (wX7 cI cB cJ h_tp q_tp v_tp_length v_tp_end tp_at_4 tp_fault_4 tp_faultAt_4 v_tp_bytes v_tp_taken) ++ (wX2 cI cB cJ h_lw q_lw v_lw_size v_lw_length v_lw_height v_lw_letter v_lw_valueAt v_lw_testAt v_lw_endAt v_lw_sign v_lw_beside v_lw_seen v_lw_stack))) rfl ?_
        refine g_bipush X (z := 33) dX3_readTest_18 (by decide) ?_
        refine g_icmp_ne X (tgt := 35) dX3_readTest_20 (by decide) (by omega) (by omega) (fun c20 => ?_) (fun c20 => ?_)
        · have J148 : ∀ (tp_at_148 : Int) (tp_fault_148 : Int) (tp_faultAt_148 : Int) (lw_length_148 : Int) (lw_sign_148 : Nat → Int) (lw_beside_148 : Nat → Int), (0 ≤ tp_at_148 ∧ tp_at_148 ≤ 260) → (0 ≤ tp_fault_148 ∧ tp_fault_148 ≤ 8) → (0 ≤ tp_faultAt_148 ∧ tp_faultAt_148 ≤ 260) → (0 ≤ lw_length_148 ∧ lw_length_148 ≤ 256) → (RA (-2147483648) 2147483647 lw_sign_148) → (RA 0 99999 lw_beside_148) → (v_tp_at ≤ tp_at_148) → (tp_at_148 ≤ v_tp_end) → (v_lw_length ≤ lw_length_148) → (LInv lw_sign_148 lw_beside_148) → (Same v_lw_length v_lw_sign lw_sign_148) → (v_tp_fault ≠ 0 → tp_fault_148 ≠ 0) → (lw_length_148 - tp_at_148 ≤ v_lw_length - v_tp_at + 1 - (x2_4 - p0)) → (tp_fault_148 = 0 → lw_length_148 - tp_at_148 ≤ v_lw_length - v_tp_at - (x2_4 - p0)) → GG p l e ⟨40 + 4 * lev, 0, 0, 930 + 75 * lev⟩ s m args below meth c 0 0 Q D A s.heap 4 ((wX3 cI cB cJ h q h_tp (.ref h_lw)) ++ (wX7 cI cB cJ h_tp q_tp v_tp_length v_tp_end tp_at_148 tp_fault_148 tp_faultAt_148 v_tp_bytes v_tp_taken) ++ (wX2 cI cB cJ h_lw q_lw v_lw_size lw_length_148 v_lw_height v_lw_letter v_lw_valueAt v_lw_testAt v_lw_endAt lw_sign_148 lw_beside_148 v_lw_seen v_lw_stack)) 148 [(0, .ref h), (1, vI p0), (2, vI x2_4)] [] := by
            intro tp_at_148 tp_fault_148 tp_faultAt_148 lw_length_148 lw_sign_148 lw_beside_148 kr_tp_at_148 kr_tp_fault_148 kr_tp_faultAt_148 kr_lw_length_148 r_lw_sign_148 r_lw_beside_148 w148_0 w148_1 w148_2 w148_3 w148_4 w148_5 w148_6 w148_7
            refine g_iload_n X dX3_readTest_148 2 rfl ?_
            refine g_iload_n X dX3_readTest_149 1 rfl ?_
            refine g_isub X dX3_readTest_150 ?_
            refine g_iconst X dX3_readTest_151 ?_
            refine g_iand X dX3_readTest_152 ?_
            refine g_nm (fun t152 e152 => ?_)
            have r152 := z_iand_r (x2_4 - p0) 1 (by omega) (by omega); rw [← e152] at r152
            have hz : x2_4 = p0 → t152 = 0 := fun h => by rw [e152, h, Int.sub_self]; exact z_iand01
            refine g_if_eq X (tgt := 167) dX3_readTest_153 (by decide) (by omega) (fun c153 => ?_) (fun c153 => ?_)
            · exact hQ _ _ _ dX3_readTest_167 ⟨tp_at_148, tp_fault_148, tp_faultAt_148, lw_length_148, lw_sign_148, lw_beside_148, (by omega), (by omega), (by omega), (by omega), r_lw_sign_148, r_lw_beside_148, (by first | assumption | omega), (by first | assumption | omega), (by first | assumption | omega), (by first | assumption | (rw [kp2_163, kp3_163]; exact LInv.up w148_3 _ _ _ (fun h => by omega))), (by first | assumption | exact Same.refl _ _ | (rw [kp2_163]; exact Same.up w148_4 (by omega))), (by first | assumption | omega), (by first | assumption | omega), (by first | assumption | omega), rfl⟩
            · refine g_aload_n X dX3_readTest_156 0 rfl ?_
              refine gX3_get X 0 rfl 1 (by decide) uw243 rfl dX3_readTest_157 ?_
              refine g_bipush X (z := 33) dX3_readTest_160 (by decide) ?_
              refine g_iconst X dX3_readTest_162 ?_
              refine g_callVIw X (c_X2_add l D cI cB cJ h_lw q_lw (p0 := 33) (p1 := 0) (by omega) r_lw_sign_148 r_lw_beside_148 (by first | assumption | omega) (by first | assumption | omega) (by first | assumption | omega) (by first | assumption | omega)) [4, 5, 6, 7, 8, 9, 10, 11, 12] rfl rfl rfl cv_X2_add uw544 ⟨rfl, rfl, (by dsimp only; omega), (by dsimp only; omega)⟩ 0 rfl rfl rfl rfl rfl (Nat.le_of_ble_eq_true rfl) ⟨Nat.zero_le _, Nat.zero_le _⟩ dX3_readTest_163 (fun t163 ws163 k163 => ?_)
              obtain ⟨lw_length_163, lw_sign_163, lw_beside_163, kr_lw_length_163, r_lw_sign_163, r_lw_beside_163, kp0_163, kp1_163, kp2_163, kp3_163, rfl⟩ := k163
              refine ⟨rfl, ?_⟩
              refine g_ws (ws2 := ((wX3 cI cB cJ h q h_tp (.ref h_lw)) ++ (wX7 cI cB cJ h_tp q_tp v_tp_length v_tp_end tp_at_148 tp_fault_148 tp_faultAt_148 v_tp_bytes v_tp_taken) ++ (wX2 cI cB cJ h_lw q_lw v_lw_size lw_length_163 v_lw_height v_lw_letter v_lw_valueAt v_lw_testAt v_lw_endAt lw_sign_163 lw_beside_163 v_lw_seen v_lw_stack))) rfl ?_
              refine g_pop X rfl dX3_readTest_166 ?_
              exact hQ _ _ _ dX3_readTest_167 ⟨tp_at_148, tp_fault_148, tp_faultAt_148, lw_length_163, lw_sign_163, lw_beside_163, (by omega), (by omega), (by omega), (by omega), r_lw_sign_163, r_lw_beside_163, (by first | assumption | omega), (by first | assumption | omega), (by first | assumption | omega), (by first | assumption | (rw [kp2_163, kp3_163]; exact LInv.up w148_3 _ _ _ (fun h => by omega))), (by first | assumption | exact Same.refl _ _ | (rw [kp2_163]; exact Same.up w148_4 (by omega))), (by first | assumption | omega), (by first | assumption | omega), (by first | assumption | omega), rfl⟩
          refine g_aload_n X dX3_readTest_35 0 rfl ?_
          refine gX3_get X 0 rfl 0 (by decide) uw242 rfl dX3_readTest_36 ?_
          refine g_callVIw X (c_X7_sign l D cI cB cJ h_tp q_tp  (by omega) (by omega) (by omega) r_v_tp_bytes) [1, 2, 3] rfl rfl rfl cv_X7_sign uw497 ⟨rfl, rfl, (by dsimp only; omega), (by dsimp only; omega)⟩ 0 rfl rfl rfl rfl rfl (Nat.le_of_ble_eq_true rfl) ⟨Nat.zero_le _, Nat.zero_le _⟩ dX3_readTest_39 (fun t39 ws39 k39 => ?_)
          obtain ⟨kp0_39, kp1_39, kp2_39, rfl⟩ := k39
          refine ⟨rfl, ?_⟩
          refine g_ws (ws2 := ((wX3 cI cB cJ h q h_tp (.ref h_lw)) ++ (wX7 cI cB cJ h_tp q_tp v_tp_length v_tp_end tp_at_4 tp_fault_4 tp_faultAt_4 v_tp_bytes v_tp_taken) ++ (wX2 cI cB cJ h_lw q_lw v_lw_size v_lw_length v_lw_height v_lw_letter v_lw_valueAt v_lw_testAt v_lw_endAt v_lw_sign v_lw_beside v_lw_seen v_lw_stack))) rfl ?_
          refine g_bipush X (z := 40) dX3_readTest_42 (by decide) ?_
          refine g_icmp_ne X (tgt := 80) dX3_readTest_44 (by decide) (by omega) (by omega) (fun c44 => ?_) (fun c44 => ?_)
          · refine g_aload_n X dX3_readTest_80 0 rfl ?_
            refine g_iload_n X dX3_readTest_81 2 rfl ?_
            refine g_callVV0 X (all_X3_readSum 6 l D cI cB cJ h q h_tp q_tp h_lw q_lw x2_4 (by omega) (by omega) (by omega) (by omega) r_v_tp_bytes (by omega) r_v_lw_sign r_v_lw_beside (by first | assumption | omega) (by first | assumption | omega) (by first | assumption | omega) (by first | assumption | omega) (by first | assumption | omega) (by first | assumption | omega) (by first | assumption | omega)) cv_X3_readSum uw509 ⟨rfl, rfl, (by dsimp only; omega), (by dsimp only; omega)⟩ 0 rfl rfl rfl rfl rfl (Nat.le_of_ble_eq_true rfl) ⟨Nat.zero_le _, Nat.zero_le _⟩ dX3_readTest_82 (fun ws82 k82 => ?_)
            obtain ⟨tp_at_82, tp_fault_82, tp_faultAt_82, lw_length_82, lw_sign_82, lw_beside_82, kr_tp_at_82, kr_tp_fault_82, kr_tp_faultAt_82, kr_lw_length_82, r_lw_sign_82, r_lw_beside_82, kp0_82, kp1_82, kp2_82, kp3_82, kp4_82, kp5_82, kp6_82, rfl⟩ := k82
            refine g_aload_n X dX3_readTest_85 0 rfl ?_
            refine gX3_get X 0 rfl 0 (by decide) uw242 rfl dX3_readTest_86 ?_
            refine g_callVIw X (c_X7_sign l D cI cB cJ h_tp q_tp  (by omega) (by omega) (by omega) r_v_tp_bytes) [1, 2, 3] rfl rfl rfl cv_X7_sign uw497 ⟨rfl, rfl, (by dsimp only; omega), (by dsimp only; omega)⟩ 0 rfl rfl rfl rfl rfl (Nat.le_of_ble_eq_true rfl) ⟨Nat.zero_le _, Nat.zero_le _⟩ dX3_readTest_89 (fun t89 ws89 k89 => ?_)
            obtain ⟨kp0_89, kp1_89, kp2_89, rfl⟩ := k89
            refine ⟨rfl, ?_⟩
            refine g_ws (ws2 := ((wX3 cI cB cJ h q h_tp (.ref h_lw)) ++ (wX7 cI cB cJ h_tp q_tp v_tp_length v_tp_end tp_at_82 tp_fault_82 tp_faultAt_82 v_tp_bytes v_tp_taken) ++ (wX2 cI cB cJ h_lw q_lw v_lw_size lw_length_82 v_lw_height v_lw_letter v_lw_valueAt v_lw_testAt v_lw_endAt lw_sign_82 lw_beside_82 v_lw_seen v_lw_stack))) rfl ?_
            refine g_istore_n X (lv' := [(3, vI t89), (0, .ref h), (1, vI p0), (2, vI x2_4)]) dX3_readTest_92 (by decide) rfl ?_
            have J126 : ∀ (tp_fault_126 : Int) (tp_faultAt_126 : Int), (0 ≤ tp_fault_126 ∧ tp_fault_126 ≤ 8) → (0 ≤ tp_faultAt_126 ∧ tp_faultAt_126 ≤ 260) → ((t89 = 60 ∨ t89 = 62 ∨ t89 = 61) ∨ tp_fault_126 ≠ 0) → (v_tp_fault ≠ 0 → tp_fault_126 ≠ 0) → GG p l e ⟨40 + 4 * lev, 0, 0, 930 + 75 * lev⟩ s m args below meth c 0 0 Q D A s.heap 4 ((wX3 cI cB cJ h q h_tp (.ref h_lw)) ++ (wX7 cI cB cJ h_tp q_tp v_tp_length v_tp_end tp_at_82 tp_fault_126 tp_faultAt_126 v_tp_bytes v_tp_taken) ++ (wX2 cI cB cJ h_lw q_lw v_lw_size lw_length_82 v_lw_height v_lw_letter v_lw_valueAt v_lw_testAt v_lw_endAt lw_sign_82 lw_beside_82 v_lw_seen v_lw_stack)) 126 [(0, .ref h), (1, vI p0), (2, vI x2_4), (3, vI t89)] [] := by
              intro tp_fault_126 tp_faultAt_126 kr_tp_fault_126 kr_tp_faultAt_126 w126_0 w126_1
              refine g_aload_n X dX3_readTest_126 0 rfl ?_
              refine gX3_get X 0 rfl 0 (by decide) uw242 rfl dX3_readTest_127 ?_
              refine g_callVVw X (c_X7_step l D cI cB cJ h_tp q_tp  (by omega) (by omega) (by omega) (by first | assumption | omega)) [1, 2, 3] rfl rfl rfl cv_X7_step uw505 ⟨rfl, rfl, (by dsimp only; omega), (by dsimp only; omega)⟩ 0 rfl rfl rfl rfl rfl (Nat.le_of_ble_eq_true rfl) ⟨Nat.zero_le _, Nat.zero_le _⟩ dX3_readTest_130 (fun ws130 k130 => ?_)
              obtain ⟨tp_at_130, kr_tp_at_130, kp0_130, kp1_130, rfl⟩ := k130
              refine ⟨rfl, ?_⟩
              refine g_ws (ws2 := ((wX3 cI cB cJ h q h_tp (.ref h_lw)) ++ (wX7 cI cB cJ h_tp q_tp v_tp_length v_tp_end tp_at_130 tp_fault_126 tp_faultAt_126 v_tp_bytes v_tp_taken) ++ (wX2 cI cB cJ h_lw q_lw v_lw_size lw_length_82 v_lw_height v_lw_letter v_lw_valueAt v_lw_testAt v_lw_endAt lw_sign_82 lw_beside_82 v_lw_seen v_lw_stack))) rfl ?_
              refine g_aload_n X dX3_readTest_133 0 rfl ?_
              refine g_iload_n X dX3_readTest_134 2 rfl ?_
              refine g_callVV0 X (all_X3_readSum 6 l D cI cB cJ h q h_tp q_tp h_lw q_lw x2_4 (by omega) (by omega) (by omega) (by omega) r_v_tp_bytes (by omega) r_lw_sign_82 r_lw_beside_82 (by first | assumption | omega) (by first | assumption | omega) (by first | assumption | omega) (by first | assumption | omega) (by first | assumption | omega) (by first | assumption | omega) (by first | assumption | omega)) cv_X3_readSum uw509 ⟨rfl, rfl, (by dsimp only; omega), (by dsimp only; omega)⟩ 0 rfl rfl rfl rfl rfl (Nat.le_of_ble_eq_true rfl) ⟨Nat.zero_le _, Nat.zero_le _⟩ dX3_readTest_135 (fun ws135 k135 => ?_)
              obtain ⟨tp_at_135, tp_fault_135, tp_faultAt_135, lw_length_135, lw_sign_135, lw_beside_135, kr_tp_at_135, kr_tp_fault_135, kr_tp_faultAt_135, kr_lw_length_135, r_lw_sign_135, r_lw_beside_135, kp0_135, kp1_135, kp2_135, kp3_135, kp4_135, kp5_135, kp6_135, rfl⟩ := k135
              refine g_aload_n X dX3_readTest_138 0 rfl ?_
              refine gX3_get X 0 rfl 1 (by decide) uw243 rfl dX3_readTest_139 ?_
              refine g_iload_n X dX3_readTest_142 3 rfl ?_
              refine g_iconst X dX3_readTest_143 ?_
              refine g_callVIw X (c_X2_add l D cI cB cJ h_lw q_lw (p0 := t89) (p1 := 0) (by omega) r_lw_sign_135 r_lw_beside_135 (by first | assumption | omega) (by first | assumption | omega) (by first | assumption | omega) (by first | assumption | omega)) [4, 5, 6, 7, 8, 9, 10, 11, 12] rfl rfl rfl cv_X2_add uw544 ⟨rfl, rfl, (by dsimp only; omega), (by dsimp only; omega)⟩ 0 rfl rfl rfl rfl rfl (Nat.le_of_ble_eq_true rfl) ⟨Nat.zero_le _, Nat.zero_le _⟩ dX3_readTest_144 (fun t144 ws144 k144 => ?_)
              obtain ⟨lw_length_144, lw_sign_144, lw_beside_144, kr_lw_length_144, r_lw_sign_144, r_lw_beside_144, kp0_144, kp1_144, kp2_144, kp3_144, rfl⟩ := k144
              refine ⟨rfl, ?_⟩
              refine g_ws (ws2 := ((wX3 cI cB cJ h q h_tp (.ref h_lw)) ++ (wX7 cI cB cJ h_tp q_tp v_tp_length v_tp_end tp_at_135 tp_fault_135 tp_faultAt_135 v_tp_bytes v_tp_taken) ++ (wX2 cI cB cJ h_lw q_lw v_lw_size lw_length_144 v_lw_height v_lw_letter v_lw_valueAt v_lw_testAt v_lw_endAt lw_sign_144 lw_beside_144 v_lw_seen v_lw_stack))) rfl ?_
              refine g_pop X rfl dX3_readTest_147 ?_
              refine g_lv [0, 1, 2] rfl ?_
              exact J148 tp_at_135 tp_fault_135 tp_faultAt_135 lw_length_144 lw_sign_144 lw_beside_144 (by omega) (by omega) (by omega) (by omega) r_lw_sign_144 r_lw_beside_144 (by first | assumption | omega) (by first | assumption | omega) (by first | assumption | omega) (by first | assumption | (rw [kp2_144, kp3_144]; exact LInv.up kp3_135 _ _ _ (fun h => by omega))) (by first | assumption | exact Same.refl _ _ | (rw [kp2_144]; exact Same.up (Same.trans kp4_82 kp4_135 (by omega)) (by omega))) (by first | assumption | omega) (by first | assumption | omega) (by first | assumption | omega)
            refine g_iload_n X dX3_readTest_93 0 rfl ?_
            refine g_bipush X (z := 60) dX3_readTest_94 (by decide) ?_
            refine g_icmp_eq X (tgt := 126) dX3_readTest_96 (by decide) (by omega) (by omega) (fun c96 => ?_) (fun c96 => ?_)
            · refine g_lv [1, 2, 3, 0] rfl ?_
              exact J126 tp_fault_82 tp_faultAt_82 (by omega) (by omega) (by first | assumption | omega) (by first | assumption | omega)
            · refine g_iload_n X dX3_readTest_99 0 rfl ?_
              refine g_bipush X (z := 62) dX3_readTest_100 (by decide) ?_
              refine g_icmp_eq X (tgt := 126) dX3_readTest_102 (by decide) (by omega) (by omega) (fun c102 => ?_) (fun c102 => ?_)
              · refine g_lv [1, 2, 3, 0] rfl ?_
                exact J126 tp_fault_82 tp_faultAt_82 (by omega) (by omega) (by first | assumption | omega) (by first | assumption | omega)
              · refine g_iload_n X dX3_readTest_105 0 rfl ?_
                refine g_bipush X (z := 61) dX3_readTest_106 (by decide) ?_
                refine g_icmp_eq X (tgt := 126) dX3_readTest_108 (by decide) (by omega) (by omega) (fun c108 => ?_) (fun c108 => ?_)
                · refine g_lv [1, 2, 3, 0] rfl ?_
                  exact J126 tp_fault_82 tp_faultAt_82 (by omega) (by omega) (by first | assumption | omega) (by first | assumption | omega)
                · refine g_aload_n X dX3_readTest_111 1 rfl ?_
                  refine gX3_get X 0 rfl 0 (by decide) uw242 rfl dX3_readTest_112 ?_
                  refine g_iconst X dX3_readTest_115 ?_
                  refine g_aload_n X dX3_readTest_116 1 rfl ?_
                  refine gX3_get X 0 rfl 0 (by decide) uw242 rfl dX3_readTest_117 ?_
                  refine gN_get X (T := TX7) 1 rfl rfl inU_X7 4 (by decide) nw140 rfl rfl dX3_readTest_120 ?_
                  refine g_callVVw X (c_X7_fail l D cI cB cJ h_tp q_tp (p0 := 1) (p1 := tp_at_82) (by omega) (by omega) (by first | assumption | omega) (by first | assumption | omega) (by first | assumption | omega) (by first | assumption | omega)) [1, 2, 3] rfl rfl rfl cv_X7_fail uw501 ⟨rfl, rfl, (by dsimp only; omega), (by dsimp only; omega)⟩ 0 rfl rfl rfl rfl rfl (Nat.le_of_ble_eq_true rfl) ⟨Nat.zero_le _, Nat.zero_le _⟩ dX3_readTest_123 (fun ws123 k123 => ?_)
                  obtain ⟨tp_fault_123, tp_faultAt_123, kr_tp_fault_123, kr_tp_faultAt_123, kp0_123, kp1_123, rfl⟩ := k123
                  refine ⟨rfl, ?_⟩
                  refine g_ws (ws2 := ((wX3 cI cB cJ h q h_tp (.ref h_lw)) ++ (wX7 cI cB cJ h_tp q_tp v_tp_length v_tp_end tp_at_82 tp_fault_123 tp_faultAt_123 v_tp_bytes v_tp_taken) ++ (wX2 cI cB cJ h_lw q_lw v_lw_size lw_length_82 v_lw_height v_lw_letter v_lw_valueAt v_lw_testAt v_lw_endAt lw_sign_82 lw_beside_82 v_lw_seen v_lw_stack))) rfl ?_
                  refine g_lv [1, 2, 3, 0] rfl ?_
                  exact J126 tp_fault_123 tp_faultAt_123 (by omega) (by omega) (by first | assumption | omega) (by first | assumption | omega)
          · refine g_aload_n X dX3_readTest_47 0 rfl ?_
            refine g_iload_n X dX3_readTest_48 2 rfl ?_
            refine g_callVIw X (c_X3_open l D cI cB cJ h q h_tp q_tp (p0 := x2_4) (by omega) (by omega) (by omega) (by omega) (by first | assumption | omega) (by first | assumption | omega) (by first | assumption | omega)) [0, 1, 2, 3] rfl rfl rfl cv_X3_open uw521 ⟨rfl, rfl, (by dsimp only; omega), (by dsimp only; omega)⟩ 0 rfl rfl rfl rfl rfl (Nat.le_of_ble_eq_true rfl) ⟨Nat.zero_le _, Nat.zero_le _⟩ dX3_readTest_49 (fun t49 ws49 k49 => ?_)
            obtain ⟨tp_at_49, tp_fault_49, tp_faultAt_49, kr_tp_at_49, kr_tp_fault_49, kr_tp_faultAt_49, kp0_49, rfl⟩ := k49
            refine ⟨rfl, ?_⟩
            refine g_ws (ws2 := ((wX3 cI cB cJ h q h_tp (.ref h_lw)) ++ (wX7 cI cB cJ h_tp q_tp v_tp_length v_tp_end tp_at_49 tp_fault_49 tp_faultAt_49 v_tp_bytes v_tp_taken) ++ (wX2 cI cB cJ h_lw q_lw v_lw_size v_lw_length v_lw_height v_lw_letter v_lw_valueAt v_lw_testAt v_lw_endAt v_lw_sign v_lw_beside v_lw_seen v_lw_stack))) rfl ?_
            refine g_istore_n X (lv' := [(3, vI t49), (0, .ref h), (1, vI p0), (2, vI x2_4)]) dX3_readTest_52 (by decide) rfl ?_
            refine g_aload_n X dX3_readTest_53 1 rfl ?_
            refine gX3_get X 0 rfl 0 (by decide) uw242 rfl dX3_readTest_54 ?_
            refine g_callVIw X (c_X7_hasFailed l D cI cB cJ h_tp q_tp  (by omega)) [1, 2, 3] rfl rfl rfl cv_X7_hasFailed uw525 ⟨rfl, rfl, (by dsimp only; omega), (by dsimp only; omega)⟩ 0 rfl rfl rfl rfl rfl (Nat.le_of_ble_eq_true rfl) ⟨Nat.zero_le _, Nat.zero_le _⟩ dX3_readTest_57 (fun t57 ws57 k57 => ?_)
            obtain ⟨kb_57, ⟨kp0_57, rfl⟩⟩ := k57
            refine ⟨rfl, ?_⟩
            refine g_ws (ws2 := ((wX3 cI cB cJ h q h_tp (.ref h_lw)) ++ (wX7 cI cB cJ h_tp q_tp v_tp_length v_tp_end tp_at_49 tp_fault_49 tp_faultAt_49 v_tp_bytes v_tp_taken) ++ (wX2 cI cB cJ h_lw q_lw v_lw_size v_lw_length v_lw_height v_lw_letter v_lw_valueAt v_lw_testAt v_lw_endAt v_lw_sign v_lw_beside v_lw_seen v_lw_stack))) rfl ?_
            refine g_if_ne X (tgt := 77) dX3_readTest_60 (by decide) (by omega) (fun c60 => ?_) (fun c60 => ?_)
            · replace kb_57 := kb_57.resolve_left (fun h => c60 h)
              replace kp0_57 := kp0_57.resolve_right (fun h => c60 h.1)
              refine g_goto X (tgt := 148) dX3_readTest_77 (by decide) ?_
              refine g_lv [1, 2, 3] rfl ?_
              exact J148 tp_at_49 tp_fault_49 tp_faultAt_49 v_lw_length v_lw_sign v_lw_beside (by omega) (by omega) (by omega) (by omega) r_v_lw_sign r_v_lw_beside (by first | assumption | omega) (by first | assumption | omega) (by first | assumption | omega) (by first | assumption | (rw [kp2_144, kp3_144]; exact LInv.up kp3_135 _ _ _ (fun h => by omega))) (by first | assumption | exact Same.refl _ _ | (rw [kp2_144]; exact Same.up (Same.trans kp4_82 kp4_135 (by omega)) (by omega))) (by first | assumption | omega) (by first | assumption | omega) (by first | assumption | omega)
            · clear kb_57
              replace kp0_57 := (kp0_57.resolve_left (fun h => absurd h.1 (by omega))).2
              obtain ⟨mm, rfl⟩ : ∃ mm, lev = mm + 1 := ⟨lev - 1, by omega⟩
              refine g_aload_n X dX3_readTest_63 1 rfl ?_
              refine g_iload_n X dX3_readTest_64 0 rfl ?_
              refine g_callVV0 X (IH mm rfl l D cI cB cJ h q h_tp q_tp h_lw q_lw t49 (by omega) (by omega) (by omega) (by omega) r_v_tp_bytes (by omega) r_v_lw_sign r_v_lw_beside (by first | assumption | omega) (by first | assumption | omega) (by first | assumption | omega) (by first | assumption | omega) (by first | assumption | omega) (by first | assumption | omega) (by first | assumption | omega)) cv_X3_readChoice uw595 ⟨rfl, rfl, (by dsimp only; omega), (by dsimp only; omega)⟩ 0 rfl rfl rfl rfl rfl (Nat.le_of_ble_eq_true rfl) ⟨Nat.zero_le _, Nat.zero_le _⟩ dX3_readTest_65 (fun ws65 k65 => ?_)
              obtain ⟨tp_at_65, tp_fault_65, tp_faultAt_65, lw_length_65, lw_sign_65, lw_beside_65, kr_tp_at_65, kr_tp_fault_65, kr_tp_faultAt_65, kr_lw_length_65, r_lw_sign_65, r_lw_beside_65, kp0_65, kp1_65, kp2_65, kp3_65, kp4_65, kp5_65, kp6_65, kp7_65, rfl⟩ := k65
              refine g_aload_n X dX3_readTest_68 1 rfl ?_
              refine gX3_get X 0 rfl 0 (by decide) uw242 rfl dX3_readTest_69 ?_
              refine g_bipush X (z := 41) dX3_readTest_72 (by decide) ?_
              refine g_callVVw X (c_X7_pass l D cI cB cJ h_tp q_tp (p0 := 41) (by omega) (by omega) (by omega) (by omega) r_v_tp_bytes (by first | assumption | omega) (by first | assumption | omega) (by first | assumption | omega)) [1, 2, 3] rfl rfl rfl cv_X7_pass uw529 ⟨rfl, rfl, (by dsimp only; omega), (by dsimp only; omega)⟩ 0 rfl rfl rfl rfl rfl (Nat.le_of_ble_eq_true rfl) ⟨Nat.zero_le _, Nat.zero_le _⟩ dX3_readTest_74 (fun ws74 k74 => ?_)
              obtain ⟨tp_at_74, tp_fault_74, tp_faultAt_74, kr_tp_at_74, kr_tp_fault_74, kr_tp_faultAt_74, kp0_74, kp1_74, kp2_74, kp3_74, rfl⟩ := k74
              refine ⟨rfl, ?_⟩
              refine g_ws (ws2 := ((wX3 cI cB cJ h q h_tp (.ref h_lw)) ++ (wX7 cI cB cJ h_tp q_tp v_tp_length v_tp_end tp_at_74 tp_fault_74 tp_faultAt_74 v_tp_bytes v_tp_taken) ++ (wX2 cI cB cJ h_lw q_lw v_lw_size lw_length_65 v_lw_height v_lw_letter v_lw_valueAt v_lw_testAt v_lw_endAt lw_sign_65 lw_beside_65 v_lw_seen v_lw_stack))) rfl ?_
              refine g_goto X (tgt := 148) dX3_readTest_77 (by decide) ?_
              refine g_lv [1, 2, 3] rfl ?_
              exact J148 tp_at_74 tp_fault_74 tp_faultAt_74 lw_length_65 lw_sign_65 lw_beside_65 (by omega) (by omega) (by omega) (by omega) r_lw_sign_65 r_lw_beside_65 (by first | assumption | omega) (by first | assumption | omega) (by first | assumption | omega) (by first | assumption | (rw [kp2_144, kp3_144]; exact LInv.up kp3_135 _ _ _ (fun h => by omega))) (by first | assumption | exact Same.refl _ _ | (rw [kp2_144]; exact Same.up (Same.trans kp4_82 kp4_135 (by omega)) (by omega))) (by first | assumption | omega) (by first | assumption | omega) (by first | assumption | omega)
        · refine g_aload_n X dX3_readTest_23 0 rfl ?_
          refine g_iload_n X dX3_readTest_24 2 rfl ?_
          refine g_callVIw X (c_X3_open l D cI cB cJ h q h_tp q_tp (p0 := x2_4) (by omega) (by omega) (by omega) (by omega) (by first | assumption | omega) (by first | assumption | omega) (by first | assumption | omega)) [0, 1, 2, 3] rfl rfl rfl cv_X3_open uw521 ⟨rfl, rfl, (by dsimp only; omega), (by dsimp only; omega)⟩ 0 rfl rfl rfl rfl rfl (Nat.le_of_ble_eq_true rfl) ⟨Nat.zero_le _, Nat.zero_le _⟩ dX3_readTest_25 (fun t25 ws25 k25 => ?_)
          obtain ⟨tp_at_25, tp_fault_25, tp_faultAt_25, kr_tp_at_25, kr_tp_fault_25, kr_tp_faultAt_25, kp0_25, rfl⟩ := k25
          refine ⟨rfl, ?_⟩
          refine g_ws (ws2 := ((wX3 cI cB cJ h q h_tp (.ref h_lw)) ++ (wX7 cI cB cJ h_tp q_tp v_tp_length v_tp_end tp_at_25 tp_fault_25 tp_faultAt_25 v_tp_bytes v_tp_taken) ++ (wX2 cI cB cJ h_lw q_lw v_lw_size v_lw_length v_lw_height v_lw_letter v_lw_valueAt v_lw_testAt v_lw_endAt v_lw_sign v_lw_beside v_lw_seen v_lw_stack))) rfl ?_
          refine g_istore_n X (lv' := [(2, vI t25), (0, .ref h), (1, vI p0), (3, vI x3_4)]) dX3_readTest_28 (by decide) rfl ?_
          refine g_iinc X (lv' := [(3, vI (x3_4 + 1)), (2, vI t25), (0, .ref h), (1, vI p0)]) dX3_readTest_29 3 rfl (by decide) rfl ?_
          refine g_goto X (tgt := 4) dX3_readTest_32 (by decide) ?_
          refine g_lv [2, 3, 1, 0] rfl ?_
          exact ih4 t25 (x3_4 + 1) tp_at_25 tp_fault_25 tp_faultAt_25 (by omega) (by omega) (by omega) (by first | assumption | omega) (by first | assumption | omega) (by first | assumption | omega) (by first | assumption | omega) (by first | assumption | omega) (by first | assumption | omega) (by omega)
  refine g_lv [2, 3, 1, 0] rfl ?_
  exact L4 _ p0 0 v_tp_at v_tp_fault v_tp_faultAt (by omega) (by omega) (by omega) (by first | assumption | omega) (by first | assumption | omega) (by first | assumption | omega) (by first | assumption | omega) (by first | assumption | omega) (by first | assumption | omega) (Nat.lt_succ_self _)
set_option maxHeartbeats 1500000 in
set_option maxRecDepth 100000 in
theorem r_X3_readPart (lev : Nat) (HT : PS_X3_readTest lev) : PS_X3_readPart lev := by
  intro l D cI cB cJ h q h_tp q_tp h_lw q_lw v_tp_length v_tp_end v_tp_at v_tp_fault v_tp_faultAt v_lw_size v_lw_length v_lw_height v_tp_bytes v_tp_taken v_lw_letter v_lw_valueAt v_lw_testAt v_lw_endAt v_lw_sign v_lw_beside v_lw_seen v_lw_stack p0 kr_v_tp_end kr_v_tp_at kr_v_tp_fault kr_v_tp_faultAt r_v_tp_bytes kr_v_lw_length r_v_lw_sign r_v_lw_beside hp0 hp1 hp2 hp3 hp4 hp5 hp6
  refine hdrV (own := RX3) rfl (by decide +kernel) (Nat.le_of_ble_eq_true rfl) ?_
  intro p e s m args below meth c Q A X hQ
  refine g_lvE (lv2 := [(0, .ref h), (1, vI p0)]) rfl ?_
  refine g_aload_n X dX3_readPart_0 0 rfl ?_
  refine g_iload_n X dX3_readPart_1 1 rfl ?_
  refine g_callVV0 X (HT l D cI cB cJ h q h_tp q_tp h_lw q_lw p0 (by omega) (by omega) (by omega) (by omega) r_v_tp_bytes (by omega) r_v_lw_sign r_v_lw_beside (by first | assumption | omega) (by first | assumption | omega) (by first | assumption | omega) (by first | assumption | omega) (by first | assumption | omega) (by first | assumption | omega) (by first | assumption | omega)) cv_X3_readTest uw603 ⟨rfl, rfl, (by dsimp only; omega), (by dsimp only; omega)⟩ 0 rfl rfl rfl rfl rfl (Nat.le_of_ble_eq_true rfl) ⟨Nat.zero_le _, Nat.zero_le _⟩ dX3_readPart_2 (fun ws2 k2 => ?_)
  obtain ⟨tp_at_2, tp_fault_2, tp_faultAt_2, lw_length_2, lw_sign_2, lw_beside_2, kr_tp_at_2, kr_tp_fault_2, kr_tp_faultAt_2, kr_lw_length_2, r_lw_sign_2, r_lw_beside_2, kp0_2, kp1_2, kp2_2, kp3_2, kp4_2, kp5_2, kp6_2, kp7_2, rfl⟩ := k2
  refine g_iconst X dX3_readPart_5 ?_
  refine g_istore_n X (lv' := [(2, vI 0), (0, .ref h), (1, vI p0)]) dX3_readPart_6 (by decide) rfl ?_
  have L7 : ∀ (n : Nat) (x2_7 : Int) (tp_at_7 : Int) (tp_fault_7 : Int) (tp_faultAt_7 : Int) (lw_length_7 : Int) (lw_sign_7 : Nat → Int) (lw_beside_7 : Nat → Int), (0 ≤ tp_at_7 ∧ tp_at_7 ≤ 260) → (0 ≤ tp_fault_7 ∧ tp_fault_7 ≤ 8) → (0 ≤ tp_faultAt_7 ∧ tp_faultAt_7 ≤ 260) → (0 ≤ lw_length_7 ∧ lw_length_7 ≤ 256) → (RA (-2147483648) 2147483647 lw_sign_7) → (RA 0 99999 lw_beside_7) → (0 ≤ x2_7 ∧ x2_7 ≤ 240) → (v_tp_at ≤ tp_at_7) → (tp_at_7 ≤ v_tp_end) → (v_lw_length ≤ lw_length_7) → (LInv lw_sign_7 lw_beside_7) → (Same v_lw_length v_lw_sign lw_sign_7) → (v_tp_fault ≠ 0 → tp_fault_7 ≠ 0) → (lw_length_7 - tp_at_7 ≤ v_lw_length - v_tp_at + 1) → (tp_fault_7 = 0 → lw_length_7 - tp_at_7 ≤ v_lw_length - v_tp_at) → (240 - x2_7).toNat < n → GG p l e ⟨41 + 4 * lev, 0, 0, 955 + 75 * lev⟩ s m args below meth c 0 0 Q D A s.heap 4 ((wX3 cI cB cJ h q h_tp (.ref h_lw)) ++ (wX7 cI cB cJ h_tp q_tp v_tp_length v_tp_end tp_at_7 tp_fault_7 tp_faultAt_7 v_tp_bytes v_tp_taken) ++ (wX2 cI cB cJ h_lw q_lw v_lw_size lw_length_7 v_lw_height v_lw_letter v_lw_valueAt v_lw_testAt v_lw_endAt lw_sign_7 lw_beside_7 v_lw_seen v_lw_stack)) 7 [(0, .ref h), (1, vI p0), (2, vI x2_7)] [] := by
    intro n
    induction n with
    | zero => intros; exfalso; omega
    | succ n ih7 =>
      intro x2_7 tp_at_7 tp_fault_7 tp_faultAt_7 lw_length_7 lw_sign_7 lw_beside_7 kr_tp_at_7 kr_tp_fault_7 kr_tp_faultAt_7 kr_lw_length_7 r_lw_sign_7 r_lw_beside_7 w7_0 w7_1 w7_2 w7_3 w7_4 w7_5 w7_6 w7_7 w7_8 wm7
      refine g_iload_n X dX3_readPart_7 2 rfl ?_
      refine g_sipush X (z := 240) dX3_readPart_8 (by decide) ?_
      refine g_icmp_ge X (tgt := 63) dX3_readPart_11 (by decide) (by omega) (by omega) (fun c11 => ?_) (fun c11 => ?_)
      · exact hQ _ _ _ dX3_readPart_63 ⟨tp_at_7, tp_fault_7, tp_faultAt_7, lw_length_7, lw_sign_7, lw_beside_7, (by omega), (by omega), (by omega), (by omega), r_lw_sign_7, r_lw_beside_7, (by first | assumption | omega), (by first | assumption | omega), (by first | assumption | omega), (by first | assumption | omega), (by first | assumption | omega), (by first | assumption | omega), (by first | assumption | omega), (by first | assumption | omega), rfl⟩
      · refine g_aload_n X dX3_readPart_14 0 rfl ?_
        refine gX3_get X 0 rfl 0 (by decide) uw242 rfl dX3_readPart_15 ?_
        refine g_callVIw X (c_X7_sign l D cI cB cJ h_tp q_tp  (by omega) (by omega) (by omega) r_v_tp_bytes) [1, 2, 3] rfl rfl rfl cv_X7_sign uw497 ⟨rfl, rfl, (by dsimp only; omega), (by dsimp only; omega)⟩ 0 rfl rfl rfl rfl rfl (Nat.le_of_ble_eq_true rfl) ⟨Nat.zero_le _, Nat.zero_le _⟩ dX3_readPart_18 (fun t18 ws18 k18 => ?_)
        obtain ⟨kp0_18, kp1_18, kp2_18, rfl⟩ := k18
        refine ⟨rfl, ?_⟩
        refine g_ws (ws2 := ((wX3 cI cB cJ h q h_tp (.ref h_lw)) ++ (wX7 cI cB cJ h_tp q_tp v_tp_length v_tp_end tp_at_7 tp_fault_7 tp_faultAt_7 v_tp_bytes v_tp_taken) ++ (wX2 cI cB cJ h_lw q_lw v_lw_size lw_length_7 v_lw_height v_lw_letter v_lw_valueAt v_lw_testAt v_lw_endAt lw_sign_7 lw_beside_7 v_lw_seen v_lw_stack))) rfl ?_
        refine g_bipush X (z := 38) dX3_readPart_21 (by decide) ?_
        refine g_icmp_ne X (tgt := 63) dX3_readPart_23 (by decide) (by omega) (by omega) (fun c23 => ?_) (fun c23 => ?_)
        · exact hQ _ _ _ dX3_readPart_63 ⟨tp_at_7, tp_fault_7, tp_faultAt_7, lw_length_7, lw_sign_7, lw_beside_7, (by omega), (by omega), (by omega), (by omega), r_lw_sign_7, r_lw_beside_7, (by first | assumption | omega), (by first | assumption | omega), (by first | assumption | omega), (by first | assumption | omega), (by first | assumption | omega), (by first | assumption | omega), (by first | assumption | omega), (by first | assumption | omega), rfl⟩
        · refine g_aload_n X dX3_readPart_26 0 rfl ?_
          refine gX3_get X 0 rfl 0 (by decide) uw242 rfl dX3_readPart_27 ?_
          refine g_callVVw X (c_X7_step l D cI cB cJ h_tp q_tp  (by omega) (by omega) (by omega) (by first | assumption | omega)) [1, 2, 3] rfl rfl rfl cv_X7_step uw505 ⟨rfl, rfl, (by dsimp only; omega), (by dsimp only; omega)⟩ 0 rfl rfl rfl rfl rfl (Nat.le_of_ble_eq_true rfl) ⟨Nat.zero_le _, Nat.zero_le _⟩ dX3_readPart_30 (fun ws30 k30 => ?_)
          obtain ⟨tp_at_30, kr_tp_at_30, kp0_30, kp1_30, rfl⟩ := k30
          refine ⟨rfl, ?_⟩
          refine g_ws (ws2 := ((wX3 cI cB cJ h q h_tp (.ref h_lw)) ++ (wX7 cI cB cJ h_tp q_tp v_tp_length v_tp_end tp_at_30 tp_fault_7 tp_faultAt_7 v_tp_bytes v_tp_taken) ++ (wX2 cI cB cJ h_lw q_lw v_lw_size lw_length_7 v_lw_height v_lw_letter v_lw_valueAt v_lw_testAt v_lw_endAt lw_sign_7 lw_beside_7 v_lw_seen v_lw_stack))) rfl ?_
          refine g_aload_n X dX3_readPart_33 0 rfl ?_
          refine gX3_get X 0 rfl 1 (by decide) uw243 rfl dX3_readPart_34 ?_
          refine g_bipush X (z := 38) dX3_readPart_37 (by decide) ?_
          refine g_iconst X dX3_readPart_39 ?_
          refine g_callVIw X (c_X2_add l D cI cB cJ h_lw q_lw (p0 := 38) (p1 := 0) (by omega) r_lw_sign_7 r_lw_beside_7 (by first | assumption | omega) (by first | assumption | omega) (by first | assumption | omega) (by first | assumption | omega)) [4, 5, 6, 7, 8, 9, 10, 11, 12] rfl rfl rfl cv_X2_add uw544 ⟨rfl, rfl, (by dsimp only; omega), (by dsimp only; omega)⟩ 0 rfl rfl rfl rfl rfl (Nat.le_of_ble_eq_true rfl) ⟨Nat.zero_le _, Nat.zero_le _⟩ dX3_readPart_40 (fun t40 ws40 k40 => ?_)
          obtain ⟨lw_length_40, lw_sign_40, lw_beside_40, kr_lw_length_40, r_lw_sign_40, r_lw_beside_40, kp0_40, kp1_40, kp2_40, kp3_40, rfl⟩ := k40
          refine ⟨rfl, ?_⟩
          refine g_ws (ws2 := ((wX3 cI cB cJ h q h_tp (.ref h_lw)) ++ (wX7 cI cB cJ h_tp q_tp v_tp_length v_tp_end tp_at_30 tp_fault_7 tp_faultAt_7 v_tp_bytes v_tp_taken) ++ (wX2 cI cB cJ h_lw q_lw v_lw_size lw_length_40 v_lw_height v_lw_letter v_lw_valueAt v_lw_testAt v_lw_endAt lw_sign_40 lw_beside_40 v_lw_seen v_lw_stack))) rfl ?_
          refine g_istore_n X (lv' := [(3, vI t40), (0, .ref h), (1, vI p0), (2, vI x2_7)]) dX3_readPart_43 (by decide) rfl ?_
          have hL : LInv lw_sign_40 lw_beside_40 := by rw [kp2_40, kp3_40]; exact LInv.up w7_4 _ _ _ (fun h => by omega)
          refine g_aload_n X dX3_readPart_44 1 rfl ?_
          refine g_iload_n X dX3_readPart_45 2 rfl ?_
          refine g_callVV0 X (HT l D cI cB cJ h q h_tp q_tp h_lw q_lw p0 (by omega) (by omega) (by omega) (by omega) r_v_tp_bytes (by omega) r_lw_sign_40 r_lw_beside_40 (by first | assumption | omega) (by first | assumption | omega) (by first | assumption | omega) (by first | assumption | omega) (by first | assumption | omega) (by first | assumption | omega) (by first | assumption | omega)) cv_X3_readTest uw603 ⟨rfl, rfl, (by dsimp only; omega), (by dsimp only; omega)⟩ 0 rfl rfl rfl rfl rfl (Nat.le_of_ble_eq_true rfl) ⟨Nat.zero_le _, Nat.zero_le _⟩ dX3_readPart_46 (fun ws46 k46 => ?_)
          obtain ⟨tp_at_46, tp_fault_46, tp_faultAt_46, lw_length_46, lw_sign_46, lw_beside_46, kr_tp_at_46, kr_tp_fault_46, kr_tp_faultAt_46, kr_lw_length_46, r_lw_sign_46, r_lw_beside_46, kp0_46, kp1_46, kp2_46, kp3_46, kp4_46, kp5_46, kp6_46, kp7_46, rfl⟩ := k46
          refine g_aload_n X dX3_readPart_49 1 rfl ?_
          refine gX3_get X 0 rfl 1 (by decide) uw243 rfl dX3_readPart_50 ?_
          refine g_iload_n X dX3_readPart_53 0 rfl ?_
          refine g_callVVw X (c_X2_goOnHere l D cI cB cJ h_lw q_lw (p0 := t40) (by omega) r_lw_beside_46 (by first | assumption | omega) (by first | assumption | omega)) [4, 5, 6, 7, 8, 9, 10, 11, 12] rfl rfl rfl cv_X2_goOnHere uw607 ⟨rfl, rfl, (by dsimp only; omega), (by dsimp only; omega)⟩ 0 rfl rfl rfl rfl rfl (Nat.le_of_ble_eq_true rfl) ⟨Nat.zero_le _, Nat.zero_le _⟩ dX3_readPart_54 (fun ws54 k54 => ?_)
          obtain ⟨lw_beside_54, r_lw_beside_54, kp0_54, rfl⟩ := k54
          refine ⟨rfl, ?_⟩
          refine g_ws (ws2 := ((wX3 cI cB cJ h q h_tp (.ref h_lw)) ++ (wX7 cI cB cJ h_tp q_tp v_tp_length v_tp_end tp_at_46 tp_fault_46 tp_faultAt_46 v_tp_bytes v_tp_taken) ++ (wX2 cI cB cJ h_lw q_lw v_lw_size lw_length_46 v_lw_height v_lw_letter v_lw_valueAt v_lw_testAt v_lw_endAt lw_sign_46 lw_beside_54 v_lw_seen v_lw_stack))) rfl ?_
          refine g_iinc X (lv' := [(2, vI (x2_7 + 1)), (3, vI t40), (0, .ref h), (1, vI p0)]) dX3_readPart_57 3 rfl (by decide) rfl ?_
          refine g_goto X (tgt := 7) dX3_readPart_60 (by decide) ?_
          refine g_lv [2, 3, 0] rfl ?_
          exact ih7 (x2_7 + 1) tp_at_46 tp_fault_46 tp_faultAt_46 lw_length_46 lw_sign_46 lw_beside_54 (by omega) (by omega) (by omega) (by omega) r_lw_sign_46 r_lw_beside_54 (by first | assumption | omega) (by first | assumption | omega) (by first | assumption | omega) (by first | assumption | omega) (by first | assumption | (rw [kp0_54]; exact LInv.jump kp3_46 _ _ (by rw [kp4_46 _ (by omega), kp2_40, kp1_40, updZ_s]; decide))) (by first | assumption | exact Same.trans (by rw [kp2_40]; exact Same.up w7_5 (by omega)) kp4_46 (by omega)) (by first | assumption | omega) (by first | assumption | omega) (by first | assumption | omega) (by omega)
  refine g_lv [1, 2, 0] rfl ?_
  exact L7 _ 0 tp_at_2 tp_fault_2 tp_faultAt_2 lw_length_2 lw_sign_2 lw_beside_2 (by omega) (by omega) (by omega) (by omega) r_lw_sign_2 r_lw_beside_2 (by first | assumption | omega) (by first | assumption | omega) (by first | assumption | omega) (by first | assumption | omega) (by first | assumption | (rw [kp0_54]; exact LInv.jump kp3_46 _ _ (by rw [kp4_46 _ (by omega), kp2_40, kp1_40, updZ_s]; decide))) (by first | assumption | exact Same.trans (by rw [kp2_40]; exact Same.up w7_5 (by omega)) kp4_46 (by omega)) (by first | assumption | omega) (by first | assumption | omega) (by first | assumption | omega) (Nat.lt_succ_self _)
set_option maxHeartbeats 1500000 in
set_option maxRecDepth 100000 in
theorem r_X3_readChoice (lev : Nat) (HP : PS_X3_readPart lev) : PS_X3_readChoice lev := by
  intro l D cI cB cJ h q h_tp q_tp h_lw q_lw v_tp_length v_tp_end v_tp_at v_tp_fault v_tp_faultAt v_lw_size v_lw_length v_lw_height v_tp_bytes v_tp_taken v_lw_letter v_lw_valueAt v_lw_testAt v_lw_endAt v_lw_sign v_lw_beside v_lw_seen v_lw_stack p0 kr_v_tp_end kr_v_tp_at kr_v_tp_fault kr_v_tp_faultAt r_v_tp_bytes kr_v_lw_length r_v_lw_sign r_v_lw_beside hp0 hp1 hp2 hp3 hp4 hp5 hp6
  refine hdrV (own := RX3) rfl (by decide +kernel) (Nat.le_of_ble_eq_true rfl) ?_
  intro p e s m args below meth c Q A X hQ
  refine g_lvE (lv2 := [(0, .ref h), (1, vI p0)]) rfl ?_
  refine g_aload_n X dX3_readChoice_0 0 rfl ?_
  refine g_iload_n X dX3_readChoice_1 1 rfl ?_
  refine g_callVV0 X (HP l D cI cB cJ h q h_tp q_tp h_lw q_lw p0 (by omega) (by omega) (by omega) (by omega) r_v_tp_bytes (by omega) r_v_lw_sign r_v_lw_beside (by first | assumption | omega) (by first | assumption | omega) (by first | assumption | omega) (by first | assumption | omega) (by first | assumption | omega) (by first | assumption | omega) (by first | assumption | omega)) cv_X3_readPart uw599 ⟨rfl, rfl, (by dsimp only; omega), (by dsimp only; omega)⟩ 0 rfl rfl rfl rfl rfl (Nat.le_of_ble_eq_true rfl) ⟨Nat.zero_le _, Nat.zero_le _⟩ dX3_readChoice_2 (fun ws2 k2 => ?_)
  obtain ⟨tp_at_2, tp_fault_2, tp_faultAt_2, lw_length_2, lw_sign_2, lw_beside_2, kr_tp_at_2, kr_tp_fault_2, kr_tp_faultAt_2, kr_lw_length_2, r_lw_sign_2, r_lw_beside_2, kp0_2, kp1_2, kp2_2, kp3_2, kp4_2, kp5_2, kp6_2, kp7_2, rfl⟩ := k2
  refine g_iconst X dX3_readChoice_5 ?_
  refine g_istore_n X (lv' := [(2, vI 0), (0, .ref h), (1, vI p0)]) dX3_readChoice_6 (by decide) rfl ?_
  have L7 : ∀ (n : Nat) (x2_7 : Int) (tp_at_7 : Int) (tp_fault_7 : Int) (tp_faultAt_7 : Int) (lw_length_7 : Int) (lw_sign_7 : Nat → Int) (lw_beside_7 : Nat → Int), (0 ≤ tp_at_7 ∧ tp_at_7 ≤ 260) → (0 ≤ tp_fault_7 ∧ tp_fault_7 ≤ 8) → (0 ≤ tp_faultAt_7 ∧ tp_faultAt_7 ≤ 260) → (0 ≤ lw_length_7 ∧ lw_length_7 ≤ 256) → (RA (-2147483648) 2147483647 lw_sign_7) → (RA 0 99999 lw_beside_7) → (0 ≤ x2_7 ∧ x2_7 ≤ 240) → (v_tp_at ≤ tp_at_7) → (tp_at_7 ≤ v_tp_end) → (v_lw_length ≤ lw_length_7) → (LInv lw_sign_7 lw_beside_7) → (Same v_lw_length v_lw_sign lw_sign_7) → (v_tp_fault ≠ 0 → tp_fault_7 ≠ 0) → (lw_length_7 - tp_at_7 ≤ v_lw_length - v_tp_at + 1) → (tp_fault_7 = 0 → lw_length_7 - tp_at_7 ≤ v_lw_length - v_tp_at) → (240 - x2_7).toNat < n → GG p l e ⟨42 + 4 * lev, 0, 0, 980 + 75 * lev⟩ s m args below meth c 0 0 Q D A s.heap 4 ((wX3 cI cB cJ h q h_tp (.ref h_lw)) ++ (wX7 cI cB cJ h_tp q_tp v_tp_length v_tp_end tp_at_7 tp_fault_7 tp_faultAt_7 v_tp_bytes v_tp_taken) ++ (wX2 cI cB cJ h_lw q_lw v_lw_size lw_length_7 v_lw_height v_lw_letter v_lw_valueAt v_lw_testAt v_lw_endAt lw_sign_7 lw_beside_7 v_lw_seen v_lw_stack)) 7 [(0, .ref h), (1, vI p0), (2, vI x2_7)] [] := by
    intro n
    induction n with
    | zero => intros; exfalso; omega
    | succ n ih7 =>
      intro x2_7 tp_at_7 tp_fault_7 tp_faultAt_7 lw_length_7 lw_sign_7 lw_beside_7 kr_tp_at_7 kr_tp_fault_7 kr_tp_faultAt_7 kr_lw_length_7 r_lw_sign_7 r_lw_beside_7 w7_0 w7_1 w7_2 w7_3 w7_4 w7_5 w7_6 w7_7 w7_8 wm7
      refine g_iload_n X dX3_readChoice_7 2 rfl ?_
      refine g_sipush X (z := 240) dX3_readChoice_8 (by decide) ?_
      refine g_icmp_ge X (tgt := 63) dX3_readChoice_11 (by decide) (by omega) (by omega) (fun c11 => ?_) (fun c11 => ?_)
      · exact hQ _ _ _ dX3_readChoice_63 ⟨tp_at_7, tp_fault_7, tp_faultAt_7, lw_length_7, lw_sign_7, lw_beside_7, (by omega), (by omega), (by omega), (by omega), r_lw_sign_7, r_lw_beside_7, (by first | assumption | omega), (by first | assumption | omega), (by first | assumption | omega), (by first | assumption | omega), (by first | assumption | omega), (by first | assumption | omega), (by first | assumption | omega), (by first | assumption | omega), rfl⟩
      · refine g_aload_n X dX3_readChoice_14 0 rfl ?_
        refine gX3_get X 0 rfl 0 (by decide) uw242 rfl dX3_readChoice_15 ?_
        refine g_callVIw X (c_X7_sign l D cI cB cJ h_tp q_tp  (by omega) (by omega) (by omega) r_v_tp_bytes) [1, 2, 3] rfl rfl rfl cv_X7_sign uw497 ⟨rfl, rfl, (by dsimp only; omega), (by dsimp only; omega)⟩ 0 rfl rfl rfl rfl rfl (Nat.le_of_ble_eq_true rfl) ⟨Nat.zero_le _, Nat.zero_le _⟩ dX3_readChoice_18 (fun t18 ws18 k18 => ?_)
        obtain ⟨kp0_18, kp1_18, kp2_18, rfl⟩ := k18
        refine ⟨rfl, ?_⟩
        refine g_ws (ws2 := ((wX3 cI cB cJ h q h_tp (.ref h_lw)) ++ (wX7 cI cB cJ h_tp q_tp v_tp_length v_tp_end tp_at_7 tp_fault_7 tp_faultAt_7 v_tp_bytes v_tp_taken) ++ (wX2 cI cB cJ h_lw q_lw v_lw_size lw_length_7 v_lw_height v_lw_letter v_lw_valueAt v_lw_testAt v_lw_endAt lw_sign_7 lw_beside_7 v_lw_seen v_lw_stack))) rfl ?_
        refine g_bipush X (z := 124) dX3_readChoice_21 (by decide) ?_
        refine g_icmp_ne X (tgt := 63) dX3_readChoice_23 (by decide) (by omega) (by omega) (fun c23 => ?_) (fun c23 => ?_)
        · exact hQ _ _ _ dX3_readChoice_63 ⟨tp_at_7, tp_fault_7, tp_faultAt_7, lw_length_7, lw_sign_7, lw_beside_7, (by omega), (by omega), (by omega), (by omega), r_lw_sign_7, r_lw_beside_7, (by first | assumption | omega), (by first | assumption | omega), (by first | assumption | omega), (by first | assumption | omega), (by first | assumption | omega), (by first | assumption | omega), (by first | assumption | omega), (by first | assumption | omega), rfl⟩
        · refine g_aload_n X dX3_readChoice_26 0 rfl ?_
          refine gX3_get X 0 rfl 0 (by decide) uw242 rfl dX3_readChoice_27 ?_
          refine g_callVVw X (c_X7_step l D cI cB cJ h_tp q_tp  (by omega) (by omega) (by omega) (by first | assumption | omega)) [1, 2, 3] rfl rfl rfl cv_X7_step uw505 ⟨rfl, rfl, (by dsimp only; omega), (by dsimp only; omega)⟩ 0 rfl rfl rfl rfl rfl (Nat.le_of_ble_eq_true rfl) ⟨Nat.zero_le _, Nat.zero_le _⟩ dX3_readChoice_30 (fun ws30 k30 => ?_)
          obtain ⟨tp_at_30, kr_tp_at_30, kp0_30, kp1_30, rfl⟩ := k30
          refine ⟨rfl, ?_⟩
          refine g_ws (ws2 := ((wX3 cI cB cJ h q h_tp (.ref h_lw)) ++ (wX7 cI cB cJ h_tp q_tp v_tp_length v_tp_end tp_at_30 tp_fault_7 tp_faultAt_7 v_tp_bytes v_tp_taken) ++ (wX2 cI cB cJ h_lw q_lw v_lw_size lw_length_7 v_lw_height v_lw_letter v_lw_valueAt v_lw_testAt v_lw_endAt lw_sign_7 lw_beside_7 v_lw_seen v_lw_stack))) rfl ?_
          refine g_aload_n X dX3_readChoice_33 0 rfl ?_
          refine gX3_get X 0 rfl 1 (by decide) uw243 rfl dX3_readChoice_34 ?_
          refine g_bipush X (z := 124) dX3_readChoice_37 (by decide) ?_
          refine g_iconst X dX3_readChoice_39 ?_
          refine g_callVIw X (c_X2_add l D cI cB cJ h_lw q_lw (p0 := 124) (p1 := 0) (by omega) r_lw_sign_7 r_lw_beside_7 (by first | assumption | omega) (by first | assumption | omega) (by first | assumption | omega) (by first | assumption | omega)) [4, 5, 6, 7, 8, 9, 10, 11, 12] rfl rfl rfl cv_X2_add uw544 ⟨rfl, rfl, (by dsimp only; omega), (by dsimp only; omega)⟩ 0 rfl rfl rfl rfl rfl (Nat.le_of_ble_eq_true rfl) ⟨Nat.zero_le _, Nat.zero_le _⟩ dX3_readChoice_40 (fun t40 ws40 k40 => ?_)
          obtain ⟨lw_length_40, lw_sign_40, lw_beside_40, kr_lw_length_40, r_lw_sign_40, r_lw_beside_40, kp0_40, kp1_40, kp2_40, kp3_40, rfl⟩ := k40
          refine ⟨rfl, ?_⟩
          refine g_ws (ws2 := ((wX3 cI cB cJ h q h_tp (.ref h_lw)) ++ (wX7 cI cB cJ h_tp q_tp v_tp_length v_tp_end tp_at_30 tp_fault_7 tp_faultAt_7 v_tp_bytes v_tp_taken) ++ (wX2 cI cB cJ h_lw q_lw v_lw_size lw_length_40 v_lw_height v_lw_letter v_lw_valueAt v_lw_testAt v_lw_endAt lw_sign_40 lw_beside_40 v_lw_seen v_lw_stack))) rfl ?_
          refine g_istore_n X (lv' := [(3, vI t40), (0, .ref h), (1, vI p0), (2, vI x2_7)]) dX3_readChoice_43 (by decide) rfl ?_
          have hL : LInv lw_sign_40 lw_beside_40 := by rw [kp2_40, kp3_40]; exact LInv.up w7_4 _ _ _ (fun h => by omega)
          refine g_aload_n X dX3_readChoice_44 1 rfl ?_
          refine g_iload_n X dX3_readChoice_45 2 rfl ?_
          refine g_callVV0 X (HP l D cI cB cJ h q h_tp q_tp h_lw q_lw p0 (by omega) (by omega) (by omega) (by omega) r_v_tp_bytes (by omega) r_lw_sign_40 r_lw_beside_40 (by first | assumption | omega) (by first | assumption | omega) (by first | assumption | omega) (by first | assumption | omega) (by first | assumption | omega) (by first | assumption | omega) (by first | assumption | omega)) cv_X3_readPart uw599 ⟨rfl, rfl, (by dsimp only; omega), (by dsimp only; omega)⟩ 0 rfl rfl rfl rfl rfl (Nat.le_of_ble_eq_true rfl) ⟨Nat.zero_le _, Nat.zero_le _⟩ dX3_readChoice_46 (fun ws46 k46 => ?_)
          obtain ⟨tp_at_46, tp_fault_46, tp_faultAt_46, lw_length_46, lw_sign_46, lw_beside_46, kr_tp_at_46, kr_tp_fault_46, kr_tp_faultAt_46, kr_lw_length_46, r_lw_sign_46, r_lw_beside_46, kp0_46, kp1_46, kp2_46, kp3_46, kp4_46, kp5_46, kp6_46, kp7_46, rfl⟩ := k46
          refine g_aload_n X dX3_readChoice_49 1 rfl ?_
          refine gX3_get X 0 rfl 1 (by decide) uw243 rfl dX3_readChoice_50 ?_
          refine g_iload_n X dX3_readChoice_53 0 rfl ?_
          refine g_callVVw X (c_X2_goOnHere l D cI cB cJ h_lw q_lw (p0 := t40) (by omega) r_lw_beside_46 (by first | assumption | omega) (by first | assumption | omega)) [4, 5, 6, 7, 8, 9, 10, 11, 12] rfl rfl rfl cv_X2_goOnHere uw607 ⟨rfl, rfl, (by dsimp only; omega), (by dsimp only; omega)⟩ 0 rfl rfl rfl rfl rfl (Nat.le_of_ble_eq_true rfl) ⟨Nat.zero_le _, Nat.zero_le _⟩ dX3_readChoice_54 (fun ws54 k54 => ?_)
          obtain ⟨lw_beside_54, r_lw_beside_54, kp0_54, rfl⟩ := k54
          refine ⟨rfl, ?_⟩
          refine g_ws (ws2 := ((wX3 cI cB cJ h q h_tp (.ref h_lw)) ++ (wX7 cI cB cJ h_tp q_tp v_tp_length v_tp_end tp_at_46 tp_fault_46 tp_faultAt_46 v_tp_bytes v_tp_taken) ++ (wX2 cI cB cJ h_lw q_lw v_lw_size lw_length_46 v_lw_height v_lw_letter v_lw_valueAt v_lw_testAt v_lw_endAt lw_sign_46 lw_beside_54 v_lw_seen v_lw_stack))) rfl ?_
          refine g_iinc X (lv' := [(2, vI (x2_7 + 1)), (3, vI t40), (0, .ref h), (1, vI p0)]) dX3_readChoice_57 3 rfl (by decide) rfl ?_
          refine g_goto X (tgt := 7) dX3_readChoice_60 (by decide) ?_
          refine g_lv [2, 3, 0] rfl ?_
          exact ih7 (x2_7 + 1) tp_at_46 tp_fault_46 tp_faultAt_46 lw_length_46 lw_sign_46 lw_beside_54 (by omega) (by omega) (by omega) (by omega) r_lw_sign_46 r_lw_beside_54 (by first | assumption | omega) (by first | assumption | omega) (by first | assumption | omega) (by first | assumption | omega) (by first | assumption | (rw [kp0_54]; exact LInv.jump kp3_46 _ _ (by rw [kp4_46 _ (by omega), kp2_40, kp1_40, updZ_s]; decide))) (by first | assumption | exact Same.trans (by rw [kp2_40]; exact Same.up w7_5 (by omega)) kp4_46 (by omega)) (by first | assumption | omega) (by first | assumption | omega) (by first | assumption | omega) (by omega)
  refine g_lv [1, 2, 0] rfl ?_
  exact L7 _ 0 tp_at_2 tp_fault_2 tp_faultAt_2 lw_length_2 lw_sign_2 lw_beside_2 (by omega) (by omega) (by omega) (by omega) r_lw_sign_2 r_lw_beside_2 (by first | assumption | omega) (by first | assumption | omega) (by first | assumption | omega) (by first | assumption | omega) (by first | assumption | (rw [kp0_54]; exact LInv.jump kp3_46 _ _ (by rw [kp4_46 _ (by omega), kp2_40, kp1_40, updZ_s]; decide))) (by first | assumption | exact Same.trans (by rw [kp2_40]; exact Same.up w7_5 (by omega)) kp4_46 (by omega)) (by first | assumption | omega) (by first | assumption | omega) (by first | assumption | omega) (Nat.lt_succ_self _)
set_option maxHeartbeats 600000 in
set_option maxRecDepth 100000 in
theorem c_X8_find (l : Launch) (D : va_G) (cI cB cJ : ClassId) (h : Nat) (q : Nat → Nat) {v_lines v_many : Int} {v_least v_edges : Nat → Int} {p0 : Int} (kr_v_lines : 0 ≤ v_lines ∧ v_lines ≤ 4) (kr_v_many : (-2147483648) ≤ v_many ∧ v_many ≤ 2147483647) (r_v_least : RA (-2147483648) 2147483647 v_least) (r_v_edges : RA (-2147483648) 2147483647 v_edges) (hp0 : IR p0) (hp1 : 1 ≤ p0 ∧ p0 ≤ 4) : CtV l yX8_find cX8_find 2 none ⟨11, 0, 0, 385⟩ D (TY cI cB cJ) (wX8 cI cB cJ h q v_lines v_many v_least v_edges) [.ref h, vI p0] (fun ws' => ∃ n_lines : Int, ∃ n_many : Int, ∃ n_least : Nat → Int, ∃ n_edges : Nat → Int, (0 ≤ n_lines ∧ n_lines ≤ 4) ∧ ((-2147483648) ≤ n_many ∧ n_many ≤ 2147483647) ∧ (RA (-2147483648) 2147483647 n_least) ∧ (RA (-2147483648) 2147483647 n_edges) ∧ (ws' = (wX8 cI cB cJ h q n_lines n_many n_least n_edges))) := by
  refine hdrV (own := RX8) rfl (by decide +kernel) (Nat.le_of_ble_eq_true rfl) ?_
  intro p e s m args below meth c Q A X hQ
  refine g_lvE (lv2 := [(0, .ref h), (1, vI p0)]) rfl ?_
  refine g_aload_n X dX8_find_0 0 rfl ?_
  refine g_iload_n X dX8_find_1 1 rfl ?_
  refine gX8_put X 0 rfl 0 (by decide) uw362 rfl rfl rfl (Nat.le_of_ble_eq_true rfl) dX8_find_2 (ws2 := (wX8 cI cB cJ h q p0 v_many v_least v_edges)) rfl ?_
  refine g_aload_n X dX8_find_5 0 rfl ?_
  refine g_iconst X dX8_find_6 ?_
  refine gX8_put X 0 rfl 1 (by decide) uw363 rfl rfl rfl (Nat.le_of_ble_eq_true rfl) dX8_find_7 (ws2 := (wX8 cI cB cJ h q p0 0 v_least v_edges)) rfl ?_
  refine g_aload_n X dX8_find_10 0 rfl ?_
  refine g_iconst X dX8_find_11 ?_
  refine g_iconst X dX8_find_12 ?_
  refine g_callSV0 X (all_X8_grow 4 l D cI cB cJ h q 0 0 (by omega) (by omega) r_v_least r_v_edges (by first | assumption | omega) (by first | assumption | omega) (by first | assumption | omega) (by first | assumption | omega) (by first | assumption | omega)) cv_X8_grow uw933 ⟨rfl, rfl, (by dsimp only; omega), (by dsimp only; omega)⟩ rfl rfl (Nat.le_of_ble_eq_true rfl) ⟨Nat.zero_le _, Nat.zero_le _⟩ dX8_find_13 (fun ws13 k13 => ?_)
  obtain ⟨many_13, least_13, edges_13, kr_many_13, r_least_13, r_edges_13, rfl⟩ := k13
  exact hQ _ _ _ dX8_find_16 ⟨p0, many_13, least_13, edges_13, (by omega), (by omega), r_least_13, r_edges_13, rfl⟩
set_option maxHeartbeats 600000 in
set_option maxRecDepth 100000 in
theorem c_X9_weighings (l : Launch) (D : va_G) (cI cB cJ : ClassId) (h : Nat) (q : Nat → Nat) (h_bo : Nat) (q_bo : Nat → Nat) {o_tape : Nat} {o_claims : Nat} {o_nextClaims : Nat} {o_otherBounds : Nat} {o_ringSearch : Nat} {o_lawReader : Nat} {o_rules : Nat} {o_nextRules : Nat} {o_market : Nat} {o_trial : Nat} {o_kept : Nat} {o_triangles : Nat} {v_hasKept v_bo_canHold : Int} {v_table v_bo_direct v_bo_byAll v_bo_more : Nat → Int} {p0 p1 : Int} (r_v_table : RA (-2147483648) 2147483647 v_table) (r_v_bo_direct : RA (-9999) 1000000 v_bo_direct) (hp0 : IR p0) (hp1 : IR p1) : CtI l yX9_weighings cX9_weighings 3 (some .int) ⟨21, 0, 0, 588⟩ D (TY cI cB cJ) ((wX9 cI cB cJ h q o_tape o_claims o_nextClaims h_bo o_otherBounds o_ringSearch o_lawReader o_rules o_nextRules o_market o_trial o_kept o_triangles v_hasKept v_table) ++ (wX0 cI cB cJ h_bo q_bo v_bo_canHold v_bo_direct v_bo_byAll v_bo_more)) [.ref h, vI p0, vI p1] (fun z ws' => ∃ n_table : Nat → Int, (RA (-2147483648) 2147483647 n_table) ∧ (IR z) ∧ (ws' = ((wX9 cI cB cJ h q o_tape o_claims o_nextClaims h_bo o_otherBounds o_ringSearch o_lawReader o_rules o_nextRules o_market o_trial o_kept o_triangles v_hasKept n_table) ++ (wX0 cI cB cJ h_bo q_bo v_bo_canHold v_bo_direct v_bo_byAll v_bo_more)))) := by
  refine hdrI (own := RX9) rfl (by decide +kernel) (Nat.le_of_ble_eq_true rfl) ?_
  intro p e s m args below meth c Q A X hQ
  refine g_lvE (lv2 := [(0, .ref h), (1, vI p0), (2, vI p1)]) rfl ?_
  refine g_iload_n X dX9_weighings_0 1 rfl ?_
  refine g_iconst X dX9_weighings_1 ?_
  refine g_sipush X (z := 4095) dX9_weighings_2 (by decide) ?_
  refine g_callSIE X (c_X9_isFrom l D cI cB cJ (p0 := p0) (p1 := 1) (p2 := 4095) (by first | assumption | omega) (by first | assumption | omega) (by first | assumption | omega)) cv_X9_isFrom uw719 ⟨rfl, rfl, by decide, by decide⟩ rfl rfl (Nat.le_of_ble_eq_true rfl) ⟨Nat.zero_le _, Nat.zero_le _⟩ dX9_weighings_5 (fun t5 ws5 k5 => ?_)
  obtain ⟨kb_5, ⟨kp0_5, rfl⟩⟩ := k5
  refine g_if_eq X (tgt := 29) dX9_weighings_8 (by decide) (by omega) (fun c8 => ?_) (fun c8 => ?_)
  · clear kb_5
    replace kp0_5 := (kp0_5.resolve_left (fun h => absurd h.1 (by omega))).2
    refine g_iconst X dX9_weighings_29 ?_
    exact hQ _ _ _ _ dX9_weighings_30 ⟨v_table, r_v_table, (by omega), rfl⟩
  · replace kb_5 := kb_5.resolve_left (fun h => c8 h)
    replace kp0_5 := kp0_5.resolve_right (fun h => c8 h.1)
    refine g_iload_n X dX9_weighings_11 1 rfl ?_
    refine g_callSIE X (c_J6_bitCount_0f7a4 l D cI cB cJ (p0 := p0) (by first | assumption | omega)) cv_J6_bitCount_0f7a4 uw850 ⟨rfl, rfl, by decide, by decide⟩ rfl rfl (Nat.le_of_ble_eq_true rfl) ⟨Nat.zero_le _, Nat.zero_le _⟩ dX9_weighings_12 (fun t12 ws12 k12 => ?_)
    obtain ⟨kp0_12, kp1_12, rfl⟩ := k12
    refine g_iconst X dX9_weighings_15 ?_
    refine g_icmp_gt X (tgt := 29) dX9_weighings_16 (by decide) (by omega) (by omega) (fun c16 => ?_) (fun c16 => ?_)
    · refine g_iconst X dX9_weighings_29 ?_
      exact hQ _ _ _ _ dX9_weighings_30 ⟨v_table, r_v_table, (by omega), rfl⟩
    · refine g_iload_n X dX9_weighings_19 2 rfl ?_
      refine g_iconst X dX9_weighings_20 ?_
      refine g_bipush X (z := 9) dX9_weighings_21 (by decide) ?_
      refine g_callSIE X (c_X9_isFrom l D cI cB cJ (p0 := p1) (p1 := 0) (p2 := 9) (by first | assumption | omega) (by first | assumption | omega) (by first | assumption | omega)) cv_X9_isFrom uw719 ⟨rfl, rfl, by decide, by decide⟩ rfl rfl (Nat.le_of_ble_eq_true rfl) ⟨Nat.zero_le _, Nat.zero_le _⟩ dX9_weighings_23 (fun t23 ws23 k23 => ?_)
      obtain ⟨kb_23, ⟨kp0_23, rfl⟩⟩ := k23
      refine g_if_ne X (tgt := 31) dX9_weighings_26 (by decide) (by omega) (fun c26 => ?_) (fun c26 => ?_)
      · replace kb_23 := kb_23.resolve_left (fun h => c26 h)
        replace kp0_23 := kp0_23.resolve_right (fun h => c26 h.1)
        refine g_aload_n X dX9_weighings_31 0 rfl ?_
        refine gX9_get X 0 rfl 3 (by decide) uw414 rfl dX9_weighings_32 ?_
        refine gN_get X (T := TX0) 2 rfl rfl inU_X0 0 (by decide) nw209 rfl rfl dX9_weighings_35 ?_
        refine g_aload_n X dX9_weighings_38 0 rfl ?_
        refine gX9_get X 0 rfl 14 (by decide) uw425 rfl dX9_weighings_39 ?_
        have hcn := cnt_12 p0.toNat
        refine g_iconst X dX9_weighings_42 ?_
        refine g_iload_n X dX9_weighings_43 1 rfl ?_
        refine g_iload_n X dX9_weighings_44 2 rfl ?_
        refine g_callSNIw X (all_X0_waysToWeigh 12 l D cI cB cJ (q_bo 0) (q 0) 0 p0 p1 (RA_mono r_v_bo_direct (by omega) (by omega)) r_v_table (by first | assumption | omega) (by first | assumption | omega) (by first | assumption | omega) (by first | assumption | omega) (by first | assumption | omega) (by first | assumption | omega)) [3, 1] rfl rfl rfl cv_X0_waysToWeigh nw851 ⟨rfl, rfl, (by dsimp only; omega), (by dsimp only; omega)⟩ rfl rfl (Nat.le_of_ble_eq_true rfl) ⟨Nat.zero_le _, Nat.zero_le _⟩ dX9_weighings_45 (fun t45 ws45 k45 => ?_)
        obtain ⟨table_45, r_table_45, kp0_45, rfl⟩ := k45
        refine ⟨rfl, ?_⟩
        refine g_ws (ws2 := ((wX9 cI cB cJ h q o_tape o_claims o_nextClaims h_bo o_otherBounds o_ringSearch o_lawReader o_rules o_nextRules o_market o_trial o_kept o_triangles v_hasKept table_45) ++ (wX0 cI cB cJ h_bo q_bo v_bo_canHold v_bo_direct v_bo_byAll v_bo_more))) rfl ?_
        exact hQ _ _ _ _ dX9_weighings_48 ⟨table_45, r_table_45, (by omega), rfl⟩
      · clear kb_23
        replace kp0_23 := (kp0_23.resolve_left (fun h => absurd h.1 (by omega))).2
        refine g_iconst X dX9_weighings_29 ?_
        exact hQ _ _ _ _ dX9_weighings_30 ⟨v_table, r_v_table, (by omega), rfl⟩
set_option maxHeartbeats 600000 in
set_option maxRecDepth 100000 in
theorem c_X9_triangle (l : Launch) (D : va_G) (cI cB cJ : ClassId) (h : Nat) (q : Nat → Nat) (h_tg : Nat) (q_tg : Nat → Nat) {o_tape : Nat} {o_claims : Nat} {o_nextClaims : Nat} {o_bounds : Nat} {o_otherBounds : Nat} {o_ringSearch : Nat} {o_lawReader : Nat} {o_rules : Nat} {o_nextRules : Nat} {o_market : Nat} {o_trial : Nat} {o_kept : Nat} {v_hasKept v_tg_lines v_tg_many : Int} {v_table v_tg_least v_tg_edges : Nat → Int} {p0 p1 : Int} (kr_v_tg_lines : 0 ≤ v_tg_lines ∧ v_tg_lines ≤ 4) (kr_v_tg_many : (-2147483648) ≤ v_tg_many ∧ v_tg_many ≤ 2147483647) (r_v_tg_least : RA (-2147483648) 2147483647 v_tg_least) (r_v_tg_edges : RA (-2147483648) 2147483647 v_tg_edges) (hp0 : IR p0) (hp1 : IR p1) : CtI l yX9_triangle cX9_triangle 3 (some .int) ⟨12, 0, 0, 406⟩ D (TY cI cB cJ) ((wX9 cI cB cJ h q o_tape o_claims o_nextClaims o_bounds o_otherBounds o_ringSearch o_lawReader o_rules o_nextRules o_market o_trial o_kept h_tg v_hasKept v_table) ++ (wX8 cI cB cJ h_tg q_tg v_tg_lines v_tg_many v_tg_least v_tg_edges)) [.ref h, vI p0, vI p1] (fun z ws' => ∃ n_tg_lines : Int, ∃ n_tg_many : Int, ∃ n_tg_least : Nat → Int, ∃ n_tg_edges : Nat → Int, (0 ≤ n_tg_lines ∧ n_tg_lines ≤ 4) ∧ ((-2147483648) ≤ n_tg_many ∧ n_tg_many ≤ 2147483647) ∧ (RA (-2147483648) 2147483647 n_tg_least) ∧ (RA (-2147483648) 2147483647 n_tg_edges) ∧ (IR z) ∧ (ws' = ((wX9 cI cB cJ h q o_tape o_claims o_nextClaims o_bounds o_otherBounds o_ringSearch o_lawReader o_rules o_nextRules o_market o_trial o_kept h_tg v_hasKept v_table) ++ (wX8 cI cB cJ h_tg q_tg n_tg_lines n_tg_many n_tg_least n_tg_edges)))) := by
  refine hdrI (own := RX9) rfl (by decide +kernel) (Nat.le_of_ble_eq_true rfl) ?_
  intro p e s m args below meth c Q A X hQ
  refine g_lvE (lv2 := [(0, .ref h), (1, vI p0), (2, vI p1)]) rfl ?_
  refine g_iload_n X dX9_triangle_0 1 rfl ?_
  refine g_iconst X dX9_triangle_1 ?_
  refine g_iconst X dX9_triangle_2 ?_
  refine g_callSIE X (c_X9_isFrom l D cI cB cJ (p0 := p0) (p1 := 1) (p2 := 4) (by first | assumption | omega) (by first | assumption | omega) (by first | assumption | omega)) cv_X9_isFrom uw719 ⟨rfl, rfl, by decide, by decide⟩ rfl rfl (Nat.le_of_ble_eq_true rfl) ⟨Nat.zero_le _, Nat.zero_le _⟩ dX9_triangle_3 (fun t3 ws3 k3 => ?_)
  obtain ⟨kb_3, ⟨kp0_3, rfl⟩⟩ := k3
  refine g_if_ne X (tgt := 11) dX9_triangle_6 (by decide) (by omega) (fun c6 => ?_) (fun c6 => ?_)
  · replace kb_3 := kb_3.resolve_left (fun h => c6 h)
    replace kp0_3 := kp0_3.resolve_right (fun h => c6 h.1)
    refine g_iload_n X dX9_triangle_11 2 rfl ?_
    refine g_bipush X (z := 100) dX9_triangle_12 (by decide) ?_
    refine g_icmp_ne X (tgt := 33) dX9_triangle_14 (by decide) (by omega) (by omega) (fun c14 => ?_) (fun c14 => ?_)
    · refine g_iload_n X dX9_triangle_33 2 rfl ?_
      refine g_iconst X dX9_triangle_34 ?_
      refine g_iconst X dX9_triangle_35 ?_
      refine g_callSIE X (c_X9_isFrom l D cI cB cJ (p0 := p1) (p1 := 0) (p2 := 3) (by first | assumption | omega) (by first | assumption | omega) (by first | assumption | omega)) cv_X9_isFrom uw719 ⟨rfl, rfl, by decide, by decide⟩ rfl rfl (Nat.le_of_ble_eq_true rfl) ⟨Nat.zero_le _, Nat.zero_le _⟩ dX9_triangle_36 (fun t36 ws36 k36 => ?_)
      obtain ⟨kb_36, ⟨kp0_36, rfl⟩⟩ := k36
      refine g_if_ne X (tgt := 44) dX9_triangle_39 (by decide) (by omega) (fun c39 => ?_) (fun c39 => ?_)
      · replace kb_36 := kb_36.resolve_left (fun h => c39 h)
        replace kp0_36 := kp0_36.resolve_right (fun h => c39 h.1)
        refine g_iload_n X dX9_triangle_44 2 rfl ?_
        refine g_iload_n X dX9_triangle_45 1 rfl ?_
        refine g_icmp_lt X (tgt := 52) dX9_triangle_46 (by decide) (by omega) (by omega) (fun c46 => ?_) (fun c46 => ?_)
        · refine g_aload_n X dX9_triangle_52 0 rfl ?_
          refine gX9_get X 0 rfl 13 (by decide) uw424 rfl dX9_triangle_53 ?_
          refine g_iload_n X dX9_triangle_56 1 rfl ?_
          refine g_callVVw X (c_X8_find l D cI cB cJ h_tg q_tg (p0 := p0) (by omega) (by omega) r_v_tg_least r_v_tg_edges (by first | assumption | omega) (by first | assumption | omega)) [2, 3, 4] rfl rfl rfl cv_X8_find uw929 ⟨rfl, rfl, by decide, by decide⟩ 0 rfl rfl rfl rfl rfl (Nat.le_of_ble_eq_true rfl) ⟨Nat.zero_le _, Nat.zero_le _⟩ dX9_triangle_57 (fun ws57 k57 => ?_)
          obtain ⟨tg_lines_57, tg_many_57, tg_least_57, tg_edges_57, kr_tg_lines_57, kr_tg_many_57, r_tg_least_57, r_tg_edges_57, rfl⟩ := k57
          refine ⟨rfl, ?_⟩
          refine g_ws (ws2 := ((wX9 cI cB cJ h q o_tape o_claims o_nextClaims o_bounds o_otherBounds o_ringSearch o_lawReader o_rules o_nextRules o_market o_trial o_kept h_tg v_hasKept v_table) ++ (wX8 cI cB cJ h_tg q_tg tg_lines_57 tg_many_57 tg_least_57 tg_edges_57))) rfl ?_
          refine g_aload_n X dX9_triangle_60 0 rfl ?_
          refine gX9_get X 0 rfl 13 (by decide) uw424 rfl dX9_triangle_61 ?_
          refine gN_get X (T := TX8) 2 rfl rfl inU_X8 2 (by decide) nw366 rfl rfl dX9_triangle_64 ?_
          refine g_iload_n X dX9_triangle_67 2 rfl ?_
          refine g_iald X 3 0 rfl rfl (by omega) (by decide) dX9_triangle_68 (fun t68 e68 => ?_)
          have r68 := r_tg_least_57 (p1 : Int).toNat; rw [← e68] at r68
          exact hQ _ _ _ _ dX9_triangle_69 ⟨tg_lines_57, tg_many_57, tg_least_57, tg_edges_57, (by omega), (by omega), r_tg_least_57, r_tg_edges_57, (by omega), rfl⟩
        · refine g_bipush X (z := (-4)) dX9_triangle_49 (by decide) ?_
          exact hQ _ _ _ _ dX9_triangle_51 ⟨v_tg_lines, v_tg_many, v_tg_least, v_tg_edges, (by omega), (by omega), r_v_tg_least, r_v_tg_edges, (by omega), rfl⟩
      · clear kb_36
        replace kp0_36 := (kp0_36.resolve_left (fun h => absurd h.1 (by omega))).2
        refine g_iconst X dX9_triangle_42 ?_
        exact hQ _ _ _ _ dX9_triangle_43 ⟨v_tg_lines, v_tg_many, v_tg_least, v_tg_edges, (by omega), (by omega), r_v_tg_least, r_v_tg_edges, (by omega), rfl⟩
    · refine g_aload_n X dX9_triangle_17 0 rfl ?_
      refine gX9_get X 0 rfl 13 (by decide) uw424 rfl dX9_triangle_18 ?_
      refine g_iload_n X dX9_triangle_21 1 rfl ?_
      refine g_callVVw X (c_X8_find l D cI cB cJ h_tg q_tg (p0 := p0) (by omega) (by omega) r_v_tg_least r_v_tg_edges (by first | assumption | omega) (by first | assumption | omega)) [2, 3, 4] rfl rfl rfl cv_X8_find uw929 ⟨rfl, rfl, by decide, by decide⟩ 0 rfl rfl rfl rfl rfl (Nat.le_of_ble_eq_true rfl) ⟨Nat.zero_le _, Nat.zero_le _⟩ dX9_triangle_22 (fun ws22 k22 => ?_)
      obtain ⟨tg_lines_22, tg_many_22, tg_least_22, tg_edges_22, kr_tg_lines_22, kr_tg_many_22, r_tg_least_22, r_tg_edges_22, rfl⟩ := k22
      refine ⟨rfl, ?_⟩
      refine g_ws (ws2 := ((wX9 cI cB cJ h q o_tape o_claims o_nextClaims o_bounds o_otherBounds o_ringSearch o_lawReader o_rules o_nextRules o_market o_trial o_kept h_tg v_hasKept v_table) ++ (wX8 cI cB cJ h_tg q_tg tg_lines_22 tg_many_22 tg_least_22 tg_edges_22))) rfl ?_
      refine g_aload_n X dX9_triangle_25 0 rfl ?_
      refine gX9_get X 0 rfl 13 (by decide) uw424 rfl dX9_triangle_26 ?_
      refine gN_get X (T := TX8) 2 rfl rfl inU_X8 1 (by decide) nw364 rfl rfl dX9_triangle_29 ?_
      exact hQ _ _ _ _ dX9_triangle_32 ⟨tg_lines_22, tg_many_22, tg_least_22, tg_edges_22, (by omega), (by omega), r_tg_least_22, r_tg_edges_22, (by omega), rfl⟩
  · clear kb_3
    replace kp0_3 := (kp0_3.resolve_left (fun h => absurd h.1 (by omega))).2
    refine g_iconst X dX9_triangle_9 ?_
    exact hQ _ _ _ _ dX9_triangle_10 ⟨v_tg_lines, v_tg_many, v_tg_least, v_tg_edges, (by omega), (by omega), r_v_tg_least, r_v_tg_edges, (by omega), rfl⟩
