set_option maxHeartbeats 1500000 in
set_option maxRecDepth 100000 in
theorem c_X3_readRule (l : Launch) (D : va_G) (cI cB cJ : ClassId) (h : Nat) (q : Nat → Nat) (h_tp : Nat) (q_tp : Nat → Nat) (h_lw : Nat) (q_lw : Nat → Nat) {v_tp_length v_tp_end v_tp_at v_tp_fault v_tp_faultAt v_lw_size v_lw_length v_lw_height : Int} {v_tp_bytes v_tp_taken v_lw_letter v_lw_valueAt v_lw_testAt v_lw_endAt v_lw_sign v_lw_beside v_lw_seen v_lw_stack : Nat → Int} (kr_v_tp_end : 0 ≤ v_tp_end ∧ v_tp_end ≤ 260) (kr_v_tp_at : 0 ≤ v_tp_at ∧ v_tp_at ≤ 260) (kr_v_tp_fault : 0 ≤ v_tp_fault ∧ v_tp_fault ≤ 8) (kr_v_tp_faultAt : 0 ≤ v_tp_faultAt ∧ v_tp_faultAt ≤ 260) (r_v_tp_bytes : RA 0 255 v_tp_bytes) (kr_v_lw_size : 0 ≤ v_lw_size ∧ v_lw_size ≤ 16) (kr_v_lw_length : 0 ≤ v_lw_length ∧ v_lw_length ≤ 256) (r_v_lw_letter : RA (-2147483648) 2147483647 v_lw_letter) (r_v_lw_valueAt : RA 0 256 v_lw_valueAt) (r_v_lw_testAt : RA 0 256 v_lw_testAt) (r_v_lw_endAt : RA 0 256 v_lw_endAt) (r_v_lw_sign : RA (-2147483648) 2147483647 v_lw_sign) (r_v_lw_beside : RA 0 99999 v_lw_beside) (hp0 : v_lw_length ≤ v_tp_at) (hp1 : v_tp_at ≤ v_tp_end) (hp2 : v_tp_end ≤ 240) (hp3 : LInv v_lw_sign v_lw_beside) : CtV l yX3_readRule cX3_readRule 4 none ⟨80, 0, 0, 1600⟩ D (TY cI cB cJ) ((wX3 cI cB cJ h q h_tp (.ref h_lw)) ++ (wX7 cI cB cJ h_tp q_tp v_tp_length v_tp_end v_tp_at v_tp_fault v_tp_faultAt v_tp_bytes v_tp_taken) ++ (wX2 cI cB cJ h_lw q_lw v_lw_size v_lw_length v_lw_height v_lw_letter v_lw_valueAt v_lw_testAt v_lw_endAt v_lw_sign v_lw_beside v_lw_seen v_lw_stack)) [.ref h] (fun ws' => ∃ n_tp_at : Int, ∃ n_tp_fault : Int, ∃ n_tp_faultAt : Int, ∃ n_lw_size : Int, ∃ n_lw_length : Int, ∃ n_lw_letter : Nat → Int, ∃ n_lw_valueAt : Nat → Int, ∃ n_lw_testAt : Nat → Int, ∃ n_lw_endAt : Nat → Int, ∃ n_lw_sign : Nat → Int, ∃ n_lw_beside : Nat → Int, (0 ≤ n_tp_at ∧ n_tp_at ≤ 260) ∧ (0 ≤ n_tp_fault ∧ n_tp_fault ≤ 8) ∧ (0 ≤ n_tp_faultAt ∧ n_tp_faultAt ≤ 260) ∧ (0 ≤ n_lw_size ∧ n_lw_size ≤ 16) ∧ (0 ≤ n_lw_length ∧ n_lw_length ≤ 256) ∧ (RA (-2147483648) 2147483647 n_lw_letter) ∧ (RA 0 256 n_lw_valueAt) ∧ (RA 0 256 n_lw_testAt) ∧ (RA 0 256 n_lw_endAt) ∧ (RA (-2147483648) 2147483647 n_lw_sign) ∧ (RA 0 99999 n_lw_beside) ∧ (v_tp_at ≤ n_tp_at) ∧ (n_tp_at ≤ v_tp_end) ∧ (v_lw_length ≤ n_lw_length) ∧ (LInv n_lw_sign n_lw_beside) ∧ (n_lw_length - n_tp_at ≤ v_lw_length - v_tp_at + 1) ∧ (n_tp_fault = 0 → n_lw_length - n_tp_at ≤ v_lw_length - v_tp_at) ∧ (ws' = ((wX3 cI cB cJ h q h_tp (.ref h_lw)) ++ (wX7 cI cB cJ h_tp q_tp v_tp_length v_tp_end n_tp_at n_tp_fault n_tp_faultAt v_tp_bytes v_tp_taken) ++ (wX2 cI cB cJ h_lw q_lw n_lw_size n_lw_length v_lw_height n_lw_letter n_lw_valueAt n_lw_testAt n_lw_endAt n_lw_sign n_lw_beside v_lw_seen v_lw_stack)))) := by
  refine hdrV (own := RX3) rfl (by decide +kernel) (Nat.le_of_ble_eq_true rfl) ?_
  intro p e s m args below meth c Q A X hQ
  refine g_lvE (lv2 := [(0, .ref h)]) rfl ?_
  refine g_aload_n X dX3_readRule_0 0 rfl ?_
  refine gX3_get X 0 rfl 0 (by decide) uw242 rfl dX3_readRule_1 ?_
  refine g_callVIw X (c_X7_sign l D cI cB cJ h_tp q_tp  (by omega) (by omega) (by omega) r_v_tp_bytes) [1, 2, 3] rfl rfl rfl cv_X7_sign uw497 ⟨rfl, rfl, (by dsimp only; omega), (by dsimp only; omega)⟩ 0 rfl rfl rfl rfl rfl (Nat.le_of_ble_eq_true rfl) ⟨Nat.zero_le _, Nat.zero_le _⟩ dX3_readRule_4 (fun t4 ws4 k4 => ?_)
  obtain ⟨kp0_4, kp1_4, kp2_4, rfl⟩ := k4
  refine ⟨rfl, ?_⟩
  refine g_ws (ws2 := ((wX3 cI cB cJ h q h_tp (.ref h_lw)) ++ (wX7 cI cB cJ h_tp q_tp v_tp_length v_tp_end v_tp_at v_tp_fault v_tp_faultAt v_tp_bytes v_tp_taken) ++ (wX2 cI cB cJ h_lw q_lw v_lw_size v_lw_length v_lw_height v_lw_letter v_lw_valueAt v_lw_testAt v_lw_endAt v_lw_sign v_lw_beside v_lw_seen v_lw_stack))) rfl ?_
  refine g_istore_n X (lv' := [(1, vI t4), (0, .ref h)]) dX3_readRule_7 (by decide) rfl ?_
  have J47 : ∀ (tp_fault_47 : Int) (tp_faultAt_47 : Int), (0 ≤ tp_fault_47 ∧ tp_fault_47 ≤ 8) → (0 ≤ tp_faultAt_47 ∧ tp_faultAt_47 ≤ 260) → GG p l e ⟨80, 0, 0, 1600⟩ s m args below meth c 0 0 Q D A s.heap 4 ((wX3 cI cB cJ h q h_tp (.ref h_lw)) ++ (wX7 cI cB cJ h_tp q_tp v_tp_length v_tp_end v_tp_at tp_fault_47 tp_faultAt_47 v_tp_bytes v_tp_taken) ++ (wX2 cI cB cJ h_lw q_lw v_lw_size v_lw_length v_lw_height v_lw_letter v_lw_valueAt v_lw_testAt v_lw_endAt v_lw_sign v_lw_beside v_lw_seen v_lw_stack)) 47 [(0, .ref h), (1, vI t4)] [] := by
    intro tp_fault_47 tp_faultAt_47 kr_tp_fault_47 kr_tp_faultAt_47
    have J74 : ∀ (tp_fault_74 : Int) (tp_faultAt_74 : Int), (0 ≤ tp_fault_74 ∧ tp_fault_74 ≤ 8) → (0 ≤ tp_faultAt_74 ∧ tp_faultAt_74 ≤ 260) → GG p l e ⟨80, 0, 0, 1600⟩ s m args below meth c 0 0 Q D A s.heap 4 ((wX3 cI cB cJ h q h_tp (.ref h_lw)) ++ (wX7 cI cB cJ h_tp q_tp v_tp_length v_tp_end v_tp_at tp_fault_74 tp_faultAt_74 v_tp_bytes v_tp_taken) ++ (wX2 cI cB cJ h_lw q_lw v_lw_size v_lw_length v_lw_height v_lw_letter v_lw_valueAt v_lw_testAt v_lw_endAt v_lw_sign v_lw_beside v_lw_seen v_lw_stack)) 74 [(0, .ref h), (1, vI t4)] [] := by
      intro tp_fault_74 tp_faultAt_74 kr_tp_fault_74 kr_tp_faultAt_74
      refine g_aload_n X dX3_readRule_74 0 rfl ?_
      refine gX3_get X 0 rfl 0 (by decide) uw242 rfl dX3_readRule_75 ?_
      refine g_callVVw X (c_X7_step l D cI cB cJ h_tp q_tp  (by omega) (by omega) (by omega) (by first | assumption | omega)) [1, 2, 3] rfl rfl rfl cv_X7_step uw505 ⟨rfl, rfl, (by dsimp only; omega), (by dsimp only; omega)⟩ 0 rfl rfl rfl rfl rfl (Nat.le_of_ble_eq_true rfl) ⟨Nat.zero_le _, Nat.zero_le _⟩ dX3_readRule_78 (fun ws78 k78 => ?_)
      obtain ⟨tp_at_78, kr_tp_at_78, kp0_78, kp1_78, rfl⟩ := k78
      refine ⟨rfl, ?_⟩
      refine g_ws (ws2 := ((wX3 cI cB cJ h q h_tp (.ref h_lw)) ++ (wX7 cI cB cJ h_tp q_tp v_tp_length v_tp_end tp_at_78 tp_fault_74 tp_faultAt_74 v_tp_bytes v_tp_taken) ++ (wX2 cI cB cJ h_lw q_lw v_lw_size v_lw_length v_lw_height v_lw_letter v_lw_valueAt v_lw_testAt v_lw_endAt v_lw_sign v_lw_beside v_lw_seen v_lw_stack))) rfl ?_
      refine g_aload_n X dX3_readRule_81 0 rfl ?_
      refine gX3_get X 0 rfl 1 (by decide) uw243 rfl dX3_readRule_82 ?_
      refine gN_get X (T := TX2) 4 rfl rfl inU_X2 5 (by decide) nw274 rfl rfl dX3_readRule_85 ?_
      refine g_istore_n X (lv' := [(2, vI v_lw_length), (0, .ref h), (1, vI t4)]) dX3_readRule_88 (by decide) rfl ?_
      refine g_iload_n X dX3_readRule_89 2 rfl ?_
      refine g_bipush X (z := 120) dX3_readRule_90 (by decide) ?_
      refine g_icmp_eq X (tgt := 100) dX3_readRule_92 (by decide) (by omega) (by omega) (fun c92 => ?_) (fun c92 => ?_)
      · refine g_aload_n X dX3_readRule_100 1 rfl ?_
        refine gX3_get X 0 rfl 1 (by decide) uw243 rfl dX3_readRule_101 ?_
        refine gN_get X (T := TX2) 4 rfl rfl inU_X2 5 (by decide) nw274 rfl rfl dX3_readRule_104 ?_
        refine g_istore_n X (lv' := [(3, vI v_lw_length), (2, vI v_lw_length), (0, .ref h), (1, vI t4)]) dX3_readRule_107 (by decide) rfl ?_
        refine g_aload_n X dX3_readRule_108 2 rfl ?_
        refine gX3_get X 0 rfl 0 (by decide) uw242 rfl dX3_readRule_109 ?_
        refine g_bipush X (z := 40) dX3_readRule_112 (by decide) ?_
        refine g_callVVw X (c_X7_pass l D cI cB cJ h_tp q_tp (p0 := 40) (by omega) (by omega) (by omega) (by omega) r_v_tp_bytes (by first | assumption | omega) (by first | assumption | omega) (by first | assumption | omega)) [1, 2, 3] rfl rfl rfl cv_X7_pass uw529 ⟨rfl, rfl, (by dsimp only; omega), (by dsimp only; omega)⟩ 0 rfl rfl rfl rfl rfl (Nat.le_of_ble_eq_true rfl) ⟨Nat.zero_le _, Nat.zero_le _⟩ dX3_readRule_114 (fun ws114 k114 => ?_)
        obtain ⟨tp_at_114, tp_fault_114, tp_faultAt_114, kr_tp_at_114, kr_tp_fault_114, kr_tp_faultAt_114, kp0_114, kp1_114, kp2_114, kp3_114, rfl⟩ := k114
        refine ⟨rfl, ?_⟩
        refine g_ws (ws2 := ((wX3 cI cB cJ h q h_tp (.ref h_lw)) ++ (wX7 cI cB cJ h_tp q_tp v_tp_length v_tp_end tp_at_114 tp_fault_114 tp_faultAt_114 v_tp_bytes v_tp_taken) ++ (wX2 cI cB cJ h_lw q_lw v_lw_size v_lw_length v_lw_height v_lw_letter v_lw_valueAt v_lw_testAt v_lw_endAt v_lw_sign v_lw_beside v_lw_seen v_lw_stack))) rfl ?_
        refine g_aload_n X dX3_readRule_117 2 rfl ?_
        refine g_iconst X dX3_readRule_118 ?_
        refine g_callVV0 X (all_X3_readChoice 6 l D cI cB cJ h q h_tp q_tp h_lw q_lw 1 (by omega) (by omega) (by omega) (by omega) r_v_tp_bytes (by omega) r_v_lw_sign r_v_lw_beside (by first | assumption | omega) (by first | assumption | omega) (by first | assumption | omega) (by first | assumption | omega) (by first | assumption | omega) (by first | assumption | omega) (by first | assumption | omega)) cv_X3_readChoice uw595 ⟨rfl, rfl, (by dsimp only; omega), (by dsimp only; omega)⟩ 0 rfl rfl rfl rfl rfl (Nat.le_of_ble_eq_true rfl) ⟨Nat.zero_le _, Nat.zero_le _⟩ dX3_readRule_119 (fun ws119 k119 => ?_)
        obtain ⟨tp_at_119, tp_fault_119, tp_faultAt_119, lw_length_119, lw_sign_119, lw_beside_119, kr_tp_at_119, kr_tp_fault_119, kr_tp_faultAt_119, kr_lw_length_119, r_lw_sign_119, r_lw_beside_119, kp0_119, kp1_119, kp2_119, kp3_119, kp4_119, kp5_119, kp6_119, kp7_119, rfl⟩ := k119
        refine g_aload_n X dX3_readRule_122 2 rfl ?_
        refine gX3_get X 0 rfl 0 (by decide) uw242 rfl dX3_readRule_123 ?_
        refine g_bipush X (z := 41) dX3_readRule_126 (by decide) ?_
        refine g_callVVw X (c_X7_pass l D cI cB cJ h_tp q_tp (p0 := 41) (by omega) (by omega) (by omega) (by omega) r_v_tp_bytes (by first | assumption | omega) (by first | assumption | omega) (by first | assumption | omega)) [1, 2, 3] rfl rfl rfl cv_X7_pass uw529 ⟨rfl, rfl, (by dsimp only; omega), (by dsimp only; omega)⟩ 0 rfl rfl rfl rfl rfl (Nat.le_of_ble_eq_true rfl) ⟨Nat.zero_le _, Nat.zero_le _⟩ dX3_readRule_128 (fun ws128 k128 => ?_)
        obtain ⟨tp_at_128, tp_fault_128, tp_faultAt_128, kr_tp_at_128, kr_tp_fault_128, kr_tp_faultAt_128, kp0_128, kp1_128, kp2_128, kp3_128, rfl⟩ := k128
        refine ⟨rfl, ?_⟩
        refine g_ws (ws2 := ((wX3 cI cB cJ h q h_tp (.ref h_lw)) ++ (wX7 cI cB cJ h_tp q_tp v_tp_length v_tp_end tp_at_128 tp_fault_128 tp_faultAt_128 v_tp_bytes v_tp_taken) ++ (wX2 cI cB cJ h_lw q_lw v_lw_size lw_length_119 v_lw_height v_lw_letter v_lw_valueAt v_lw_testAt v_lw_endAt lw_sign_119 lw_beside_119 v_lw_seen v_lw_stack))) rfl ?_
        refine g_aload_n X dX3_readRule_131 2 rfl ?_
        refine gX3_get X 0 rfl 1 (by decide) uw243 rfl dX3_readRule_132 ?_
        refine g_iload_n X dX3_readRule_135 3 rfl ?_
        refine g_iload_n X dX3_readRule_136 1 rfl ?_
        refine g_iload_n X dX3_readRule_137 0 rfl ?_
        refine g_callVVw X (c_X2_addRule l D cI cB cJ h_lw q_lw (p0 := t4) (p1 := v_lw_length) (p2 := v_lw_length) (by omega) (by omega) r_v_lw_letter r_v_lw_valueAt r_v_lw_testAt r_v_lw_endAt (by first | assumption | omega) (by first | assumption | omega) (by first | assumption | omega) (by first | assumption | omega) (by first | assumption | omega)) [4, 5, 6, 7, 8, 9, 10, 11, 12] rfl rfl rfl cv_X2_addRule uw612 ⟨rfl, rfl, (by dsimp only; omega), (by dsimp only; omega)⟩ 0 rfl rfl rfl rfl rfl (Nat.le_of_ble_eq_true rfl) ⟨Nat.zero_le _, Nat.zero_le _⟩ dX3_readRule_138 (fun ws138 k138 => ?_)
        obtain ⟨lw_size_138, lw_letter_138, lw_valueAt_138, lw_testAt_138, lw_endAt_138, kr_lw_size_138, r_lw_letter_138, r_lw_valueAt_138, r_lw_testAt_138, r_lw_endAt_138, rfl⟩ := k138
        refine ⟨rfl, ?_⟩
        refine g_ws (ws2 := ((wX3 cI cB cJ h q h_tp (.ref h_lw)) ++ (wX7 cI cB cJ h_tp q_tp v_tp_length v_tp_end tp_at_128 tp_fault_128 tp_faultAt_128 v_tp_bytes v_tp_taken) ++ (wX2 cI cB cJ h_lw q_lw lw_size_138 lw_length_119 v_lw_height lw_letter_138 lw_valueAt_138 lw_testAt_138 lw_endAt_138 lw_sign_119 lw_beside_119 v_lw_seen v_lw_stack))) rfl ?_
        exact hQ _ _ _ dX3_readRule_141 ⟨tp_at_128, tp_fault_128, tp_faultAt_128, lw_size_138, lw_length_119, lw_letter_138, lw_valueAt_138, lw_testAt_138, lw_endAt_138, lw_sign_119, lw_beside_119, (by omega), (by omega), (by omega), (by omega), (by omega), r_lw_letter_138, r_lw_valueAt_138, r_lw_testAt_138, r_lw_endAt_138, r_lw_sign_119, r_lw_beside_119, (by first | assumption | omega), (by first | assumption | omega), (by first | assumption | omega), (by first | assumption | omega), (by first | assumption | omega), (by first | assumption | omega), rfl⟩
      · refine g_aload_n X dX3_readRule_95 1 rfl ?_
        refine g_iconst X dX3_readRule_96 ?_
        refine g_callVV0 X (all_X3_readSum 6 l D cI cB cJ h q h_tp q_tp h_lw q_lw 0 (by omega) (by omega) (by omega) (by omega) r_v_tp_bytes (by omega) r_v_lw_sign r_v_lw_beside (by first | assumption | omega) (by first | assumption | omega) (by first | assumption | omega) (by first | assumption | omega) (by first | assumption | omega) (by first | assumption | omega) (by first | assumption | omega)) cv_X3_readSum uw509 ⟨rfl, rfl, (by dsimp only; omega), (by dsimp only; omega)⟩ 0 rfl rfl rfl rfl rfl (Nat.le_of_ble_eq_true rfl) ⟨Nat.zero_le _, Nat.zero_le _⟩ dX3_readRule_97 (fun ws97 k97 => ?_)
        obtain ⟨tp_at_97, tp_fault_97, tp_faultAt_97, lw_length_97, lw_sign_97, lw_beside_97, kr_tp_at_97, kr_tp_fault_97, kr_tp_faultAt_97, kr_lw_length_97, r_lw_sign_97, r_lw_beside_97, kp0_97, kp1_97, kp2_97, kp3_97, kp4_97, kp5_97, kp6_97, rfl⟩ := k97
        refine g_aload_n X dX3_readRule_100 1 rfl ?_
        refine gX3_get X 0 rfl 1 (by decide) uw243 rfl dX3_readRule_101 ?_
        refine gN_get X (T := TX2) 4 rfl rfl inU_X2 5 (by decide) nw274 rfl rfl dX3_readRule_104 ?_
        refine g_istore_n X (lv' := [(3, vI lw_length_97), (2, vI v_lw_length), (0, .ref h), (1, vI t4)]) dX3_readRule_107 (by decide) rfl ?_
        refine g_aload_n X dX3_readRule_108 2 rfl ?_
        refine gX3_get X 0 rfl 0 (by decide) uw242 rfl dX3_readRule_109 ?_
        refine g_bipush X (z := 40) dX3_readRule_112 (by decide) ?_
        refine g_callVVw X (c_X7_pass l D cI cB cJ h_tp q_tp (p0 := 40) (by omega) (by omega) (by omega) (by omega) r_v_tp_bytes (by first | assumption | omega) (by first | assumption | omega) (by first | assumption | omega)) [1, 2, 3] rfl rfl rfl cv_X7_pass uw529 ⟨rfl, rfl, (by dsimp only; omega), (by dsimp only; omega)⟩ 0 rfl rfl rfl rfl rfl (Nat.le_of_ble_eq_true rfl) ⟨Nat.zero_le _, Nat.zero_le _⟩ dX3_readRule_114 (fun ws114 k114 => ?_)
        obtain ⟨tp_at_114, tp_fault_114, tp_faultAt_114, kr_tp_at_114, kr_tp_fault_114, kr_tp_faultAt_114, kp0_114, kp1_114, kp2_114, kp3_114, rfl⟩ := k114
        refine ⟨rfl, ?_⟩
        refine g_ws (ws2 := ((wX3 cI cB cJ h q h_tp (.ref h_lw)) ++ (wX7 cI cB cJ h_tp q_tp v_tp_length v_tp_end tp_at_114 tp_fault_114 tp_faultAt_114 v_tp_bytes v_tp_taken) ++ (wX2 cI cB cJ h_lw q_lw v_lw_size lw_length_97 v_lw_height v_lw_letter v_lw_valueAt v_lw_testAt v_lw_endAt lw_sign_97 lw_beside_97 v_lw_seen v_lw_stack))) rfl ?_
        refine g_aload_n X dX3_readRule_117 2 rfl ?_
        refine g_iconst X dX3_readRule_118 ?_
        refine g_callVV0 X (all_X3_readChoice 6 l D cI cB cJ h q h_tp q_tp h_lw q_lw 1 (by omega) (by omega) (by omega) (by omega) r_v_tp_bytes (by omega) r_lw_sign_97 r_lw_beside_97 (by first | assumption | omega) (by first | assumption | omega) (by first | assumption | omega) (by first | assumption | omega) (by first | assumption | omega) (by first | assumption | omega) (by first | assumption | omega)) cv_X3_readChoice uw595 ⟨rfl, rfl, (by dsimp only; omega), (by dsimp only; omega)⟩ 0 rfl rfl rfl rfl rfl (Nat.le_of_ble_eq_true rfl) ⟨Nat.zero_le _, Nat.zero_le _⟩ dX3_readRule_119 (fun ws119 k119 => ?_)
        obtain ⟨tp_at_119, tp_fault_119, tp_faultAt_119, lw_length_119, lw_sign_119, lw_beside_119, kr_tp_at_119, kr_tp_fault_119, kr_tp_faultAt_119, kr_lw_length_119, r_lw_sign_119, r_lw_beside_119, kp0_119, kp1_119, kp2_119, kp3_119, kp4_119, kp5_119, kp6_119, kp7_119, rfl⟩ := k119
        refine g_aload_n X dX3_readRule_122 2 rfl ?_
        refine gX3_get X 0 rfl 0 (by decide) uw242 rfl dX3_readRule_123 ?_
        refine g_bipush X (z := 41) dX3_readRule_126 (by decide) ?_
        refine g_callVVw X (c_X7_pass l D cI cB cJ h_tp q_tp (p0 := 41) (by omega) (by omega) (by omega) (by omega) r_v_tp_bytes (by first | assumption | omega) (by first | assumption | omega) (by first | assumption | omega)) [1, 2, 3] rfl rfl rfl cv_X7_pass uw529 ⟨rfl, rfl, (by dsimp only; omega), (by dsimp only; omega)⟩ 0 rfl rfl rfl rfl rfl (Nat.le_of_ble_eq_true rfl) ⟨Nat.zero_le _, Nat.zero_le _⟩ dX3_readRule_128 (fun ws128 k128 => ?_)
        obtain ⟨tp_at_128, tp_fault_128, tp_faultAt_128, kr_tp_at_128, kr_tp_fault_128, kr_tp_faultAt_128, kp0_128, kp1_128, kp2_128, kp3_128, rfl⟩ := k128
        refine ⟨rfl, ?_⟩
        refine g_ws (ws2 := ((wX3 cI cB cJ h q h_tp (.ref h_lw)) ++ (wX7 cI cB cJ h_tp q_tp v_tp_length v_tp_end tp_at_128 tp_fault_128 tp_faultAt_128 v_tp_bytes v_tp_taken) ++ (wX2 cI cB cJ h_lw q_lw v_lw_size lw_length_119 v_lw_height v_lw_letter v_lw_valueAt v_lw_testAt v_lw_endAt lw_sign_119 lw_beside_119 v_lw_seen v_lw_stack))) rfl ?_
        refine g_aload_n X dX3_readRule_131 2 rfl ?_
        refine gX3_get X 0 rfl 1 (by decide) uw243 rfl dX3_readRule_132 ?_
        refine g_iload_n X dX3_readRule_135 3 rfl ?_
        refine g_iload_n X dX3_readRule_136 1 rfl ?_
        refine g_iload_n X dX3_readRule_137 0 rfl ?_
        refine g_callVVw X (c_X2_addRule l D cI cB cJ h_lw q_lw (p0 := t4) (p1 := v_lw_length) (p2 := lw_length_97) (by omega) (by omega) r_v_lw_letter r_v_lw_valueAt r_v_lw_testAt r_v_lw_endAt (by first | assumption | omega) (by first | assumption | omega) (by first | assumption | omega) (by first | assumption | omega) (by first | assumption | omega)) [4, 5, 6, 7, 8, 9, 10, 11, 12] rfl rfl rfl cv_X2_addRule uw612 ⟨rfl, rfl, (by dsimp only; omega), (by dsimp only; omega)⟩ 0 rfl rfl rfl rfl rfl (Nat.le_of_ble_eq_true rfl) ⟨Nat.zero_le _, Nat.zero_le _⟩ dX3_readRule_138 (fun ws138 k138 => ?_)
        obtain ⟨lw_size_138, lw_letter_138, lw_valueAt_138, lw_testAt_138, lw_endAt_138, kr_lw_size_138, r_lw_letter_138, r_lw_valueAt_138, r_lw_testAt_138, r_lw_endAt_138, rfl⟩ := k138
        refine ⟨rfl, ?_⟩
        refine g_ws (ws2 := ((wX3 cI cB cJ h q h_tp (.ref h_lw)) ++ (wX7 cI cB cJ h_tp q_tp v_tp_length v_tp_end tp_at_128 tp_fault_128 tp_faultAt_128 v_tp_bytes v_tp_taken) ++ (wX2 cI cB cJ h_lw q_lw lw_size_138 lw_length_119 v_lw_height lw_letter_138 lw_valueAt_138 lw_testAt_138 lw_endAt_138 lw_sign_119 lw_beside_119 v_lw_seen v_lw_stack))) rfl ?_
        exact hQ _ _ _ dX3_readRule_141 ⟨tp_at_128, tp_fault_128, tp_faultAt_128, lw_size_138, lw_length_119, lw_letter_138, lw_valueAt_138, lw_testAt_138, lw_endAt_138, lw_sign_119, lw_beside_119, (by omega), (by omega), (by omega), (by omega), (by omega), r_lw_letter_138, r_lw_valueAt_138, r_lw_testAt_138, r_lw_endAt_138, r_lw_sign_119, r_lw_beside_119, (by first | assumption | omega), (by first | assumption | omega), (by first | assumption | omega), (by first | assumption | omega), (by first | assumption | omega), (by first | assumption | omega), rfl⟩
    refine g_aload_n X dX3_readRule_47 0 rfl ?_
    refine gX3_get X 0 rfl 1 (by decide) uw243 rfl dX3_readRule_48 ?_
    refine gN_get X (T := TX2) 4 rfl rfl inU_X2 0 (by decide) nw267 rfl rfl dX3_readRule_51 ?_
    refine g_bipush X (z := 16) dX3_readRule_54 (by decide) ?_
    refine g_icmp_lt X (tgt := 74) dX3_readRule_56 (by decide) (by omega) (by omega) (fun c56 => ?_) (fun c56 => ?_)
    · exact J74 tp_fault_47 tp_faultAt_47 (by omega) (by omega)
    · refine g_aload_n X dX3_readRule_59 0 rfl ?_
      refine gX3_get X 0 rfl 0 (by decide) uw242 rfl dX3_readRule_60 ?_
      refine g_iconst X dX3_readRule_63 ?_
      refine g_aload_n X dX3_readRule_64 0 rfl ?_
      refine gX3_get X 0 rfl 0 (by decide) uw242 rfl dX3_readRule_65 ?_
      refine gN_get X (T := TX7) 1 rfl rfl inU_X7 4 (by decide) nw140 rfl rfl dX3_readRule_68 ?_
      refine g_callVVw X (c_X7_fail l D cI cB cJ h_tp q_tp (p0 := 4) (p1 := v_tp_at) (by omega) (by omega) (by first | assumption | omega) (by first | assumption | omega) (by first | assumption | omega) (by first | assumption | omega)) [1, 2, 3] rfl rfl rfl cv_X7_fail uw501 ⟨rfl, rfl, (by dsimp only; omega), (by dsimp only; omega)⟩ 0 rfl rfl rfl rfl rfl (Nat.le_of_ble_eq_true rfl) ⟨Nat.zero_le _, Nat.zero_le _⟩ dX3_readRule_71 (fun ws71 k71 => ?_)
      obtain ⟨tp_fault_71, tp_faultAt_71, kr_tp_fault_71, kr_tp_faultAt_71, kp0_71, kp1_71, rfl⟩ := k71
      refine ⟨rfl, ?_⟩
      refine g_ws (ws2 := ((wX3 cI cB cJ h q h_tp (.ref h_lw)) ++ (wX7 cI cB cJ h_tp q_tp v_tp_length v_tp_end v_tp_at tp_fault_71 tp_faultAt_71 v_tp_bytes v_tp_taken) ++ (wX2 cI cB cJ h_lw q_lw v_lw_size v_lw_length v_lw_height v_lw_letter v_lw_valueAt v_lw_testAt v_lw_endAt v_lw_sign v_lw_beside v_lw_seen v_lw_stack))) rfl ?_
      exact J74 tp_fault_71 tp_faultAt_71 (by omega) (by omega)
  refine g_iload_n X dX3_readRule_8 0 rfl ?_
  refine g_bipush X (z := 118) dX3_readRule_9 (by decide) ?_
  refine g_icmp_eq X (tgt := 47) dX3_readRule_11 (by decide) (by omega) (by omega) (fun c11 => ?_) (fun c11 => ?_)
  · refine g_lv [1, 0] rfl ?_
    exact J47 v_tp_fault v_tp_faultAt (by omega) (by omega)
  · refine g_iload_n X dX3_readRule_14 0 rfl ?_
    refine g_bipush X (z := 121) dX3_readRule_15 (by decide) ?_
    refine g_icmp_eq X (tgt := 47) dX3_readRule_17 (by decide) (by omega) (by omega) (fun c17 => ?_) (fun c17 => ?_)
    · refine g_lv [1, 0] rfl ?_
      exact J47 v_tp_fault v_tp_faultAt (by omega) (by omega)
    · refine g_iload_n X dX3_readRule_20 0 rfl ?_
      refine g_bipush X (z := 114) dX3_readRule_21 (by decide) ?_
      refine g_icmp_eq X (tgt := 47) dX3_readRule_23 (by decide) (by omega) (by omega) (fun c23 => ?_) (fun c23 => ?_)
      · refine g_lv [1, 0] rfl ?_
        exact J47 v_tp_fault v_tp_faultAt (by omega) (by omega)
      · refine g_iload_n X dX3_readRule_26 0 rfl ?_
        refine g_bipush X (z := 120) dX3_readRule_27 (by decide) ?_
        refine g_icmp_eq X (tgt := 47) dX3_readRule_29 (by decide) (by omega) (by omega) (fun c29 => ?_) (fun c29 => ?_)
        · refine g_lv [1, 0] rfl ?_
          exact J47 v_tp_fault v_tp_faultAt (by omega) (by omega)
        · refine g_aload_n X dX3_readRule_32 1 rfl ?_
          refine gX3_get X 0 rfl 0 (by decide) uw242 rfl dX3_readRule_33 ?_
          refine g_iconst X dX3_readRule_36 ?_
          refine g_aload_n X dX3_readRule_37 1 rfl ?_
          refine gX3_get X 0 rfl 0 (by decide) uw242 rfl dX3_readRule_38 ?_
          refine gN_get X (T := TX7) 1 rfl rfl inU_X7 4 (by decide) nw140 rfl rfl dX3_readRule_41 ?_
          refine g_callVVw X (c_X7_fail l D cI cB cJ h_tp q_tp (p0 := 1) (p1 := v_tp_at) (by omega) (by omega) (by first | assumption | omega) (by first | assumption | omega) (by first | assumption | omega) (by first | assumption | omega)) [1, 2, 3] rfl rfl rfl cv_X7_fail uw501 ⟨rfl, rfl, (by dsimp only; omega), (by dsimp only; omega)⟩ 0 rfl rfl rfl rfl rfl (Nat.le_of_ble_eq_true rfl) ⟨Nat.zero_le _, Nat.zero_le _⟩ dX3_readRule_44 (fun ws44 k44 => ?_)
          obtain ⟨tp_fault_44, tp_faultAt_44, kr_tp_fault_44, kr_tp_faultAt_44, kp0_44, kp1_44, rfl⟩ := k44
          refine ⟨rfl, ?_⟩
          refine g_ws (ws2 := ((wX3 cI cB cJ h q h_tp (.ref h_lw)) ++ (wX7 cI cB cJ h_tp q_tp v_tp_length v_tp_end v_tp_at tp_fault_44 tp_faultAt_44 v_tp_bytes v_tp_taken) ++ (wX2 cI cB cJ h_lw q_lw v_lw_size v_lw_length v_lw_height v_lw_letter v_lw_valueAt v_lw_testAt v_lw_endAt v_lw_sign v_lw_beside v_lw_seen v_lw_stack))) rfl ?_
          refine g_lv [1, 0] rfl ?_
          exact J47 tp_fault_44 tp_faultAt_44 (by omega) (by omega)
set_option maxHeartbeats 600000 in
set_option maxRecDepth 100000 in
theorem c_X3_read (l : Launch) (D : va_G) (cI cB cJ : ClassId) (h : Nat) (q : Nat → Nat) (h_tp : Nat) (q_tp : Nat → Nat) (h_lw : Nat) (q_lw : Nat → Nat) {o_law : Value} {v_tp_length v_tp_end v_tp_at v_tp_fault v_tp_faultAt v_lw_size v_lw_length v_lw_height : Int} {v_tp_bytes v_tp_taken v_lw_letter v_lw_valueAt v_lw_testAt v_lw_endAt v_lw_sign v_lw_beside v_lw_seen v_lw_stack : Nat → Int} {p1 : Int} (kr_v_tp_length : 0 ≤ v_tp_length ∧ v_tp_length ≤ 260) (kr_v_tp_end : 0 ≤ v_tp_end ∧ v_tp_end ≤ 260) (kr_v_tp_at : 0 ≤ v_tp_at ∧ v_tp_at ≤ 260) (kr_v_tp_fault : 0 ≤ v_tp_fault ∧ v_tp_fault ≤ 8) (kr_v_tp_faultAt : 0 ≤ v_tp_faultAt ∧ v_tp_faultAt ≤ 260) (r_v_tp_bytes : RA 0 255 v_tp_bytes) (kr_v_lw_size : 0 ≤ v_lw_size ∧ v_lw_size ≤ 16) (kr_v_lw_length : 0 ≤ v_lw_length ∧ v_lw_length ≤ 256) (r_v_lw_letter : RA (-2147483648) 2147483647 v_lw_letter) (r_v_lw_valueAt : RA 0 256 v_lw_valueAt) (r_v_lw_testAt : RA 0 256 v_lw_testAt) (r_v_lw_endAt : RA 0 256 v_lw_endAt) (r_v_lw_sign : RA (-2147483648) 2147483647 v_lw_sign) (r_v_lw_beside : RA 0 99999 v_lw_beside) (hp0 : IR p1) (hp1 : 0 ≤ p1 ∧ p1 ≤ 240) (hp2 : LInv v_lw_sign v_lw_beside) : CtI l yX3_read cX3_read 4 (some .int) ⟨81, 0, 0, 1700⟩ D (TY cI cB cJ) ((wX3 cI cB cJ h q h_tp o_law) ++ (wX7 cI cB cJ h_tp q_tp v_tp_length v_tp_end v_tp_at v_tp_fault v_tp_faultAt v_tp_bytes v_tp_taken) ++ (wX2 cI cB cJ h_lw q_lw v_lw_size v_lw_length v_lw_height v_lw_letter v_lw_valueAt v_lw_testAt v_lw_endAt v_lw_sign v_lw_beside v_lw_seen v_lw_stack)) [.ref h, .ref h_lw, vI p1] (fun z ws' => ∃ n_tp_end : Int, ∃ n_tp_at : Int, ∃ n_tp_fault : Int, ∃ n_tp_faultAt : Int, ∃ n_lw_size : Int, ∃ n_lw_length : Int, ∃ n_lw_letter : Nat → Int, ∃ n_lw_valueAt : Nat → Int, ∃ n_lw_testAt : Nat → Int, ∃ n_lw_endAt : Nat → Int, ∃ n_lw_sign : Nat → Int, ∃ n_lw_beside : Nat → Int, (0 ≤ n_tp_end ∧ n_tp_end ≤ 260) ∧ (0 ≤ n_tp_at ∧ n_tp_at ≤ 260) ∧ (0 ≤ n_tp_fault ∧ n_tp_fault ≤ 8) ∧ (0 ≤ n_tp_faultAt ∧ n_tp_faultAt ≤ 260) ∧ (0 ≤ n_lw_size ∧ n_lw_size ≤ 16) ∧ (0 ≤ n_lw_length ∧ n_lw_length ≤ 256) ∧ (RA (-2147483648) 2147483647 n_lw_letter) ∧ (RA 0 256 n_lw_valueAt) ∧ (RA 0 256 n_lw_testAt) ∧ (RA 0 256 n_lw_endAt) ∧ (RA (-2147483648) 2147483647 n_lw_sign) ∧ (RA 0 99999 n_lw_beside) ∧ (IR z) ∧ (LInv n_lw_sign n_lw_beside) ∧ (ws' = ((wX3 cI cB cJ h q h_tp (.ref h_lw)) ++ (wX7 cI cB cJ h_tp q_tp v_tp_length n_tp_end n_tp_at n_tp_fault n_tp_faultAt v_tp_bytes v_tp_taken) ++ (wX2 cI cB cJ h_lw q_lw n_lw_size n_lw_length v_lw_height n_lw_letter n_lw_valueAt n_lw_testAt n_lw_endAt n_lw_sign n_lw_beside v_lw_seen v_lw_stack)))) := by
  refine hdrI (own := RX3) rfl (by decide +kernel) (Nat.le_of_ble_eq_true rfl) ?_
  intro p e s m args below meth c Q A X hQ
  refine g_lvE (lv2 := [(0, .ref h), (1, .ref h_lw), (2, vI p1)]) rfl ?_
  refine g_aload_n X dX3_read_0 0 rfl ?_
  refine g_aload_n X dX3_read_1 1 rfl ?_
  refine gX3_put X 0 rfl 1 (by decide) uw243 rfl rfl rfl (Nat.le_of_ble_eq_true rfl) dX3_read_2 (ws2 := ((wX3 cI cB cJ h q h_tp (.ref h_lw)) ++ (wX7 cI cB cJ h_tp q_tp v_tp_length v_tp_end v_tp_at v_tp_fault v_tp_faultAt v_tp_bytes v_tp_taken) ++ (wX2 cI cB cJ h_lw q_lw v_lw_size v_lw_length v_lw_height v_lw_letter v_lw_valueAt v_lw_testAt v_lw_endAt v_lw_sign v_lw_beside v_lw_seen v_lw_stack))) rfl ?_
  refine g_aload_n X dX3_read_5 0 rfl ?_
  refine gX3_get X 0 rfl 1 (by decide) uw243 rfl dX3_read_6 ?_
  refine g_callVVw X (c_X2_clear l D cI cB cJ h_lw q_lw  (by omega) (by omega)) [4, 5, 6, 7, 8, 9, 10, 11, 12] rfl rfl rfl cv_X2_clear uw484 ⟨rfl, rfl, by decide, by decide⟩ 0 rfl rfl rfl rfl rfl (Nat.le_of_ble_eq_true rfl) ⟨Nat.zero_le _, Nat.zero_le _⟩ dX3_read_9 (fun ws9 k9 => ?_)
  obtain ⟨lw_size_9, lw_length_9, kr_lw_size_9, kr_lw_length_9, kp0_9, kp1_9, rfl⟩ := k9
  refine ⟨rfl, ?_⟩
  refine g_ws (ws2 := ((wX3 cI cB cJ h q h_tp (.ref h_lw)) ++ (wX7 cI cB cJ h_tp q_tp v_tp_length v_tp_end v_tp_at v_tp_fault v_tp_faultAt v_tp_bytes v_tp_taken) ++ (wX2 cI cB cJ h_lw q_lw lw_size_9 lw_length_9 v_lw_height v_lw_letter v_lw_valueAt v_lw_testAt v_lw_endAt v_lw_sign v_lw_beside v_lw_seen v_lw_stack))) rfl ?_
  refine g_aload_n X dX3_read_12 0 rfl ?_
  refine gX3_get X 0 rfl 0 (by decide) uw242 rfl dX3_read_13 ?_
  refine g_iload_n X dX3_read_16 2 rfl ?_
  refine g_callVVw X (c_X7_begin l D cI cB cJ h_tp q_tp (p0 := p1) (by omega) (by omega) (by omega) (by omega) (by omega) (by first | assumption | omega) (by first | assumption | omega)) [1, 2, 3] rfl rfl rfl cv_X7_begin uw488 ⟨rfl, rfl, by decide, by decide⟩ 0 rfl rfl rfl rfl rfl (Nat.le_of_ble_eq_true rfl) ⟨Nat.zero_le _, Nat.zero_le _⟩ dX3_read_17 (fun ws17 k17 => ?_)
  obtain ⟨tp_end_17, tp_at_17, tp_fault_17, tp_faultAt_17, kr_tp_end_17, kr_tp_at_17, kr_tp_fault_17, kr_tp_faultAt_17, kp0_17, kp1_17, kp2_17, kp3_17, kp4_17, rfl⟩ := k17
  refine ⟨rfl, ?_⟩
  refine g_ws (ws2 := ((wX3 cI cB cJ h q h_tp (.ref h_lw)) ++ (wX7 cI cB cJ h_tp q_tp v_tp_length tp_end_17 tp_at_17 tp_fault_17 tp_faultAt_17 v_tp_bytes v_tp_taken) ++ (wX2 cI cB cJ h_lw q_lw lw_size_9 lw_length_9 v_lw_height v_lw_letter v_lw_valueAt v_lw_testAt v_lw_endAt v_lw_sign v_lw_beside v_lw_seen v_lw_stack))) rfl ?_
  refine g_iconst X dX3_read_20 ?_
  refine g_istore_n X (lv' := [(3, vI 0), (0, .ref h), (1, .ref h_lw), (2, vI p1)]) dX3_read_21 (by decide) rfl ?_
  have L22 : ∀ (n : Nat) (x3_22 : Int) (tp_at_22 : Int) (tp_fault_22 : Int) (tp_faultAt_22 : Int) (lw_size_22 : Int) (lw_length_22 : Int) (lw_letter_22 : Nat → Int) (lw_valueAt_22 : Nat → Int) (lw_testAt_22 : Nat → Int) (lw_endAt_22 : Nat → Int) (lw_sign_22 : Nat → Int) (lw_beside_22 : Nat → Int), (0 ≤ tp_at_22 ∧ tp_at_22 ≤ 260) → (0 ≤ tp_fault_22 ∧ tp_fault_22 ≤ 8) → (0 ≤ tp_faultAt_22 ∧ tp_faultAt_22 ≤ 260) → (0 ≤ lw_size_22 ∧ lw_size_22 ≤ 16) → (0 ≤ lw_length_22 ∧ lw_length_22 ≤ 256) → (RA (-2147483648) 2147483647 lw_letter_22) → (RA 0 256 lw_valueAt_22) → (RA 0 256 lw_testAt_22) → (RA 0 256 lw_endAt_22) → (RA (-2147483648) 2147483647 lw_sign_22) → (RA 0 99999 lw_beside_22) → (0 ≤ x3_22 ∧ x3_22 ≤ 17) → (lw_length_22 ≤ tp_at_22) → (tp_at_22 ≤ tp_end_17) → (tp_end_17 ≤ 240) → (LInv lw_sign_22 lw_beside_22) → (17 - x3_22).toNat < n → GG p l e ⟨81, 0, 0, 1700⟩ s m args below meth c 0 0 Q D A s.heap 4 ((wX3 cI cB cJ h q h_tp (.ref h_lw)) ++ (wX7 cI cB cJ h_tp q_tp v_tp_length tp_end_17 tp_at_22 tp_fault_22 tp_faultAt_22 v_tp_bytes v_tp_taken) ++ (wX2 cI cB cJ h_lw q_lw lw_size_22 lw_length_22 v_lw_height lw_letter_22 lw_valueAt_22 lw_testAt_22 lw_endAt_22 lw_sign_22 lw_beside_22 v_lw_seen v_lw_stack)) 22 [(0, .ref h), (3, vI x3_22)] [] := by
    intro n
    induction n with
    | zero => intros; exfalso; omega
    | succ n ih22 =>
      intro x3_22 tp_at_22 tp_fault_22 tp_faultAt_22 lw_size_22 lw_length_22 lw_letter_22 lw_valueAt_22 lw_testAt_22 lw_endAt_22 lw_sign_22 lw_beside_22 kr_tp_at_22 kr_tp_fault_22 kr_tp_faultAt_22 kr_lw_size_22 kr_lw_length_22 r_lw_letter_22 r_lw_valueAt_22 r_lw_testAt_22 r_lw_endAt_22 r_lw_sign_22 r_lw_beside_22 w22_0 w22_1 w22_2 w22_3 w22_4 wm22
      refine g_iload_n X dX3_read_22 1 rfl ?_
      refine g_bipush X (z := 16) dX3_read_23 (by decide) ?_
      refine g_icmp_gt X (tgt := 60) dX3_read_25 (by decide) (by omega) (by omega) (fun c25 => ?_) (fun c25 => ?_)
      · refine g_aload_n X dX3_read_60 0 rfl ?_
        refine gX3_get X 0 rfl 0 (by decide) uw242 rfl dX3_read_61 ?_
        refine g_aload_n X dX3_read_64 0 rfl ?_
        refine gX3_get X 0 rfl 1 (by decide) uw243 rfl dX3_read_65 ?_
        refine gN_get X (T := TX2) 4 rfl rfl inU_X2 0 (by decide) nw267 rfl rfl dX3_read_68 ?_
        refine g_callVIw X (c_X7_answer l D cI cB cJ h_tp q_tp (p0 := lw_size_22) (by omega) (by omega) (by first | assumption | omega)) [1, 2, 3] rfl rfl rfl cv_X7_answer uw620 ⟨rfl, rfl, by decide, by decide⟩ 0 rfl rfl rfl rfl rfl (Nat.le_of_ble_eq_true rfl) ⟨Nat.zero_le _, Nat.zero_le _⟩ dX3_read_71 (fun t71 ws71 k71 => ?_)
        obtain ⟨kp0_71, rfl⟩ := k71
        refine ⟨rfl, ?_⟩
        refine g_ws (ws2 := ((wX3 cI cB cJ h q h_tp (.ref h_lw)) ++ (wX7 cI cB cJ h_tp q_tp v_tp_length tp_end_17 tp_at_22 tp_fault_22 tp_faultAt_22 v_tp_bytes v_tp_taken) ++ (wX2 cI cB cJ h_lw q_lw lw_size_22 lw_length_22 v_lw_height lw_letter_22 lw_valueAt_22 lw_testAt_22 lw_endAt_22 lw_sign_22 lw_beside_22 v_lw_seen v_lw_stack))) rfl ?_
        exact hQ _ _ _ _ dX3_read_74 ⟨tp_end_17, tp_at_22, tp_fault_22, tp_faultAt_22, lw_size_22, lw_length_22, lw_letter_22, lw_valueAt_22, lw_testAt_22, lw_endAt_22, lw_sign_22, lw_beside_22, (by omega), (by omega), (by omega), (by omega), (by omega), (by omega), r_lw_letter_22, r_lw_valueAt_22, r_lw_testAt_22, r_lw_endAt_22, r_lw_sign_22, r_lw_beside_22, (by first | assumption | omega), (by first | assumption | omega), rfl⟩
      · refine g_aload_n X dX3_read_28 0 rfl ?_
        refine g_callVV0 X (c_X3_readRule l D cI cB cJ h q h_tp q_tp h_lw q_lw  (by omega) (by omega) (by omega) (by omega) r_v_tp_bytes (by omega) (by omega) r_lw_letter_22 r_lw_valueAt_22 r_lw_testAt_22 r_lw_endAt_22 r_lw_sign_22 r_lw_beside_22 (by first | assumption | omega) (by first | assumption | omega) (by first | assumption | omega) (by first | assumption | omega)) cv_X3_readRule uw493 ⟨rfl, rfl, (by dsimp only; omega), (by dsimp only; omega)⟩ 0 rfl rfl rfl rfl rfl (Nat.le_of_ble_eq_true rfl) ⟨Nat.zero_le _, Nat.zero_le _⟩ dX3_read_29 (fun ws29 k29 => ?_)
        obtain ⟨tp_at_29, tp_fault_29, tp_faultAt_29, lw_size_29, lw_length_29, lw_letter_29, lw_valueAt_29, lw_testAt_29, lw_endAt_29, lw_sign_29, lw_beside_29, kr_tp_at_29, kr_tp_fault_29, kr_tp_faultAt_29, kr_lw_size_29, kr_lw_length_29, r_lw_letter_29, r_lw_valueAt_29, r_lw_testAt_29, r_lw_endAt_29, r_lw_sign_29, r_lw_beside_29, kp0_29, kp1_29, kp2_29, kp3_29, kp4_29, kp5_29, rfl⟩ := k29
        refine g_aload_n X dX3_read_32 0 rfl ?_
        refine gX3_get X 0 rfl 0 (by decide) uw242 rfl dX3_read_33 ?_
        refine g_callVIw X (c_X7_isOver l D cI cB cJ h_tp q_tp  (by omega) (by omega) (by omega)) [1, 2, 3] rfl rfl rfl cv_X7_isOver uw616 ⟨rfl, rfl, by decide, by decide⟩ 0 rfl rfl rfl rfl rfl (Nat.le_of_ble_eq_true rfl) ⟨Nat.zero_le _, Nat.zero_le _⟩ dX3_read_36 (fun t36 ws36 k36 => ?_)
        obtain ⟨kb_36, ⟨kp0_36, rfl⟩⟩ := k36
        refine ⟨rfl, ?_⟩
        refine g_ws (ws2 := ((wX3 cI cB cJ h q h_tp (.ref h_lw)) ++ (wX7 cI cB cJ h_tp q_tp v_tp_length tp_end_17 tp_at_29 tp_fault_29 tp_faultAt_29 v_tp_bytes v_tp_taken) ++ (wX2 cI cB cJ h_lw q_lw lw_size_29 lw_length_29 v_lw_height lw_letter_29 lw_valueAt_29 lw_testAt_29 lw_endAt_29 lw_sign_29 lw_beside_29 v_lw_seen v_lw_stack))) rfl ?_
        refine g_if_eq X (tgt := 45) dX3_read_39 (by decide) (by omega) (fun c39 => ?_) (fun c39 => ?_)
        · clear kb_36
          replace kp0_36 := (kp0_36.resolve_left (fun h => absurd h.1 (by omega))).2
          refine g_aload_n X dX3_read_45 0 rfl ?_
          refine gX3_get X 0 rfl 0 (by decide) uw242 rfl dX3_read_46 ?_
          refine g_bipush X (z := 59) dX3_read_49 (by decide) ?_
          refine g_callVVw X (c_X7_pass l D cI cB cJ h_tp q_tp (p0 := 59) (by omega) (by omega) (by omega) (by omega) r_v_tp_bytes (by first | assumption | omega) (by first | assumption | omega) (by first | assumption | omega)) [1, 2, 3] rfl rfl rfl cv_X7_pass uw529 ⟨rfl, rfl, by decide, by decide⟩ 0 rfl rfl rfl rfl rfl (Nat.le_of_ble_eq_true rfl) ⟨Nat.zero_le _, Nat.zero_le _⟩ dX3_read_51 (fun ws51 k51 => ?_)
          obtain ⟨tp_at_51, tp_fault_51, tp_faultAt_51, kr_tp_at_51, kr_tp_fault_51, kr_tp_faultAt_51, kp0_51, kp1_51, kp2_51, kp3_51, rfl⟩ := k51
          refine ⟨rfl, ?_⟩
          refine g_ws (ws2 := ((wX3 cI cB cJ h q h_tp (.ref h_lw)) ++ (wX7 cI cB cJ h_tp q_tp v_tp_length tp_end_17 tp_at_51 tp_fault_51 tp_faultAt_51 v_tp_bytes v_tp_taken) ++ (wX2 cI cB cJ h_lw q_lw lw_size_29 lw_length_29 v_lw_height lw_letter_29 lw_valueAt_29 lw_testAt_29 lw_endAt_29 lw_sign_29 lw_beside_29 v_lw_seen v_lw_stack))) rfl ?_
          refine g_iinc X (lv' := [(3, vI (x3_22 + 1)), (0, .ref h)]) dX3_read_54 1 rfl (by decide) rfl ?_
          refine g_goto X (tgt := 22) dX3_read_57 (by decide) ?_
          refine g_lv [1, 0] rfl ?_
          exact ih22 (x3_22 + 1) tp_at_51 tp_fault_51 tp_faultAt_51 lw_size_29 lw_length_29 lw_letter_29 lw_valueAt_29 lw_testAt_29 lw_endAt_29 lw_sign_29 lw_beside_29 (by omega) (by omega) (by omega) (by omega) (by omega) r_lw_letter_29 r_lw_valueAt_29 r_lw_testAt_29 r_lw_endAt_29 r_lw_sign_29 r_lw_beside_29 (by first | assumption | omega) (by first | assumption | omega) (by first | assumption | omega) (by first | assumption | omega) (by first | assumption | omega) (by omega)
        · replace kb_36 := kb_36.resolve_left (fun h => c39 h)
          replace kp0_36 := kp0_36.resolve_right (fun h => c39 h.1)
          refine g_goto X (tgt := 60) dX3_read_42 (by decide) ?_
          refine g_aload_n X dX3_read_60 0 rfl ?_
          refine gX3_get X 0 rfl 0 (by decide) uw242 rfl dX3_read_61 ?_
          refine g_aload_n X dX3_read_64 0 rfl ?_
          refine gX3_get X 0 rfl 1 (by decide) uw243 rfl dX3_read_65 ?_
          refine gN_get X (T := TX2) 4 rfl rfl inU_X2 0 (by decide) nw267 rfl rfl dX3_read_68 ?_
          refine g_callVIw X (c_X7_answer l D cI cB cJ h_tp q_tp (p0 := lw_size_29) (by omega) (by omega) (by first | assumption | omega)) [1, 2, 3] rfl rfl rfl cv_X7_answer uw620 ⟨rfl, rfl, by decide, by decide⟩ 0 rfl rfl rfl rfl rfl (Nat.le_of_ble_eq_true rfl) ⟨Nat.zero_le _, Nat.zero_le _⟩ dX3_read_71 (fun t71 ws71 k71 => ?_)
          obtain ⟨kp0_71, rfl⟩ := k71
          refine ⟨rfl, ?_⟩
          refine g_ws (ws2 := ((wX3 cI cB cJ h q h_tp (.ref h_lw)) ++ (wX7 cI cB cJ h_tp q_tp v_tp_length tp_end_17 tp_at_29 tp_fault_29 tp_faultAt_29 v_tp_bytes v_tp_taken) ++ (wX2 cI cB cJ h_lw q_lw lw_size_29 lw_length_29 v_lw_height lw_letter_29 lw_valueAt_29 lw_testAt_29 lw_endAt_29 lw_sign_29 lw_beside_29 v_lw_seen v_lw_stack))) rfl ?_
          exact hQ _ _ _ _ dX3_read_74 ⟨tp_end_17, tp_at_29, tp_fault_29, tp_faultAt_29, lw_size_29, lw_length_29, lw_letter_29, lw_valueAt_29, lw_testAt_29, lw_endAt_29, lw_sign_29, lw_beside_29, (by omega), (by omega), (by omega), (by omega), (by omega), (by omega), r_lw_letter_29, r_lw_valueAt_29, r_lw_testAt_29, r_lw_endAt_29, r_lw_sign_29, r_lw_beside_29, (by first | assumption | omega), (by first | assumption | omega), rfl⟩
  refine g_lv [1, 0] rfl ?_
  exact L22 _ 0 tp_at_17 tp_fault_17 tp_faultAt_17 lw_size_9 lw_length_9 v_lw_letter v_lw_valueAt v_lw_testAt v_lw_endAt v_lw_sign v_lw_beside (by omega) (by omega) (by omega) (by omega) (by omega) r_v_lw_letter r_v_lw_valueAt r_v_lw_testAt r_v_lw_endAt r_v_lw_sign r_v_lw_beside (by first | assumption | omega) (by first | assumption | omega) (by first | assumption | omega) (by first | assumption | omega) (by first | assumption | omega) (Nat.lt_succ_self _)
set_option maxHeartbeats 600000 in
set_option maxRecDepth 100000 in
theorem c_X9_law (l : Launch) (D : va_G) (cI cB cJ : ClassId) (h : Nat) (q : Nat → Nat) (h_tape : Nat) (q_tape : Nat → Nat) (h_lr : Nat) (q_lr : Nat → Nat) (h_nr : Nat) (q_nr : Nat → Nat) {o_claims : Nat} {o_nextClaims : Nat} {o_bounds : Nat} {o_otherBounds : Nat} {o_ringSearch : Nat} {o_rules : Nat} {o_market : Nat} {o_trial : Nat} {o_kept : Nat} {o_triangles : Nat} {o_lr_law : Value} {v_hasKept v_tape_length v_tape_end v_tape_at v_tape_fault v_tape_faultAt v_nr_size v_nr_length v_nr_height : Int} {v_table v_tape_bytes v_tape_taken v_nr_letter v_nr_valueAt v_nr_testAt v_nr_endAt v_nr_sign v_nr_beside v_nr_seen v_nr_stack : Nat → Int} {p0 : Int} (kr_v_tape_length : 0 ≤ v_tape_length ∧ v_tape_length ≤ 260) (kr_v_tape_end : 0 ≤ v_tape_end ∧ v_tape_end ≤ 260) (kr_v_tape_at : 0 ≤ v_tape_at ∧ v_tape_at ≤ 260) (kr_v_tape_fault : 0 ≤ v_tape_fault ∧ v_tape_fault ≤ 8) (kr_v_tape_faultAt : 0 ≤ v_tape_faultAt ∧ v_tape_faultAt ≤ 260) (r_v_tape_bytes : RA 0 255 v_tape_bytes) (kr_v_nr_size : 0 ≤ v_nr_size ∧ v_nr_size ≤ 16) (kr_v_nr_length : 0 ≤ v_nr_length ∧ v_nr_length ≤ 256) (r_v_nr_letter : RA (-2147483648) 2147483647 v_nr_letter) (r_v_nr_valueAt : RA 0 256 v_nr_valueAt) (r_v_nr_testAt : RA 0 256 v_nr_testAt) (r_v_nr_endAt : RA 0 256 v_nr_endAt) (r_v_nr_sign : RA (-2147483648) 2147483647 v_nr_sign) (r_v_nr_beside : RA 0 99999 v_nr_beside) (hp0 : IR p0) (hp1 : LInv v_nr_sign v_nr_beside) : CtI l yX9_law cX9_law 4 (some .int) ⟨82, 0, 0, 1723⟩ D (TY cI cB cJ) ((wX9 cI cB cJ h q h_tape o_claims o_nextClaims o_bounds o_otherBounds o_ringSearch h_lr o_rules h_nr o_market o_trial o_kept o_triangles v_hasKept v_table) ++ (wX7 cI cB cJ h_tape q_tape v_tape_length v_tape_end v_tape_at v_tape_fault v_tape_faultAt v_tape_bytes v_tape_taken) ++ (wX3 cI cB cJ h_lr q_lr h_tape o_lr_law) ++ (wX2 cI cB cJ h_nr q_nr v_nr_size v_nr_length v_nr_height v_nr_letter v_nr_valueAt v_nr_testAt v_nr_endAt v_nr_sign v_nr_beside v_nr_seen v_nr_stack)) [.ref h, vI p0] (fun z ws' => ∃ n_tape_length : Int, ∃ n_tape_end : Int, ∃ n_tape_at : Int, ∃ n_tape_fault : Int, ∃ n_tape_faultAt : Int, ∃ n_nr_size : Int, ∃ n_nr_length : Int, ∃ n_nr_letter : Nat → Int, ∃ n_nr_valueAt : Nat → Int, ∃ n_nr_testAt : Nat → Int, ∃ n_nr_endAt : Nat → Int, ∃ n_nr_sign : Nat → Int, ∃ n_nr_beside : Nat → Int, ∃ n_o_rules : Nat, ∃ n_o_nextRules : Nat, ∃ n_o_lr_law : Value, (0 ≤ n_tape_length ∧ n_tape_length ≤ 260) ∧ (0 ≤ n_tape_end ∧ n_tape_end ≤ 260) ∧ (0 ≤ n_tape_at ∧ n_tape_at ≤ 260) ∧ (0 ≤ n_tape_fault ∧ n_tape_fault ≤ 8) ∧ (0 ≤ n_tape_faultAt ∧ n_tape_faultAt ≤ 260) ∧ (0 ≤ n_nr_size ∧ n_nr_size ≤ 16) ∧ (0 ≤ n_nr_length ∧ n_nr_length ≤ 256) ∧ (RA (-2147483648) 2147483647 n_nr_letter) ∧ (RA 0 256 n_nr_valueAt) ∧ (RA 0 256 n_nr_testAt) ∧ (RA 0 256 n_nr_endAt) ∧ (RA (-2147483648) 2147483647 n_nr_sign) ∧ (RA 0 99999 n_nr_beside) ∧ (IR z) ∧ (LInv n_nr_sign n_nr_beside) ∧ ((1 ≤ p0 ∧ p0 ≤ 240 ∧ p0 ≤ v_tape_length ∧ n_tape_length = 0) ∨ (¬ (1 ≤ p0 ∧ p0 ≤ 240 ∧ p0 ≤ v_tape_length) ∧ n_tape_length = v_tape_length)) ∧ ((n_o_rules = o_rules ∧ n_o_nextRules = h_nr) ∨ (n_o_rules = h_nr ∧ n_o_nextRules = o_rules)) ∧ (ws' = ((wX9 cI cB cJ h q h_tape o_claims o_nextClaims o_bounds o_otherBounds o_ringSearch h_lr n_o_rules n_o_nextRules o_market o_trial o_kept o_triangles v_hasKept v_table) ++ (wX7 cI cB cJ h_tape q_tape n_tape_length n_tape_end n_tape_at n_tape_fault n_tape_faultAt v_tape_bytes v_tape_taken) ++ (wX3 cI cB cJ h_lr q_lr h_tape n_o_lr_law) ++ (wX2 cI cB cJ h_nr q_nr n_nr_size n_nr_length v_nr_height n_nr_letter n_nr_valueAt n_nr_testAt n_nr_endAt n_nr_sign n_nr_beside v_nr_seen v_nr_stack)))) := by
  refine hdrI (own := RX9) rfl (by decide +kernel) (Nat.le_of_ble_eq_true rfl) ?_
  intro p e s m args below meth c Q A X hQ
  refine g_lvE (lv2 := [(0, .ref h), (1, vI p0)]) rfl ?_
  refine g_aload_n X dX9_law_0 0 rfl ?_
  refine gX9_get X 0 rfl 0 (by decide) uw411 rfl dX9_law_1 ?_
  refine g_iload_n X dX9_law_4 1 rfl ?_
  refine g_iconst X dX9_law_5 ?_
  refine g_sipush X (z := 240) dX9_law_6 (by decide) ?_
  refine g_callVIw X (c_X7_has l D cI cB cJ h_tape q_tape (p0 := p0) (p1 := 1) (p2 := 240) (by omega) (by first | assumption | omega) (by first | assumption | omega) (by first | assumption | omega)) [2, 3, 4] rfl rfl rfl cv_X7_has uw473 ⟨rfl, rfl, by decide, by decide⟩ 0 rfl rfl rfl rfl rfl (Nat.le_of_ble_eq_true rfl) ⟨Nat.zero_le _, Nat.zero_le _⟩ dX9_law_9 (fun t9 ws9 k9 => ?_)
  obtain ⟨kb_9, ⟨kp0_9, rfl⟩⟩ := k9
  refine ⟨rfl, ?_⟩
  refine g_ws (ws2 := ((wX9 cI cB cJ h q h_tape o_claims o_nextClaims o_bounds o_otherBounds o_ringSearch h_lr o_rules h_nr o_market o_trial o_kept o_triangles v_hasKept v_table) ++ (wX7 cI cB cJ h_tape q_tape v_tape_length v_tape_end v_tape_at v_tape_fault v_tape_faultAt v_tape_bytes v_tape_taken) ++ (wX3 cI cB cJ h_lr q_lr h_tape o_lr_law) ++ (wX2 cI cB cJ h_nr q_nr v_nr_size v_nr_length v_nr_height v_nr_letter v_nr_valueAt v_nr_testAt v_nr_endAt v_nr_sign v_nr_beside v_nr_seen v_nr_stack))) rfl ?_
  refine g_if_ne X (tgt := 17) dX9_law_12 (by decide) (by omega) (fun c12 => ?_) (fun c12 => ?_)
  · replace kb_9 := kb_9.resolve_left (fun h => c12 h)
    replace kp0_9 := kp0_9.resolve_right (fun h => c12 h.1)
    refine g_aload_n X dX9_law_17 0 rfl ?_
    refine gX9_get X 0 rfl 6 (by decide) uw417 rfl dX9_law_18 ?_
    refine g_aload_n X dX9_law_21 0 rfl ?_
    refine gX9_get X 0 rfl 8 (by decide) uw419 rfl dX9_law_22 ?_
    refine g_iload_n X dX9_law_25 1 rfl ?_
    refine g_callVIw X (c_X3_read l D cI cB cJ h_lr q_lr h_tape q_tape h_nr q_nr (p1 := p0) (by omega) (by omega) (by omega) (by omega) (by omega) r_v_tape_bytes (by omega) (by omega) r_v_nr_letter r_v_nr_valueAt r_v_nr_testAt r_v_nr_endAt r_v_nr_sign r_v_nr_beside (by first | assumption | omega) (by first | assumption | omega) (by first | assumption | omega)) [5, 2, 3, 4, 6, 7, 8, 9, 10, 11, 12, 13, 14] rfl rfl rfl cv_X3_read uw480 ⟨rfl, rfl, by decide, by decide⟩ 0 rfl rfl rfl rfl rfl (Nat.le_of_ble_eq_true rfl) ⟨Nat.zero_le _, Nat.zero_le _⟩ dX9_law_26 (fun t26 ws26 k26 => ?_)
    obtain ⟨tape_end_26, tape_at_26, tape_fault_26, tape_faultAt_26, nr_size_26, nr_length_26, nr_letter_26, nr_valueAt_26, nr_testAt_26, nr_endAt_26, nr_sign_26, nr_beside_26, kr_tape_end_26, kr_tape_at_26, kr_tape_fault_26, kr_tape_faultAt_26, kr_nr_size_26, kr_nr_length_26, r_nr_letter_26, r_nr_valueAt_26, r_nr_testAt_26, r_nr_endAt_26, r_nr_sign_26, r_nr_beside_26, kp0_26, kp1_26, rfl⟩ := k26
    refine ⟨rfl, ?_⟩
    refine g_ws (ws2 := ((wX9 cI cB cJ h q h_tape o_claims o_nextClaims o_bounds o_otherBounds o_ringSearch h_lr o_rules h_nr o_market o_trial o_kept o_triangles v_hasKept v_table) ++ (wX7 cI cB cJ h_tape q_tape v_tape_length tape_end_26 tape_at_26 tape_fault_26 tape_faultAt_26 v_tape_bytes v_tape_taken) ++ (wX3 cI cB cJ h_lr q_lr h_tape (.ref h_nr)) ++ (wX2 cI cB cJ h_nr q_nr nr_size_26 nr_length_26 v_nr_height nr_letter_26 nr_valueAt_26 nr_testAt_26 nr_endAt_26 nr_sign_26 nr_beside_26 v_nr_seen v_nr_stack))) rfl ?_
    refine g_istore_n X (lv' := [(2, vI t26), (0, .ref h), (1, vI p0)]) dX9_law_29 (by decide) rfl ?_
    refine g_aload_n X dX9_law_30 1 rfl ?_
    refine gX9_get X 0 rfl 0 (by decide) uw411 rfl dX9_law_31 ?_
    refine g_callVVw X (c_X7_empty l D cI cB cJ h_tape q_tape  (by omega)) [2, 3, 4] rfl rfl rfl cv_X7_empty uw625 ⟨rfl, rfl, by decide, by decide⟩ 0 rfl rfl rfl rfl rfl (Nat.le_of_ble_eq_true rfl) ⟨Nat.zero_le _, Nat.zero_le _⟩ dX9_law_34 (fun ws34 k34 => ?_)
    obtain ⟨tape_length_34, kr_tape_length_34, kp0_34, rfl⟩ := k34
    refine ⟨rfl, ?_⟩
    refine g_ws (ws2 := ((wX9 cI cB cJ h q h_tape o_claims o_nextClaims o_bounds o_otherBounds o_ringSearch h_lr o_rules h_nr o_market o_trial o_kept o_triangles v_hasKept v_table) ++ (wX7 cI cB cJ h_tape q_tape tape_length_34 tape_end_26 tape_at_26 tape_fault_26 tape_faultAt_26 v_tape_bytes v_tape_taken) ++ (wX3 cI cB cJ h_lr q_lr h_tape (.ref h_nr)) ++ (wX2 cI cB cJ h_nr q_nr nr_size_26 nr_length_26 v_nr_height nr_letter_26 nr_valueAt_26 nr_testAt_26 nr_endAt_26 nr_sign_26 nr_beside_26 v_nr_seen v_nr_stack))) rfl ?_
    refine g_iload_n X dX9_law_37 0 rfl ?_
    refine g_if_lt X (tgt := 59) dX9_law_38 (by decide) (by omega) (fun c38 => ?_) (fun c38 => ?_)
    · refine g_iload_n X dX9_law_59 0 rfl ?_
      exact hQ _ _ _ _ dX9_law_60 ⟨tape_length_34, tape_end_26, tape_at_26, tape_fault_26, tape_faultAt_26, nr_size_26, nr_length_26, nr_letter_26, nr_valueAt_26, nr_testAt_26, nr_endAt_26, nr_sign_26, nr_beside_26, o_rules, h_nr, (.ref h_nr), (by omega), (by omega), (by omega), (by omega), (by omega), (by omega), (by omega), r_nr_letter_26, r_nr_valueAt_26, r_nr_testAt_26, r_nr_endAt_26, r_nr_sign_26, r_nr_beside_26, (by first | assumption | omega), (by first | assumption | omega), (by first | assumption | omega), (by first | exact Or.inl ⟨rfl, rfl⟩ | exact Or.inr ⟨rfl, rfl⟩), rfl⟩
    · refine g_aload_n X dX9_law_41 1 rfl ?_
      refine gX9_get X 0 rfl 7 (by decide) uw418 rfl dX9_law_42 ?_
      refine g_astore_n X (lv' := [(3, .ref o_rules), (2, vI t26), (0, .ref h), (1, vI p0)]) dX9_law_45 (by decide) rfl ?_
      refine g_aload_n X dX9_law_46 2 rfl ?_
      refine g_aload_n X dX9_law_47 2 rfl ?_
      refine gX9_get X 0 rfl 8 (by decide) uw419 rfl dX9_law_48 ?_
      refine gX9_put X 0 rfl 7 (by decide) uw418 rfl rfl rfl (Nat.le_of_ble_eq_true rfl) dX9_law_51 (ws2 := ((wX9 cI cB cJ h q h_tape o_claims o_nextClaims o_bounds o_otherBounds o_ringSearch h_lr h_nr h_nr o_market o_trial o_kept o_triangles v_hasKept v_table) ++ (wX7 cI cB cJ h_tape q_tape tape_length_34 tape_end_26 tape_at_26 tape_fault_26 tape_faultAt_26 v_tape_bytes v_tape_taken) ++ (wX3 cI cB cJ h_lr q_lr h_tape (.ref h_nr)) ++ (wX2 cI cB cJ h_nr q_nr nr_size_26 nr_length_26 v_nr_height nr_letter_26 nr_valueAt_26 nr_testAt_26 nr_endAt_26 nr_sign_26 nr_beside_26 v_nr_seen v_nr_stack))) rfl ?_
      refine g_aload_n X dX9_law_54 2 rfl ?_
      refine g_aload_n X dX9_law_55 0 rfl ?_
      refine gX9_put X 0 rfl 8 (by decide) uw419 rfl rfl rfl (Nat.le_of_ble_eq_true rfl) dX9_law_56 (ws2 := ((wX9 cI cB cJ h q h_tape o_claims o_nextClaims o_bounds o_otherBounds o_ringSearch h_lr h_nr o_rules o_market o_trial o_kept o_triangles v_hasKept v_table) ++ (wX7 cI cB cJ h_tape q_tape tape_length_34 tape_end_26 tape_at_26 tape_fault_26 tape_faultAt_26 v_tape_bytes v_tape_taken) ++ (wX3 cI cB cJ h_lr q_lr h_tape (.ref h_nr)) ++ (wX2 cI cB cJ h_nr q_nr nr_size_26 nr_length_26 v_nr_height nr_letter_26 nr_valueAt_26 nr_testAt_26 nr_endAt_26 nr_sign_26 nr_beside_26 v_nr_seen v_nr_stack))) rfl ?_
      refine g_iload_n X dX9_law_59 1 rfl ?_
      exact hQ _ _ _ _ dX9_law_60 ⟨tape_length_34, tape_end_26, tape_at_26, tape_fault_26, tape_faultAt_26, nr_size_26, nr_length_26, nr_letter_26, nr_valueAt_26, nr_testAt_26, nr_endAt_26, nr_sign_26, nr_beside_26, h_nr, o_rules, (.ref h_nr), (by omega), (by omega), (by omega), (by omega), (by omega), (by omega), (by omega), r_nr_letter_26, r_nr_valueAt_26, r_nr_testAt_26, r_nr_endAt_26, r_nr_sign_26, r_nr_beside_26, (by first | assumption | omega), (by first | assumption | omega), (by first | assumption | omega), (by first | exact Or.inl ⟨rfl, rfl⟩ | exact Or.inr ⟨rfl, rfl⟩), rfl⟩
  · clear kb_9
    replace kp0_9 := (kp0_9.resolve_left (fun h => absurd h.1 (by omega))).2
    refine g_iconst X dX9_law_15 ?_
    exact hQ _ _ _ _ dX9_law_16 ⟨v_tape_length, v_tape_end, v_tape_at, v_tape_fault, v_tape_faultAt, v_nr_size, v_nr_length, v_nr_letter, v_nr_valueAt, v_nr_testAt, v_nr_endAt, v_nr_sign, v_nr_beside, o_rules, h_nr, o_lr_law, (by omega), (by omega), (by omega), (by omega), (by omega), (by omega), (by omega), r_v_nr_letter, r_v_nr_valueAt, r_v_nr_testAt, r_v_nr_endAt, r_v_nr_sign, r_v_nr_beside, (by first | assumption | omega), (by first | assumption | omega), (by first | assumption | omega), (by first | exact Or.inl ⟨rfl, rfl⟩ | exact Or.inr ⟨rfl, rfl⟩), rfl⟩
