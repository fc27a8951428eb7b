set_option maxHeartbeats 600000 in
set_option maxRecDepth 100000 in
theorem c_X5_step (l : Launch) (D : va_G) (cI cB cJ : ClassId) (h : Nat) (q : Nat → Nat) (r_di : Nat) {v_here v_next v_di : Nat → Int} {p1 : Int} (r_v_here : RA (-2147483648) 2147483647 v_here) (r_v_next : RA (-2147483648) 2147483647 v_next) (r_v_di : RA (-2147483648) 2147483647 v_di) (hp0 : IR p1) : CtV l yX5_step cX5_step 6 none ⟨1, 0, 0, 40⟩ D (TY cI cB cJ) ((wX5 cI cB cJ h q v_here v_next) ++ (wA cI 144 r_di v_di)) [.ref h, .ref r_di, vI p1] (fun ws' => ∃ n_here : Nat → Int, ∃ n_next : Nat → Int, (RA (-2147483648) 2147483647 n_here) ∧ (RA (-2147483648) 2147483647 n_next) ∧ (ws' = ((wX5 cI cB cJ h q n_here n_next) ++ (wA cI 144 r_di v_di)))) := by
  refine hdrV (own := RX5) rfl (by decide +kernel) (Nat.le_of_ble_eq_true rfl) ?_
  intro p e s m args below meth c Q A X hQ
  refine g_lvE (lv2 := [(0, .ref h), (1, .ref r_di), (2, vI p1)]) rfl ?_
  refine g_aload_n X dX5_step_0 0 rfl ?_
  refine gX5_get X 0 rfl 1 (by decide) uw230 rfl dX5_step_1 ?_
  refine g_ldc X (z := 1000000) dX5_step_4 uw759 (by decide) ?_
  refine g_callSVw X (c_J7_fill_53178_12 l D cI cB cJ (q 1) (p1 := 1000000) r_v_next (by first | assumption | omega)) [2] rfl rfl rfl cv_J7_fill_53178 uw760 ⟨rfl, rfl, by decide, by decide⟩ rfl rfl (Nat.le_of_ble_eq_true rfl) ⟨Nat.zero_le _, Nat.zero_le _⟩ dX5_step_6 (fun ws6 k6 => ?_)
  obtain ⟨next_6, r_next_6, rfl⟩ := k6
  refine ⟨rfl, ?_⟩
  refine g_ws (ws2 := ((wX5 cI cB cJ h q v_here next_6) ++ (wA cI 144 r_di v_di))) rfl ?_
  refine g_iconst X dX5_step_9 ?_
  refine g_istore_n X (lv' := [(3, vI 0), (0, .ref h), (1, .ref r_di), (2, vI p1)]) dX5_step_10 (by decide) rfl ?_
  have L11 : ∀ (n : Nat) (x3_11 : Int) (next_11 : Nat → Int), (RA (-2147483648) 2147483647 next_11) → (0 ≤ x3_11 ∧ x3_11 ≤ 12) → (12 - x3_11).toNat < n → GG p l e ⟨1, 0, 0, 40⟩ s m args below meth c 0 0 Q D A s.heap 6 ((wX5 cI cB cJ h q v_here next_11) ++ (wA cI 144 r_di v_di)) 11 [(0, .ref h), (1, .ref r_di), (2, vI p1), (3, vI x3_11)] [] := by
    intro n
    induction n with
    | zero => intros; exfalso; omega
    | succ n ih11 =>
      intro x3_11 next_11 r_next_11 w11_0 wm11
      refine g_iload_n X dX5_step_11 3 rfl ?_
      refine g_bipush X (z := 12) dX5_step_12 (by decide) ?_
      refine g_icmp_ge X (tgt := 109) dX5_step_14 (by decide) (by omega) (by omega) (fun c14 => ?_) (fun c14 => ?_)
      · refine g_aload_n X dX5_step_109 0 rfl ?_
        refine gX5_get X 0 rfl 1 (by decide) uw230 rfl dX5_step_110 ?_
        refine g_iconst X dX5_step_113 ?_
        refine g_aload_n X dX5_step_114 0 rfl ?_
        refine gX5_get X 0 rfl 0 (by decide) uw229 rfl dX5_step_115 ?_
        refine g_iconst X dX5_step_118 ?_
        refine g_bipush X (z := 12) dX5_step_119 (by decide) ?_
        refine g_acopy X 2 1 rfl rfl rfl uw767 uw402 uw401 uw112 (by omega) (by omega) (by omega) (by omega) (by omega) ⟨by decide, Nat.le_of_ble_eq_true rfl⟩ dX5_step_121 (fun here_121 e121 => ?_)
        have r_here_121 : RA (-2147483648) 2147483647 here_121 := by rw [e121]; exact RA_cpy r_next_11 r_v_here
        refine g_ws (ws2 := ((wX5 cI cB cJ h q here_121 next_11) ++ (wA cI 144 r_di v_di))) rfl ?_
        exact hQ _ _ _ dX5_step_124 ⟨here_121, next_11, r_here_121, r_next_11, rfl⟩
      · refine g_iconst X dX5_step_17 ?_
        refine g_istore X (lv' := [(4, vI 0), (0, .ref h), (1, .ref r_di), (2, vI p1), (3, vI x3_11)]) dX5_step_18 (by decide) rfl ?_
        have L20 : ∀ (n : Nat) (x4_20 : Int) (next_20 : Nat → Int), (RA (-2147483648) 2147483647 next_20) → (0 ≤ x4_20 ∧ x4_20 ≤ 12) → (12 - x4_20).toNat < n → GG p l e ⟨1, 0, 0, 40⟩ s m args below meth c 0 0 Q D A s.heap 6 ((wX5 cI cB cJ h q v_here next_20) ++ (wA cI 144 r_di v_di)) 20 [(0, .ref h), (1, .ref r_di), (2, vI p1), (3, vI x3_11), (4, vI x4_20)] [] := by
          intro n
          induction n with
          | zero => intros; exfalso; omega
          | succ n ih20 =>
            intro x4_20 next_20 r_next_20 w20_0 wm20
            refine g_iload X dX5_step_20 4 rfl ?_
            refine g_bipush X (z := 12) dX5_step_22 (by decide) ?_
            refine g_icmp_ge X (tgt := 103) dX5_step_24 (by decide) (by omega) (by omega) (fun c24 => ?_) (fun c24 => ?_)
            · refine g_iinc X (lv' := [(3, vI (x3_11 + 1)), (0, .ref h), (1, .ref r_di), (2, vI p1), (4, vI x4_20)]) dX5_step_103 3 rfl (by decide) rfl ?_
              refine g_goto X (tgt := 11) dX5_step_106 (by decide) ?_
              refine g_lv [1, 2, 3, 0] rfl ?_
              exact ih11 (x3_11 + 1) next_20 r_next_20 (by first | assumption | omega) (by omega)
            · refine g_aload_n X dX5_step_27 0 rfl ?_
              refine gX5_get X 0 rfl 0 (by decide) uw229 rfl dX5_step_28 ?_
              refine g_iload_n X dX5_step_31 3 rfl ?_
              refine g_iald X 1 0 rfl rfl (by omega) (by decide) dX5_step_32 (fun t32 e32 => ?_)
              have r32 := r_v_here (x3_11 : Int).toNat; rw [← e32] at r32
              refine g_ldc X (z := 1000000) dX5_step_33 uw759 (by decide) ?_
              refine g_icmp_eq X (tgt := 103) dX5_step_35 (by decide) (by omega) (by omega) (fun c35 => ?_) (fun c35 => ?_)
              · refine g_iinc X (lv' := [(3, vI (x3_11 + 1)), (0, .ref h), (1, .ref r_di), (2, vI p1), (4, vI x4_20)]) dX5_step_103 3 rfl (by decide) rfl ?_
                refine g_goto X (tgt := 11) dX5_step_106 (by decide) ?_
                refine g_lv [1, 2, 3, 0] rfl ?_
                exact ih11 (x3_11 + 1) next_20 r_next_20 (by first | assumption | omega) (by omega)
              · refine g_aload_n X dX5_step_38 1 rfl ?_
                refine g_iload_n X dX5_step_39 3 rfl ?_
                refine g_bipush X (z := 12) dX5_step_40 (by decide) ?_
                refine g_imul X dX5_step_42 ?_
                refine g_iload X dX5_step_43 4 rfl ?_
                refine g_iadd X dX5_step_45 ?_
                refine g_iald X 3 0 rfl rfl (by omega) (by decide) dX5_step_46 (fun t46 e46 => ?_)
                have r46 := r_v_di ((x3_11 * 12) + x4_20 : Int).toNat; rw [← e46] at r46
                refine g_istore X (lv' := [(5, vI t46), (0, .ref h), (1, .ref r_di), (2, vI p1), (3, vI x3_11), (4, vI x4_20)]) dX5_step_47 (by decide) rfl ?_
                refine g_iload_n X dX5_step_49 3 rfl ?_
                refine g_iload X dX5_step_50 5 rfl ?_
                refine g_callSNIE X (c_X9_isIn l D cI cB cJ (p0 := p1) (p1 := x4_20) (by first | assumption | omega) (by first | assumption | omega)) cv_X9_isIn nw765 ⟨rfl, rfl, by decide, by decide⟩ rfl rfl (Nat.le_of_ble_eq_true rfl) ⟨Nat.zero_le _, Nat.zero_le _⟩ dX5_step_52 (fun t52 ws52 k52 => ?_)
                obtain ⟨kb_52, ⟨kp0_52, rfl⟩⟩ := k52
                refine g_if_eq X (tgt := 97) dX5_step_55 (by decide) (by omega) (fun c55 => ?_) (fun c55 => ?_)
                · refine g_iinc X (lv' := [(4, vI (x4_20 + 1)), (5, vI t46), (0, .ref h), (1, .ref r_di), (2, vI p1), (3, vI x3_11)]) dX5_step_97 5 rfl (by decide) rfl ?_
                  refine g_goto X (tgt := 20) dX5_step_100 (by decide) ?_
                  refine g_lv [2, 3, 4, 5, 0] rfl ?_
                  exact ih20 (x4_20 + 1) next_20 r_next_20 (by first | assumption | omega) (by omega)
                · refine g_iload_n X dX5_step_58 4 rfl ?_
                  refine g_iload X dX5_step_59 5 rfl ?_
                  refine g_icmp_eq X (tgt := 97) dX5_step_61 (by decide) (by omega) (by omega) (fun c61 => ?_) (fun c61 => ?_)
                  · refine g_iinc X (lv' := [(4, vI (x4_20 + 1)), (5, vI t46), (0, .ref h), (1, .ref r_di), (2, vI p1), (3, vI x3_11)]) dX5_step_97 5 rfl (by decide) rfl ?_
                    refine g_goto X (tgt := 20) dX5_step_100 (by decide) ?_
                    refine g_lv [2, 3, 4, 5, 0] rfl ?_
                    exact ih20 (x4_20 + 1) next_20 r_next_20 (by first | assumption | omega) (by omega)
                  · refine g_iload X dX5_step_64 0 rfl ?_
                    refine g_ldc X (z := 1000000) dX5_step_66 uw759 (by decide) ?_
                    refine g_icmp_eq X (tgt := 97) dX5_step_68 (by decide) (by omega) (by omega) (fun c68 => ?_) (fun c68 => ?_)
                    · refine g_iinc X (lv' := [(4, vI (x4_20 + 1)), (5, vI t46), (0, .ref h), (1, .ref r_di), (2, vI p1), (3, vI x3_11)]) dX5_step_97 5 rfl (by decide) rfl ?_
                      refine g_goto X (tgt := 20) dX5_step_100 (by decide) ?_
                      refine g_lv [2, 3, 4, 5, 0] rfl ?_
                      exact ih20 (x4_20 + 1) next_20 r_next_20 (by first | assumption | omega) (by omega)
                    · refine g_aload_n X dX5_step_71 1 rfl ?_
                      refine gX5_get X 0 rfl 1 (by decide) uw230 rfl dX5_step_72 ?_
                      refine g_iload X dX5_step_75 5 rfl ?_
                      refine g_aload_n X dX5_step_77 1 rfl ?_
                      refine gX5_get X 0 rfl 1 (by decide) uw230 rfl dX5_step_78 ?_
                      refine g_iload X dX5_step_81 5 rfl ?_
                      refine g_iald X 2 0 rfl rfl (by omega) (by decide) dX5_step_83 (fun t83 e83 => ?_)
                      have r83 := r_next_20 (x4_20 : Int).toNat; rw [← e83] at r83
                      refine g_aload_n X dX5_step_84 1 rfl ?_
                      refine gX5_get X 0 rfl 0 (by decide) uw229 rfl dX5_step_85 ?_
                      refine g_iload_n X dX5_step_88 4 rfl ?_
                      refine g_iald X 1 0 rfl rfl (by omega) (by decide) dX5_step_89 (fun t89 e89 => ?_)
                      have r89 := r_v_here (x3_11 : Int).toNat; rw [← e89] at r89
                      refine g_iload X dX5_step_90 0 rfl ?_
                      refine g_iadd X dX5_step_92 ?_
                      refine g_nr (fun t92 e92 r92 => ?_)
                      refine g_mmin X uw766 uw398 uw111 uw399 ⟨by decide, Nat.le_of_ble_eq_true rfl⟩ ⟨Nat.zero_le _, Nat.zero_le _⟩ (by omega) (by omega) dX5_step_93 (fun t93 k93 => ?_)
                      refine g_iast X 2 0 rfl rfl (by omega) (by decide) dX5_step_96 (fun next_96 e96 => ?_)
                      have r_next_96 : RA (-2147483648) 2147483647 next_96 := by rw [e96]; exact RA_up r_next_20 (by omega)
                      refine g_ws (ws2 := ((wX5 cI cB cJ h q v_here next_96) ++ (wA cI 144 r_di v_di))) rfl ?_
                      refine g_iinc X (lv' := [(4, vI (x4_20 + 1)), (5, vI t46), (0, .ref h), (1, .ref r_di), (2, vI p1), (3, vI x3_11)]) dX5_step_97 5 rfl (by decide) rfl ?_
                      refine g_goto X (tgt := 20) dX5_step_100 (by decide) ?_
                      refine g_lv [2, 3, 4, 5, 0] rfl ?_
                      exact ih20 (x4_20 + 1) next_96 r_next_96 (by first | assumption | omega) (by omega)
        refine g_lv [1, 2, 3, 4, 0] rfl ?_
        exact L20 _ 0 next_11 r_next_11 (by first | assumption | omega) (Nat.lt_succ_self _)
  refine g_lv [1, 2, 3, 0] rfl ?_
  exact L11 _ 0 next_6 r_next_6 (by first | assumption | omega) (Nat.lt_succ_self _)
set_option maxHeartbeats 600000 in
set_option maxRecDepth 100000 in
theorem c_X5_stepsBack (l : Launch) (D : va_G) (cI cB cJ : ClassId) (h : Nat) (q : Nat → Nat) (r_di : Nat) {v_here v_next v_di : Nat → Int} {p1 p2 p3 : Int} (r_v_here : RA (-2147483648) 2147483647 v_here) (r_v_next : RA (-2147483648) 2147483647 v_next) (r_v_di : RA (-2147483648) 2147483647 v_di) (hp0 : IR p1) (hp1 : IR p2) (hp2 : IR p3) (hp3 : 0 ≤ p2 ∧ p2 ≤ 11) (hp4 : p3 ≤ 100) : CtI l yX5_stepsBack cX5_stepsBack 6 (some .int) ⟨2, 0, 0, 65⟩ D (TY cI cB cJ) ((wX5 cI cB cJ h q v_here v_next) ++ (wA cI 144 r_di v_di)) [.ref h, .ref r_di, vI p1, vI p2, vI p3] (fun z ws' => ∃ n_here : Nat → Int, ∃ n_next : Nat → Int, (RA (-2147483648) 2147483647 n_here) ∧ (RA (-2147483648) 2147483647 n_next) ∧ (IR z) ∧ (ws' = ((wX5 cI cB cJ h q n_here n_next) ++ (wA cI 144 r_di v_di)))) := by
  refine hdrI (own := RX5) rfl (by decide +kernel) (Nat.le_of_ble_eq_true rfl) ?_
  intro p e s m args below meth c Q A X hQ
  refine g_lvE (lv2 := [(0, .ref h), (1, .ref r_di), (2, vI p1), (3, vI p2), (4, vI p3)]) rfl ?_
  refine g_aload_n X dX5_stepsBack_0 0 rfl ?_
  refine gX5_get X 0 rfl 0 (by decide) uw229 rfl dX5_stepsBack_1 ?_
  refine g_ldc X (z := 1000000) dX5_stepsBack_4 uw759 (by decide) ?_
  refine g_callSVw X (c_J7_fill_53178_12 l D cI cB cJ (q 0) (p1 := 1000000) r_v_here (by first | assumption | omega)) [1] rfl rfl rfl cv_J7_fill_53178 uw760 ⟨rfl, rfl, by decide, by decide⟩ rfl rfl (Nat.le_of_ble_eq_true rfl) ⟨Nat.zero_le _, Nat.zero_le _⟩ dX5_stepsBack_6 (fun ws6 k6 => ?_)
  obtain ⟨here_6, r_here_6, rfl⟩ := k6
  refine ⟨rfl, ?_⟩
  refine g_ws (ws2 := ((wX5 cI cB cJ h q here_6 v_next) ++ (wA cI 144 r_di v_di))) rfl ?_
  refine g_aload_n X dX5_stepsBack_9 0 rfl ?_
  refine gX5_get X 0 rfl 0 (by decide) uw229 rfl dX5_stepsBack_10 ?_
  refine g_iload_n X dX5_stepsBack_13 3 rfl ?_
  refine g_iconst X dX5_stepsBack_14 ?_
  refine g_iast X 1 0 rfl rfl (by omega) (by decide) dX5_stepsBack_15 (fun here_15 e15 => ?_)
  have r_here_15 : RA (-2147483648) 2147483647 here_15 := by rw [e15]; exact RA_up r_here_6 (by omega)
  refine g_ws (ws2 := ((wX5 cI cB cJ h q here_15 v_next) ++ (wA cI 144 r_di v_di))) rfl ?_
  refine g_iconst X dX5_stepsBack_16 ?_
  refine g_istore X (lv' := [(5, vI 1), (0, .ref h), (1, .ref r_di), (2, vI p1), (3, vI p2), (4, vI p3)]) dX5_stepsBack_17 (by decide) rfl ?_
  have L19 : ∀ (n : Nat) (x5_19 : Int) (here_19 : Nat → Int) (next_19 : Nat → Int), (RA (-2147483648) 2147483647 here_19) → (RA (-2147483648) 2147483647 next_19) → (1 ≤ x5_19 ∧ (x5_19 ≤ p3 + 1 ∨ x5_19 = 1)) → (p3 + 1 - x5_19).toNat < n → GG p l e ⟨2, 0, 0, 65⟩ s m args below meth c 0 0 Q D A s.heap 6 ((wX5 cI cB cJ h q here_19 next_19) ++ (wA cI 144 r_di v_di)) 19 [(0, .ref h), (1, .ref r_di), (2, vI p1), (3, vI p2), (4, vI p3), (5, vI x5_19)] [] := by
    intro n
    induction n with
    | zero => intros; exfalso; omega
    | succ n ih19 =>
      intro x5_19 here_19 next_19 r_here_19 r_next_19 w19_0 wm19
      refine g_iload X dX5_stepsBack_19 5 rfl ?_
      refine g_iload X dX5_stepsBack_21 4 rfl ?_
      refine g_icmp_gt X (tgt := 50) dX5_stepsBack_23 (by decide) (by omega) (by omega) (fun c23 => ?_) (fun c23 => ?_)
      · refine g_iload X dX5_stepsBack_50 4 rfl ?_
        refine g_iconst X dX5_stepsBack_52 ?_
        refine g_iadd X dX5_stepsBack_53 ?_
        exact hQ _ _ _ _ dX5_stepsBack_54 ⟨here_19, next_19, r_here_19, r_next_19, (by omega), rfl⟩
      · refine g_aload_n X dX5_stepsBack_26 0 rfl ?_
        refine g_aload_n X dX5_stepsBack_27 1 rfl ?_
        refine g_iload_n X dX5_stepsBack_28 2 rfl ?_
        refine g_callVV0 X (c_X5_step l D cI cB cJ h q r_di (p1 := p1) r_here_19 r_next_19 r_v_di (by first | assumption | omega)) cv_X5_step uw761 ⟨rfl, rfl, by decide, by decide⟩ 0 rfl rfl rfl rfl rfl (Nat.le_of_ble_eq_true rfl) ⟨Nat.zero_le _, Nat.zero_le _⟩ dX5_stepsBack_29 (fun ws29 k29 => ?_)
        obtain ⟨here_29, next_29, r_here_29, r_next_29, rfl⟩ := k29
        refine g_aload_n X dX5_stepsBack_32 0 rfl ?_
        refine gX5_get X 0 rfl 0 (by decide) uw229 rfl dX5_stepsBack_33 ?_
        refine g_iload_n X dX5_stepsBack_36 3 rfl ?_
        refine g_iald X 1 0 rfl rfl (by omega) (by decide) dX5_stepsBack_37 (fun t37 e37 => ?_)
        have r37 := r_here_29 (p2 : Int).toNat; rw [← e37] at r37
        refine g_if_ge X (tgt := 44) dX5_stepsBack_38 (by decide) (by omega) (fun c38 => ?_) (fun c38 => ?_)
        · refine g_iinc X (lv' := [(5, vI (x5_19 + 1)), (0, .ref h), (1, .ref r_di), (2, vI p1), (3, vI p2), (4, vI p3)]) dX5_stepsBack_44 5 rfl (by decide) rfl ?_
          refine g_goto X (tgt := 19) dX5_stepsBack_47 (by decide) ?_
          refine g_lv [1, 2, 3, 4, 5, 0] rfl ?_
          exact ih19 (x5_19 + 1) here_29 next_29 r_here_29 r_next_29 (by first | assumption | omega) (by omega)
        · refine g_iload X dX5_stepsBack_41 5 rfl ?_
          exact hQ _ _ _ _ dX5_stepsBack_43 ⟨here_29, next_29, r_here_29, r_next_29, (by omega), rfl⟩
  refine g_lv [1, 2, 3, 4, 5, 0] rfl ?_
  exact L19 _ 1 here_15 v_next r_here_15 r_v_next (by first | assumption | omega) (Nat.lt_succ_self _)
set_option maxHeartbeats 600000 in
set_option maxRecDepth 100000 in
theorem c_X5_fewest (l : Launch) (D : va_G) (cI cB cJ : ClassId) (h : Nat) (q : Nat → Nat) (r_di : Nat) {v_here v_next v_di : Nat → Int} (r_v_here : RA (-2147483648) 2147483647 v_here) (r_v_next : RA (-2147483648) 2147483647 v_next) (r_v_di : RA (-2147483648) 2147483647 v_di) : CtI l yX5_fewest cX5_fewest 4 (some .int) ⟨3, 0, 0, 90⟩ D (TY cI cB cJ) ((wX5 cI cB cJ h q v_here v_next) ++ (wA cI 144 r_di v_di)) [.ref h, .ref r_di] (fun z ws' => ∃ n_here : Nat → Int, ∃ n_next : Nat → Int, (RA (-2147483648) 2147483647 n_here) ∧ (RA (-2147483648) 2147483647 n_next) ∧ (IR z) ∧ (z ≤ 13) ∧ (ws' = ((wX5 cI cB cJ h q n_here n_next) ++ (wA cI 144 r_di v_di)))) := by
  refine hdrI (own := RX5) rfl (by decide +kernel) (Nat.le_of_ble_eq_true rfl) ?_
  intro p e s m args below meth c Q A X hQ
  refine g_lvE (lv2 := [(0, .ref h), (1, .ref r_di)]) rfl ?_
  refine g_bipush X (z := 13) dX5_fewest_0 (by decide) ?_
  refine g_istore_n X (lv' := [(2, vI 13), (0, .ref h), (1, .ref r_di)]) dX5_fewest_2 (by decide) rfl ?_
  refine g_iconst X dX5_fewest_3 ?_
  refine g_istore_n X (lv' := [(3, vI 0), (2, vI 13), (0, .ref h), (1, .ref r_di)]) dX5_fewest_4 (by decide) rfl ?_
  have L5 : ∀ (n : Nat) (x2_5 : Int) (x3_5 : Int) (here_5 : Nat → Int) (next_5 : Nat → Int), (RA (-2147483648) 2147483647 here_5) → (RA (-2147483648) 2147483647 next_5) → (0 ≤ x3_5 ∧ x3_5 ≤ 12) → (IR x2_5) → (x2_5 ≤ 13) → (12 - x3_5).toNat < n → GG p l e ⟨3, 0, 0, 90⟩ s m args below meth c 0 0 Q D A s.heap 4 ((wX5 cI cB cJ h q here_5 next_5) ++ (wA cI 144 r_di v_di)) 5 [(0, .ref h), (1, .ref r_di), (2, vI x2_5), (3, vI x3_5)] [] := by
    intro n
    induction n with
    | zero => intros; exfalso; omega
    | succ n ih5 =>
      intro x2_5 x3_5 here_5 next_5 r_here_5 r_next_5 w5_0 w5_1 w5_2 wm5
      refine g_iload_n X dX5_fewest_5 3 rfl ?_
      refine g_bipush X (z := 12) dX5_fewest_6 (by decide) ?_
      refine g_icmp_ge X (tgt := 33) dX5_fewest_8 (by decide) (by omega) (by omega) (fun c8 => ?_) (fun c8 => ?_)
      · refine g_iload_n X dX5_fewest_33 2 rfl ?_
        exact hQ _ _ _ _ dX5_fewest_34 ⟨here_5, next_5, r_here_5, r_next_5, (by first | assumption | omega), (by first | assumption | omega), rfl⟩
      · refine g_iload_n X dX5_fewest_11 2 rfl ?_
        refine g_aload_n X dX5_fewest_12 0 rfl ?_
        refine g_aload_n X dX5_fewest_13 1 rfl ?_
        refine g_sipush X (z := 4095) dX5_fewest_14 (by decide) ?_
        refine g_iload_n X dX5_fewest_17 3 rfl ?_
        refine g_bipush X (z := 12) dX5_fewest_18 (by decide) ?_
        refine g_callVI0 X (c_X5_stepsBack l D cI cB cJ h q r_di (p1 := 4095) (p2 := x3_5) (p3 := 12) r_here_5 r_next_5 r_v_di (by first | assumption | omega) (by first | assumption | omega) (by first | assumption | omega) (by first | assumption | omega) (by first | assumption | omega)) cv_X5_stepsBack uw755 ⟨rfl, rfl, by decide, by decide⟩ 0 rfl rfl rfl rfl rfl (Nat.le_of_ble_eq_true rfl) ⟨Nat.zero_le _, Nat.zero_le _⟩ dX5_fewest_20 (fun t20 ws20 k20 => ?_)
        obtain ⟨here_20, next_20, r_here_20, r_next_20, kp0_20, rfl⟩ := k20
        refine g_mmin X uw766 uw398 uw111 uw399 ⟨by decide, Nat.le_of_ble_eq_true rfl⟩ ⟨Nat.zero_le _, Nat.zero_le _⟩ (by omega) (by omega) dX5_fewest_23 (fun t23 k23 => ?_)
        refine g_istore_n X (lv' := [(2, vI t23), (0, .ref h), (1, .ref r_di), (3, vI x3_5)]) dX5_fewest_26 (by decide) rfl ?_
        refine g_iinc X (lv' := [(3, vI (x3_5 + 1)), (2, vI t23), (0, .ref h), (1, .ref r_di)]) dX5_fewest_27 3 rfl (by decide) rfl ?_
        refine g_goto X (tgt := 5) dX5_fewest_30 (by decide) ?_
        refine g_lv [2, 3, 1, 0] rfl ?_
        exact ih5 t23 (x3_5 + 1) here_20 next_20 r_here_20 r_next_20 (by first | assumption | omega) (by first | assumption | omega) (by first | assumption | omega) (by omega)
  refine g_lv [2, 3, 1, 0] rfl ?_
  exact L5 _ 13 0 v_here v_next r_v_here r_v_next (by first | assumption | omega) (by first | assumption | omega) (by first | assumption | omega) (Nat.lt_succ_self _)
set_option maxHeartbeats 600000 in
set_option maxRecDepth 100000 in
theorem c_X5_leastThings (l : Launch) (D : va_G) (cI cB cJ : ClassId) (h : Nat) (q : Nat → Nat) (r_di : Nat) {v_here v_next v_di : Nat → Int} {p1 : Int} (r_v_here : RA (-2147483648) 2147483647 v_here) (r_v_next : RA (-2147483648) 2147483647 v_next) (r_v_di : RA (-2147483648) 2147483647 v_di) (hp0 : IR p1) (hp1 : p1 ≤ 13) : CtI l yX5_leastThings cX5_leastThings 5 (some .int) ⟨3, 0, 0, 90⟩ D (TY cI cB cJ) ((wX5 cI cB cJ h q v_here v_next) ++ (wA cI 144 r_di v_di)) [.ref h, .ref r_di, vI p1] (fun z ws' => ∃ n_here : Nat → Int, ∃ n_next : Nat → Int, (RA (-2147483648) 2147483647 n_here) ∧ (RA (-2147483648) 2147483647 n_next) ∧ (IR z) ∧ (ws' = ((wX5 cI cB cJ h q n_here n_next) ++ (wA cI 144 r_di v_di)))) := by
  refine hdrI (own := RX5) rfl (by decide +kernel) (Nat.le_of_ble_eq_true rfl) ?_
  intro p e s m args below meth c Q A X hQ
  refine g_lvE (lv2 := [(0, .ref h), (1, .ref r_di), (2, vI p1)]) rfl ?_
  refine g_iconst X dX5_leastThings_0 ?_
  refine g_istore_n X (lv' := [(3, vI 1), (0, .ref h), (1, .ref r_di), (2, vI p1)]) dX5_leastThings_1 (by decide) rfl ?_
  have L2 : ∀ (n : Nat) (x3_2 : Int) (here_2 : Nat → Int) (next_2 : Nat → Int), (RA (-2147483648) 2147483647 here_2) → (RA (-2147483648) 2147483647 next_2) → (1 ≤ x3_2 ∧ x3_2 ≤ 4096) → (4096 - x3_2).toNat < n → GG p l e ⟨3, 0, 0, 90⟩ s m args below meth c 0 0 Q D A s.heap 5 ((wX5 cI cB cJ h q here_2 next_2) ++ (wA cI 144 r_di v_di)) 2 [(0, .ref h), (1, .ref r_di), (2, vI p1), (3, vI x3_2)] [] := by
    intro n
    induction n with
    | zero => intros; exfalso; omega
    | succ n ih2 =>
      intro x3_2 here_2 next_2 r_here_2 r_next_2 w2_0 wm2
      refine g_iload_n X dX5_leastThings_2 3 rfl ?_
      refine g_sipush X (z := 4095) dX5_leastThings_3 (by decide) ?_
      refine g_icmp_gt X (tgt := 44) dX5_leastThings_6 (by decide) (by omega) (by omega) (fun c6 => ?_) (fun c6 => ?_)
      · refine g_bipush X (z := (-2)) dX5_leastThings_44 (by decide) ?_
        exact hQ _ _ _ _ dX5_leastThings_46 ⟨here_2, next_2, r_here_2, r_next_2, (by omega), rfl⟩
      · refine g_iload_n X dX5_leastThings_9 3 rfl ?_
        refine g_callSIE X (c_J6_bitCount_0f7a4 l D cI cB cJ (p0 := x3_2) (by first | assumption | omega)) cv_J6_bitCount_0f7a4 uw772 ⟨rfl, rfl, by decide, by decide⟩ rfl rfl (Nat.le_of_ble_eq_true rfl) ⟨Nat.zero_le _, Nat.zero_le _⟩ dX5_leastThings_10 (fun t10 ws10 k10 => ?_)
        obtain ⟨kp0_10, kp1_10, rfl⟩ := k10
        refine g_iload_n X dX5_leastThings_13 2 rfl ?_
        refine g_icmp_ne X (tgt := 38) dX5_leastThings_14 (by decide) (by omega) (by omega) (fun c14 => ?_) (fun c14 => ?_)
        · refine g_iinc X (lv' := [(3, vI (x3_2 + 1)), (0, .ref h), (1, .ref r_di), (2, vI p1)]) dX5_leastThings_38 3 rfl (by decide) rfl ?_
          refine g_goto X (tgt := 2) dX5_leastThings_41 (by decide) ?_
          refine g_lv [1, 2, 3, 0] rfl ?_
          exact ih2 (x3_2 + 1) here_2 next_2 r_here_2 r_next_2 (by first | assumption | omega) (by omega)
        · refine g_iload_n X dX5_leastThings_17 3 rfl ?_
          refine g_callSNIE X (c_X9_lowestIn_b l D cI cB cJ (p0 := x3_2) (by first | assumption | omega) (by first | assumption | omega)) cv_X9_lowestIn nw773 ⟨rfl, rfl, by decide, by decide⟩ rfl rfl (Nat.le_of_ble_eq_true rfl) ⟨Nat.zero_le _, Nat.zero_le _⟩ dX5_leastThings_18 (fun t18 ws18 k18 => ?_)
          obtain ⟨kp0_18, rfl⟩ := k18
          refine g_istore X (lv' := [(4, vI t18), (0, .ref h), (1, .ref r_di), (2, vI p1), (3, vI x3_2)]) dX5_leastThings_21 (by decide) rfl ?_
          refine g_aload_n X dX5_leastThings_23 1 rfl ?_
          refine g_aload_n X dX5_leastThings_24 2 rfl ?_
          refine g_iload_n X dX5_leastThings_25 4 rfl ?_
          refine g_iload X dX5_leastThings_26 0 rfl ?_
          refine g_iload_n X dX5_leastThings_28 3 rfl ?_
          refine g_callVI0 X (c_X5_stepsBack l D cI cB cJ h q r_di (p1 := x3_2) (p2 := t18) (p3 := p1) r_here_2 r_next_2 r_v_di (by first | assumption | omega) (by first | assumption | omega) (by first | assumption | omega) (by first | assumption | omega) (by first | assumption | omega)) cv_X5_stepsBack uw755 ⟨rfl, rfl, by decide, by decide⟩ 0 rfl rfl rfl rfl rfl (Nat.le_of_ble_eq_true rfl) ⟨Nat.zero_le _, Nat.zero_le _⟩ dX5_leastThings_29 (fun t29 ws29 k29 => ?_)
          obtain ⟨here_29, next_29, r_here_29, r_next_29, kp0_29, rfl⟩ := k29
          refine g_iload_n X dX5_leastThings_32 3 rfl ?_
          refine g_icmp_ne X (tgt := 38) dX5_leastThings_33 (by decide) (by omega) (by omega) (fun c33 => ?_) (fun c33 => ?_)
          · refine g_iinc X (lv' := [(3, vI (x3_2 + 1)), (4, vI t18), (0, .ref h), (1, .ref r_di), (2, vI p1)]) dX5_leastThings_38 4 rfl (by decide) rfl ?_
            refine g_goto X (tgt := 2) dX5_leastThings_41 (by decide) ?_
            refine g_lv [2, 3, 4, 0] rfl ?_
            exact ih2 (x3_2 + 1) here_29 next_29 r_here_29 r_next_29 (by first | assumption | omega) (by omega)
          · refine g_iload_n X dX5_leastThings_36 4 rfl ?_
            exact hQ _ _ _ _ dX5_leastThings_37 ⟨here_29, next_29, r_here_29, r_next_29, (by omega), rfl⟩
  refine g_lv [1, 2, 3, 0] rfl ?_
  exact L2 _ 1 v_here v_next r_v_here r_v_next (by first | assumption | omega) (Nat.lt_succ_self _)
set_option maxHeartbeats 600000 in
set_option maxRecDepth 100000 in
theorem c_X6_goesOn (l : Launch) (D : va_G) (cI cB cJ : ClassId) (r_row : Nat) {v_row : Nat → Int} {p1 : Int} (r_v_row : RA (-2147483648) 2147483647 v_row) (hp0 : IR p1) (hp1 : 2 ≤ p1 ∧ p1 ≤ 12) (hp2 : ∀ j : Nat, (j : Int) < p1 → 0 ≤ v_row j ∧ v_row j ≤ 65535) : CtL l yX6_goesOn cX6_goesOn 5 (some .long) ⟨1, 0, 0, 22⟩ D (TY cI cB cJ) (wA cI 20 r_row v_row) [.ref r_row, vI p1] (fun z ws' => ∃ n_row : Nat → Int, (RA (-2147483648) 2147483647 n_row) ∧ (z = rwO p1.toNat v_row) ∧ (ws' = (wA cI 20 r_row n_row))) := by
  refine hdrL (own := RX6) rfl (by decide +kernel) (Nat.le_of_ble_eq_true rfl) ?_
  intro p e s m args below meth c Q A X hQ
  refine g_lvE (lv2 := [(0, .ref r_row), (1, vI p1)]) rfl ?_
  refine g_lconst X (z := 0) dX6_goesOn_0 rfl ?_
  refine g_lstore_n X (lv' := [(2, .long (zL 0)), (0, .ref r_row), (1, vI p1)]) dX6_goesOn_1 (by decide) rfl ?_
  refine g_iload_n X dX6_goesOn_2 2 rfl ?_
  refine g_istore X (lv' := [(4, vI p1), (2, .long (zL 0)), (0, .ref r_row), (1, vI p1)]) dX6_goesOn_3 (by decide) rfl ?_
  have L5 : ∀ (n : Nat) (x2_5 : Int) (x4_5 : Int) (row_5 : Nat → Int), (RA (-2147483648) 2147483647 row_5) → (1 ≤ x4_5 ∧ x4_5 ≤ p1) → (x2_5 + rwO (x4_5).toNat row_5 = rwO p1.toNat v_row) → (∀ j : Nat, (j : Int) < x4_5 → -bdZ (p1 - x4_5) ≤ row_5 j ∧ row_5 j ≤ bdZ (p1 - x4_5)) → (x4_5).toNat < n → GG p l e ⟨1, 0, 0, 22⟩ s m args below meth c 0 0 Q D A s.heap 5 (wA cI 20 r_row row_5) 5 [(0, .ref r_row), (2, .long (zL x2_5)), (4, vI x4_5)] [] := by
    intro n
    induction n with
    | zero => intros; exfalso; omega
    | succ n ih5 =>
      intro x2_5 x4_5 row_5 r_row_5 w5_0 w5_1 w5_2 wm5
      refine g_iload X dX6_goesOn_5 2 rfl ?_
      refine g_iconst X dX6_goesOn_7 ?_
      refine g_icmp_le X (tgt := 42) dX6_goesOn_8 (by decide) (by omega) (by omega) (fun c8 => ?_) (fun c8 => ?_)
      · have hb := bdZ_r (k := p1 - x4_5) (by omega)
        refine g_lload_n X dX6_goesOn_42 1 rfl ?_
        refine g_aload_n X dX6_goesOn_43 0 rfl ?_
        refine g_iconst X dX6_goesOn_44 ?_
        refine g_iald X 0 0 rfl rfl (by omega) (by decide) dX6_goesOn_45 (fun t45 e45 => ?_)
        have r45 := r_row_5 (0 : Int).toNat; rw [← e45] at r45
        have b45 := w5_2 ((0 : Int)).toNat (by omega)
        refine g_i2l X dX6_goesOn_46 (by omega) ?_
        refine g_ladd X dX6_goesOn_47 ?_
        have hO : rwO (x4_5).toNat row_5 = row_5 (0 : Int).toNat := rwO_n (by first | exact unA_le (by omega) | omega)
        exact hQ _ _ _ _ dX6_goesOn_48 ⟨row_5, r_row_5, (by first | assumption | omega), rfl⟩
      · have hb := bdZ_r (k := p1 - x4_5) (by omega)
        have hR : ∀ j : Nat, (j : Int) < x4_5 → -1000000000 ≤ row_5 j ∧ row_5 j ≤ 1000000000 := fun j hj => by have := w5_2 j hj; omega
        refine g_aload_n X dX6_goesOn_11 0 rfl ?_
        refine g_iload X dX6_goesOn_12 2 rfl ?_
        refine g_callSI0 X (c_X6_areAlike l D cI cB cJ r_row (p1 := x4_5) r_row_5 (by first | assumption | omega) (by first | assumption | omega)) cv_X6_areAlike uw877 ⟨rfl, rfl, by decide, by decide⟩ rfl rfl (Nat.le_of_ble_eq_true rfl) ⟨Nat.zero_le _, Nat.zero_le _⟩ dX6_goesOn_14 (fun t14 ws14 k14 => ?_)
        obtain ⟨kb_14, ⟨kp0_14, rfl⟩⟩ := k14
        refine g_if_ne X (tgt := 42) dX6_goesOn_17 (by decide) (by omega) (fun c17 => ?_) (fun c17 => ?_)
        · replace kb_14 := kb_14.resolve_left (fun h => c17 h)
          replace kp0_14 := kp0_14.resolve_right (fun h => c17 h.1)
          have hb := bdZ_r (k := p1 - x4_5) (by omega)
          refine g_lload_n X dX6_goesOn_42 1 rfl ?_
          refine g_aload_n X dX6_goesOn_43 0 rfl ?_
          refine g_iconst X dX6_goesOn_44 ?_
          refine g_iald X 0 0 rfl rfl (by omega) (by decide) dX6_goesOn_45 (fun t45 e45 => ?_)
          have r45 := r_row_5 (0 : Int).toNat; rw [← e45] at r45
          have b45 := w5_2 ((0 : Int)).toNat (by omega)
          refine g_i2l X dX6_goesOn_46 (by omega) ?_
          refine g_ladd X dX6_goesOn_47 ?_
          have hO : rwO (x4_5).toNat row_5 = row_5 (0 : Int).toNat := rwO_n (by first | exact unA_le (by omega) | omega)
          exact hQ _ _ _ _ dX6_goesOn_48 ⟨row_5, r_row_5, (by first | assumption | omega), rfl⟩
        · clear kb_14
          replace kp0_14 := (kp0_14.resolve_left (fun h => absurd h.1 (by omega))).2
          refine g_lload_n X dX6_goesOn_20 1 rfl ?_
          refine g_aload_n X dX6_goesOn_21 0 rfl ?_
          refine g_iload X dX6_goesOn_22 2 rfl ?_
          refine g_iconst X dX6_goesOn_24 ?_
          refine g_isub X dX6_goesOn_25 ?_
          refine g_iald X 0 0 rfl rfl (by omega) (by decide) dX6_goesOn_26 (fun t26 e26 => ?_)
          have r26 := r_row_5 (x4_5 - 1 : Int).toNat; rw [← e26] at r26
          have b26 := hR ((x4_5 - 1)).toNat (by omega)
          refine g_i2l X dX6_goesOn_27 (by omega) ?_
          refine g_ladd X dX6_goesOn_28 ?_
          refine g_lstore_n X (lv' := [(2, .long (zL (x2_5 + t26))), (0, .ref r_row), (4, vI x4_5)]) dX6_goesOn_29 (by decide) rfl ?_
          refine g_aload_n X dX6_goesOn_30 1 rfl ?_
          refine g_iload X dX6_goesOn_31 2 rfl ?_
          refine g_callSV0 X (c_X6_takeDifferences l D cI cB cJ r_row (p1 := x4_5) r_row_5 (by first | assumption | omega) (by first | assumption | omega) (by first | assumption | omega)) cv_X6_takeDifferences uw880 ⟨rfl, rfl, by decide, by decide⟩ rfl rfl (Nat.le_of_ble_eq_true rfl) ⟨Nat.zero_le _, Nat.zero_le _⟩ dX6_goesOn_33 (fun ws33 k33 => ?_)
          obtain ⟨row_33, r_row_33, kp0_33, rfl⟩ := k33
          refine g_iinc X (lv' := [(4, vI (x4_5 + (-1))), (2, .long (zL (x2_5 + t26))), (0, .ref r_row)]) dX6_goesOn_36 2 rfl (by decide) rfl ?_
          refine g_goto X (tgt := 5) dX6_goesOn_39 (by decide) ?_
          have hO := rwO_y (f := row_5) (g := row_33) (x := x4_5) (by omega) kp0_33
          rw [show x4_5 - 1 = x4_5 + (-1) by omega] at hO
          rw [show x4_5 - 1 = x4_5 + (-1) by omega] at e26
          refine g_lv [2, 1, 0] rfl ?_
          exact ih5 (x2_5 + t26) (x4_5 + (-1)) row_33 r_row_33 (by first | assumption | omega) (by first | assumption | omega) (by intro j hj; first | (rw [kp0_33 j (by omega), show p1 - (x4_5 + (-1)) = p1 - x4_5 + 1 by omega, bdZ_s (by omega)]; have h1 := w5_2 j (by omega); have h2 := w5_2 (j + 1) (by omega); omega) | (have h3 := bdZ_r (k := p1 - p1) (by omega); have h4 := hp2 j (by omega); omega)) (by omega)
  refine g_lv [2, 1, 0] rfl ?_
  exact L5 _ 0 p1 v_row r_v_row (by first | assumption | omega) (by first | assumption | omega) (by intro j hj; first | (rw [kp0_33 j (by omega), show p1 - (x4_5 + (-1)) = p1 - x4_5 + 1 by omega, bdZ_s (by omega)]; have h1 := w5_2 j (by omega); have h2 := w5_2 (j + 1) (by omega); omega) | (have h3 := bdZ_r (k := p1 - p1) (by omega); have h4 := hp2 j (by omega); omega)) (Nat.lt_succ_self _)
set_option maxHeartbeats 600000 in
set_option maxRecDepth 100000 in
theorem c_X6_placeOfWalk (l : Launch) (D : va_G) (cI cB cJ : ClassId) (r_row : Nat) {v_row : Nat → Int} {p1 p2 : Int} (r_v_row : RA (-2147483648) 2147483647 v_row) (hp0 : IR p1) (hp1 : IR p2) (hp2 : 0 ≤ p1 ∧ p1 ≤ 20) (hp3 : ∀ j : Nat, (j : Int) < p1 → -128 ≤ v_row j ∧ v_row j ≤ 127) (hp4 : 0 ≤ p2 ∧ p2 ≤ 2) : CtI l yX6_placeOfWalk cX6_placeOfWalk 7 (some .int) ⟨1, 0, 0, 40⟩ D (TY cI cB cJ) (wA cI 20 r_row v_row) [.ref r_row, vI p1, vI p2] (fun z ws' => (IR z) ∧ (z = wkF v_row p1 p2) ∧ (ws' = (wA cI 20 r_row v_row))) := by
  refine hdrI (own := RX6) rfl (by decide +kernel) (Nat.le_of_ble_eq_true rfl) ?_
  intro p e s m args below meth c Q A X hQ
  refine g_lvE (lv2 := [(0, .ref r_row), (1, vI p1), (2, vI p2)]) rfl ?_
  refine g_iconst X dX6_placeOfWalk_0 ?_
  refine g_istore_n X (lv' := [(3, vI 0), (0, .ref r_row), (1, vI p1), (2, vI p2)]) dX6_placeOfWalk_1 (by decide) rfl ?_
  refine g_iconst X dX6_placeOfWalk_2 ?_
  refine g_istore X (lv' := [(4, vI 0), (3, vI 0), (0, .ref r_row), (1, vI p1), (2, vI p2)]) dX6_placeOfWalk_3 (by decide) rfl ?_
  refine g_iconst X dX6_placeOfWalk_5 ?_
  refine g_istore X (lv' := [(5, vI 0), (4, vI 0), (3, vI 0), (0, .ref r_row), (1, vI p1), (2, vI p2)]) dX6_placeOfWalk_6 (by decide) rfl ?_
  refine g_iconst X dX6_placeOfWalk_8 ?_
  refine g_istore X (lv' := [(6, vI 0), (5, vI 0), (4, vI 0), (3, vI 0), (0, .ref r_row), (1, vI p1), (2, vI p2)]) dX6_placeOfWalk_9 (by decide) rfl ?_
  have h0 : wkA v_row (0 : Int).toNat = 0 := rfl
  have h1 : wkM v_row (0 : Int).toNat = 0 := rfl
  have h2 : wkL v_row (0 : Int).toNat = 0 := rfl
  have L11 : ∀ (n : Nat) (x3_11 : Int) (x4_11 : Int) (x5_11 : Int) (x6_11 : Int), (0 ≤ x6_11 ∧ x6_11 ≤ p1) → (-128 * x6_11 ≤ x3_11 ∧ x3_11 ≤ 127 * x6_11) → (-2560 ≤ x4_11 ∧ x4_11 ≤ 2560) → (-2560 ≤ x5_11 ∧ x5_11 ≤ 2560) → (x3_11 = wkA v_row (x6_11).toNat) → (x4_11 = wkM v_row (x6_11).toNat) → (x5_11 = wkL v_row (x6_11).toNat) → (p1 - x6_11).toNat < n → GG p l e ⟨1, 0, 0, 40⟩ s m args below meth c 0 0 Q D A s.heap 7 (wA cI 20 r_row v_row) 11 [(0, .ref r_row), (1, vI p1), (2, vI p2), (3, vI x3_11), (4, vI x4_11), (5, vI x5_11), (6, vI x6_11)] [] := by
    intro n
    induction n with
    | zero => intros; exfalso; omega
    | succ n ih11 =>
      intro x3_11 x4_11 x5_11 x6_11 w11_0 w11_1 w11_2 w11_3 w11_4 w11_5 w11_6 wm11
      have hA := wkA_s v_row (x := x6_11) (by omega)
      have hM := wkM_s v_row (x := x6_11) (by omega)
      have hL := wkL_s v_row (x := x6_11) (by omega)
      refine g_iload X dX6_placeOfWalk_11 6 rfl ?_
      refine g_iload_n X dX6_placeOfWalk_13 1 rfl ?_
      refine g_icmp_ge X (tgt := 46) dX6_placeOfWalk_14 (by decide) (by omega) (by omega) (fun c14 => ?_) (fun c14 => ?_)
      · refine g_iload_n X dX6_placeOfWalk_46 2 rfl ?_
        refine g_if_ne X (tgt := 52) dX6_placeOfWalk_47 (by decide) (by omega) (fun c47 => ?_) (fun c47 => ?_)
        · refine g_iload_n X dX6_placeOfWalk_52 2 rfl ?_
          refine g_iconst X dX6_placeOfWalk_53 ?_
          refine g_icmp_ne X (tgt := 62) dX6_placeOfWalk_54 (by decide) (by omega) (by omega) (fun c54 => ?_) (fun c54 => ?_)
          · refine g_iload X dX6_placeOfWalk_62 5 rfl ?_
            have hx : x6_11 = p1 := by omega
            rw [hx] at w11_4 w11_5 w11_6
            have hF := wkF_e v_row p1 p2 (by omega)
            exact hQ _ _ _ _ dX6_placeOfWalk_64 ⟨(by first | assumption | omega), (by first | assumption | omega), rfl⟩
          · refine g_iload X dX6_placeOfWalk_57 4 rfl ?_
            refine g_goto X (tgt := 64) dX6_placeOfWalk_59 (by decide) ?_
            have hx : x6_11 = p1 := by omega
            rw [hx] at w11_4 w11_5 w11_6
            have hF := wkF_e v_row p1 p2 (by omega)
            exact hQ _ _ _ _ dX6_placeOfWalk_64 ⟨(by first | assumption | omega), (by first | assumption | omega), rfl⟩
        · refine g_iload_n X dX6_placeOfWalk_50 3 rfl ?_
          have hx : x6_11 = p1 := by omega
          rw [hx] at w11_4 w11_5 w11_6
          have hF := wkF_e v_row p1 p2 (by omega)
          exact hQ _ _ _ _ dX6_placeOfWalk_51 ⟨(by first | assumption | omega), (by first | assumption | omega), rfl⟩
      · refine g_iload_n X dX6_placeOfWalk_17 3 rfl ?_
        refine g_aload_n X dX6_placeOfWalk_18 0 rfl ?_
        refine g_iload X dX6_placeOfWalk_19 6 rfl ?_
        refine g_iald X 0 0 rfl rfl (by omega) (by decide) dX6_placeOfWalk_21 (fun t21 e21 => ?_)
        have r21 := r_v_row (x6_11 : Int).toNat; rw [← e21] at r21
        have b21 := hp3 (x6_11).toNat (by omega)
        refine g_iadd X dX6_placeOfWalk_22 ?_
        refine g_istore_n X (lv' := [(3, vI (x3_11 + t21)), (0, .ref r_row), (1, vI p1), (2, vI p2), (4, vI x4_11), (5, vI x5_11), (6, vI x6_11)]) dX6_placeOfWalk_23 (by decide) rfl ?_
        refine g_iload X dX6_placeOfWalk_24 4 rfl ?_
        refine g_iload_n X dX6_placeOfWalk_26 0 rfl ?_
        refine g_mmax X uw900 uw807 uw111 uw808 ⟨by decide, Nat.le_of_ble_eq_true rfl⟩ ⟨Nat.zero_le _, Nat.zero_le _⟩ (by omega) (by omega) dX6_placeOfWalk_27 (fun t27 k27 => ?_)
        refine g_istore X (lv' := [(4, vI t27), (3, vI (x3_11 + t21)), (0, .ref r_row), (1, vI p1), (2, vI p2), (5, vI x5_11), (6, vI x6_11)]) dX6_placeOfWalk_30 (by decide) rfl ?_
        refine g_iload X dX6_placeOfWalk_32 5 rfl ?_
        refine g_iload_n X dX6_placeOfWalk_34 1 rfl ?_
        refine g_mmin X uw901 uw398 uw111 uw399 ⟨by decide, Nat.le_of_ble_eq_true rfl⟩ ⟨Nat.zero_le _, Nat.zero_le _⟩ (by omega) (by omega) dX6_placeOfWalk_35 (fun t35 k35 => ?_)
        refine g_istore X (lv' := [(5, vI t35), (4, vI t27), (3, vI (x3_11 + t21)), (0, .ref r_row), (1, vI p1), (2, vI p2), (6, vI x6_11)]) dX6_placeOfWalk_38 (by decide) rfl ?_
        refine g_iinc X (lv' := [(6, vI (x6_11 + 1)), (5, vI t35), (4, vI t27), (3, vI (x3_11 + t21)), (0, .ref r_row), (1, vI p1), (2, vI p2)]) dX6_placeOfWalk_40 6 rfl (by decide) rfl ?_
        refine g_goto X (tgt := 11) dX6_placeOfWalk_43 (by decide) ?_
        refine g_lv [4, 5, 6, 3, 2, 1, 0] rfl ?_
        exact ih11 (x3_11 + t21) t27 t35 (x6_11 + 1) (by first | assumption | omega) (by first | assumption | omega) (by first | assumption | omega) (by first | assumption | omega) (by first | assumption | omega) (by first | assumption | omega) (by first | assumption | omega) (by omega)
  refine g_lv [4, 5, 6, 3, 2, 1, 0] rfl ?_
  exact L11 _ 0 0 0 0 (by first | assumption | omega) (by first | assumption | omega) (by first | assumption | omega) (by first | assumption | omega) (by first | assumption | omega) (by first | assumption | omega) (by first | assumption | omega) (Nat.lt_succ_self _)
set_option maxHeartbeats 600000 in
set_option maxRecDepth 100000 in
theorem c_X6_packed (l : Launch) (D : va_G) (cI cB cJ : ClassId) (r_row : Nat) {v_row : Nat → Int} {p1 : Int} (r_v_row : RA (-2147483648) 2147483647 v_row) (hp0 : IR p1) (hp1 : 0 ≤ p1 ∧ p1 ≤ 20) : CtL l yX6_packed cX6_packed 5 (some .long) ⟨0, 0, 0, 0⟩ D (TY cI cB cJ) (wA cI 20 r_row v_row) [.ref r_row, vI p1] (fun z ws' => (ws' = (wA cI 20 r_row v_row))) := by
  refine hdrL (own := RX6) rfl (by decide +kernel) (Nat.le_of_ble_eq_true rfl) ?_
  intro p e s m args below meth c Q A X hQ
  refine g_lvE (lv2 := [(0, .ref r_row), (1, vI p1)]) rfl ?_
  refine g_lconst X (z := 0) dX6_packed_0 rfl ?_
  refine g_lstore_n X (lv' := [(2, .long (zL 0)), (0, .ref r_row), (1, vI p1)]) dX6_packed_1 (by decide) rfl ?_
  refine g_iconst X dX6_packed_2 ?_
  refine g_istore X (lv' := [(4, vI 0), (2, .long (zL 0)), (0, .ref r_row), (1, vI p1)]) dX6_packed_3 (by decide) rfl ?_
  have L5 : ∀ (n : Nat) (x2_5 : Int) (x4_5 : Int), (0 ≤ x4_5 ∧ x4_5 ≤ p1) → (p1 - x4_5).toNat < n → GG p l e ⟨0, 0, 0, 0⟩ s m args below meth c 0 0 Q D A s.heap 5 (wA cI 20 r_row v_row) 5 [(0, .ref r_row), (1, vI p1), (2, .long (zL x2_5)), (4, vI x4_5)] [] := by
    intro n
    induction n with
    | zero => intros; exfalso; omega
    | succ n ih5 =>
      intro x2_5 x4_5 w5_0 wm5
      refine g_iload X dX6_packed_5 3 rfl ?_
      refine g_iload_n X dX6_packed_7 1 rfl ?_
      refine g_icmp_ge X (tgt := 31) dX6_packed_8 (by decide) (by omega) (by omega) (fun c8 => ?_) (fun c8 => ?_)
      · refine g_lload_n X dX6_packed_31 2 rfl ?_
        exact hQ _ _ _ _ dX6_packed_32 rfl
      · refine g_lload_n X dX6_packed_11 2 rfl ?_
        refine g_aload_n X dX6_packed_12 0 rfl ?_
        refine g_iload X dX6_packed_13 3 rfl ?_
        refine g_iald X 0 0 rfl rfl (by omega) (by decide) dX6_packed_15 (fun t15 e15 => ?_)
        have r15 := r_v_row (x4_5 : Int).toNat; rw [← e15] at r15
        refine g_i2l X dX6_packed_16 (by omega) ?_
        refine g_bipush X (z := 8) dX6_packed_17 (by decide) ?_
        refine g_iload X dX6_packed_19 3 rfl ?_
        refine g_imul X dX6_packed_21 ?_
        refine g_lshl X dX6_packed_22 ?_
        refine g_nmL (fun t22 e22 => ?_)
        refine g_lor X dX6_packed_23 ?_
        refine g_nmL (fun t23 e23 => ?_)
        refine g_lstore_n X (lv' := [(2, .long (zL t23)), (0, .ref r_row), (1, vI p1), (4, vI x4_5)]) dX6_packed_24 (by decide) rfl ?_
        refine g_iinc X (lv' := [(4, vI (x4_5 + 1)), (2, .long (zL t23)), (0, .ref r_row), (1, vI p1)]) dX6_packed_25 3 rfl (by decide) rfl ?_
        refine g_goto X (tgt := 5) dX6_packed_28 (by decide) ?_
        refine g_lv [2, 3, 1, 0] rfl ?_
        exact ih5 t23 (x4_5 + 1) (by first | assumption | omega) (by omega)
  refine g_lv [2, 3, 1, 0] rfl ?_
  exact L5 _ 0 0 (by first | assumption | omega) (Nat.lt_succ_self _)
set_option maxHeartbeats 600000 in
set_option maxRecDepth 100000 in
theorem c_X6_nextRow (l : Launch) (D : va_G) (cI cB cJ : ClassId) {p0 p1 : Int} (hp0 : IR p1) (hp1 : 0 ≤ p1 ∧ p1 ≤ 20) : CtL l yX6_nextRow cX6_nextRow 9 (some .long) ⟨1, 0, 0, 40⟩ D (TY cI cB cJ) [] [.long (zL p0), vI p1] (fun z ws' => (ws' = [])) := by
  refine hdrL (own := RX6) rfl (by decide +kernel) (Nat.le_of_ble_eq_true rfl) ?_
  intro p e s m args below meth c Q A X hQ
  refine g_lvE (lv2 := [(0, .long (zL p0)), (2, vI p1)]) rfl ?_
  refine g_lconst X (z := 0) dX6_nextRow_0 rfl ?_
  refine g_lstore_n X (lv' := [(3, .long (zL 0)), (0, .long (zL p0)), (2, vI p1)]) dX6_nextRow_1 (by decide) rfl ?_
  refine g_iconst X dX6_nextRow_2 ?_
  refine g_istore X (lv' := [(5, vI 0), (3, .long (zL 0)), (0, .long (zL p0)), (2, vI p1)]) dX6_nextRow_3 (by decide) rfl ?_
  have L5 : ∀ (n : Nat) (x3_5 : Int) (x5_5 : Int), (0 ≤ x5_5 ∧ x5_5 ≤ p1) → (p1 - x5_5).toNat < n → GG p l e ⟨1, 0, 0, 40⟩ s m args below meth c 0 0 Q D A s.heap 9 [] 5 [(0, .long (zL p0)), (2, vI p1), (3, .long (zL x3_5)), (5, vI x5_5)] [] := by
    intro n
    induction n with
    | zero => intros; exfalso; omega
    | succ n ih5 =>
      intro x3_5 x5_5 w5_0 wm5
      refine g_iload X dX6_nextRow_5 3 rfl ?_
      refine g_iload_n X dX6_nextRow_7 1 rfl ?_
      refine g_icmp_ge X (tgt := 81) dX6_nextRow_8 (by decide) (by omega) (by omega) (fun c8 => ?_) (fun c8 => ?_)
      · refine g_lload_n X dX6_nextRow_81 2 rfl ?_
        exact hQ _ _ _ _ dX6_nextRow_82 rfl
      · refine g_iload X dX6_nextRow_11 3 rfl ?_
        refine g_iconst X dX6_nextRow_13 ?_
        refine g_iadd X dX6_nextRow_14 ?_
        refine g_iload_n X dX6_nextRow_15 1 rfl ?_
        refine g_icmp_ne X (tgt := 23) dX6_nextRow_16 (by decide) (by omega) (by omega) (fun c16 => ?_) (fun c16 => ?_)
        · refine g_iload X dX6_nextRow_23 3 rfl ?_
          refine g_iconst X dX6_nextRow_25 ?_
          refine g_iadd X dX6_nextRow_26 ?_
          refine g_istore X (lv' := [(6, vI (x5_5 + 1)), (0, .long (zL p0)), (2, vI p1), (3, .long (zL x3_5)), (5, vI x5_5)]) dX6_nextRow_27 (by decide) rfl ?_
          refine g_lload_n X dX6_nextRow_29 1 rfl ?_
          refine g_bipush X (z := 8) dX6_nextRow_30 (by decide) ?_
          refine g_iload X dX6_nextRow_32 4 rfl ?_
          refine g_imul X dX6_nextRow_34 ?_
          refine g_lushr X dX6_nextRow_35 ?_
          refine g_nmL (fun t35 e35 => ?_)
          refine g_l2i X dX6_nextRow_36 ?_
          refine g_nm (fun t36 e36 => ?_)
          have r36 : IR t36 := by rw [e36]; exact z_ir _
          refine g_sipush X (z := 255) dX6_nextRow_37 (by decide) ?_
          refine g_iand X dX6_nextRow_40 ?_
          refine g_nm (fun t40 e40 => ?_)
          have r40 := z_iand_r t36 255 (by omega) (by omega); rw [← e40] at r40
          refine g_istore X (lv' := [(7, vI t40), (6, vI (x5_5 + 1)), (0, .long (zL p0)), (2, vI p1), (3, .long (zL x3_5)), (5, vI x5_5)]) dX6_nextRow_41 (by decide) rfl ?_
          refine g_lload_n X dX6_nextRow_43 2 rfl ?_
          refine g_bipush X (z := 8) dX6_nextRow_44 (by decide) ?_
          refine g_iload X dX6_nextRow_46 1 rfl ?_
          refine g_imul X dX6_nextRow_48 ?_
          refine g_lushr X dX6_nextRow_49 ?_
          refine g_nmL (fun t49 e49 => ?_)
          refine g_l2i X dX6_nextRow_50 ?_
          refine g_nm (fun t50 e50 => ?_)
          have r50 : IR t50 := by rw [e50]; exact z_ir _
          refine g_sipush X (z := 255) dX6_nextRow_51 (by decide) ?_
          refine g_iand X dX6_nextRow_54 ?_
          refine g_nm (fun t54 e54 => ?_)
          have r54 := z_iand_r t50 255 (by omega) (by omega); rw [← e54] at r54
          refine g_istore X (lv' := [(8, vI t54), (7, vI t40), (6, vI (x5_5 + 1)), (0, .long (zL p0)), (2, vI p1), (3, .long (zL x3_5)), (5, vI x5_5)]) dX6_nextRow_55 (by decide) rfl ?_
          refine g_lload_n X dX6_nextRow_57 5 rfl ?_
          refine g_iload X dX6_nextRow_58 1 rfl ?_
          refine g_iload X dX6_nextRow_60 0 rfl ?_
          refine g_isub X dX6_nextRow_62 ?_
          refine g_mabs X uw915 uw916 uw111 uw917 ⟨by decide, Nat.le_of_ble_eq_true rfl⟩ ⟨Nat.zero_le _, Nat.zero_le _⟩ (by omega) dX6_nextRow_63 (fun t63 r63 k63 m63 => ?_)
          refine g_i2l X dX6_nextRow_66 (by omega) ?_
          refine g_bipush X (z := 8) dX6_nextRow_67 (by decide) ?_
          refine g_iload X dX6_nextRow_69 6 rfl ?_
          refine g_imul X dX6_nextRow_71 ?_
          refine g_lshl X dX6_nextRow_72 ?_
          refine g_nmL (fun t72 e72 => ?_)
          refine g_lor X dX6_nextRow_73 ?_
          refine g_nmL (fun t73 e73 => ?_)
          refine g_lstore_n X (lv' := [(3, .long (zL t73)), (8, vI t54), (7, vI t40), (6, vI (x5_5 + 1)), (0, .long (zL p0)), (2, vI p1), (5, vI x5_5)]) dX6_nextRow_74 (by decide) rfl ?_
          refine g_iinc X (lv' := [(5, vI (x5_5 + 1)), (3, .long (zL t73)), (8, vI t54), (7, vI t40), (6, vI (x5_5 + 1)), (0, .long (zL p0)), (2, vI p1)]) dX6_nextRow_75 6 rfl (by decide) rfl ?_
          refine g_goto X (tgt := 5) dX6_nextRow_78 (by decide) ?_
          refine g_lv [5, 6, 1, 0] rfl ?_
          exact ih5 t73 (x5_5 + 1) (by first | assumption | omega) (by omega)
        · refine g_iconst X dX6_nextRow_19 ?_
          refine g_goto X (tgt := 27) dX6_nextRow_20 (by decide) ?_
          refine g_istore X (lv' := [(6, vI 0), (0, .long (zL p0)), (2, vI p1), (3, .long (zL x3_5)), (5, vI x5_5)]) dX6_nextRow_27 (by decide) rfl ?_
          refine g_lload_n X dX6_nextRow_29 1 rfl ?_
          refine g_bipush X (z := 8) dX6_nextRow_30 (by decide) ?_
          refine g_iload X dX6_nextRow_32 4 rfl ?_
          refine g_imul X dX6_nextRow_34 ?_
          refine g_lushr X dX6_nextRow_35 ?_
          refine g_nmL (fun t35 e35 => ?_)
          refine g_l2i X dX6_nextRow_36 ?_
          refine g_nm (fun t36 e36 => ?_)
          have r36 : IR t36 := by rw [e36]; exact z_ir _
          refine g_sipush X (z := 255) dX6_nextRow_37 (by decide) ?_
          refine g_iand X dX6_nextRow_40 ?_
          refine g_nm (fun t40 e40 => ?_)
          have r40 := z_iand_r t36 255 (by omega) (by omega); rw [← e40] at r40
          refine g_istore X (lv' := [(7, vI t40), (6, vI 0), (0, .long (zL p0)), (2, vI p1), (3, .long (zL x3_5)), (5, vI x5_5)]) dX6_nextRow_41 (by decide) rfl ?_
          refine g_lload_n X dX6_nextRow_43 2 rfl ?_
          refine g_bipush X (z := 8) dX6_nextRow_44 (by decide) ?_
          refine g_iload X dX6_nextRow_46 1 rfl ?_
          refine g_imul X dX6_nextRow_48 ?_
          refine g_lushr X dX6_nextRow_49 ?_
          refine g_nmL (fun t49 e49 => ?_)
          refine g_l2i X dX6_nextRow_50 ?_
          refine g_nm (fun t50 e50 => ?_)
          have r50 : IR t50 := by rw [e50]; exact z_ir _
          refine g_sipush X (z := 255) dX6_nextRow_51 (by decide) ?_
          refine g_iand X dX6_nextRow_54 ?_
          refine g_nm (fun t54 e54 => ?_)
          have r54 := z_iand_r t50 255 (by omega) (by omega); rw [← e54] at r54
          refine g_istore X (lv' := [(8, vI t54), (7, vI t40), (6, vI 0), (0, .long (zL p0)), (2, vI p1), (3, .long (zL x3_5)), (5, vI x5_5)]) dX6_nextRow_55 (by decide) rfl ?_
          refine g_lload_n X dX6_nextRow_57 5 rfl ?_
          refine g_iload X dX6_nextRow_58 1 rfl ?_
          refine g_iload X dX6_nextRow_60 0 rfl ?_
          refine g_isub X dX6_nextRow_62 ?_
          refine g_mabs X uw915 uw916 uw111 uw917 ⟨by decide, Nat.le_of_ble_eq_true rfl⟩ ⟨Nat.zero_le _, Nat.zero_le _⟩ (by omega) dX6_nextRow_63 (fun t63 r63 k63 m63 => ?_)
          refine g_i2l X dX6_nextRow_66 (by omega) ?_
          refine g_bipush X (z := 8) dX6_nextRow_67 (by decide) ?_
          refine g_iload X dX6_nextRow_69 6 rfl ?_
          refine g_imul X dX6_nextRow_71 ?_
          refine g_lshl X dX6_nextRow_72 ?_
          refine g_nmL (fun t72 e72 => ?_)
          refine g_lor X dX6_nextRow_73 ?_
          refine g_nmL (fun t73 e73 => ?_)
          refine g_lstore_n X (lv' := [(3, .long (zL t73)), (8, vI t54), (7, vI t40), (6, vI 0), (0, .long (zL p0)), (2, vI p1), (5, vI x5_5)]) dX6_nextRow_74 (by decide) rfl ?_
          refine g_iinc X (lv' := [(5, vI (x5_5 + 1)), (3, .long (zL t73)), (8, vI t54), (7, vI t40), (6, vI 0), (0, .long (zL p0)), (2, vI p1)]) dX6_nextRow_75 6 rfl (by decide) rfl ?_
          refine g_goto X (tgt := 5) dX6_nextRow_78 (by decide) ?_
          refine g_lv [5, 6, 1, 0] rfl ?_
          exact ih5 t73 (x5_5 + 1) (by first | assumption | omega) (by omega)
  refine g_lv [2, 3, 1, 0] rfl ?_
  exact L5 _ 0 0 (by first | assumption | omega) (Nat.lt_succ_self _)
set_option maxHeartbeats 600000 in
set_option maxRecDepth 100000 in
theorem c_X6_after (l : Launch) (D : va_G) (cI cB cJ : ClassId) {p0 p1 p2 : Int} (hp0 : IR p1) (hp1 : IR p2) (hp2 : 0 ≤ p1 ∧ p1 ≤ 20) : CtL l yX6_after cX6_after 7 (some .long) ⟨2, 0, 0, 68⟩ D (TY cI cB cJ) [] [.long (zL p0), vI p1, vI p2] (fun z ws' => (ws' = [])) := by
  refine hdrL (own := RX6) rfl (by decide +kernel) (Nat.le_of_ble_eq_true rfl) ?_
  intro p e s m args below meth c Q A X hQ
  refine g_lvE (lv2 := [(0, .long (zL p0)), (2, vI p1), (3, vI p2)]) rfl ?_
  refine g_lload_n X dX6_after_0 0 rfl ?_
  refine g_lstore X (lv' := [(4, .long (zL p0)), (0, .long (zL p0)), (2, vI p1), (3, vI p2)]) dX6_after_1 (by decide) rfl ?_
  refine g_iconst X dX6_after_3 ?_
  refine g_istore X (lv' := [(6, vI 0), (4, .long (zL p0)), (0, .long (zL p0)), (2, vI p1), (3, vI p2)]) dX6_after_4 (by decide) rfl ?_
  have L6 : ∀ (n : Nat) (x4_6 : Int) (x6_6 : Int), (0 ≤ x6_6 ∧ (x6_6 ≤ p2 ∨ x6_6 = 0)) → (p2 - x6_6).toNat < n → GG p l e ⟨2, 0, 0, 68⟩ s m args below meth c 0 0 Q D A s.heap 7 [] 6 [(2, vI p1), (3, vI p2), (4, .long (zL x4_6)), (6, vI x6_6)] [] := by
    intro n
    induction n with
    | zero => intros; exfalso; omega
    | succ n ih6 =>
      intro x4_6 x6_6 w6_0 wm6
      refine g_iload X dX6_after_6 3 rfl ?_
      refine g_iload_n X dX6_after_8 1 rfl ?_
      refine g_icmp_ge X (tgt := 26) dX6_after_9 (by decide) (by omega) (by omega) (fun c9 => ?_) (fun c9 => ?_)
      · refine g_lload X dX6_after_26 2 rfl ?_
        exact hQ _ _ _ _ dX6_after_28 rfl
      · refine g_lload X dX6_after_12 2 rfl ?_
        refine g_iload_n X dX6_after_14 0 rfl ?_
        refine g_callSLE X (c_X6_nextRow l D cI cB cJ (p0 := x4_6) (p1 := p1) (by first | assumption | omega) (by first | assumption | omega)) cv_X6_nextRow uw912 ⟨rfl, rfl, by decide, by decide⟩ rfl rfl (Nat.le_of_ble_eq_true rfl) ⟨Nat.zero_le _, Nat.zero_le _⟩ dX6_after_15 (fun t15 ws15 k15 => ?_)
        obtain rfl := k15
        refine g_lstore X (lv' := [(4, .long (zL t15)), (2, vI p1), (3, vI p2), (6, vI x6_6)]) dX6_after_18 (by decide) rfl ?_
        refine g_iinc X (lv' := [(6, vI (x6_6 + 1)), (4, .long (zL t15)), (2, vI p1), (3, vI p2)]) dX6_after_20 3 rfl (by decide) rfl ?_
        refine g_goto X (tgt := 6) dX6_after_23 (by decide) ?_
        refine g_lv [2, 3, 1, 0] rfl ?_
        exact ih6 t15 (x6_6 + 1) (by first | assumption | omega) (by omega)
  refine g_lv [3, 4, 1, 0] rfl ?_
  exact L6 _ p0 0 (by first | assumption | omega) (Nat.lt_succ_self _)
set_option maxHeartbeats 600000 in
set_option maxRecDepth 100000 in
theorem c_X6_rowsAheadOfRing (l : Launch) (D : va_G) (cI cB cJ : ClassId) {p0 p1 : Int} (hp0 : IR p1) (hp1 : 0 ≤ p1 ∧ p1 ≤ 20) : CtI l yX6_rowsAheadOfRing cX6_rowsAheadOfRing 8 (some .int) ⟨2, 0, 0, 68⟩ D (TY cI cB cJ) [] [.long (zL p0), vI p1] (fun z ws' => (0 ≤ z ∧ z ≤ 1000000) ∧ (ws' = [])) := by
  refine hdrI (own := RX6) rfl (by decide +kernel) (Nat.le_of_ble_eq_true rfl) ?_
  intro p e s m args below meth c Q A X hQ
  refine g_lvE (lv2 := [(0, .long (zL p0)), (2, vI p1)]) rfl ?_
  refine g_lload_n X dX6_rowsAheadOfRing_0 0 rfl ?_
  refine g_iload_n X dX6_rowsAheadOfRing_1 1 rfl ?_
  refine g_callSLE X (c_X6_nextRow l D cI cB cJ (p0 := p0) (p1 := p1) (by first | assumption | omega) (by first | assumption | omega)) cv_X6_nextRow uw912 ⟨rfl, rfl, by decide, by decide⟩ rfl rfl (Nat.le_of_ble_eq_true rfl) ⟨Nat.zero_le _, Nat.zero_le _⟩ dX6_rowsAheadOfRing_2 (fun t2 ws2 k2 => ?_)
  obtain rfl := k2
  refine g_lstore_n X (lv' := [(3, .long (zL t2)), (0, .long (zL p0)), (2, vI p1)]) dX6_rowsAheadOfRing_5 (by decide) rfl ?_
  refine g_lload_n X dX6_rowsAheadOfRing_6 0 rfl ?_
  refine g_iload_n X dX6_rowsAheadOfRing_7 2 rfl ?_
  refine g_callSLE X (c_X6_nextRow l D cI cB cJ (p0 := t2) (p1 := p1) (by first | assumption | omega) (by first | assumption | omega)) cv_X6_nextRow uw912 ⟨rfl, rfl, by decide, by decide⟩ rfl rfl (Nat.le_of_ble_eq_true rfl) ⟨Nat.zero_le _, Nat.zero_le _⟩ dX6_rowsAheadOfRing_8 (fun t8 ws8 k8 => ?_)
  obtain rfl := k8
  refine g_lstore X (lv' := [(5, .long (zL t8)), (3, .long (zL t2)), (0, .long (zL p0)), (2, vI p1)]) dX6_rowsAheadOfRing_11 (by decide) rfl ?_
  refine g_iconst X dX6_rowsAheadOfRing_13 ?_
  refine g_istore X (lv' := [(7, vI 0), (5, .long (zL t8)), (3, .long (zL t2)), (0, .long (zL p0)), (2, vI p1)]) dX6_rowsAheadOfRing_14 (by decide) rfl ?_
  have L16 : ∀ (n : Nat) (x3_16 : Int) (x5_16 : Int) (x7_16 : Int), (0 ≤ x7_16 ∧ x7_16 ≤ 1000000) → (1000000 - x7_16).toNat < n → GG p l e ⟨2, 0, 0, 68⟩ s m args below meth c 0 0 Q D A s.heap 8 [] 16 [(0, .long (zL p0)), (2, vI p1), (3, .long (zL x3_16)), (5, .long (zL x5_16)), (7, vI x7_16)] [] := by
    intro n
    induction n with
    | zero => intros; exfalso; omega
    | succ n ih16 =>
      intro x3_16 x5_16 x7_16 w16_0 wm16
      refine g_iload X dX6_rowsAheadOfRing_16 4 rfl ?_
      refine g_ldc X (z := 1000000) dX6_rowsAheadOfRing_18 uw918 (by decide) ?_
      refine g_icmp_ge X (tgt := 54) dX6_rowsAheadOfRing_20 (by decide) (by omega) (by omega) (fun c20 => ?_) (fun c20 => ?_)
      · refine g_iconst X dX6_rowsAheadOfRing_54 ?_
        refine g_istore X (lv' := [(7, vI 0), (0, .long (zL p0)), (2, vI p1), (3, .long (zL x3_16)), (5, .long (zL x5_16))]) dX6_rowsAheadOfRing_55 (by decide) rfl ?_
        refine g_lload_n X dX6_rowsAheadOfRing_57 1 rfl ?_
        refine g_lstore_n X (lv' := [(3, .long (zL p0)), (7, vI 0), (0, .long (zL p0)), (2, vI p1), (5, .long (zL x5_16))]) dX6_rowsAheadOfRing_58 (by decide) rfl ?_
        have L59 : ∀ (n : Nat) (x3_59 : Int) (x5_59 : Int) (x7_59 : Int), (0 ≤ x7_59 ∧ x7_59 ≤ 1000000) → (1000000 - x7_59).toNat < n → GG p l e ⟨2, 0, 0, 68⟩ s m args below meth c 0 0 Q D A s.heap 8 [] 59 [(2, vI p1), (3, .long (zL x3_59)), (5, .long (zL x5_59)), (7, vI x7_59)] [] := by
          intro n
          induction n with
          | zero => intros; exfalso; omega
          | succ n ih59 =>
            intro x3_59 x5_59 x7_59 w59_0 wm59
            refine g_iload X dX6_rowsAheadOfRing_59 3 rfl ?_
            refine g_ldc X (z := 1000000) dX6_rowsAheadOfRing_61 uw918 (by decide) ?_
            refine g_icmp_ge X (tgt := 93) dX6_rowsAheadOfRing_63 (by decide) (by omega) (by omega) (fun c63 => ?_) (fun c63 => ?_)
            · refine g_iload X dX6_rowsAheadOfRing_93 3 rfl ?_
              exact hQ _ _ _ _ dX6_rowsAheadOfRing_95 ⟨(by first | assumption | omega), rfl⟩
            · refine g_lload_n X dX6_rowsAheadOfRing_66 1 rfl ?_
              refine g_lload X dX6_rowsAheadOfRing_67 2 rfl ?_
              refine g_lcmp X dX6_rowsAheadOfRing_69 (fun t69 r69 => ?_)
              refine g_if_eq X (tgt := 93) dX6_rowsAheadOfRing_70 (by decide) (by omega) (fun c70 => ?_) (fun c70 => ?_)
              · refine g_iload X dX6_rowsAheadOfRing_93 3 rfl ?_
                exact hQ _ _ _ _ dX6_rowsAheadOfRing_95 ⟨(by first | assumption | omega), rfl⟩
              · refine g_lload_n X dX6_rowsAheadOfRing_73 1 rfl ?_
                refine g_iload_n X dX6_rowsAheadOfRing_74 0 rfl ?_
                refine g_callSLE X (c_X6_nextRow l D cI cB cJ (p0 := x3_59) (p1 := p1) (by first | assumption | omega) (by first | assumption | omega)) cv_X6_nextRow uw912 ⟨rfl, rfl, by decide, by decide⟩ rfl rfl (Nat.le_of_ble_eq_true rfl) ⟨Nat.zero_le _, Nat.zero_le _⟩ dX6_rowsAheadOfRing_75 (fun t75 ws75 k75 => ?_)
                obtain rfl := k75
                refine g_lstore_n X (lv' := [(3, .long (zL t75)), (2, vI p1), (5, .long (zL x5_59)), (7, vI x7_59)]) dX6_rowsAheadOfRing_78 (by decide) rfl ?_
                refine g_lload X dX6_rowsAheadOfRing_79 2 rfl ?_
                refine g_iload_n X dX6_rowsAheadOfRing_81 1 rfl ?_
                refine g_callSLE X (c_X6_nextRow l D cI cB cJ (p0 := x5_59) (p1 := p1) (by first | assumption | omega) (by first | assumption | omega)) cv_X6_nextRow uw912 ⟨rfl, rfl, by decide, by decide⟩ rfl rfl (Nat.le_of_ble_eq_true rfl) ⟨Nat.zero_le _, Nat.zero_le _⟩ dX6_rowsAheadOfRing_82 (fun t82 ws82 k82 => ?_)
                obtain rfl := k82
                refine g_lstore X (lv' := [(5, .long (zL t82)), (3, .long (zL t75)), (2, vI p1), (7, vI x7_59)]) dX6_rowsAheadOfRing_85 (by decide) rfl ?_
                refine g_iinc X (lv' := [(7, vI (x7_59 + 1)), (5, .long (zL t82)), (3, .long (zL t75)), (2, vI p1)]) dX6_rowsAheadOfRing_87 3 rfl (by decide) rfl ?_
                refine g_goto X (tgt := 59) dX6_rowsAheadOfRing_90 (by decide) ?_
                refine g_lv [3, 2, 1, 0] rfl ?_
                exact ih59 t75 t82 (x7_59 + 1) (by first | assumption | omega) (by omega)
        refine g_lv [3, 0, 4, 1] rfl ?_
        exact L59 _ p0 x5_16 0 (by first | assumption | omega) (Nat.lt_succ_self _)
      · refine g_lload_n X dX6_rowsAheadOfRing_23 2 rfl ?_
        refine g_lload X dX6_rowsAheadOfRing_24 3 rfl ?_
        refine g_lcmp X dX6_rowsAheadOfRing_26 (fun t26 r26 => ?_)
        refine g_if_eq X (tgt := 54) dX6_rowsAheadOfRing_27 (by decide) (by omega) (fun c27 => ?_) (fun c27 => ?_)
        · refine g_iconst X dX6_rowsAheadOfRing_54 ?_
          refine g_istore X (lv' := [(7, vI 0), (0, .long (zL p0)), (2, vI p1), (3, .long (zL x3_16)), (5, .long (zL x5_16))]) dX6_rowsAheadOfRing_55 (by decide) rfl ?_
          refine g_lload_n X dX6_rowsAheadOfRing_57 1 rfl ?_
          refine g_lstore_n X (lv' := [(3, .long (zL p0)), (7, vI 0), (0, .long (zL p0)), (2, vI p1), (5, .long (zL x5_16))]) dX6_rowsAheadOfRing_58 (by decide) rfl ?_
          have L59 : ∀ (n : Nat) (x3_59 : Int) (x5_59 : Int) (x7_59 : Int), (0 ≤ x7_59 ∧ x7_59 ≤ 1000000) → (1000000 - x7_59).toNat < n → GG p l e ⟨2, 0, 0, 68⟩ s m args below meth c 0 0 Q D A s.heap 8 [] 59 [(2, vI p1), (3, .long (zL x3_59)), (5, .long (zL x5_59)), (7, vI x7_59)] [] := by
            intro n
            induction n with
            | zero => intros; exfalso; omega
            | succ n ih59 =>
              intro x3_59 x5_59 x7_59 w59_0 wm59
              refine g_iload X dX6_rowsAheadOfRing_59 3 rfl ?_
              refine g_ldc X (z := 1000000) dX6_rowsAheadOfRing_61 uw918 (by decide) ?_
              refine g_icmp_ge X (tgt := 93) dX6_rowsAheadOfRing_63 (by decide) (by omega) (by omega) (fun c63 => ?_) (fun c63 => ?_)
              · refine g_iload X dX6_rowsAheadOfRing_93 3 rfl ?_
                exact hQ _ _ _ _ dX6_rowsAheadOfRing_95 ⟨(by first | assumption | omega), rfl⟩
              · refine g_lload_n X dX6_rowsAheadOfRing_66 1 rfl ?_
                refine g_lload X dX6_rowsAheadOfRing_67 2 rfl ?_
                refine g_lcmp X dX6_rowsAheadOfRing_69 (fun t69 r69 => ?_)
                refine g_if_eq X (tgt := 93) dX6_rowsAheadOfRing_70 (by decide) (by omega) (fun c70 => ?_) (fun c70 => ?_)
                · refine g_iload X dX6_rowsAheadOfRing_93 3 rfl ?_
                  exact hQ _ _ _ _ dX6_rowsAheadOfRing_95 ⟨(by first | assumption | omega), rfl⟩
                · refine g_lload_n X dX6_rowsAheadOfRing_73 1 rfl ?_
                  refine g_iload_n X dX6_rowsAheadOfRing_74 0 rfl ?_
                  refine g_callSLE X (c_X6_nextRow l D cI cB cJ (p0 := x3_59) (p1 := p1) (by first | assumption | omega) (by first | assumption | omega)) cv_X6_nextRow uw912 ⟨rfl, rfl, by decide, by decide⟩ rfl rfl (Nat.le_of_ble_eq_true rfl) ⟨Nat.zero_le _, Nat.zero_le _⟩ dX6_rowsAheadOfRing_75 (fun t75 ws75 k75 => ?_)
                  obtain rfl := k75
                  refine g_lstore_n X (lv' := [(3, .long (zL t75)), (2, vI p1), (5, .long (zL x5_59)), (7, vI x7_59)]) dX6_rowsAheadOfRing_78 (by decide) rfl ?_
                  refine g_lload X dX6_rowsAheadOfRing_79 2 rfl ?_
                  refine g_iload_n X dX6_rowsAheadOfRing_81 1 rfl ?_
                  refine g_callSLE X (c_X6_nextRow l D cI cB cJ (p0 := x5_59) (p1 := p1) (by first | assumption | omega) (by first | assumption | omega)) cv_X6_nextRow uw912 ⟨rfl, rfl, by decide, by decide⟩ rfl rfl (Nat.le_of_ble_eq_true rfl) ⟨Nat.zero_le _, Nat.zero_le _⟩ dX6_rowsAheadOfRing_82 (fun t82 ws82 k82 => ?_)
                  obtain rfl := k82
                  refine g_lstore X (lv' := [(5, .long (zL t82)), (3, .long (zL t75)), (2, vI p1), (7, vI x7_59)]) dX6_rowsAheadOfRing_85 (by decide) rfl ?_
                  refine g_iinc X (lv' := [(7, vI (x7_59 + 1)), (5, .long (zL t82)), (3, .long (zL t75)), (2, vI p1)]) dX6_rowsAheadOfRing_87 3 rfl (by decide) rfl ?_
                  refine g_goto X (tgt := 59) dX6_rowsAheadOfRing_90 (by decide) ?_
                  refine g_lv [3, 2, 1, 0] rfl ?_
                  exact ih59 t75 t82 (x7_59 + 1) (by first | assumption | omega) (by omega)
          refine g_lv [3, 0, 4, 1] rfl ?_
          exact L59 _ p0 x5_16 0 (by first | assumption | omega) (Nat.lt_succ_self _)
        · refine g_lload_n X dX6_rowsAheadOfRing_30 2 rfl ?_
          refine g_iload_n X dX6_rowsAheadOfRing_31 1 rfl ?_
          refine g_callSLE X (c_X6_nextRow l D cI cB cJ (p0 := x3_16) (p1 := p1) (by first | assumption | omega) (by first | assumption | omega)) cv_X6_nextRow uw912 ⟨rfl, rfl, by decide, by decide⟩ rfl rfl (Nat.le_of_ble_eq_true rfl) ⟨Nat.zero_le _, Nat.zero_le _⟩ dX6_rowsAheadOfRing_32 (fun t32 ws32 k32 => ?_)
          obtain rfl := k32
          refine g_lstore_n X (lv' := [(3, .long (zL t32)), (0, .long (zL p0)), (2, vI p1), (5, .long (zL x5_16)), (7, vI x7_16)]) dX6_rowsAheadOfRing_35 (by decide) rfl ?_
          refine g_lload X dX6_rowsAheadOfRing_36 3 rfl ?_
          refine g_iload_n X dX6_rowsAheadOfRing_38 2 rfl ?_
          refine g_callSLE X (c_X6_nextRow l D cI cB cJ (p0 := x5_16) (p1 := p1) (by first | assumption | omega) (by first | assumption | omega)) cv_X6_nextRow uw912 ⟨rfl, rfl, by decide, by decide⟩ rfl rfl (Nat.le_of_ble_eq_true rfl) ⟨Nat.zero_le _, Nat.zero_le _⟩ dX6_rowsAheadOfRing_39 (fun t39 ws39 k39 => ?_)
          obtain rfl := k39
          refine g_iload_n X dX6_rowsAheadOfRing_42 2 rfl ?_
          refine g_callSLE X (c_X6_nextRow l D cI cB cJ (p0 := t39) (p1 := p1) (by first | assumption | omega) (by first | assumption | omega)) cv_X6_nextRow uw912 ⟨rfl, rfl, by decide, by decide⟩ rfl rfl (Nat.le_of_ble_eq_true rfl) ⟨Nat.zero_le _, Nat.zero_le _⟩ dX6_rowsAheadOfRing_43 (fun t43 ws43 k43 => ?_)
          obtain rfl := k43
          refine g_lstore X (lv' := [(5, .long (zL t43)), (3, .long (zL t32)), (0, .long (zL p0)), (2, vI p1), (7, vI x7_16)]) dX6_rowsAheadOfRing_46 (by decide) rfl ?_
          refine g_iinc X (lv' := [(7, vI (x7_16 + 1)), (5, .long (zL t43)), (3, .long (zL t32)), (0, .long (zL p0)), (2, vI p1)]) dX6_rowsAheadOfRing_48 4 rfl (by decide) rfl ?_
          refine g_goto X (tgt := 16) dX6_rowsAheadOfRing_51 (by decide) ?_
          refine g_lv [3, 4, 2, 1, 0] rfl ?_
          exact ih16 t32 t43 (x7_16 + 1) (by first | assumption | omega) (by omega)
  refine g_lv [3, 4, 2, 1, 0] rfl ?_
  exact L16 _ t2 t8 0 (by first | assumption | omega) (Nat.lt_succ_self _)
set_option maxHeartbeats 600000 in
set_option maxRecDepth 100000 in
theorem c_X6_rowsInRing (l : Launch) (D : va_G) (cI cB cJ : ClassId) {p0 p1 : Int} (hp0 : IR p1) (hp1 : 0 ≤ p1 ∧ p1 ≤ 20) : CtI l yX6_rowsInRing cX6_rowsInRing 6 (some .int) ⟨2, 0, 0, 68⟩ D (TY cI cB cJ) [] [.long (zL p0), vI p1] (fun z ws' => (IR z) ∧ (ws' = [])) := by
  refine hdrI (own := RX6) rfl (by decide +kernel) (Nat.le_of_ble_eq_true rfl) ?_
  intro p e s m args below meth c Q A X hQ
  refine g_lvE (lv2 := [(0, .long (zL p0)), (2, vI p1)]) rfl ?_
  refine g_iconst X dX6_rowsInRing_0 ?_
  refine g_istore_n X (lv' := [(3, vI 1), (0, .long (zL p0)), (2, vI p1)]) dX6_rowsInRing_1 (by decide) rfl ?_
  refine g_lload_n X dX6_rowsInRing_2 1 rfl ?_
  refine g_iload_n X dX6_rowsInRing_3 2 rfl ?_
  refine g_callSLE X (c_X6_nextRow l D cI cB cJ (p0 := p0) (p1 := p1) (by first | assumption | omega) (by first | assumption | omega)) cv_X6_nextRow uw912 ⟨rfl, rfl, by decide, by decide⟩ rfl rfl (Nat.le_of_ble_eq_true rfl) ⟨Nat.zero_le _, Nat.zero_le _⟩ dX6_rowsInRing_4 (fun t4 ws4 k4 => ?_)
  obtain rfl := k4
  refine g_lstore X (lv' := [(4, .long (zL t4)), (3, vI 1), (0, .long (zL p0)), (2, vI p1)]) dX6_rowsInRing_7 (by decide) rfl ?_
  have L9 : ∀ (n : Nat) (x3_9 : Int) (x4_9 : Int), (1 ≤ x3_9 ∧ x3_9 ≤ 1000000) → (1000000 - x3_9).toNat < n → GG p l e ⟨2, 0, 0, 68⟩ s m args below meth c 0 0 Q D A s.heap 6 [] 9 [(0, .long (zL p0)), (2, vI p1), (3, vI x3_9), (4, .long (zL x4_9))] [] := by
    intro n
    induction n with
    | zero => intros; exfalso; omega
    | succ n ih9 =>
      intro x3_9 x4_9 w9_0 wm9
      refine g_iload_n X dX6_rowsInRing_9 2 rfl ?_
      refine g_ldc X (z := 1000000) dX6_rowsInRing_10 uw918 (by decide) ?_
      refine g_icmp_ge X (tgt := 36) dX6_rowsInRing_12 (by decide) (by omega) (by omega) (fun c12 => ?_) (fun c12 => ?_)
      · refine g_iload_n X dX6_rowsInRing_36 2 rfl ?_
        exact hQ _ _ _ _ dX6_rowsInRing_37 ⟨(by omega), rfl⟩
      · refine g_lload X dX6_rowsInRing_15 3 rfl ?_
        refine g_lload_n X dX6_rowsInRing_17 0 rfl ?_
        refine g_lcmp X dX6_rowsInRing_18 (fun t18 r18 => ?_)
        refine g_if_eq X (tgt := 36) dX6_rowsInRing_19 (by decide) (by omega) (fun c19 => ?_) (fun c19 => ?_)
        · refine g_iload_n X dX6_rowsInRing_36 2 rfl ?_
          exact hQ _ _ _ _ dX6_rowsInRing_37 ⟨(by omega), rfl⟩
        · refine g_lload X dX6_rowsInRing_22 3 rfl ?_
          refine g_iload_n X dX6_rowsInRing_24 1 rfl ?_
          refine g_callSLE X (c_X6_nextRow l D cI cB cJ (p0 := x4_9) (p1 := p1) (by first | assumption | omega) (by first | assumption | omega)) cv_X6_nextRow uw912 ⟨rfl, rfl, by decide, by decide⟩ rfl rfl (Nat.le_of_ble_eq_true rfl) ⟨Nat.zero_le _, Nat.zero_le _⟩ dX6_rowsInRing_25 (fun t25 ws25 k25 => ?_)
          obtain rfl := k25
          refine g_lstore X (lv' := [(4, .long (zL t25)), (0, .long (zL p0)), (2, vI p1), (3, vI x3_9)]) dX6_rowsInRing_28 (by decide) rfl ?_
          refine g_iinc X (lv' := [(3, vI (x3_9 + 1)), (4, .long (zL t25)), (0, .long (zL p0)), (2, vI p1)]) dX6_rowsInRing_30 3 rfl (by decide) rfl ?_
          refine g_goto X (tgt := 9) dX6_rowsInRing_33 (by decide) ?_
          refine g_lv [2, 3, 0, 1] rfl ?_
          exact ih9 (x3_9 + 1) t25 (by first | assumption | omega) (by omega)
  refine g_lv [2, 3, 1, 0] rfl ?_
  exact L9 _ 1 t4 (by first | assumption | omega) (Nat.lt_succ_self _)
set_option maxHeartbeats 600000 in
set_option maxRecDepth 100000 in
theorem c_X6_narrowestOf (l : Launch) (D : va_G) (cI cB cJ : ClassId) (r_row : Nat) {v_row : Nat → Int} {p1 p2 : Int} (r_v_row : RA (-2147483648) 2147483647 v_row) (hp0 : IR p1) (hp1 : IR p2) (hp2 : 1 ≤ p1 ∧ p1 ≤ 20) (hp3 : 1 ≤ p2 ∧ p2 ≤ p1) (hp4 : ∀ j : Nat, (j : Int) < p1 → 0 ≤ v_row j ∧ v_row j ≤ 255) : CtI l yX6_narrowestOf cX6_narrowestOf 5 (some .int) ⟨1, 0, 0, 40⟩ D (TY cI cB cJ) (wA cI 20 r_row v_row) [.ref r_row, vI p1, vI p2] (fun z ws' => ∃ n_row : Nat → Int, (RA (-2147483648) 2147483647 n_row) ∧ (IR z) ∧ (z = nwM (srt v_row v_row p1.toNat) (p2 - 1).toNat (p1 - p2 + 1).toNat) ∧ (ws' = (wA cI 20 r_row n_row))) := by
  refine hdrI (own := RX6) rfl (by decide +kernel) (Nat.le_of_ble_eq_true rfl) ?_
  intro p e s m args below meth c Q A X hQ
  refine g_lvE (lv2 := [(0, .ref r_row), (1, vI p1), (2, vI p2)]) rfl ?_
  refine g_aload_n X dX6_narrowestOf_0 0 rfl ?_
  refine g_iload_n X dX6_narrowestOf_1 1 rfl ?_
  refine g_callSV0 X (c_X6_sort l D cI cB cJ r_row (p1 := p1) r_v_row (by first | assumption | omega) (by first | assumption | omega)) cv_X6_sort uw961 ⟨rfl, rfl, by decide, by decide⟩ rfl rfl (Nat.le_of_ble_eq_true rfl) ⟨Nat.zero_le _, Nat.zero_le _⟩ dX6_narrowestOf_2 (fun ws2 k2 => ?_)
  obtain ⟨row_2, r_row_2, kp0_2, rfl⟩ := k2
  have hB : ∀ j : Nat, (j : Int) < p1 → 0 ≤ row_2 j ∧ row_2 j ≤ 255 := fun j hj => by rw [kp0_2]; exact srt_all (fun z => 0 ≤ z ∧ z ≤ 255) _ _ _ (fun i hi => hp4 i (by omega)) j (by omega)
  have hD : Sd row_2 p1.toNat := by rw [kp0_2]; exact srt_Sd _ _ _
  refine g_aload_n X dX6_narrowestOf_5 0 rfl ?_
  refine g_iload_n X dX6_narrowestOf_6 1 rfl ?_
  refine g_iconst X dX6_narrowestOf_7 ?_
  refine g_isub X dX6_narrowestOf_8 ?_
  refine g_iald X 0 0 rfl rfl (by omega) (by decide) dX6_narrowestOf_9 (fun t9 e9 => ?_)
  have r9 := r_row_2 (p1 - 1 : Int).toNat; rw [← e9] at r9
  have b9 := hB ((p1 - 1)).toNat (by omega)
  refine g_aload_n X dX6_narrowestOf_10 0 rfl ?_
  refine g_iconst X dX6_narrowestOf_11 ?_
  refine g_iald X 0 0 rfl rfl (by omega) (by decide) dX6_narrowestOf_12 (fun t12 e12 => ?_)
  have r12 := r_row_2 (0 : Int).toNat; rw [← e12] at r12
  have b12 := hB ((0 : Int)).toNat (by omega)
  refine g_isub X dX6_narrowestOf_13 ?_
  refine g_istore_n X (lv' := [(3, vI (t9 - t12)), (0, .ref r_row), (1, vI p1), (2, vI p2)]) dX6_narrowestOf_14 (by decide) rfl ?_
  refine g_iconst X dX6_narrowestOf_15 ?_
  refine g_istore X (lv' := [(4, vI 0), (3, vI (t9 - t12)), (0, .ref r_row), (1, vI p1), (2, vI p2)]) dX6_narrowestOf_16 (by decide) rfl ?_
  have L18 : ∀ (n : Nat) (x3_18 : Int) (x4_18 : Int), (0 ≤ x4_18 ∧ x4_18 ≤ p1 - p2 + 1) → (-255 ≤ x3_18 ∧ x3_18 ≤ 255) → ((x4_18 = 0 ∧ x3_18 = row_2 (p1 - 1).toNat - row_2 (0 : Int).toNat) ∨ (0 < x4_18 ∧ x3_18 = nwM row_2 (p2 - 1).toNat (x4_18).toNat)) → (p1 - p2 + 1 - x4_18).toNat < n → GG p l e ⟨1, 0, 0, 40⟩ s m args below meth c 0 0 Q D A s.heap 5 (wA cI 20 r_row row_2) 18 [(0, .ref r_row), (1, vI p1), (2, vI p2), (3, vI x3_18), (4, vI x4_18)] [] := by
    intro n
    induction n with
    | zero => intros; exfalso; omega
    | succ n ih18 =>
      intro x3_18 x4_18 w18_0 w18_1 w18_2 wm18
      have hN := nwM_s row_2 (p2 - 1).toNat (x := x4_18) (by omega)
      rw [show (x4_18).toNat + (p2 - 1).toNat = (x4_18 + p2 - 1).toNat by omega] at hN
      have hz : x4_18 = 0 → nwM row_2 (p2 - 1).toNat (x4_18).toNat = 1000000 ∧ row_2 (x4_18).toNat = row_2 (0 : Int).toNat := fun h => by rw [h]; exact ⟨rfl, rfl⟩
      refine g_iload X dX6_narrowestOf_18 4 rfl ?_
      refine g_iload_n X dX6_narrowestOf_20 2 rfl ?_
      refine g_iadd X dX6_narrowestOf_21 ?_
      refine g_iload_n X dX6_narrowestOf_22 1 rfl ?_
      refine g_icmp_gt X (tgt := 50) dX6_narrowestOf_23 (by decide) (by omega) (by omega) (fun c23 => ?_) (fun c23 => ?_)
      · refine g_iload_n X dX6_narrowestOf_50 3 rfl ?_
        have hx : x4_18 = p1 - p2 + 1 := by omega
        rw [hx, kp0_2] at w18_2
        exact hQ _ _ _ _ dX6_narrowestOf_51 ⟨row_2, r_row_2, (by first | assumption | omega), (by first | assumption | omega), rfl⟩
      · have hm : row_2 (x4_18 + p2 - 1).toNat ≤ row_2 (p1 - 1).toNat := by have h := hD.le ((p1 - 1).toNat - (x4_18 + p2 - 1).toNat) (x4_18 + p2 - 1).toNat (by omega); rw [show (x4_18 + p2 - 1).toNat + ((p1 - 1).toNat - (x4_18 + p2 - 1).toNat) = (p1 - 1).toNat by omega] at h; exact h
        refine g_iload_n X dX6_narrowestOf_26 3 rfl ?_
        refine g_aload_n X dX6_narrowestOf_27 0 rfl ?_
        refine g_iload X dX6_narrowestOf_28 4 rfl ?_
        refine g_iload_n X dX6_narrowestOf_30 2 rfl ?_
        refine g_iadd X dX6_narrowestOf_31 ?_
        refine g_iconst X dX6_narrowestOf_32 ?_
        refine g_isub X dX6_narrowestOf_33 ?_
        refine g_iald X 0 0 rfl rfl (by omega) (by decide) dX6_narrowestOf_34 (fun t34 e34 => ?_)
        have r34 := r_row_2 ((x4_18 + p2) - 1 : Int).toNat; rw [← e34] at r34
        have b34 := hB (((x4_18 + p2) - 1)).toNat (by omega)
        refine g_aload_n X dX6_narrowestOf_35 0 rfl ?_
        refine g_iload X dX6_narrowestOf_36 4 rfl ?_
        refine g_iald X 0 0 rfl rfl (by omega) (by decide) dX6_narrowestOf_38 (fun t38 e38 => ?_)
        have r38 := r_row_2 (x4_18 : Int).toNat; rw [← e38] at r38
        have b38 := hB (x4_18).toNat (by omega)
        refine g_isub X dX6_narrowestOf_39 ?_
        refine g_mmin X uw901 uw398 uw111 uw399 ⟨by decide, Nat.le_of_ble_eq_true rfl⟩ ⟨Nat.zero_le _, Nat.zero_le _⟩ (by omega) (by omega) dX6_narrowestOf_40 (fun t40 k40 => ?_)
        refine g_istore_n X (lv' := [(3, vI t40), (0, .ref r_row), (1, vI p1), (2, vI p2), (4, vI x4_18)]) dX6_narrowestOf_43 (by decide) rfl ?_
        refine g_iinc X (lv' := [(4, vI (x4_18 + 1)), (3, vI t40), (0, .ref r_row), (1, vI p1), (2, vI p2)]) dX6_narrowestOf_44 4 rfl (by decide) rfl ?_
        refine g_goto X (tgt := 18) dX6_narrowestOf_47 (by decide) ?_
        refine g_lv [2, 3, 4, 1, 0] rfl ?_
        exact ih18 t40 (x4_18 + 1) (by first | assumption | omega) (by first | assumption | omega) (by first | assumption | omega) (by omega)
  refine g_lv [2, 3, 4, 1, 0] rfl ?_
  exact L18 _ (t9 - t12) 0 (by first | assumption | omega) (by first | assumption | omega) (by first | assumption | omega) (Nat.lt_succ_self _)
set_option maxHeartbeats 600000 in
set_option maxRecDepth 100000 in
theorem c_X6_twosApart (l : Launch) (D : va_G) (cI cB cJ : ClassId) (r_row : Nat) {v_row : Nat → Int} {p1 p2 : Int} (r_v_row : RA (-2147483648) 2147483647 v_row) (hp0 : IR p1) (hp1 : IR p2) (hp2 : 0 ≤ p1 ∧ p1 ≤ 20) (hp3 : ∀ j : Nat, (j : Int) < p1 → 0 ≤ v_row j ∧ v_row j ≤ 255) (hp4 : 0 ≤ p2) : CtI l yX6_twosApart cX6_twosApart 6 (some .int) ⟨1, 0, 0, 40⟩ D (TY cI cB cJ) (wA cI 20 r_row v_row) [.ref r_row, vI p1, vI p2] (fun z ws' => (IR z) ∧ (z = twO v_row p2 p1.toNat) ∧ (ws' = (wA cI 20 r_row v_row))) := by
  refine hdrI (own := RX6) rfl (by decide +kernel) (Nat.le_of_ble_eq_true rfl) ?_
  intro p e s m args below meth c Q A X hQ
  refine g_lvE (lv2 := [(0, .ref r_row), (1, vI p1), (2, vI p2)]) rfl ?_
  refine g_iconst X dX6_twosApart_0 ?_
  refine g_istore_n X (lv' := [(3, vI 0), (0, .ref r_row), (1, vI p1), (2, vI p2)]) dX6_twosApart_1 (by decide) rfl ?_
  refine g_iconst X dX6_twosApart_2 ?_
  refine g_istore X (lv' := [(4, vI 0), (3, vI 0), (0, .ref r_row), (1, vI p1), (2, vI p2)]) dX6_twosApart_3 (by decide) rfl ?_
  have h0 : twO v_row p2 (0 : Int).toNat = 0 := rfl
  have L5 : ∀ (n : Nat) (x3_5 : Int) (x4_5 : Int), (0 ≤ x4_5 ∧ x4_5 ≤ p1) → (0 ≤ x3_5 ∧ x3_5 ≤ 20 * x4_5) → (x3_5 = twO v_row p2 (x4_5).toNat) → (p1 - x4_5).toNat < n → GG p l e ⟨1, 0, 0, 40⟩ s m args below meth c 0 0 Q D A s.heap 6 (wA cI 20 r_row v_row) 5 [(0, .ref r_row), (1, vI p1), (2, vI p2), (3, vI x3_5), (4, vI x4_5)] [] := by
    intro n
    induction n with
    | zero => intros; exfalso; omega
    | succ n ih5 =>
      intro x3_5 x4_5 w5_0 w5_1 w5_2 wm5
      have hO := twO_s v_row p2 (x := x4_5) (by omega)
      refine g_iload X dX6_twosApart_5 4 rfl ?_
      refine g_iload_n X dX6_twosApart_7 1 rfl ?_
      refine g_icmp_ge X (tgt := 52) dX6_twosApart_8 (by decide) (by omega) (by omega) (fun c8 => ?_) (fun c8 => ?_)
      · refine g_iload_n X dX6_twosApart_52 3 rfl ?_
        have hx : x4_5 = p1 := by omega
        rw [hx] at w5_2
        exact hQ _ _ _ _ dX6_twosApart_53 ⟨(by first | assumption | omega), (by first | assumption | omega), rfl⟩
      · refine g_iconst X dX6_twosApart_11 ?_
        refine g_istore X (lv' := [(5, vI 0), (0, .ref r_row), (1, vI p1), (2, vI p2), (3, vI x3_5), (4, vI x4_5)]) dX6_twosApart_12 (by decide) rfl ?_
        have h0 : twI v_row p2 (x4_5).toNat (twO v_row p2 (x4_5).toNat) (0 : Int).toNat = twO v_row p2 (x4_5).toNat := rfl
        have L14 : ∀ (n : Nat) (x3_14 : Int) (x5_14 : Int), (0 ≤ x5_14 ∧ x5_14 ≤ x4_5) → (0 ≤ x3_14 ∧ x3_14 ≤ 20 * x4_5 + x5_14) → (x3_14 = twI v_row p2 (x4_5).toNat (twO v_row p2 (x4_5).toNat) (x5_14).toNat) → (x4_5 - x5_14).toNat < n → GG p l e ⟨1, 0, 0, 40⟩ s m args below meth c 0 0 Q D A s.heap 6 (wA cI 20 r_row v_row) 14 [(0, .ref r_row), (1, vI p1), (2, vI p2), (3, vI x3_14), (4, vI x4_5), (5, vI x5_14)] [] := by
          intro n
          induction n with
          | zero => intros; exfalso; omega
          | succ n ih14 =>
            intro x3_14 x5_14 w14_0 w14_1 w14_2 wm14
            have hI := twI_s v_row p2 (x4_5).toNat (twO v_row p2 (x4_5).toNat) (x := x5_14) (by omega)
            refine g_iload X dX6_twosApart_14 5 rfl ?_
            refine g_iload X dX6_twosApart_16 4 rfl ?_
            refine g_icmp_ge X (tgt := 46) dX6_twosApart_18 (by decide) (by omega) (by omega) (fun c18 => ?_) (fun c18 => ?_)
            · refine g_iinc X (lv' := [(4, vI (x4_5 + 1)), (0, .ref r_row), (1, vI p1), (2, vI p2), (3, vI x3_14), (5, vI x5_14)]) dX6_twosApart_46 4 rfl (by decide) rfl ?_
              refine g_goto X (tgt := 5) dX6_twosApart_49 (by decide) ?_
              have hx : x5_14 = x4_5 := by omega
              rw [hx] at w14_2
              refine g_lv [1, 2, 3, 4, 0] rfl ?_
              exact ih5 x3_14 (x4_5 + 1) (by first | assumption | omega) (by first | assumption | omega) (by first | assumption | omega) (by omega)
            · refine g_aload_n X dX6_twosApart_21 0 rfl ?_
              refine g_iload X dX6_twosApart_22 4 rfl ?_
              refine g_iald X 0 0 rfl rfl (by omega) (by decide) dX6_twosApart_24 (fun t24 e24 => ?_)
              have r24 := r_v_row (x4_5 : Int).toNat; rw [← e24] at r24
              have b24 := hp3 (x4_5).toNat (by omega)
              refine g_aload_n X dX6_twosApart_25 0 rfl ?_
              refine g_iload X dX6_twosApart_26 5 rfl ?_
              refine g_iald X 0 0 rfl rfl (by omega) (by decide) dX6_twosApart_28 (fun t28 e28 => ?_)
              have r28 := r_v_row (x5_14 : Int).toNat; rw [← e28] at r28
              have b28 := hp3 (x5_14).toNat (by omega)
              refine g_isub X dX6_twosApart_29 ?_
              refine g_mabs X uw915 uw916 uw111 uw917 ⟨by decide, Nat.le_of_ble_eq_true rfl⟩ ⟨Nat.zero_le _, Nat.zero_le _⟩ (by omega) dX6_twosApart_30 (fun t30 r30 k30 m30 => ?_)
              refine g_iload_n X dX6_twosApart_33 2 rfl ?_
              refine g_icmp_ne X (tgt := 40) dX6_twosApart_34 (by decide) (by omega) (by omega) (fun c34 => ?_) (fun c34 => ?_)
              · refine g_iinc X (lv' := [(5, vI (x5_14 + 1)), (0, .ref r_row), (1, vI p1), (2, vI p2), (3, vI x3_14), (4, vI x4_5)]) dX6_twosApart_40 5 rfl (by decide) rfl ?_
                refine g_goto X (tgt := 14) dX6_twosApart_43 (by decide) ?_
                refine g_lv [1, 2, 3, 4, 5, 0] rfl ?_
                exact ih14 x3_14 (x5_14 + 1) (by first | assumption | omega) (by first | assumption | omega) (by first | assumption | omega) (by omega)
              · refine g_iinc X (lv' := [(3, vI (x3_14 + 1)), (0, .ref r_row), (1, vI p1), (2, vI p2), (4, vI x4_5), (5, vI x5_14)]) dX6_twosApart_37 3 rfl (by decide) rfl ?_
                refine g_iinc X (lv' := [(5, vI (x5_14 + 1)), (3, vI (x3_14 + 1)), (0, .ref r_row), (1, vI p1), (2, vI p2), (4, vI x4_5)]) dX6_twosApart_40 5 rfl (by decide) rfl ?_
                refine g_goto X (tgt := 14) dX6_twosApart_43 (by decide) ?_
                refine g_lv [2, 3, 4, 1, 5, 0] rfl ?_
                exact ih14 (x3_14 + 1) (x5_14 + 1) (by first | assumption | omega) (by first | assumption | omega) (by first | assumption | omega) (by omega)
        refine g_lv [1, 2, 3, 4, 5, 0] rfl ?_
        exact L14 _ x3_5 0 (by first | assumption | omega) (by first | assumption | omega) (by first | assumption | omega) (Nat.lt_succ_self _)
  refine g_lv [2, 3, 4, 1, 0] rfl ?_
  exact L5 _ 0 0 (by first | assumption | omega) (by first | assumption | omega) (by first | assumption | omega) (Nat.lt_succ_self _)
set_option maxHeartbeats 600000 in
set_option maxRecDepth 100000 in
theorem c_X6_pairedOf (l : Launch) (D : va_G) (cI cB cJ : ClassId) (r_row : Nat) {v_row : Nat → Int} {p1 p2 : Int} (r_v_row : RA (-2147483648) 2147483647 v_row) (hp0 : IR p1) (hp1 : 0 ≤ p2 ∧ p2 ≤ 1) (hp2 : 2 ≤ p1 ∧ p1 ≤ 16 ∧ p1 % 2 = 0) (hp3 : ∀ j : Nat, (j : Int) < p1 → 0 ≤ v_row j ∧ v_row j ≤ 255) : CtI l yX6_pairedOf cX6_pairedOf 7 (some .int) ⟨1, 0, 0, 40⟩ D (TY cI cB cJ) (wA cI 20 r_row v_row) [.ref r_row, vI p1, vI p2] (fun z ws' => ∃ n_row : Nat → Int, (RA (-2147483648) 2147483647 n_row) ∧ (IR z) ∧ ((p2 = 1 ∧ z = prM (srt v_row v_row p1.toNat) (p1 / 2).toNat) ∨ (p2 = 0 ∧ z = prA (srt v_row v_row p1.toNat) (p1 / 2).toNat)) ∧ (ws' = (wA cI 20 r_row n_row))) := by
  refine hdrI (own := RX6) rfl (by decide +kernel) (Nat.le_of_ble_eq_true rfl) ?_
  intro p e s m args below meth c Q A X hQ
  refine g_lvE (lv2 := [(0, .ref r_row), (1, vI p1), (2, vI p2)]) rfl ?_
  refine g_aload_n X dX6_pairedOf_0 0 rfl ?_
  refine g_iload_n X dX6_pairedOf_1 1 rfl ?_
  refine g_callSV0 X (c_X6_sort l D cI cB cJ r_row (p1 := p1) r_v_row (by first | assumption | omega) (by first | assumption | omega)) cv_X6_sort uw961 ⟨rfl, rfl, by decide, by decide⟩ rfl rfl (Nat.le_of_ble_eq_true rfl) ⟨Nat.zero_le _, Nat.zero_le _⟩ dX6_pairedOf_2 (fun ws2 k2 => ?_)
  obtain ⟨row_2, r_row_2, kp0_2, rfl⟩ := k2
  have hB : ∀ j : Nat, (j : Int) < p1 → 0 ≤ row_2 j ∧ row_2 j ≤ 255 := fun j hj => by rw [kp0_2]; exact srt_all (fun z => 0 ≤ z ∧ z ≤ 255) _ _ _ (fun i hi => hp3 i (by omega)) j (by omega)
  refine g_iconst X dX6_pairedOf_5 ?_
  refine g_istore_n X (lv' := [(3, vI 0), (0, .ref r_row), (1, vI p1), (2, vI p2)]) dX6_pairedOf_6 (by decide) rfl ?_
  refine g_iconst X dX6_pairedOf_7 ?_
  refine g_istore X (lv' := [(4, vI 0), (3, vI 0), (0, .ref r_row), (1, vI p1), (2, vI p2)]) dX6_pairedOf_8 (by decide) rfl ?_
  refine g_iconst X dX6_pairedOf_10 ?_
  refine g_istore X (lv' := [(5, vI 0), (4, vI 0), (3, vI 0), (0, .ref r_row), (1, vI p1), (2, vI p2)]) dX6_pairedOf_11 (by decide) rfl ?_
  have h0 : prA row_2 ((0 : Int) / 2).toNat = 0 := rfl
  have h1 : prM row_2 ((0 : Int) / 2).toNat = 0 := rfl
  have L13 : ∀ (n : Nat) (x3_13 : Int) (x4_13 : Int) (x5_13 : Int), (0 ≤ x5_13 ∧ x5_13 ≤ p1) → (x5_13 % 2 = 0) → (-255 * x5_13 ≤ x3_13 ∧ x3_13 ≤ 255 * x5_13) → (0 ≤ x4_13 ∧ x4_13 ≤ 255) → (x3_13 = prA row_2 (x5_13 / 2).toNat) → (x4_13 = prM row_2 (x5_13 / 2).toNat) → (p1 - x5_13).toNat < n → GG p l e ⟨1, 0, 0, 40⟩ s m args below meth c 0 0 Q D A s.heap 7 (wA cI 20 r_row row_2) 13 [(0, .ref r_row), (1, vI p1), (2, vI p2), (3, vI x3_13), (4, vI x4_13), (5, vI x5_13)] [] := by
    intro n
    induction n with
    | zero => intros; exfalso; omega
    | succ n ih13 =>
      intro x3_13 x4_13 x5_13 w13_0 w13_1 w13_2 w13_3 w13_4 w13_5 wm13
      have hA := prA_s row_2 (x := x5_13) (by omega) (by omega)
      have hM := prM_s row_2 (x := x5_13) (by omega) (by omega)
      refine g_iload X dX6_pairedOf_13 5 rfl ?_
      refine g_iconst X dX6_pairedOf_15 ?_
      refine g_iadd X dX6_pairedOf_16 ?_
      refine g_iload_n X dX6_pairedOf_17 1 rfl ?_
      refine g_icmp_ge X (tgt := 54) dX6_pairedOf_18 (by decide) (by omega) (by omega) (fun c18 => ?_) (fun c18 => ?_)
      · refine g_iload_n X dX6_pairedOf_54 2 rfl ?_
        refine g_if_eq X (tgt := 63) dX6_pairedOf_55 (by decide) (by omega) (fun c55 => ?_) (fun c55 => ?_)
        · refine g_iload_n X dX6_pairedOf_63 3 rfl ?_
          have hx : x5_13 = p1 := by omega
          rw [hx, kp0_2] at w13_4 w13_5
          exact hQ _ _ _ _ dX6_pairedOf_64 ⟨row_2, r_row_2, (by first | assumption | omega), (by first | assumption | omega), rfl⟩
        · refine g_iload X dX6_pairedOf_58 4 rfl ?_
          refine g_goto X (tgt := 64) dX6_pairedOf_60 (by decide) ?_
          have hx : x5_13 = p1 := by omega
          rw [hx, kp0_2] at w13_4 w13_5
          exact hQ _ _ _ _ dX6_pairedOf_64 ⟨row_2, r_row_2, (by first | assumption | omega), (by first | assumption | omega), rfl⟩
      · refine g_aload_n X dX6_pairedOf_21 0 rfl ?_
        refine g_iload X dX6_pairedOf_22 5 rfl ?_
        refine g_iconst X dX6_pairedOf_24 ?_
        refine g_iadd X dX6_pairedOf_25 ?_
        refine g_iald X 0 0 rfl rfl (by omega) (by decide) dX6_pairedOf_26 (fun t26 e26 => ?_)
        have r26 := r_row_2 (x5_13 + 1 : Int).toNat; rw [← e26] at r26
        have b26 := hB ((x5_13 + 1)).toNat (by omega)
        refine g_aload_n X dX6_pairedOf_27 0 rfl ?_
        refine g_iload X dX6_pairedOf_28 5 rfl ?_
        refine g_iald X 0 0 rfl rfl (by omega) (by decide) dX6_pairedOf_30 (fun t30 e30 => ?_)
        have r30 := r_row_2 (x5_13 : Int).toNat; rw [← e30] at r30
        have b30 := hB (x5_13).toNat (by omega)
        refine g_isub X dX6_pairedOf_31 ?_
        refine g_istore X (lv' := [(6, vI (t26 - t30)), (0, .ref r_row), (1, vI p1), (2, vI p2), (3, vI x3_13), (4, vI x4_13), (5, vI x5_13)]) dX6_pairedOf_32 (by decide) rfl ?_
        refine g_iload_n X dX6_pairedOf_34 4 rfl ?_
        refine g_iload X dX6_pairedOf_35 0 rfl ?_
        refine g_iadd X dX6_pairedOf_37 ?_
        refine g_istore_n X (lv' := [(3, vI (x3_13 + (t26 - t30))), (6, vI (t26 - t30)), (0, .ref r_row), (1, vI p1), (2, vI p2), (4, vI x4_13), (5, vI x5_13)]) dX6_pairedOf_38 (by decide) rfl ?_
        refine g_iload X dX6_pairedOf_39 5 rfl ?_
        refine g_iload X dX6_pairedOf_41 1 rfl ?_
        refine g_mmax X uw900 uw807 uw111 uw808 ⟨by decide, Nat.le_of_ble_eq_true rfl⟩ ⟨Nat.zero_le _, Nat.zero_le _⟩ (by omega) (by omega) dX6_pairedOf_43 (fun t43 k43 => ?_)
        refine g_istore X (lv' := [(4, vI t43), (3, vI (x3_13 + (t26 - t30))), (6, vI (t26 - t30)), (0, .ref r_row), (1, vI p1), (2, vI p2), (5, vI x5_13)]) dX6_pairedOf_46 (by decide) rfl ?_
        refine g_iinc X (lv' := [(5, vI (x5_13 + 2)), (4, vI t43), (3, vI (x3_13 + (t26 - t30))), (6, vI (t26 - t30)), (0, .ref r_row), (1, vI p1), (2, vI p2)]) dX6_pairedOf_48 6 rfl (by decide) rfl ?_
        refine g_goto X (tgt := 13) dX6_pairedOf_51 (by decide) ?_
        refine g_lv [4, 5, 6, 2, 1, 0] rfl ?_
        exact ih13 (x3_13 + (t26 - t30)) t43 (x5_13 + 2) (by first | assumption | omega) (by first | assumption | omega) (by first | assumption | omega) (by first | assumption | omega) (by first | assumption | omega) (by first | assumption | omega) (by omega)
  refine g_lv [3, 4, 5, 2, 1, 0] rfl ?_
  exact L13 _ 0 0 0 (by first | assumption | omega) (by first | assumption | omega) (by first | assumption | omega) (by first | assumption | omega) (by first | assumption | omega) (by first | assumption | omega) (Nat.lt_succ_self _)
set_option maxHeartbeats 600000 in
set_option maxRecDepth 100000 in
theorem c_X6_leastBitsOfSums (l : Launch) (D : va_G) (cI cB cJ : ClassId) (r_row : Nat) (r_bits : Nat) {v_row v_bits : Nat → Int} {p1 : Int} (r_v_row : RA (-2147483648) 2147483647 v_row) (r_v_bits : RA (-2147483648) 2147483647 v_bits) (hp0 : IR p1) (hp1 : 2 ≤ p1 ∧ p1 ≤ 16) (hp2 : ∀ j : Nat, (j : Int) < p1 → 0 ≤ v_row j ∧ v_row j ≤ 255) : CtV l yX6_leastBitsOfSums cX6_leastBitsOfSums 6 none ⟨1, 0, 0, 23⟩ D (TY cI cB cJ) ((wA cI 20 r_row v_row) ++ (wA cI 4096 r_bits v_bits)) [.ref r_row, vI p1, .ref r_bits] (fun ws' => ∃ n_bits : Nat → Int, (RA (-2147483648) 2147483647 n_bits) ∧ (∀ s : Nat, s < 4096 → n_bits s = lbF v_row (p1 - 1).toNat s) ∧ (ws' = ((wA cI 20 r_row v_row) ++ (wA cI 4096 r_bits n_bits)))) := by
  refine hdrV (own := RX6) rfl (by decide +kernel) (Nat.le_of_ble_eq_true rfl) ?_
  intro p e s m args below meth c Q A X hQ
  refine g_lvE (lv2 := [(0, .ref r_row), (1, vI p1), (2, .ref r_bits)]) rfl ?_
  refine g_aload_n X dX6_leastBitsOfSums_0 2 rfl ?_
  refine g_iconst X dX6_leastBitsOfSums_1 ?_
  refine g_callSVw X (c_J7_fill_53178_4096 l D cI cB cJ r_bits (p1 := (-1)) r_v_bits (by first | assumption | omega)) [1] rfl rfl rfl cv_J7_fill_53178 uw953 ⟨rfl, rfl, by decide, by decide⟩ rfl rfl (Nat.le_of_ble_eq_true rfl) ⟨Nat.zero_le _, Nat.zero_le _⟩ dX6_leastBitsOfSums_2 (fun ws2 k2 => ?_)
  obtain ⟨bits_2, r_bits_2, kp0_2, rfl⟩ := k2
  refine ⟨rfl, ?_⟩
  refine g_ws (ws2 := ((wA cI 20 r_row v_row) ++ (wA cI 4096 r_bits bits_2))) rfl ?_
  refine g_aload_n X dX6_leastBitsOfSums_5 2 rfl ?_
  refine g_iconst X dX6_leastBitsOfSums_6 ?_
  refine g_iconst X dX6_leastBitsOfSums_7 ?_
  refine g_iast X 1 0 rfl rfl (by omega) (by decide) dX6_leastBitsOfSums_8 (fun bits_8 e8 => ?_)
  have r_bits_8 : RA (-2147483648) 2147483647 bits_8 := by rw [e8]; exact RA_up r_bits_2 (by omega)
  refine g_ws (ws2 := ((wA cI 20 r_row v_row) ++ (wA cI 4096 r_bits bits_8))) rfl ?_
  refine g_iconst X dX6_leastBitsOfSums_9 ?_
  refine g_istore_n X (lv' := [(3, vI 1), (0, .ref r_row), (1, vI p1), (2, .ref r_bits)]) dX6_leastBitsOfSums_10 (by decide) rfl ?_
  have L11 : ∀ (n : Nat) (x3_11 : Int) (bits_11 : Nat → Int), (RA (-2147483648) 2147483647 bits_11) → (1 ≤ x3_11 ∧ x3_11 ≤ p1) → (∀ s : Nat, s < 4096 → bits_11 s = lbF v_row (x3_11 - 1).toNat s) → (20 - x3_11).toNat < n → GG p l e ⟨1, 0, 0, 23⟩ s m args below meth c 0 0 Q D A s.heap 6 ((wA cI 20 r_row v_row) ++ (wA cI 4096 r_bits bits_11)) 11 [(0, .ref r_row), (1, vI p1), (2, .ref r_bits), (3, vI x3_11)] [] := by
    intro n
    induction n with
    | zero => intros; exfalso; omega
    | succ n ih11 =>
      intro x3_11 bits_11 r_bits_11 w11_0 w11_1 wm11
      refine g_iload_n X dX6_leastBitsOfSums_11 3 rfl ?_
      refine g_iload_n X dX6_leastBitsOfSums_12 1 rfl ?_
      refine g_icmp_ge X (tgt := 76) dX6_leastBitsOfSums_13 (by decide) (by omega) (by omega) (fun c13 => ?_) (fun c13 => ?_)
      · exact hQ _ _ _ dX6_leastBitsOfSums_76 ⟨bits_11, r_bits_11, (by intro s hs; rw [← show (x3_11 - 1).toNat = (p1 - 1).toNat by omega]; exact w11_1 s hs), rfl⟩
      · refine g_aload_n X dX6_leastBitsOfSums_16 2 rfl ?_
        refine g_alen X 1 0 rfl rfl (z := 4096) rfl dX6_leastBitsOfSums_17 ?_
        refine g_iconst X dX6_leastBitsOfSums_18 ?_
        refine g_isub X dX6_leastBitsOfSums_19 ?_
        refine g_istore X (lv' := [(4, vI (4096 - 1)), (0, .ref r_row), (1, vI p1), (2, .ref r_bits), (3, vI x3_11)]) dX6_leastBitsOfSums_20 (by decide) rfl ?_
        have L22 : ∀ (n : Nat) (x4_22 : Int) (bits_22 : Nat → Int), (RA (-2147483648) 2147483647 bits_22) → (-1 ≤ x4_22 ∧ x4_22 ≤ 4095) → (∀ s : Nat, s < 4096 → (x4_22 < (s : Int) → bits_22 s = lbF v_row (x3_11).toNat s) ∧ ((s : Int) ≤ x4_22 → bits_22 s = lbF v_row (x3_11 - 1).toNat s)) → (x4_22 + 1).toNat < n → GG p l e ⟨1, 0, 0, 23⟩ s m args below meth c 0 0 Q D A s.heap 6 ((wA cI 20 r_row v_row) ++ (wA cI 4096 r_bits bits_22)) 22 [(0, .ref r_row), (1, vI p1), (2, .ref r_bits), (3, vI x3_11), (4, vI x4_22)] [] := by
          intro n
          induction n with
          | zero => intros; exfalso; omega
          | succ n ih22 =>
            intro x4_22 bits_22 r_bits_22 w22_0 w22_1 wm22
            refine g_iload X dX6_leastBitsOfSums_22 4 rfl ?_
            refine g_aload_n X dX6_leastBitsOfSums_24 0 rfl ?_
            refine g_iload_n X dX6_leastBitsOfSums_25 3 rfl ?_
            refine g_iald X 0 0 rfl rfl (by omega) (by decide) dX6_leastBitsOfSums_26 (fun t26 e26 => ?_)
            have r26 := r_v_row (x3_11 : Int).toNat; rw [← e26] at r26
            have b26 := hp2 (x3_11).toNat (by omega)
            refine g_icmp_lt X (tgt := 70) dX6_leastBitsOfSums_27 (by decide) (by omega) (by omega) (fun c27 => ?_) (fun c27 => ?_)
            · refine g_iinc X (lv' := [(3, vI (x3_11 + 1)), (0, .ref r_row), (1, vI p1), (2, .ref r_bits), (4, vI x4_22)]) dX6_leastBitsOfSums_70 3 rfl (by decide) rfl ?_
              refine g_goto X (tgt := 11) dX6_leastBitsOfSums_73 (by decide) ?_
              refine g_lv [1, 2, 3, 0] rfl ?_
              exact ih11 (x3_11 + 1) bits_22 r_bits_22 (by first | assumption | omega) (by first | (intro s hs; rw [e8, show (1 - 1 : Int).toNat = 0 from rfl]; exact if hq : s = (0 : Int).toNat then by (rw [hq, updZ_s]; rfl) else by (rw [updZ_n _ _ hq, kp0_2 s (by omega)]; exact (if_neg hq).symm)) | (intro s hs; rw [show (x3_11 + 1 - 1).toNat = (x3_11).toNat by omega]; rcases (show x4_22 < (s : Int) ∨ (s : Int) ≤ x4_22 by omega) with g | g; exact (w22_1 s hs).1 g; (rw [(w22_1 s hs).2 g]; have hS := lbF_s v_row (x3_11 - 1).toNat s; rw [show (x3_11 - 1).toNat + 1 = (x3_11).toNat by omega] at hS; rcases hS with ⟨⟨_, g2, _⟩, _⟩ | ⟨_, g3⟩; (exfalso; omega); exact g3.symm))) (by omega)
            · refine g_aload_n X dX6_leastBitsOfSums_30 2 rfl ?_
              refine g_iload X dX6_leastBitsOfSums_31 4 rfl ?_
              refine g_aload_n X dX6_leastBitsOfSums_33 0 rfl ?_
              refine g_iload_n X dX6_leastBitsOfSums_34 3 rfl ?_
              refine g_iald X 0 0 rfl rfl (by omega) (by decide) dX6_leastBitsOfSums_35 (fun t35 e35 => ?_)
              have r35 := r_v_row (x3_11 : Int).toNat; rw [← e35] at r35
              have b35 := hp2 (x3_11).toNat (by omega)
              refine g_isub X dX6_leastBitsOfSums_36 ?_
              refine g_iald X 1 0 rfl rfl (by omega) (by decide) dX6_leastBitsOfSums_37 (fun t37 e37 => ?_)
              have r37 := r_bits_22 (x4_22 - t35 : Int).toNat; rw [← e37] at r37
              refine g_istore X (lv' := [(5, vI t37), (0, .ref r_row), (1, vI p1), (2, .ref r_bits), (3, vI x3_11), (4, vI x4_22)]) dX6_leastBitsOfSums_38 (by decide) rfl ?_
              have h37 : t37 = lbF v_row (x3_11 - 1).toNat ((x4_22).toNat - (v_row (x3_11).toNat).toNat) := by rw [e37, show (x4_22 - t35).toNat = (x4_22).toNat - (v_row (x3_11).toNat).toNat by omega]; exact (w22_1 _ (by omega)).2 (by omega)
              have hS := lbF_s v_row (x3_11 - 1).toNat (x4_22).toNat
              rw [show (x3_11 - 1).toNat + 1 = (x3_11).toNat by omega] at hS
              have h43 := (w22_1 (x4_22).toNat (by omega)).2 (by omega)
              have hc4 : (((x4_22).toNat : Nat) : Int) = x4_22 := by omega
              rw [hc4] at hS
              refine g_aload_n X dX6_leastBitsOfSums_40 3 rfl ?_
              refine g_iload X dX6_leastBitsOfSums_41 5 rfl ?_
              refine g_iald X 1 0 rfl rfl (by omega) (by decide) dX6_leastBitsOfSums_43 (fun t43 e43 => ?_)
              have r43 := r_bits_22 (x4_22 : Int).toNat; rw [← e43] at r43
              refine g_iconst X dX6_leastBitsOfSums_44 ?_
              refine g_icmp_ne X (tgt := 64) dX6_leastBitsOfSums_45 (by decide) (by omega) (by omega) (fun c45 => ?_) (fun c45 => ?_)
              · have hN : ∀ s : Nat, s < 4096 → (x4_22 - 1 < (s : Int) → bits_22 s = lbF v_row (x3_11).toNat s) ∧ ((s : Int) ≤ x4_22 - 1 → bits_22 s = lbF v_row (x3_11 - 1).toNat s) := by first | (intro s hs; rw [e63]; exact if hq : s = (x4_22).toNat then by (rw [hq, updZ_s]; exact ⟨fun _ => hv, fun h => absurd h (by omega)⟩) else by (rw [updZ_n _ _ hq]; exact ⟨fun h => (w22_1 s hs).1 (by omega), fun h => (w22_1 s hs).2 (by omega)⟩)) | (intro s hs; refine ⟨fun h => ?_, fun h => (w22_1 s hs).2 (by omega)⟩; rcases (show x4_22 < (s : Int) ∨ s = (x4_22).toNat by omega) with g | g; exact (w22_1 s hs).1 g; (rw [g]; have h8 := (w22_1 (x4_22).toNat (by omega)).2 (by omega); omega))
                refine g_iinc X (lv' := [(4, vI (x4_22 + (-1))), (5, vI t37), (0, .ref r_row), (1, vI p1), (2, .ref r_bits), (3, vI x3_11)]) dX6_leastBitsOfSums_64 5 rfl (by decide) rfl ?_
                refine g_goto X (tgt := 22) dX6_leastBitsOfSums_67 (by decide) ?_
                refine g_lv [2, 3, 4, 5, 0] rfl ?_
                exact ih22 (x4_22 + (-1)) bits_22 r_bits_22 (by first | assumption | omega) (by first | exact hN | (intro s hs; exact ⟨fun h => absurd h (by omega), fun _ => w11_1 s hs⟩)) (by omega)
              · refine g_iload X dX6_leastBitsOfSums_48 0 rfl ?_
                refine g_iconst X dX6_leastBitsOfSums_50 ?_
                refine g_icmp_eq X (tgt := 64) dX6_leastBitsOfSums_51 (by decide) (by omega) (by omega) (fun c51 => ?_) (fun c51 => ?_)
                · have hN : ∀ s : Nat, s < 4096 → (x4_22 - 1 < (s : Int) → bits_22 s = lbF v_row (x3_11).toNat s) ∧ ((s : Int) ≤ x4_22 - 1 → bits_22 s = lbF v_row (x3_11 - 1).toNat s) := by first | (intro s hs; rw [e63]; exact if hq : s = (x4_22).toNat then by (rw [hq, updZ_s]; exact ⟨fun _ => hv, fun h => absurd h (by omega)⟩) else by (rw [updZ_n _ _ hq]; exact ⟨fun h => (w22_1 s hs).1 (by omega), fun h => (w22_1 s hs).2 (by omega)⟩)) | (intro s hs; refine ⟨fun h => ?_, fun h => (w22_1 s hs).2 (by omega)⟩; rcases (show x4_22 < (s : Int) ∨ s = (x4_22).toNat by omega) with g | g; exact (w22_1 s hs).1 g; (rw [g]; have h8 := (w22_1 (x4_22).toNat (by omega)).2 (by omega); omega))
                  refine g_iinc X (lv' := [(4, vI (x4_22 + (-1))), (5, vI t37), (0, .ref r_row), (1, vI p1), (2, .ref r_bits), (3, vI x3_11)]) dX6_leastBitsOfSums_64 5 rfl (by decide) rfl ?_
                  refine g_goto X (tgt := 22) dX6_leastBitsOfSums_67 (by decide) ?_
                  refine g_lv [2, 3, 4, 5, 0] rfl ?_
                  exact ih22 (x4_22 + (-1)) bits_22 r_bits_22 (by first | assumption | omega) (by first | exact hN | (intro s hs; exact ⟨fun h => absurd h (by omega), fun _ => w11_1 s hs⟩)) (by omega)
                · refine g_aload_n X dX6_leastBitsOfSums_54 3 rfl ?_
                  refine g_iload X dX6_leastBitsOfSums_55 5 rfl ?_
                  refine g_iload X dX6_leastBitsOfSums_57 0 rfl ?_
                  refine g_iconst X dX6_leastBitsOfSums_59 ?_
                  refine g_iload_n X dX6_leastBitsOfSums_60 4 rfl ?_
                  refine g_ishl X dX6_leastBitsOfSums_61 ?_
                  refine g_nm (fun t61 e61 => ?_)
                  have r61 : IR t61 := by rw [e61]; exact z_ir _
                  refine g_ior X dX6_leastBitsOfSums_62 ?_
                  refine g_nm (fun t62 e62 => ?_)
                  have r62 : IR t62 := by rw [e62]; exact z_ir _
                  have hv : t62 = lbF v_row (x3_11).toNat (x4_22).toNat := by obtain ⟨m, m1, m2, _, _⟩ := ((lbF_p (n := p1.toNat) (fun j hj => hp2 j (by omega)) (x3_11 - 1).toNat (by omega) ((x4_22).toNat - (v_row (x3_11).toNat).toNat)).1).resolve_left (by omega); rw [show (x3_11 - 1).toNat + 1 = (x3_11).toNat by omega] at m2; have h9 := z_or_add (m := m) (i := x3_11) (by omega) m2; have h7 : t62 = (m : Int) + ((2 ^ (x3_11).toNat : Nat) : Int) := (by rw [e62, e61, show t37 = (m : Int) by omega]; exact h9); omega
                  refine g_iast X 1 0 rfl rfl (by omega) (by decide) dX6_leastBitsOfSums_63 (fun bits_63 e63 => ?_)
                  have r_bits_63 : RA (-2147483648) 2147483647 bits_63 := by rw [e63]; exact RA_up r_bits_22 (by omega)
                  refine g_ws (ws2 := ((wA cI 20 r_row v_row) ++ (wA cI 4096 r_bits bits_63))) rfl ?_
                  have hN : ∀ s : Nat, s < 4096 → (x4_22 - 1 < (s : Int) → bits_63 s = lbF v_row (x3_11).toNat s) ∧ ((s : Int) ≤ x4_22 - 1 → bits_63 s = lbF v_row (x3_11 - 1).toNat s) := by first | (intro s hs; rw [e63]; exact if hq : s = (x4_22).toNat then by (rw [hq, updZ_s]; exact ⟨fun _ => hv, fun h => absurd h (by omega)⟩) else by (rw [updZ_n _ _ hq]; exact ⟨fun h => (w22_1 s hs).1 (by omega), fun h => (w22_1 s hs).2 (by omega)⟩)) | (intro s hs; refine ⟨fun h => ?_, fun h => (w22_1 s hs).2 (by omega)⟩; rcases (show x4_22 < (s : Int) ∨ s = (x4_22).toNat by omega) with g | g; exact (w22_1 s hs).1 g; (rw [g]; have h8 := (w22_1 (x4_22).toNat (by omega)).2 (by omega); omega))
                  refine g_iinc X (lv' := [(4, vI (x4_22 + (-1))), (5, vI t37), (0, .ref r_row), (1, vI p1), (2, .ref r_bits), (3, vI x3_11)]) dX6_leastBitsOfSums_64 5 rfl (by decide) rfl ?_
                  refine g_goto X (tgt := 22) dX6_leastBitsOfSums_67 (by decide) ?_
                  refine g_lv [2, 3, 4, 5, 0] rfl ?_
                  exact ih22 (x4_22 + (-1)) bits_63 r_bits_63 (by first | assumption | omega) (by first | exact hN | (intro s hs; exact ⟨fun h => absurd h (by omega), fun _ => w11_1 s hs⟩)) (by omega)
        refine g_lv [1, 2, 3, 4, 0] rfl ?_
        exact L22 _ (4096 - 1) bits_11 r_bits_11 (by first | assumption | omega) (by first | exact hN | (intro s hs; exact ⟨fun h => absurd h (by omega), fun _ => w11_1 s hs⟩)) (Nat.lt_succ_self _)
  refine g_lv [1, 2, 3, 0] rfl ?_
  exact L11 _ 1 bits_8 r_bits_8 (by first | assumption | omega) (by first | (intro s hs; rw [e8, show (1 - 1 : Int).toNat = 0 from rfl]; exact if hq : s = (0 : Int).toNat then by (rw [hq, updZ_s]; rfl) else by (rw [updZ_n _ _ hq, kp0_2 s (by omega)]; exact (if_neg hq).symm)) | (intro s hs; rw [show (x3_11 + 1 - 1).toNat = (x3_11).toNat by omega]; rcases (show x4_22 < (s : Int) ∨ (s : Int) ≤ x4_22 by omega) with g | g; exact (w22_1 s hs).1 g; (rw [(w22_1 s hs).2 g]; have hS := lbF_s v_row (x3_11 - 1).toNat s; rw [show (x3_11 - 1).toNat + 1 = (x3_11).toNat by omega] at hS; rcases hS with ⟨⟨_, g2, _⟩, _⟩ | ⟨_, g3⟩; (exfalso; omega); exact g3.symm))) (Nat.lt_succ_self _)
set_option maxHeartbeats 600000 in
set_option maxRecDepth 100000 in
theorem c_X6_evenestSum (l : Launch) (D : va_G) (cI cB cJ : ClassId) (r_bits : Nat) {v_bits : Nat → Int} {p1 : Int} (r_v_bits : RA (-2147483648) 2147483647 v_bits) (hp0 : IR p1) (hp1 : 0 ≤ p1 ∧ p1 ≤ 5100) : CtI l yX6_evenestSum cX6_evenestSum 5 (some .int) ⟨1, 0, 0, 40⟩ D (TY cI cB cJ) (wA cI 4096 r_bits v_bits) [.ref r_bits, vI p1] (fun z ws' => (0 ≤ z ∧ z ≤ 4095) ∧ (z = ((esF v_bits p1 4095 : Nat) : Int)) ∧ (ws' = (wA cI 4096 r_bits v_bits))) := by
  refine hdrI (own := RX6) rfl (by decide +kernel) (Nat.le_of_ble_eq_true rfl) ?_
  intro p e s m args below meth c Q A X hQ
  refine g_lvE (lv2 := [(0, .ref r_bits), (1, vI p1)]) rfl ?_
  refine g_iconst X dX6_evenestSum_0 ?_
  refine g_istore_n X (lv' := [(2, vI 0), (0, .ref r_bits), (1, vI p1)]) dX6_evenestSum_1 (by decide) rfl ?_
  refine g_iconst X dX6_evenestSum_2 ?_
  refine g_istore_n X (lv' := [(3, vI 1), (2, vI 0), (0, .ref r_bits), (1, vI p1)]) dX6_evenestSum_3 (by decide) rfl ?_
  have L4 : ∀ (n : Nat) (x2_4 : Int) (x3_4 : Int), (1 ≤ x3_4 ∧ x3_4 ≤ 4096) → (0 ≤ x2_4 ∧ x2_4 ≤ 4095) → (x2_4 = (((esF v_bits p1 (x3_4 - 1).toNat) : Nat) : Int)) → (4096 - x3_4).toNat < n → GG p l e ⟨1, 0, 0, 40⟩ s m args below meth c 0 0 Q D A s.heap 5 (wA cI 4096 r_bits v_bits) 4 [(0, .ref r_bits), (1, vI p1), (2, vI x2_4), (3, vI x3_4)] [] := by
    intro n
    induction n with
    | zero => intros; exfalso; omega
    | succ n ih4 =>
      intro x2_4 x3_4 w4_0 w4_1 w4_2 wm4
      have hS := esF_s v_bits p1 (x3_4 - 1).toNat
      rw [show (x3_4 - 1).toNat + 1 = (x3_4).toNat by omega] at hS
      have hx2 : (esF v_bits p1 (x3_4 - 1).toNat) = (x2_4).toNat := by omega
      rw [hx2] at hS
      have hd1 := dzA_e (p1 - 2 * (((x3_4).toNat : Nat) : Int))
      have hd2 := dzA_e (p1 - 2 * (((x2_4).toNat : Nat) : Int))
      have hn : (x3_4 + 1 - 1).toNat = (x3_4).toNat := by congr 1; omega
      refine g_iload_n X dX6_evenestSum_4 3 rfl ?_
      refine g_aload_n X dX6_evenestSum_5 0 rfl ?_
      refine g_alen X 0 0 rfl rfl (z := 4096) rfl dX6_evenestSum_6 ?_
      refine g_icmp_ge X (tgt := 63) dX6_evenestSum_7 (by decide) (by omega) (by omega) (fun c7 => ?_) (fun c7 => ?_)
      · refine g_iload_n X dX6_evenestSum_63 2 rfl ?_
        have hx : (x3_4 - 1).toNat = 4095 := by omega
        rw [hx] at w4_2
        exact hQ _ _ _ _ dX6_evenestSum_64 ⟨(by first | assumption | omega), (by first | assumption | omega), rfl⟩
      · refine g_aload_n X dX6_evenestSum_10 0 rfl ?_
        refine g_iload_n X dX6_evenestSum_11 3 rfl ?_
        refine g_iald X 0 0 rfl rfl (by omega) (by decide) dX6_evenestSum_12 (fun t12 e12 => ?_)
        have r12 := r_v_bits (x3_4 : Int).toNat; rw [← e12] at r12
        refine g_iconst X dX6_evenestSum_13 ?_
        refine g_icmp_eq X (tgt := 57) dX6_evenestSum_14 (by decide) (by omega) (by omega) (fun c14 => ?_) (fun c14 => ?_)
        · refine g_iinc X (lv' := [(3, vI (x3_4 + 1)), (0, .ref r_bits), (1, vI p1), (2, vI x2_4)]) dX6_evenestSum_57 3 rfl (by decide) rfl ?_
          refine g_goto X (tgt := 4) dX6_evenestSum_60 (by decide) ?_
          refine g_lv [1, 2, 3, 0] rfl ?_
          exact ih4 x2_4 (x3_4 + 1) (by first | assumption | omega) (by first | assumption | omega) (by first | rfl | (rw [hn]; omega)) (by omega)
        · refine g_iload_n X dX6_evenestSum_17 1 rfl ?_
          refine g_iconst X dX6_evenestSum_18 ?_
          refine g_iload_n X dX6_evenestSum_19 2 rfl ?_
          refine g_imul X dX6_evenestSum_20 ?_
          refine g_isub X dX6_evenestSum_21 ?_
          refine g_mabs X uw915 uw916 uw111 uw917 ⟨by decide, Nat.le_of_ble_eq_true rfl⟩ ⟨Nat.zero_le _, Nat.zero_le _⟩ (by omega) dX6_evenestSum_22 (fun t22 r22 k22 m22 => ?_)
          refine g_iload_n X dX6_evenestSum_25 1 rfl ?_
          refine g_iconst X dX6_evenestSum_26 ?_
          refine g_iload_n X dX6_evenestSum_27 3 rfl ?_
          refine g_imul X dX6_evenestSum_28 ?_
          refine g_isub X dX6_evenestSum_29 ?_
          refine g_mabs X uw915 uw916 uw111 uw917 ⟨by decide, Nat.le_of_ble_eq_true rfl⟩ ⟨Nat.zero_le _, Nat.zero_le _⟩ (by omega) dX6_evenestSum_30 (fun t30 r30 k30 m30 => ?_)
          refine g_isub X dX6_evenestSum_33 ?_
          refine g_istore X (lv' := [(4, vI (t22 - t30)), (0, .ref r_bits), (1, vI p1), (2, vI x2_4), (3, vI x3_4)]) dX6_evenestSum_34 (by decide) rfl ?_
          refine g_iload X dX6_evenestSum_36 0 rfl ?_
          refine g_if_gt X (tgt := 55) dX6_evenestSum_38 (by decide) (by omega) (fun c38 => ?_) (fun c38 => ?_)
          · refine g_iload_n X dX6_evenestSum_55 4 rfl ?_
            refine g_istore_n X (lv' := [(2, vI x3_4), (4, vI (t22 - t30)), (0, .ref r_bits), (1, vI p1), (3, vI x3_4)]) dX6_evenestSum_56 (by decide) rfl ?_
            refine g_iinc X (lv' := [(3, vI (x3_4 + 1)), (2, vI x3_4), (4, vI (t22 - t30)), (0, .ref r_bits), (1, vI p1)]) dX6_evenestSum_57 4 rfl (by decide) rfl ?_
            refine g_goto X (tgt := 4) dX6_evenestSum_60 (by decide) ?_
            refine g_lv [3, 4, 1, 0] rfl ?_
            exact ih4 x3_4 (x3_4 + 1) (by first | assumption | omega) (by first | assumption | omega) (by first | rfl | (rw [hn]; omega)) (by omega)
          · refine g_iload X dX6_evenestSum_41 0 rfl ?_
            refine g_if_ne X (tgt := 57) dX6_evenestSum_43 (by decide) (by omega) (fun c43 => ?_) (fun c43 => ?_)
            · refine g_iinc X (lv' := [(3, vI (x3_4 + 1)), (4, vI (t22 - t30)), (0, .ref r_bits), (1, vI p1), (2, vI x2_4)]) dX6_evenestSum_57 4 rfl (by decide) rfl ?_
              refine g_goto X (tgt := 4) dX6_evenestSum_60 (by decide) ?_
              refine g_lv [2, 3, 4, 0] rfl ?_
              exact ih4 x2_4 (x3_4 + 1) (by first | assumption | omega) (by first | assumption | omega) (by first | rfl | (rw [hn]; omega)) (by omega)
            · refine g_aload_n X dX6_evenestSum_46 1 rfl ?_
              refine g_iload_n X dX6_evenestSum_47 4 rfl ?_
              refine g_iald X 0 0 rfl rfl (by omega) (by decide) dX6_evenestSum_48 (fun t48 e48 => ?_)
              have r48 := r_v_bits (x3_4 : Int).toNat; rw [← e48] at r48
              refine g_aload_n X dX6_evenestSum_49 1 rfl ?_
              refine g_iload_n X dX6_evenestSum_50 3 rfl ?_
              refine g_iald X 0 0 rfl rfl (by omega) (by decide) dX6_evenestSum_51 (fun t51 e51 => ?_)
              have r51 := r_v_bits (x2_4 : Int).toNat; rw [← e51] at r51
              refine g_icmp_ge X (tgt := 57) dX6_evenestSum_52 (by decide) (by omega) (by omega) (fun c52 => ?_) (fun c52 => ?_)
              · refine g_iinc X (lv' := [(3, vI (x3_4 + 1)), (4, vI (t22 - t30)), (0, .ref r_bits), (1, vI p1), (2, vI x2_4)]) dX6_evenestSum_57 4 rfl (by decide) rfl ?_
                refine g_goto X (tgt := 4) dX6_evenestSum_60 (by decide) ?_
                refine g_lv [2, 3, 4, 0] rfl ?_
                exact ih4 x2_4 (x3_4 + 1) (by first | assumption | omega) (by first | assumption | omega) (by first | rfl | (rw [hn]; omega)) (by omega)
              · refine g_iload_n X dX6_evenestSum_55 4 rfl ?_
                refine g_istore_n X (lv' := [(2, vI x3_4), (4, vI (t22 - t30)), (0, .ref r_bits), (1, vI p1), (3, vI x3_4)]) dX6_evenestSum_56 (by decide) rfl ?_
                refine g_iinc X (lv' := [(3, vI (x3_4 + 1)), (2, vI x3_4), (4, vI (t22 - t30)), (0, .ref r_bits), (1, vI p1)]) dX6_evenestSum_57 4 rfl (by decide) rfl ?_
                refine g_goto X (tgt := 4) dX6_evenestSum_60 (by decide) ?_
                refine g_lv [3, 4, 1, 0] rfl ?_
                exact ih4 x3_4 (x3_4 + 1) (by first | assumption | omega) (by first | assumption | omega) (by first | rfl | (rw [hn]; omega)) (by omega)
  refine g_lv [2, 3, 1, 0] rfl ?_
  exact L4 _ 0 1 (by first | assumption | omega) (by first | assumption | omega) (by first | rfl | (rw [hn]; omega)) (Nat.lt_succ_self _)
set_option maxHeartbeats 600000 in
set_option maxRecDepth 100000 in
theorem c_X6_steadyBy (l : Launch) (D : va_G) (cI cB cJ : ClassId) (r_row : Nat) {v_row : Nat → Int} {p1 p2 p3 : Int} (r_v_row : RA (-2147483648) 2147483647 v_row) (hp0 : IR p1) (hp1 : IR p2) (hp2 : IR p3) (hp3 : 0 ≤ p1 ∧ p1 ≤ 20) (hp4 : ∀ j : Nat, (j : Int) < p1 → 0 ≤ v_row j ∧ v_row j ≤ 255) (hp5 : 0 ≤ p2 ∧ p2 < p3) (hp6 : p3 < p1) : CtI l yX6_steadyBy cX6_steadyBy 8 (some .int) ⟨0, 0, 0, 0⟩ D (TY cI cB cJ) (wA cI 20 r_row v_row) [.ref r_row, vI p1, vI p2, vI p3] (fun z ws' => (2 ≤ z ∧ z ≤ 40) ∧ (z = gsG v_row p1.toNat p2.toNat p3.toNat) ∧ (ws' = (wA cI 20 r_row v_row))) := by
  refine hdrI (own := RX6) rfl (by decide +kernel) (Nat.le_of_ble_eq_true rfl) ?_
  intro p e s m args below meth c Q A X hQ
  refine g_lvE (lv2 := [(0, .ref r_row), (1, vI p1), (2, vI p2), (3, vI p3)]) rfl ?_
  refine g_aload_n X dX6_steadyBy_0 0 rfl ?_
  refine g_iload_n X dX6_steadyBy_1 3 rfl ?_
  refine g_iald X 0 0 rfl rfl (by omega) (by decide) dX6_steadyBy_2 (fun t2 e2 => ?_)
  have r2 := r_v_row (p3 : Int).toNat; rw [← e2] at r2
  have b2 := hp4 (p3).toNat (by omega)
  refine g_aload_n X dX6_steadyBy_3 0 rfl ?_
  refine g_iload_n X dX6_steadyBy_4 2 rfl ?_
  refine g_iald X 0 0 rfl rfl (by omega) (by decide) dX6_steadyBy_5 (fun t5 e5 => ?_)
  have r5 := r_v_row (p2 : Int).toNat; rw [← e5] at r5
  have b5 := hp4 (p2).toNat (by omega)
  refine g_isub X dX6_steadyBy_6 ?_
  refine g_istore X (lv' := [(4, vI (t2 - t5)), (0, .ref r_row), (1, vI p1), (2, vI p2), (3, vI p3)]) dX6_steadyBy_7 (by decide) rfl ?_
  refine g_iconst X dX6_steadyBy_9 ?_
  refine g_istore X (lv' := [(5, vI 2), (4, vI (t2 - t5)), (0, .ref r_row), (1, vI p1), (2, vI p2), (3, vI p3)]) dX6_steadyBy_10 (by decide) rfl ?_
  refine g_aload_n X dX6_steadyBy_12 2 rfl ?_
  refine g_iload_n X dX6_steadyBy_13 5 rfl ?_
  refine g_iald X 0 0 rfl rfl (by omega) (by decide) dX6_steadyBy_14 (fun t14 e14 => ?_)
  have r14 := r_v_row (p3 : Int).toNat; rw [← e14] at r14
  have b14 := hp4 (p3).toNat (by omega)
  refine g_istore X (lv' := [(6, vI t14), (5, vI 2), (4, vI (t2 - t5)), (0, .ref r_row), (1, vI p1), (2, vI p2), (3, vI p3)]) dX6_steadyBy_15 (by decide) rfl ?_
  refine g_iload_n X dX6_steadyBy_17 6 rfl ?_
  refine g_iconst X dX6_steadyBy_18 ?_
  refine g_iadd X dX6_steadyBy_19 ?_
  refine g_istore X (lv' := [(7, vI (p3 + 1)), (6, vI t14), (5, vI 2), (4, vI (t2 - t5)), (0, .ref r_row), (1, vI p1), (2, vI p2), (3, vI p3)]) dX6_steadyBy_20 (by decide) rfl ?_
  have h0 : (p3 + 1 - p3 - 1).toNat = 0 := by omega
  have L22 : ∀ (n : Nat) (x5_22 : Int) (x6_22 : Int) (x7_22 : Int), (p3 + 1 ≤ x7_22 ∧ x7_22 ≤ p1) → (2 ≤ x5_22 ∧ x5_22 ≤ 2 + x7_22) → (0 ≤ x6_22 ∧ x6_22 ≤ 255) → (x5_22 = ((((gsP v_row (v_row p3.toNat - v_row p2.toNat) p3.toNat (x7_22 - p3 - 1).toNat)).1 : Nat) : Int)) → (x6_22 = ((gsP v_row (v_row p3.toNat - v_row p2.toNat) p3.toNat (x7_22 - p3 - 1).toNat)).2) → (p1 - x7_22).toNat < n → GG p l e ⟨0, 0, 0, 0⟩ s m args below meth c 0 0 Q D A s.heap 8 (wA cI 20 r_row v_row) 22 [(0, .ref r_row), (1, vI p1), (4, vI (t2 - t5)), (5, vI x5_22), (6, vI x6_22), (7, vI x7_22)] [] := by
    intro n
    induction n with
    | zero => intros; exfalso; omega
    | succ n ih22 =>
      intro x5_22 x6_22 x7_22 w22_0 w22_1 w22_2 w22_3 w22_4 wm22
      have hS := gsP_s v_row (v_row p3.toNat - v_row p2.toNat) p3.toNat (x7_22 - p3 - 1).toNat
      rw [show p3.toNat + 1 + (x7_22 - p3 - 1).toNat = (x7_22).toNat by omega] at hS
      have hn : (x7_22 + 1 - p3 - 1).toNat = (x7_22 - p3 - 1).toNat + 1 := by omega
      refine g_iload X dX6_steadyBy_22 5 rfl ?_
      refine g_iload_n X dX6_steadyBy_24 1 rfl ?_
      refine g_icmp_ge X (tgt := 55) dX6_steadyBy_25 (by decide) (by omega) (by omega) (fun c25 => ?_) (fun c25 => ?_)
      · refine g_iload X dX6_steadyBy_55 3 rfl ?_
        have hx : (x7_22 - p3 - 1).toNat = p1.toNat - 1 - p3.toNat := by omega
        have hF : gsG v_row p1.toNat p2.toNat p3.toNat = x5_22 := by unfold gsG; rw [← hx]; omega
        exact hQ _ _ _ _ dX6_steadyBy_57 ⟨(by first | assumption | omega), (by first | assumption | omega), rfl⟩
      · refine g_aload_n X dX6_steadyBy_28 0 rfl ?_
        refine g_iload X dX6_steadyBy_29 5 rfl ?_
        refine g_iald X 0 0 rfl rfl (by omega) (by decide) dX6_steadyBy_31 (fun t31 e31 => ?_)
        have r31 := r_v_row (x7_22 : Int).toNat; rw [← e31] at r31
        have b31 := hp4 (x7_22).toNat (by omega)
        refine g_iload X dX6_steadyBy_32 4 rfl ?_
        refine g_isub X dX6_steadyBy_34 ?_
        refine g_iload X dX6_steadyBy_35 2 rfl ?_
        refine g_icmp_ne X (tgt := 49) dX6_steadyBy_37 (by decide) (by omega) (by omega) (fun c37 => ?_) (fun c37 => ?_)
        · refine g_iinc X (lv' := [(7, vI (x7_22 + 1)), (0, .ref r_row), (1, vI p1), (4, vI (t2 - t5)), (5, vI x5_22), (6, vI x6_22)]) dX6_steadyBy_49 5 rfl (by decide) rfl ?_
          refine g_goto X (tgt := 22) dX6_steadyBy_52 (by decide) ?_
          refine g_lv [1, 2, 3, 4, 5, 0] rfl ?_
          exact ih22 x5_22 x6_22 (x7_22 + 1) (by first | assumption | omega) (by first | assumption | omega) (by first | assumption | omega) (by first | (rw [h0]; rfl) | (rw [hn]; omega)) (by first | (rw [h0]; exact e14) | (rw [hn]; omega)) (by omega)
        · refine g_iinc X (lv' := [(5, vI (x5_22 + 1)), (0, .ref r_row), (1, vI p1), (4, vI (t2 - t5)), (6, vI x6_22), (7, vI x7_22)]) dX6_steadyBy_40 3 rfl (by decide) rfl ?_
          refine g_aload_n X dX6_steadyBy_43 1 rfl ?_
          refine g_iload X dX6_steadyBy_44 5 rfl ?_
          refine g_iald X 0 0 rfl rfl (by omega) (by decide) dX6_steadyBy_46 (fun t46 e46 => ?_)
          have r46 := r_v_row (x7_22 : Int).toNat; rw [← e46] at r46
          have b46 := hp4 (x7_22).toNat (by omega)
          refine g_istore X (lv' := [(6, vI t46), (5, vI (x5_22 + 1)), (0, .ref r_row), (1, vI p1), (4, vI (t2 - t5)), (7, vI x7_22)]) dX6_steadyBy_47 (by decide) rfl ?_
          refine g_iinc X (lv' := [(7, vI (x7_22 + 1)), (6, vI t46), (5, vI (x5_22 + 1)), (0, .ref r_row), (1, vI p1), (4, vI (t2 - t5))]) dX6_steadyBy_49 5 rfl (by decide) rfl ?_
          refine g_goto X (tgt := 22) dX6_steadyBy_52 (by decide) ?_
          refine g_lv [3, 4, 5, 2, 1, 0] rfl ?_
          exact ih22 (x5_22 + 1) t46 (x7_22 + 1) (by first | assumption | omega) (by first | assumption | omega) (by first | assumption | omega) (by first | (rw [h0]; rfl) | (rw [hn]; omega)) (by first | (rw [h0]; exact e14) | (rw [hn]; omega)) (by omega)
  refine g_lv [4, 5, 3, 2, 1, 0] rfl ?_
  exact L22 _ 2 t14 (p3 + 1) (by first | assumption | omega) (by first | assumption | omega) (by first | assumption | omega) (by first | (rw [h0]; rfl) | (rw [hn]; omega)) (by first | (rw [h0]; exact e14) | (rw [hn]; omega)) (Nat.lt_succ_self _)
set_option maxHeartbeats 600000 in
set_option maxRecDepth 100000 in
theorem c_X6_longestSteady (l : Launch) (D : va_G) (cI cB cJ : ClassId) (r_row : Nat) {v_row : Nat → Int} {p1 : Int} (r_v_row : RA (-2147483648) 2147483647 v_row) (hp0 : IR p1) (hp1 : 1 ≤ p1 ∧ p1 ≤ 20) (hp2 : ∀ j : Nat, (j : Int) < p1 → 0 ≤ v_row j ∧ v_row j ≤ 255) : CtI l yX6_longestSteady cX6_longestSteady 5 (some .int) ⟨1, 0, 0, 40⟩ D (TY cI cB cJ) (wA cI 20 r_row v_row) [.ref r_row, vI p1] (fun z ws' => (1 ≤ z ∧ z ≤ 40) ∧ (z = lsO v_row p1.toNat p1.toNat) ∧ (ws' = (wA cI 20 r_row v_row))) := by
  refine hdrI (own := RX6) rfl (by decide +kernel) (Nat.le_of_ble_eq_true rfl) ?_
  intro p e s m args below meth c Q A X hQ
  refine g_lvE (lv2 := [(0, .ref r_row), (1, vI p1)]) rfl ?_
  refine g_iconst X dX6_longestSteady_0 ?_
  refine g_istore_n X (lv' := [(2, vI 1), (0, .ref r_row), (1, vI p1)]) dX6_longestSteady_1 (by decide) rfl ?_
  refine g_iconst X dX6_longestSteady_2 ?_
  refine g_istore_n X (lv' := [(3, vI 0), (2, vI 1), (0, .ref r_row), (1, vI p1)]) dX6_longestSteady_3 (by decide) rfl ?_
  have L4 : ∀ (n : Nat) (x2_4 : Int) (x3_4 : Int), (0 ≤ x3_4 ∧ x3_4 ≤ p1) → (1 ≤ x2_4 ∧ x2_4 ≤ 40) → (x2_4 = lsO v_row p1.toNat (x3_4).toNat) → (p1 - x3_4).toNat < n → GG p l e ⟨1, 0, 0, 40⟩ s m args below meth c 0 0 Q D A s.heap 5 (wA cI 20 r_row v_row) 4 [(0, .ref r_row), (1, vI p1), (2, vI x2_4), (3, vI x3_4)] [] := by
    intro n
    induction n with
    | zero => intros; exfalso; omega
    | succ n ih4 =>
      intro x2_4 x3_4 w4_0 w4_1 w4_2 wm4
      have hO := lsO_s v_row p1.toNat (x := x3_4) (by omega)
      refine g_iload_n X dX6_longestSteady_4 3 rfl ?_
      refine g_iload_n X dX6_longestSteady_5 1 rfl ?_
      refine g_icmp_ge X (tgt := 45) dX6_longestSteady_6 (by decide) (by omega) (by omega) (fun c6 => ?_) (fun c6 => ?_)
      · refine g_iload_n X dX6_longestSteady_45 2 rfl ?_
        have hx : x3_4 = p1 := by omega
        rw [hx] at w4_2
        exact hQ _ _ _ _ dX6_longestSteady_46 ⟨(by first | assumption | omega), (by first | assumption | omega), rfl⟩
      · refine g_iload_n X dX6_longestSteady_9 3 rfl ?_
        refine g_iconst X dX6_longestSteady_10 ?_
        refine g_iadd X dX6_longestSteady_11 ?_
        refine g_istore X (lv' := [(4, vI (x3_4 + 1)), (0, .ref r_row), (1, vI p1), (2, vI x2_4), (3, vI x3_4)]) dX6_longestSteady_12 (by decide) rfl ?_
        have h0 : (x3_4 + 1 - x3_4 - 1).toNat = 0 := by omega
        have L14 : ∀ (n : Nat) (x2_14 : Int) (x4_14 : Int), (x3_4 + 1 ≤ x4_14 ∧ x4_14 ≤ p1) → (1 ≤ x2_14 ∧ x2_14 ≤ 40) → (x2_14 = (lsI v_row p1.toNat (x3_4).toNat (lsO v_row p1.toNat (x3_4).toNat) (x4_14 - x3_4 - 1).toNat)) → (p1 - x4_14).toNat < n → GG p l e ⟨1, 0, 0, 40⟩ s m args below meth c 0 0 Q D A s.heap 5 (wA cI 20 r_row v_row) 14 [(0, .ref r_row), (1, vI p1), (2, vI x2_14), (3, vI x3_4), (4, vI x4_14)] [] := by
          intro n
          induction n with
          | zero => intros; exfalso; omega
          | succ n ih14 =>
            intro x2_14 x4_14 w14_0 w14_1 w14_2 wm14
            have hS := lsI_s v_row p1.toNat (x3_4).toNat (lsO v_row p1.toNat (x3_4).toNat) (x4_14 - x3_4 - 1).toNat
            rw [show (x3_4).toNat + 1 + (x4_14 - x3_4 - 1).toNat = (x4_14).toNat by omega] at hS
            have hM := mx_e (lsI v_row p1.toNat (x3_4).toNat (lsO v_row p1.toNat (x3_4).toNat) (x4_14 - x3_4 - 1).toNat) (gsG v_row p1.toNat (x3_4).toNat (x4_14).toNat)
            have hn : (x4_14 + 1 - x3_4 - 1).toNat = (x4_14 - x3_4 - 1).toNat + 1 := by omega
            refine g_iload X dX6_longestSteady_14 4 rfl ?_
            refine g_iload_n X dX6_longestSteady_16 1 rfl ?_
            refine g_icmp_ge X (tgt := 39) dX6_longestSteady_17 (by decide) (by omega) (by omega) (fun c17 => ?_) (fun c17 => ?_)
            · refine g_iinc X (lv' := [(3, vI (x3_4 + 1)), (0, .ref r_row), (1, vI p1), (2, vI x2_14), (4, vI x4_14)]) dX6_longestSteady_39 3 rfl (by decide) rfl ?_
              refine g_goto X (tgt := 4) dX6_longestSteady_42 (by decide) ?_
              have hx : (x4_14 - x3_4 - 1).toNat = p1.toNat - 1 - (x3_4).toNat := by omega
              rw [hx] at w14_2
              refine g_lv [1, 2, 3, 0] rfl ?_
              exact ih4 x2_14 (x3_4 + 1) (by first | assumption | omega) (by first | assumption | omega) (by first | rfl | omega) (by omega)
            · refine g_iload_n X dX6_longestSteady_20 2 rfl ?_
              refine g_aload_n X dX6_longestSteady_21 0 rfl ?_
              refine g_iload_n X dX6_longestSteady_22 1 rfl ?_
              refine g_iload_n X dX6_longestSteady_23 3 rfl ?_
              refine g_iload X dX6_longestSteady_24 4 rfl ?_
              refine g_callSI0 X (c_X6_steadyBy l D cI cB cJ r_row (p1 := p1) (p2 := x3_4) (p3 := x4_14) r_v_row (by first | assumption | omega) (by first | assumption | omega) (by first | assumption | omega) (by first | assumption | omega) (by first | assumption | omega) (by first | assumption | omega) (by first | assumption | omega)) cv_X6_steadyBy uw999 ⟨rfl, rfl, by decide, by decide⟩ rfl rfl (Nat.le_of_ble_eq_true rfl) ⟨Nat.zero_le _, Nat.zero_le _⟩ dX6_longestSteady_26 (fun t26 ws26 k26 => ?_)
              obtain ⟨kp0_26, kp1_26, rfl⟩ := k26
              refine g_mmax X uw900 uw807 uw111 uw808 ⟨by decide, Nat.le_of_ble_eq_true rfl⟩ ⟨Nat.zero_le _, Nat.zero_le _⟩ (by omega) (by omega) dX6_longestSteady_29 (fun t29 k29 => ?_)
              refine g_istore_n X (lv' := [(2, vI t29), (0, .ref r_row), (1, vI p1), (3, vI x3_4), (4, vI x4_14)]) dX6_longestSteady_32 (by decide) rfl ?_
              refine g_iinc X (lv' := [(4, vI (x4_14 + 1)), (2, vI t29), (0, .ref r_row), (1, vI p1), (3, vI x3_4)]) dX6_longestSteady_33 4 rfl (by decide) rfl ?_
              refine g_goto X (tgt := 14) dX6_longestSteady_36 (by decide) ?_
              refine g_lv [2, 3, 1, 4, 0] rfl ?_
              exact ih14 t29 (x4_14 + 1) (by first | assumption | omega) (by first | assumption | omega) (by first | (rw [h0]; exact w4_2) | (rw [hn, hS]; omega)) (by omega)
        refine g_lv [1, 2, 3, 4, 0] rfl ?_
        exact L14 _ x2_4 (x3_4 + 1) (by first | assumption | omega) (by first | assumption | omega) (by first | (rw [h0]; exact w4_2) | (rw [hn, hS]; omega)) (Nat.lt_succ_self _)
  refine g_lv [2, 3, 1, 0] rfl ?_
  exact L4 _ 1 0 (by first | assumption | omega) (by first | assumption | omega) (by first | rfl | omega) (Nat.lt_succ_self _)
set_option maxHeartbeats 600000 in
set_option maxRecDepth 100000 in
theorem c_X6_longestUnsteady (l : Launch) (D : va_G) (cI cB cJ : ClassId) (r_row : Nat) {v_row : Nat → Int} {p1 : Int} (r_v_row : RA (-2147483648) 2147483647 v_row) (hp0 : IR p1) (hp1 : 1 ≤ p1 ∧ p1 ≤ 20) (hp2 : ∀ j : Nat, (j : Int) < p1 → 0 ≤ v_row j ∧ v_row j ≤ 255) : CtI l yX6_longestUnsteady cX6_longestUnsteady 5 (some .int) ⟨1, 0, 0, 40⟩ D (TY cI cB cJ) (wA cI 20 r_row v_row) [.ref r_row, vI p1] (fun z ws' => (1 ≤ z ∧ z ≤ 20) ∧ (z = unF v_row p1.toNat) ∧ (ws' = (wA cI 20 r_row v_row))) := by
  refine hdrI (own := RX6) rfl (by decide +kernel) (Nat.le_of_ble_eq_true rfl) ?_
  intro p e s m args below meth c Q A X hQ
  refine g_lvE (lv2 := [(0, .ref r_row), (1, vI p1)]) rfl ?_
  refine g_iconst X dX6_longestUnsteady_0 ?_
  refine g_istore_n X (lv' := [(2, vI 1), (0, .ref r_row), (1, vI p1)]) dX6_longestUnsteady_1 (by decide) rfl ?_
  refine g_iconst X dX6_longestUnsteady_2 ?_
  refine g_istore_n X (lv' := [(3, vI 1), (2, vI 1), (0, .ref r_row), (1, vI p1)]) dX6_longestUnsteady_3 (by decide) rfl ?_
  refine g_iconst X dX6_longestUnsteady_4 ?_
  refine g_istore X (lv' := [(4, vI 1), (3, vI 1), (2, vI 1), (0, .ref r_row), (1, vI p1)]) dX6_longestUnsteady_5 (by decide) rfl ?_
  have L7 : ∀ (n : Nat) (x2_7 : Int) (x3_7 : Int) (x4_7 : Int), (1 ≤ x4_7 ∧ x4_7 ≤ p1) → (1 ≤ x2_7 ∧ x2_7 ≤ x4_7) → (1 ≤ x3_7 ∧ x3_7 ≤ x4_7) → (x2_7 = (unP v_row (x4_7 - 1).toNat).1) → (x3_7 = (unP v_row (x4_7 - 1).toNat).2) → (p1 - x4_7).toNat < n → GG p l e ⟨1, 0, 0, 40⟩ s m args below meth c 0 0 Q D A s.heap 5 (wA cI 20 r_row v_row) 7 [(0, .ref r_row), (1, vI p1), (2, vI x2_7), (3, vI x3_7), (4, vI x4_7)] [] := by
    intro n
    induction n with
    | zero => intros; exfalso; omega
    | succ n ih7 =>
      intro x2_7 x3_7 x4_7 w7_0 w7_1 w7_2 w7_3 w7_4 wm7
      have hS := unP_s v_row (x4_7 - 1).toNat
      rw [show (x4_7 - 1).toNat + 1 = (x4_7).toNat by omega] at hS
      have hn : (x4_7 + 1 - 1).toNat = (x4_7).toNat := by congr 1; omega
      refine g_iload X dX6_longestUnsteady_7 4 rfl ?_
      refine g_iload_n X dX6_longestUnsteady_9 1 rfl ?_
      refine g_icmp_ge X (tgt := 56) dX6_longestUnsteady_10 (by decide) (by omega) (by omega) (fun c10 => ?_) (fun c10 => ?_)
      · refine g_iload_n X dX6_longestUnsteady_56 2 rfl ?_
        refine g_iload_n X dX6_longestUnsteady_57 3 rfl ?_
        refine g_mmax X uw900 uw807 uw111 uw808 ⟨by decide, Nat.le_of_ble_eq_true rfl⟩ ⟨Nat.zero_le _, Nat.zero_le _⟩ (by omega) (by omega) dX6_longestUnsteady_58 (fun t58 k58 => ?_)
        have hx : (x4_7 - 1).toNat = p1.toNat - 1 := by omega
        rw [hx] at w7_3 w7_4
        have hM := mx_e (unP v_row (p1.toNat - 1)).1 (unP v_row (p1.toNat - 1)).2
        have hF : unF v_row p1.toNat = mx (unP v_row (p1.toNat - 1)).1 (unP v_row (p1.toNat - 1)).2 := rfl
        exact hQ _ _ _ _ dX6_longestUnsteady_61 ⟨(by first | assumption | omega), (by first | assumption | omega), rfl⟩
      · refine g_aload_n X dX6_longestUnsteady_13 0 rfl ?_
        refine g_iload X dX6_longestUnsteady_14 4 rfl ?_
        refine g_iald X 0 0 rfl rfl (by omega) (by decide) dX6_longestUnsteady_16 (fun t16 e16 => ?_)
        have r16 := r_v_row (x4_7 : Int).toNat; rw [← e16] at r16
        have b16 := hp2 (x4_7).toNat (by omega)
        refine g_aload_n X dX6_longestUnsteady_17 0 rfl ?_
        refine g_iload X dX6_longestUnsteady_18 4 rfl ?_
        refine g_iconst X dX6_longestUnsteady_20 ?_
        refine g_isub X dX6_longestUnsteady_21 ?_
        refine g_iald X 0 0 rfl rfl (by omega) (by decide) dX6_longestUnsteady_22 (fun t22 e22 => ?_)
        have r22 := r_v_row (x4_7 - 1 : Int).toNat; rw [← e22] at r22
        have b22 := hp2 ((x4_7 - 1)).toNat (by omega)
        refine g_icmp_le X (tgt := 33) dX6_longestUnsteady_23 (by decide) (by omega) (by omega) (fun c23 => ?_) (fun c23 => ?_)
        · refine g_aload_n X dX6_longestUnsteady_33 0 rfl ?_
          refine g_iload X dX6_longestUnsteady_34 4 rfl ?_
          refine g_iald X 0 0 rfl rfl (by omega) (by decide) dX6_longestUnsteady_36 (fun t36 e36 => ?_)
          have r36 := r_v_row (x4_7 : Int).toNat; rw [← e36] at r36
          have b36 := hp2 (x4_7).toNat (by omega)
          refine g_aload_n X dX6_longestUnsteady_37 0 rfl ?_
          refine g_iload X dX6_longestUnsteady_38 4 rfl ?_
          refine g_iconst X dX6_longestUnsteady_40 ?_
          refine g_isub X dX6_longestUnsteady_41 ?_
          refine g_iald X 0 0 rfl rfl (by omega) (by decide) dX6_longestUnsteady_42 (fun t42 e42 => ?_)
          have r42 := r_v_row (x4_7 - 1 : Int).toNat; rw [← e42] at r42
          have b42 := hp2 ((x4_7 - 1)).toNat (by omega)
          refine g_icmp_ge X (tgt := 50) dX6_longestUnsteady_43 (by decide) (by omega) (by omega) (fun c43 => ?_) (fun c43 => ?_)
          · refine g_iinc X (lv' := [(4, vI (x4_7 + 1)), (0, .ref r_row), (1, vI p1), (2, vI x2_7), (3, vI x3_7)]) dX6_longestUnsteady_50 4 rfl (by decide) rfl ?_
            refine g_goto X (tgt := 7) dX6_longestUnsteady_53 (by decide) ?_
            refine g_lv [1, 2, 3, 4, 0] rfl ?_
            exact ih7 x2_7 x3_7 (x4_7 + 1) (by first | assumption | omega) (by first | assumption | omega) (by first | assumption | omega) (by first | rfl | (rw [hn]; omega)) (by first | rfl | (rw [hn]; omega)) (by omega)
          · refine g_iload_n X dX6_longestUnsteady_46 2 rfl ?_
            refine g_iconst X dX6_longestUnsteady_47 ?_
            refine g_iadd X dX6_longestUnsteady_48 ?_
            refine g_istore_n X (lv' := [(3, vI (x2_7 + 1)), (0, .ref r_row), (1, vI p1), (2, vI x2_7), (4, vI x4_7)]) dX6_longestUnsteady_49 (by decide) rfl ?_
            refine g_iinc X (lv' := [(4, vI (x4_7 + 1)), (3, vI (x2_7 + 1)), (0, .ref r_row), (1, vI p1), (2, vI x2_7)]) dX6_longestUnsteady_50 4 rfl (by decide) rfl ?_
            refine g_goto X (tgt := 7) dX6_longestUnsteady_53 (by decide) ?_
            refine g_lv [2, 3, 4, 1, 0] rfl ?_
            exact ih7 x2_7 (x2_7 + 1) (x4_7 + 1) (by first | assumption | omega) (by first | assumption | omega) (by first | assumption | omega) (by first | rfl | (rw [hn]; omega)) (by first | rfl | (rw [hn]; omega)) (by omega)
        · refine g_iload_n X dX6_longestUnsteady_26 3 rfl ?_
          refine g_iconst X dX6_longestUnsteady_27 ?_
          refine g_iadd X dX6_longestUnsteady_28 ?_
          refine g_istore_n X (lv' := [(2, vI (x3_7 + 1)), (0, .ref r_row), (1, vI p1), (3, vI x3_7), (4, vI x4_7)]) dX6_longestUnsteady_29 (by decide) rfl ?_
          refine g_goto X (tgt := 50) dX6_longestUnsteady_30 (by decide) ?_
          refine g_iinc X (lv' := [(4, vI (x4_7 + 1)), (2, vI (x3_7 + 1)), (0, .ref r_row), (1, vI p1), (3, vI x3_7)]) dX6_longestUnsteady_50 4 rfl (by decide) rfl ?_
          refine g_goto X (tgt := 7) dX6_longestUnsteady_53 (by decide) ?_
          refine g_lv [2, 3, 1, 4, 0] rfl ?_
          exact ih7 (x3_7 + 1) x3_7 (x4_7 + 1) (by first | assumption | omega) (by first | assumption | omega) (by first | assumption | omega) (by first | rfl | (rw [hn]; omega)) (by first | rfl | (rw [hn]; omega)) (by omega)
  refine g_lv [3, 4, 2, 1, 0] rfl ?_
  exact L7 _ 1 1 1 (by first | assumption | omega) (by first | assumption | omega) (by first | assumption | omega) (by first | rfl | (rw [hn]; omega)) (by first | rfl | (rw [hn]; omega)) (Nat.lt_succ_self _)
set_option maxHeartbeats 600000 in
set_option maxRecDepth 100000 in
theorem c_X6_commonMeasure (l : Launch) (D : va_G) (cI cB cJ : ClassId) {p0 p1 : Int} (hp0 : IR p0) (hp1 : IR p1) (hp2 : 0 ≤ p0 ∧ p0 ≤ 255) (hp3 : 0 ≤ p1 ∧ p1 ≤ 255) : CtI l yX6_commonMeasure cX6_commonMeasure 6 (some .int) ⟨0, 0, 0, 0⟩ D (TY cI cB cJ) [] [vI p0, vI p1] (fun z ws' => (IR z) ∧ (z = gcdZ p0 p1) ∧ (ws' = [])) := by
  refine hdrI (own := RX6) rfl (by decide +kernel) (Nat.le_of_ble_eq_true rfl) ?_
  intro p e s m args below meth c Q A X hQ
  refine g_lvE (lv2 := [(0, vI p0), (1, vI p1)]) rfl ?_
  refine g_iload_n X dX6_commonMeasure_0 0 rfl ?_
  refine g_istore_n X (lv' := [(2, vI p0), (0, vI p0), (1, vI p1)]) dX6_commonMeasure_1 (by decide) rfl ?_
  refine g_iload_n X dX6_commonMeasure_2 2 rfl ?_
  refine g_istore_n X (lv' := [(3, vI p1), (2, vI p0), (0, vI p0), (1, vI p1)]) dX6_commonMeasure_3 (by decide) rfl ?_
  refine g_iconst X dX6_commonMeasure_4 ?_
  refine g_istore X (lv' := [(4, vI 0), (3, vI p1), (2, vI p0), (0, vI p0), (1, vI p1)]) dX6_commonMeasure_5 (by decide) rfl ?_
  have L7 : ∀ (n : Nat) (x2_7 : Int) (x3_7 : Int) (x4_7 : Int), (0 ≤ x2_7 ∧ x2_7 ≤ 255) → (0 ≤ x3_7 ∧ x3_7 ≤ 255) → (0 ≤ x4_7 ∧ x4_7 + x3_7 ≤ 255) → (gcdZ x2_7 x3_7 = gcdZ p0 p1) → (1000000 - x4_7).toNat < n → GG p l e ⟨0, 0, 0, 0⟩ s m args below meth c 0 0 Q D A s.heap 6 [] 7 [(2, vI x2_7), (3, vI x3_7), (4, vI x4_7)] [] := by
    intro n
    induction n with
    | zero => intros; exfalso; omega
    | succ n ih7 =>
      intro x2_7 x3_7 x4_7 w7_0 w7_1 w7_2 w7_3 wm7
      have hS : 0 < x3_7 → gcdZ x3_7 (x2_7 % x3_7) = gcdZ x2_7 x3_7 := fun h => gcdZ_s (by omega) h
      have h0 : x3_7 = 0 → gcdZ x2_7 x3_7 = x2_7 := fun h => by rw [h]; exact gcdZ_0 (by omega)
      refine g_iload X dX6_commonMeasure_7 2 rfl ?_
      refine g_ldc X (z := 1000000) dX6_commonMeasure_9 uw918 (by decide) ?_
      refine g_icmp_ge X (tgt := 34) dX6_commonMeasure_11 (by decide) (by omega) (by omega) (fun c11 => ?_) (fun c11 => ?_)
      · refine g_iload_n X dX6_commonMeasure_34 0 rfl ?_
        exact hQ _ _ _ _ dX6_commonMeasure_35 ⟨(by first | assumption | omega), (by first | assumption | omega), rfl⟩
      · refine g_iload_n X dX6_commonMeasure_14 1 rfl ?_
        refine g_if_eq X (tgt := 34) dX6_commonMeasure_15 (by decide) (by omega) (fun c15 => ?_) (fun c15 => ?_)
        · refine g_iload_n X dX6_commonMeasure_34 0 rfl ?_
          exact hQ _ _ _ _ dX6_commonMeasure_35 ⟨(by first | assumption | omega), (by first | assumption | omega), rfl⟩
        · refine g_iload_n X dX6_commonMeasure_18 0 rfl ?_
          refine g_iload_n X dX6_commonMeasure_19 1 rfl ?_
          refine g_irem X dX6_commonMeasure_20 (by omega) (by omega) ?_
          refine g_nm (fun t20 e20 => ?_)
          have r20 : 0 ≤ t20 ∧ ((0 : Int) < x3_7 → t20 < x3_7) := by rw [e20]; exact ⟨Int.emod_nonneg _ (by omega), fun h => Int.emod_lt_of_pos _ h⟩
          refine g_istore X (lv' := [(5, vI t20), (2, vI x2_7), (3, vI x3_7), (4, vI x4_7)]) dX6_commonMeasure_21 (by decide) rfl ?_
          refine g_iload_n X dX6_commonMeasure_23 2 rfl ?_
          refine g_istore_n X (lv' := [(2, vI x3_7), (5, vI t20), (3, vI x3_7), (4, vI x4_7)]) dX6_commonMeasure_24 (by decide) rfl ?_
          refine g_iload X dX6_commonMeasure_25 1 rfl ?_
          refine g_istore_n X (lv' := [(3, vI t20), (2, vI x3_7), (5, vI t20), (4, vI x4_7)]) dX6_commonMeasure_27 (by decide) rfl ?_
          refine g_iinc X (lv' := [(4, vI (x4_7 + 1)), (3, vI t20), (2, vI x3_7), (5, vI t20)]) dX6_commonMeasure_28 3 rfl (by decide) rfl ?_
          refine g_goto X (tgt := 7) dX6_commonMeasure_31 (by decide) ?_
          refine g_lv [2, 1, 0] rfl ?_
          exact ih7 x3_7 t20 (x4_7 + 1) (by first | assumption | omega) (by first | assumption | omega) (by first | assumption | omega) (by first | assumption | rfl | (rw [e20, hS (by omega)]; exact w7_3)) (by omega)
  refine g_lv [2, 1, 0] rfl ?_
  exact L7 _ p0 p1 0 (by first | assumption | omega) (by first | assumption | omega) (by first | assumption | omega) (by first | assumption | rfl | (rw [e20, hS (by omega)]; exact w7_3)) (Nat.lt_succ_self _)
set_option maxHeartbeats 600000 in
set_option maxRecDepth 100000 in
theorem c_X6_greatest (l : Launch) (D : va_G) (cI cB cJ : ClassId) (r_row : Nat) {v_row : Nat → Int} {p1 : Int} (r_v_row : RA (-2147483648) 2147483647 v_row) (hp0 : IR p1) (hp1 : 1 ≤ p1 ∧ p1 ≤ 20) (hp2 : ∀ j : Nat, (j : Int) < p1 → 0 ≤ v_row j ∧ v_row j ≤ 255) : CtI l yX6_greatest cX6_greatest 4 (some .int) ⟨1, 0, 0, 40⟩ D (TY cI cB cJ) (wA cI 20 r_row v_row) [.ref r_row, vI p1] (fun z ws' => (0 ≤ z ∧ z ≤ 255) ∧ (∀ j : Nat, (j : Int) < p1 → v_row j ≤ z) ∧ (z = cmM v_row p1.toNat) ∧ (∃ j : Nat, (j : Int) < p1 ∧ v_row j = z) ∧ (ws' = (wA cI 20 r_row v_row))) := by
  refine hdrI (own := RX6) rfl (by decide +kernel) (Nat.le_of_ble_eq_true rfl) ?_
  intro p e s m args below meth c Q A X hQ
  refine g_lvE (lv2 := [(0, .ref r_row), (1, vI p1)]) rfl ?_
  refine g_aload_n X dX6_greatest_0 0 rfl ?_
  refine g_iconst X dX6_greatest_1 ?_
  refine g_iald X 0 0 rfl rfl (by omega) (by decide) dX6_greatest_2 (fun t2 e2 => ?_)
  have r2 := r_v_row (0 : Int).toNat; rw [← e2] at r2
  have b2 := hp2 ((0 : Int)).toNat (by omega)
  refine g_istore_n X (lv' := [(2, vI t2), (0, .ref r_row), (1, vI p1)]) dX6_greatest_3 (by decide) rfl ?_
  refine g_iconst X dX6_greatest_4 ?_
  refine g_istore_n X (lv' := [(3, vI 1), (2, vI t2), (0, .ref r_row), (1, vI p1)]) dX6_greatest_5 (by decide) rfl ?_
  have L6 : ∀ (n : Nat) (x2_6 : Int) (x3_6 : Int), (1 ≤ x3_6 ∧ x3_6 ≤ p1) → (0 ≤ x2_6 ∧ x2_6 ≤ 255) → (∀ j : Nat, (j : Int) < x3_6 → v_row j ≤ x2_6) → (∃ j : Nat, (j : Int) < x3_6 ∧ v_row j = x2_6) → (x2_6 = cmM v_row (x3_6).toNat) → (p1 - x3_6).toNat < n → GG p l e ⟨1, 0, 0, 40⟩ s m args below meth c 0 0 Q D A s.heap 4 (wA cI 20 r_row v_row) 6 [(0, .ref r_row), (1, vI p1), (2, vI x2_6), (3, vI x3_6)] [] := by
    intro n
    induction n with
    | zero => intros; exfalso; omega
    | succ n ih6 =>
      intro x2_6 x3_6 w6_0 w6_1 w6_2 w6_3 w6_4 wm6
      have hM := cmM_s v_row (x := x3_6) (by omega)
      refine g_iload_n X dX6_greatest_6 3 rfl ?_
      refine g_iload_n X dX6_greatest_7 1 rfl ?_
      refine g_icmp_ge X (tgt := 25) dX6_greatest_8 (by decide) (by omega) (by omega) (fun c8 => ?_) (fun c8 => ?_)
      · refine g_iload_n X dX6_greatest_25 2 rfl ?_
        have hx : x3_6 = p1 := by omega
        rw [hx] at w6_4
        exact hQ _ _ _ _ dX6_greatest_26 ⟨(by first | assumption | omega), (by intro j hj; exact w6_2 j (by omega)), (by first | assumption | omega), (by obtain ⟨j, h1, h2⟩ := w6_3; exact ⟨j, by omega, h2⟩), rfl⟩
      · refine g_iload_n X dX6_greatest_11 2 rfl ?_
        refine g_aload_n X dX6_greatest_12 0 rfl ?_
        refine g_iload_n X dX6_greatest_13 3 rfl ?_
        refine g_iald X 0 0 rfl rfl (by omega) (by decide) dX6_greatest_14 (fun t14 e14 => ?_)
        have r14 := r_v_row (x3_6 : Int).toNat; rw [← e14] at r14
        have b14 := hp2 (x3_6).toNat (by omega)
        refine g_mmax X uw900 uw807 uw111 uw808 ⟨by decide, Nat.le_of_ble_eq_true rfl⟩ ⟨Nat.zero_le _, Nat.zero_le _⟩ (by omega) (by omega) dX6_greatest_15 (fun t15 k15 => ?_)
        refine g_istore_n X (lv' := [(2, vI t15), (0, .ref r_row), (1, vI p1), (3, vI x3_6)]) dX6_greatest_18 (by decide) rfl ?_
        refine g_iinc X (lv' := [(3, vI (x3_6 + 1)), (2, vI t15), (0, .ref r_row), (1, vI p1)]) dX6_greatest_19 3 rfl (by decide) rfl ?_
        refine g_goto X (tgt := 6) dX6_greatest_22 (by decide) ?_
        refine g_lv [2, 3, 1, 0] rfl ?_
        exact ih6 t15 (x3_6 + 1) (by first | assumption | omega) (by first | assumption | omega) (by intro j hj; first | (have hj0 : j = 0 := (by omega); subst hj0; rw [e2]; exact Int.le_refl (v_row 0)) | (rcases (show (j : Int) < x3_6 ∨ j = (x3_6).toNat by omega) with h | h; (have := w6_2 j h; omega); (rw [h, ← e14]; omega))) (by first | exact ⟨0, by omega, e2.symm⟩ | (rcases k15 with h | h; (obtain ⟨j, h1, h2⟩ := w6_3; exact ⟨j, by omega, by omega⟩); exact ⟨(x3_6).toNat, by omega, by omega⟩)) (by first | (rw [e2]; exact cmM_1 (hp2 0 (by omega)).1) | omega) (by omega)
  refine g_lv [2, 3, 1, 0] rfl ?_
  exact L6 _ t2 1 (by first | assumption | omega) (by first | assumption | omega) (by intro j hj; first | (have hj0 : j = 0 := (by omega); subst hj0; rw [e2]; exact Int.le_refl (v_row 0)) | (rcases (show (j : Int) < x3_6 ∨ j = (x3_6).toNat by omega) with h | h; (have := w6_2 j h; omega); (rw [h, ← e14]; omega))) (by first | exact ⟨0, by omega, e2.symm⟩ | (rcases k15 with h | h; (obtain ⟨j, h1, h2⟩ := w6_3; exact ⟨j, by omega, by omega⟩); exact ⟨(x3_6).toNat, by omega, by omega⟩)) (by first | (rw [e2]; exact cmM_1 (hp2 0 (by omega)).1) | omega) (Nat.lt_succ_self _)
set_option maxHeartbeats 600000 in
set_option maxRecDepth 100000 in
theorem c_X6_writtenOf (l : Launch) (D : va_G) (cI cB cJ : ClassId) (r_row : Nat) {v_row : Nat → Int} {p1 : Int} (r_v_row : RA (-2147483648) 2147483647 v_row) (hp0 : IR p1) (hp1 : 1 ≤ p1 ∧ p1 ≤ 20) (hp2 : ∀ j : Nat, (j : Int) < p1 → 1 ≤ v_row j ∧ v_row j ≤ 255) (hp3 : ∀ i j : Nat, (i : Int) < p1 → (j : Int) < p1 → v_row i = v_row j → i = j) : CtI l yX6_writtenOf cX6_writtenOf 4 (some .int) ⟨2, 0, 0, 63⟩ D (TY cI cB cJ) (wA cI 20 r_row v_row) [.ref r_row, vI p1] (fun z ws' => (0 ≤ z ∧ z ≤ 255) ∧ (z = cmM v_row p1.toNat / cmG v_row p1.toNat - p1) ∧ (ws' = (wA cI 20 r_row v_row))) := by
  refine hdrI (own := RX6) rfl (by decide +kernel) (Nat.le_of_ble_eq_true rfl) ?_
  intro p e s m args below meth c Q A X hQ
  refine g_lvE (lv2 := [(0, .ref r_row), (1, vI p1)]) rfl ?_
  refine g_iconst X dX6_writtenOf_0 ?_
  refine g_istore_n X (lv' := [(2, vI 0), (0, .ref r_row), (1, vI p1)]) dX6_writtenOf_1 (by decide) rfl ?_
  refine g_iconst X dX6_writtenOf_2 ?_
  refine g_istore_n X (lv' := [(3, vI 0), (2, vI 0), (0, .ref r_row), (1, vI p1)]) dX6_writtenOf_3 (by decide) rfl ?_
  have L4 : ∀ (n : Nat) (x2_4 : Int) (x3_4 : Int), (0 ≤ x3_4 ∧ x3_4 ≤ p1) → (0 ≤ x2_4 ∧ x2_4 ≤ 255) → (x2_4 = cmG v_row (x3_4).toNat) → (p1 - x3_4).toNat < n → GG p l e ⟨2, 0, 0, 63⟩ s m args below meth c 0 0 Q D A s.heap 4 (wA cI 20 r_row v_row) 4 [(0, .ref r_row), (1, vI p1), (2, vI x2_4), (3, vI x3_4)] [] := by
    intro n
    induction n with
    | zero => intros; exfalso; omega
    | succ n ih4 =>
      intro x2_4 x3_4 w4_0 w4_1 w4_2 wm4
      refine g_iload_n X dX6_writtenOf_4 3 rfl ?_
      refine g_iload_n X dX6_writtenOf_5 1 rfl ?_
      refine g_icmp_ge X (tgt := 23) dX6_writtenOf_6 (by decide) (by omega) (by omega) (fun c6 => ?_) (fun c6 => ?_)
      · have hx : x3_4 = p1 := by omega
        rw [hx] at w4_2
        have hm := cm_many (f := v_row) (n := p1.toNat) (by omega) (fun j hj => by have h1 := hp2 j (by omega); omega) (fun i j hi hj he => hp3 i j (by omega) (by omega) he)
        refine g_iload_n X dX6_writtenOf_23 2 rfl ?_
        refine g_if_ne X (tgt := 31) dX6_writtenOf_24 (by decide) (by omega) (fun c24 => ?_) (fun c24 => ?_)
        · have hRB : ∀ j : Nat, (j : Int) < p1 → 0 ≤ v_row j ∧ v_row j ≤ 255 := fun j hj => by have h1 := hp2 j hj; omega
          refine g_aload_n X dX6_writtenOf_31 0 rfl ?_
          refine g_iload_n X dX6_writtenOf_32 1 rfl ?_
          refine g_callSI0 X (c_X6_greatest l D cI cB cJ r_row (p1 := p1) r_v_row (by first | assumption | omega) (by first | assumption | omega) (by first | assumption | omega)) cv_X6_greatest uw1022 ⟨rfl, rfl, by decide, by decide⟩ rfl rfl (Nat.le_of_ble_eq_true rfl) ⟨Nat.zero_le _, Nat.zero_le _⟩ dX6_writtenOf_33 (fun t33 ws33 k33 => ?_)
          obtain ⟨kp0_33, kp1_33, kp2_33, kp3_33, rfl⟩ := k33
          refine g_iload_n X dX6_writtenOf_36 2 rfl ?_
          refine g_idiv X dX6_writtenOf_37 (by omega) (by omega) ?_
          refine g_nm (fun t37 e37 => ?_)
          have r37 := z_div_r t33 x2_4 (by omega) (by omega); rw [← e37] at r37
          refine g_iload_n X dX6_writtenOf_38 1 rfl ?_
          refine g_isub X dX6_writtenOf_39 ?_
          try (have hq : t37 = cmM v_row p1.toNat / cmG v_row p1.toNat := by rw [e37, kp2_33, w4_2])
          exact hQ _ _ _ _ dX6_writtenOf_40 ⟨(by first | assumption | omega), (by first | assumption | omega), rfl⟩
        · refine g_iconst X dX6_writtenOf_27 ?_
          refine g_goto X (tgt := 40) dX6_writtenOf_28 (by decide) ?_
          try (have hq : t37 = cmM v_row p1.toNat / cmG v_row p1.toNat := by rw [e37, kp2_33, w4_2])
          exact hQ _ _ _ _ dX6_writtenOf_40 ⟨(by first | assumption | omega), (by first | assumption | omega), rfl⟩
      · refine g_iload_n X dX6_writtenOf_9 2 rfl ?_
        refine g_aload_n X dX6_writtenOf_10 0 rfl ?_
        refine g_iload_n X dX6_writtenOf_11 3 rfl ?_
        refine g_iald X 0 0 rfl rfl (by omega) (by decide) dX6_writtenOf_12 (fun t12 e12 => ?_)
        have r12 := r_v_row (x3_4 : Int).toNat; rw [← e12] at r12
        have b12 := hp2 (x3_4).toNat (by omega)
        refine g_callSIE X (c_X6_commonMeasure l D cI cB cJ (p0 := x2_4) (p1 := t12) (by first | assumption | omega) (by first | assumption | omega) (by first | assumption | omega) (by first | assumption | omega)) cv_X6_commonMeasure uw1019 ⟨rfl, rfl, by decide, by decide⟩ rfl rfl (Nat.le_of_ble_eq_true rfl) ⟨Nat.zero_le _, Nat.zero_le _⟩ dX6_writtenOf_13 (fun t13 ws13 k13 => ?_)
        obtain ⟨kp0_13, kp1_13, rfl⟩ := k13
        have hr := gcdZ_r (x := x2_4) (y := t12) (by omega) (by omega)
        refine g_istore_n X (lv' := [(2, vI t13), (0, .ref r_row), (1, vI p1), (3, vI x3_4)]) dX6_writtenOf_16 (by decide) rfl ?_
        refine g_iinc X (lv' := [(3, vI (x3_4 + 1)), (2, vI t13), (0, .ref r_row), (1, vI p1)]) dX6_writtenOf_17 3 rfl (by decide) rfl ?_
        refine g_goto X (tgt := 4) dX6_writtenOf_20 (by decide) ?_
        refine g_lv [2, 3, 1, 0] rfl ?_
        exact ih4 t13 (x3_4 + 1) (by first | assumption | omega) (by first | assumption | omega) (by first | rfl | (rw [kp1_13, e12, w4_2]; exact (cmG_s _ (by omega)).symm)) (by omega)
  refine g_lv [2, 3, 1, 0] rfl ?_
  exact L4 _ 0 0 (by first | assumption | omega) (by first | assumption | omega) (by first | rfl | (rw [kp1_13, e12, w4_2]; exact (cmG_s _ (by omega)).symm)) (Nat.lt_succ_self _)
set_option maxHeartbeats 600000 in
set_option maxRecDepth 100000 in
theorem c_X6_countRests (l : Launch) (D : va_G) (cI cB cJ : ClassId) (r_row : Nat) (r_of : Nat) {v_row v_of : Nat → Int} {p1 p2 : Int} (r_v_row : RA (-2147483648) 2147483647 v_row) (r_v_of : RA (-2147483648) 2147483647 v_of) (hp0 : IR p1) (hp1 : IR p2) (hp2 : 1 ≤ p1 ∧ p1 ≤ 12) (hp3 : 2 ≤ p2 ∧ p2 ≤ 60) (hp4 : ∀ j : Nat, (j : Int) < p1 → 0 ≤ v_row j ∧ v_row j < p2) (hp5 : ∀ i j : Nat, (i : Int) < p1 → (j : Int) < p1 → v_row i = v_row j → i = j) : CtV l yX6_countRests cX6_countRests 7 none ⟨3, 0, 0, 86⟩ D (TY cI cB cJ) ((wA cI 20 r_row v_row) ++ (wA cI 4096 r_of v_of)) [.ref r_row, vI p1, vI p2, .ref r_of] (fun ws' => ∃ n_of : Nat → Int, (RA (-2147483648) 2147483647 n_of) ∧ (∀ v : Nat, 1 ≤ v → (v : Int) < p2 → n_of v = rsO v_row p2 p1.toNat p1.toNat v) ∧ (ws' = ((wA cI 20 r_row v_row) ++ (wA cI 4096 r_of n_of)))) := by
  refine hdrV (own := RX6) rfl (by decide +kernel) (Nat.le_of_ble_eq_true rfl) ?_
  intro p e s m args below meth c Q A X hQ
  refine g_lvE (lv2 := [(0, .ref r_row), (1, vI p1), (2, vI p2), (3, .ref r_of)]) rfl ?_
  refine g_aload_n X dX6_countRests_0 3 rfl ?_
  refine g_iconst X dX6_countRests_1 ?_
  refine g_iload_n X dX6_countRests_2 2 rfl ?_
  refine g_iconst X dX6_countRests_3 ?_
  refine g_callSVw X (c_J7_fill_fda19_4096 l D cI cB cJ r_of (p1 := 0) (p2 := p2) (p3 := 0) r_v_of (by first | assumption | omega) (by first | assumption | omega) (by first | assumption | omega) (by first | assumption | omega)) [1] rfl rfl rfl cv_J7_fill_fda19 uw1033 ⟨rfl, rfl, by decide, by decide⟩ rfl rfl (Nat.le_of_ble_eq_true rfl) ⟨Nat.zero_le _, Nat.zero_le _⟩ dX6_countRests_4 (fun ws4 k4 => ?_)
  obtain ⟨of_4, r_of_4, kp0_4, rfl⟩ := k4
  refine ⟨rfl, ?_⟩
  refine g_ws (ws2 := ((wA cI 20 r_row v_row) ++ (wA cI 4096 r_of of_4))) rfl ?_
  refine g_iconst X dX6_countRests_7 ?_
  refine g_istore X (lv' := [(4, vI 0), (0, .ref r_row), (1, vI p1), (2, vI p2), (3, .ref r_of)]) dX6_countRests_8 (by decide) rfl ?_
  have L10 : ∀ (n : Nat) (x4_10 : Int) (of_10 : Nat → Int), (RA (-2147483648) 2147483647 of_10) → (0 ≤ x4_10 ∧ x4_10 ≤ p1) → (∀ v : Nat, 1 ≤ v → (v : Int) < p2 → of_10 v = rsO v_row p2 p1.toNat (x4_10).toNat v) → (p1 - x4_10).toNat < n → GG p l e ⟨3, 0, 0, 86⟩ s m args below meth c 0 0 Q D A s.heap 7 ((wA cI 20 r_row v_row) ++ (wA cI 4096 r_of of_10)) 10 [(0, .ref r_row), (1, vI p1), (2, vI p2), (3, .ref r_of), (4, vI x4_10)] [] := by
    intro n
    induction n with
    | zero => intros; exfalso; omega
    | succ n ih10 =>
      intro x4_10 of_10 r_of_10 w10_0 w10_1 wm10
      refine g_iload X dX6_countRests_10 4 rfl ?_
      refine g_iload_n X dX6_countRests_12 1 rfl ?_
      refine g_icmp_ge X (tgt := 75) dX6_countRests_13 (by decide) (by omega) (by omega) (fun c13 => ?_) (fun c13 => ?_)
      · exact hQ _ _ _ dX6_countRests_75 ⟨of_10, r_of_10, (by intro v h1 h2; rw [← show (x4_10).toNat = p1.toNat by omega]; have h3 := w10_1 v h1 h2; rw [show (x4_10).toNat = p1.toNat by omega] at h3 ⊢; exact h3), rfl⟩
      · refine g_iconst X dX6_countRests_16 ?_
        refine g_istore X (lv' := [(5, vI 0), (0, .ref r_row), (1, vI p1), (2, vI p2), (3, .ref r_of), (4, vI x4_10)]) dX6_countRests_17 (by decide) rfl ?_
        have L19 : ∀ (n : Nat) (x5_19 : Int) (of_19 : Nat → Int), (RA (-2147483648) 2147483647 of_19) → (0 ≤ x5_19 ∧ x5_19 ≤ p1) → (∀ v : Nat, 1 ≤ v → (v : Int) < p2 → of_19 v = rsI v_row p2 (x4_10).toNat (rsO v_row p2 p1.toNat (x4_10).toNat) (x5_19).toNat v) → (p1 - x5_19).toNat < n → GG p l e ⟨3, 0, 0, 86⟩ s m args below meth c 0 0 Q D A s.heap 7 ((wA cI 20 r_row v_row) ++ (wA cI 4096 r_of of_19)) 19 [(0, .ref r_row), (1, vI p1), (2, vI p2), (3, .ref r_of), (4, vI x4_10), (5, vI x5_19)] [] := by
          intro n
          induction n with
          | zero => intros; exfalso; omega
          | succ n ih19 =>
            intro x5_19 of_19 r_of_19 w19_0 w19_1 wm19
            refine g_iload X dX6_countRests_19 5 rfl ?_
            refine g_iload_n X dX6_countRests_21 1 rfl ?_
            refine g_icmp_ge X (tgt := 69) dX6_countRests_22 (by decide) (by omega) (by omega) (fun c22 => ?_) (fun c22 => ?_)
            · refine g_iinc X (lv' := [(4, vI (x4_10 + 1)), (0, .ref r_row), (1, vI p1), (2, vI p2), (3, .ref r_of), (5, vI x5_19)]) dX6_countRests_69 4 rfl (by decide) rfl ?_
              refine g_goto X (tgt := 10) dX6_countRests_72 (by decide) ?_
              have hx10 : (x5_19).toNat = p1.toNat := by omega
              refine g_lv [1, 2, 3, 4, 0] rfl ?_
              exact ih10 (x4_10 + 1) of_19 r_of_19 (by first | assumption | omega) (by intro v h1 h2; first | exact (kp0_4 v (by omega) (by omega)).trans rfl | (have h9 := w19_1 v h1 h2; rw [hx10] at h9; rw [rsO_s _ _ _ (by omega)]; exact h9)) (by omega)
            · refine g_iload X dX6_countRests_25 4 rfl ?_
              refine g_iload X dX6_countRests_27 5 rfl ?_
              refine g_icmp_eq X (tgt := 63) dX6_countRests_29 (by decide) (by omega) (by omega) (fun c29 => ?_) (fun c29 => ?_)
              · refine g_iinc X (lv' := [(5, vI (x5_19 + 1)), (0, .ref r_row), (1, vI p1), (2, vI p2), (3, .ref r_of), (4, vI x4_10)]) dX6_countRests_63 5 rfl (by decide) rfl ?_
                refine g_goto X (tgt := 19) dX6_countRests_66 (by decide) ?_
                refine g_lv [1, 2, 3, 4, 5, 0] rfl ?_
                exact ih19 (x5_19 + 1) of_19 r_of_19 (by first | assumption | omega) (by first | exact w10_1 | (intro v h1 h2; rw [e62, rsI_s _ _ _ _ (by omega)]; exact rs_st w19_1 (by omega) (by omega) (by omega) (by omega) v h1 h2) | (intro v h1 h2; rw [rsI_s _ _ _ _ (by omega), show (x5_19).toNat = (x4_10).toNat by omega, rsX_same, rsU_0 _ _ h1]; have h9 := w19_1 v h1 h2; rw [show (x5_19).toNat = (x4_10).toNat by omega] at h9; exact h9)) (by omega)
              · have hne : (x4_10).toNat ≠ (x5_19).toNat := by omega
                have hne2 : v_row (x4_10).toNat ≠ v_row (x5_19).toNat := fun h => hne (hp5 _ _ (by omega) (by omega) h)
                refine g_aload_n X dX6_countRests_32 0 rfl ?_
                refine g_iload X dX6_countRests_33 4 rfl ?_
                refine g_iald X 0 0 rfl rfl (by omega) (by decide) dX6_countRests_35 (fun t35 e35 => ?_)
                have r35 := r_v_row (x4_10 : Int).toNat; rw [← e35] at r35
                have b35 := hp4 (x4_10).toNat (by omega)
                refine g_aload_n X dX6_countRests_36 0 rfl ?_
                refine g_iload X dX6_countRests_37 5 rfl ?_
                refine g_iald X 0 0 rfl rfl (by omega) (by decide) dX6_countRests_39 (fun t39 e39 => ?_)
                have r39 := r_v_row (x5_19 : Int).toNat; rw [← e39] at r39
                have b39 := hp4 (x5_19).toNat (by omega)
                refine g_isub X dX6_countRests_40 ?_
                refine g_istore X (lv' := [(6, vI (t35 - t39)), (0, .ref r_row), (1, vI p1), (2, vI p2), (3, .ref r_of), (4, vI x4_10), (5, vI x5_19)]) dX6_countRests_41 (by decide) rfl ?_
                refine g_aload_n X dX6_countRests_43 4 rfl ?_
                refine g_iload X dX6_countRests_44 0 rfl ?_
                refine g_if_ge X (tgt := 56) dX6_countRests_46 (by decide) (by omega) (fun c46 => ?_) (fun c46 => ?_)
                · refine g_iload X dX6_countRests_56 0 rfl ?_
                  have hX : ((rsX v_row p2 (x4_10).toNat (x5_19).toNat : Nat) : Int) = (t35 - t39) := by have h1 := rsX_e (f := v_row) (m := p2) (i := (x4_10).toNat) (j := (x5_19).toNat) (by omega); omega
                  refine g_dup2 X rfl rfl dX6_countRests_58 ?_
                  refine g_iald X 1 0 rfl rfl (by omega) (by decide) dX6_countRests_59 (fun t59 e59 => ?_)
                  have r59 := r_of_19 (t35 - t39 : Int).toNat; rw [← e59] at r59
                  have b59 := w19_1 ((t35 - t39)).toNat (by omega) (by omega)
                  have g59 := rsI_r (b := 12 * ((x4_10).toNat : Int)) v_row p2 (x4_10).toNat (x5_19).toNat (rsO_r v_row p2 p1.toNat (x4_10).toNat (by omega)) ((t35 - t39)).toNat
                  refine g_iconst X dX6_countRests_60 ?_
                  refine g_iadd X dX6_countRests_61 ?_
                  refine g_iast X 1 0 rfl rfl (by omega) (by decide) dX6_countRests_62 (fun of_62 e62 => ?_)
                  have r_of_62 : RA (-2147483648) 2147483647 of_62 := by rw [e62]; exact RA_up r_of_19 (by omega)
                  refine g_ws (ws2 := ((wA cI 20 r_row v_row) ++ (wA cI 4096 r_of of_62))) rfl ?_
                  refine g_iinc X (lv' := [(5, vI (x5_19 + 1)), (6, vI (t35 - t39)), (0, .ref r_row), (1, vI p1), (2, vI p2), (3, .ref r_of), (4, vI x4_10)]) dX6_countRests_63 6 rfl (by decide) rfl ?_
                  refine g_goto X (tgt := 19) dX6_countRests_66 (by decide) ?_
                  refine g_lv [2, 3, 4, 5, 6, 0] rfl ?_
                  exact ih19 (x5_19 + 1) of_62 r_of_62 (by first | assumption | omega) (by first | exact w10_1 | (intro v h1 h2; rw [e62, rsI_s _ _ _ _ (by omega)]; exact rs_st w19_1 (by omega) (by omega) (by omega) (by omega) v h1 h2) | (intro v h1 h2; rw [rsI_s _ _ _ _ (by omega), show (x5_19).toNat = (x4_10).toNat by omega, rsX_same, rsU_0 _ _ h1]; have h9 := w19_1 v h1 h2; rw [show (x5_19).toNat = (x4_10).toNat by omega] at h9; exact h9)) (by omega)
                · refine g_iload X dX6_countRests_49 0 rfl ?_
                  refine g_iload_n X dX6_countRests_51 3 rfl ?_
                  refine g_iadd X dX6_countRests_52 ?_
                  refine g_goto X (tgt := 58) dX6_countRests_53 (by decide) ?_
                  have hX : ((rsX v_row p2 (x4_10).toNat (x5_19).toNat : Nat) : Int) = ((t35 - t39) + p2) := by have h1 := rsX_e (f := v_row) (m := p2) (i := (x4_10).toNat) (j := (x5_19).toNat) (by omega); omega
                  refine g_dup2 X rfl rfl dX6_countRests_58 ?_
                  refine g_iald X 1 0 rfl rfl (by omega) (by decide) dX6_countRests_59 (fun t59 e59 => ?_)
                  have r59 := r_of_19 ((t35 - t39) + p2 : Int).toNat; rw [← e59] at r59
                  have b59 := w19_1 (((t35 - t39) + p2)).toNat (by omega) (by omega)
                  have g59 := rsI_r (b := 12 * ((x4_10).toNat : Int)) v_row p2 (x4_10).toNat (x5_19).toNat (rsO_r v_row p2 p1.toNat (x4_10).toNat (by omega)) (((t35 - t39) + p2)).toNat
                  refine g_iconst X dX6_countRests_60 ?_
                  refine g_iadd X dX6_countRests_61 ?_
                  refine g_iast X 1 0 rfl rfl (by omega) (by decide) dX6_countRests_62 (fun of_62 e62 => ?_)
                  have r_of_62 : RA (-2147483648) 2147483647 of_62 := by rw [e62]; exact RA_up r_of_19 (by omega)
                  refine g_ws (ws2 := ((wA cI 20 r_row v_row) ++ (wA cI 4096 r_of of_62))) rfl ?_
                  refine g_iinc X (lv' := [(5, vI (x5_19 + 1)), (6, vI (t35 - t39)), (0, .ref r_row), (1, vI p1), (2, vI p2), (3, .ref r_of), (4, vI x4_10)]) dX6_countRests_63 6 rfl (by decide) rfl ?_
                  refine g_goto X (tgt := 19) dX6_countRests_66 (by decide) ?_
                  refine g_lv [2, 3, 4, 5, 6, 0] rfl ?_
                  exact ih19 (x5_19 + 1) of_62 r_of_62 (by first | assumption | omega) (by first | exact w10_1 | (intro v h1 h2; rw [e62, rsI_s _ _ _ _ (by omega)]; exact rs_st w19_1 (by omega) (by omega) (by omega) (by omega) v h1 h2) | (intro v h1 h2; rw [rsI_s _ _ _ _ (by omega), show (x5_19).toNat = (x4_10).toNat by omega, rsX_same, rsU_0 _ _ h1]; have h9 := w19_1 v h1 h2; rw [show (x5_19).toNat = (x4_10).toNat by omega] at h9; exact h9)) (by omega)
        refine g_lv [1, 2, 3, 4, 5, 0] rfl ?_
        exact L19 _ 0 of_10 r_of_10 (by first | assumption | omega) (by first | exact w10_1 | (intro v h1 h2; rw [e62, rsI_s _ _ _ _ (by omega)]; exact rs_st w19_1 (by omega) (by omega) (by omega) (by omega) v h1 h2) | (intro v h1 h2; rw [rsI_s _ _ _ _ (by omega), show (x5_19).toNat = (x4_10).toNat by omega, rsX_same, rsU_0 _ _ h1]; have h9 := w19_1 v h1 h2; rw [show (x5_19).toNat = (x4_10).toNat by omega] at h9; exact h9)) (Nat.lt_succ_self _)
  refine g_lv [1, 2, 3, 4, 0] rfl ?_
  exact L10 _ 0 of_4 r_of_4 (by first | assumption | omega) (by intro v h1 h2; first | exact (kp0_4 v (by omega) (by omega)).trans rfl | (have h9 := w19_1 v h1 h2; rw [hx10] at h9; rw [rsO_s _ _ _ (by omega)]; exact h9)) (Nat.lt_succ_self _)
set_option maxHeartbeats 600000 in
set_option maxRecDepth 100000 in
theorem c_X6_leastRest (l : Launch) (D : va_G) (cI cB cJ : ClassId) (r_of : Nat) {v_of : Nat → Int} {p1 : Int} (r_v_of : RA (-2147483648) 2147483647 v_of) (hp0 : IR p1) (hp1 : 2 ≤ p1 ∧ p1 ≤ 60) (hp2 : ∀ v : Nat, 1 ≤ v → (v : Int) < p1 → 0 ≤ v_of v ∧ v_of v ≤ 1000) : CtI l yX6_leastRest cX6_leastRest 4 (some .int) ⟨1, 0, 0, 40⟩ D (TY cI cB cJ) (wA cI 4096 r_of v_of) [.ref r_of, vI p1] (fun z ws' => (IR z) ∧ (z = lsM v_of (p1 - 1).toNat) ∧ (ws' = (wA cI 4096 r_of v_of))) := by
  refine hdrI (own := RX6) rfl (by decide +kernel) (Nat.le_of_ble_eq_true rfl) ?_
  intro p e s m args below meth c Q A X hQ
  refine g_lvE (lv2 := [(0, .ref r_of), (1, vI p1)]) rfl ?_
  refine g_aload_n X dX6_leastRest_0 0 rfl ?_
  refine g_iconst X dX6_leastRest_1 ?_
  refine g_iald X 0 0 rfl rfl (by omega) (by decide) dX6_leastRest_2 (fun t2 e2 => ?_)
  have r2 := r_v_of (1 : Int).toNat; rw [← e2] at r2
  have b2 := hp2 ((1 : Int)).toNat (by omega) (by omega)
  refine g_istore_n X (lv' := [(2, vI t2), (0, .ref r_of), (1, vI p1)]) dX6_leastRest_3 (by decide) rfl ?_
  refine g_iconst X dX6_leastRest_4 ?_
  refine g_istore_n X (lv' := [(3, vI 2), (2, vI t2), (0, .ref r_of), (1, vI p1)]) dX6_leastRest_5 (by decide) rfl ?_
  have h0 := lsM_s v_of (x := 1) (by omega)
  have h1 : lsM v_of ((1 : Int) - 1).toNat = 1000000 := rfl
  have h2 : lsM v_of ((2 : Int) - 1).toNat = lsM v_of (1 : Int).toNat := rfl
  have L6 : ∀ (n : Nat) (x2_6 : Int) (x3_6 : Int), (2 ≤ x3_6 ∧ x3_6 ≤ p1) → (0 ≤ x2_6 ∧ x2_6 ≤ 1000) → (x2_6 = lsM v_of (x3_6 - 1).toNat) → (p1 - x3_6).toNat < n → GG p l e ⟨1, 0, 0, 40⟩ s m args below meth c 0 0 Q D A s.heap 4 (wA cI 4096 r_of v_of) 6 [(0, .ref r_of), (1, vI p1), (2, vI x2_6), (3, vI x3_6)] [] := by
    intro n
    induction n with
    | zero => intros; exfalso; omega
    | succ n ih6 =>
      intro x2_6 x3_6 w6_0 w6_1 w6_2 wm6
      have hS := lsM_s v_of (x := x3_6) (by omega)
      have h3 : lsM v_of (x3_6 + 1 - 1).toNat = lsM v_of (x3_6).toNat := by rw [show x3_6 + 1 - 1 = x3_6 by omega]
      refine g_iload_n X dX6_leastRest_6 3 rfl ?_
      refine g_iload_n X dX6_leastRest_7 1 rfl ?_
      refine g_icmp_ge X (tgt := 25) dX6_leastRest_8 (by decide) (by omega) (by omega) (fun c8 => ?_) (fun c8 => ?_)
      · refine g_iload_n X dX6_leastRest_25 2 rfl ?_
        have hx : x3_6 = p1 := by omega
        rw [hx] at w6_2
        exact hQ _ _ _ _ dX6_leastRest_26 ⟨(by first | assumption | omega), (by first | assumption | omega), rfl⟩
      · refine g_iload_n X dX6_leastRest_11 2 rfl ?_
        refine g_aload_n X dX6_leastRest_12 0 rfl ?_
        refine g_iload_n X dX6_leastRest_13 3 rfl ?_
        refine g_iald X 0 0 rfl rfl (by omega) (by decide) dX6_leastRest_14 (fun t14 e14 => ?_)
        have r14 := r_v_of (x3_6 : Int).toNat; rw [← e14] at r14
        have b14 := hp2 (x3_6).toNat (by omega) (by omega)
        refine g_mmin X uw901 uw398 uw111 uw399 ⟨by decide, Nat.le_of_ble_eq_true rfl⟩ ⟨Nat.zero_le _, Nat.zero_le _⟩ (by omega) (by omega) dX6_leastRest_15 (fun t15 k15 => ?_)
        refine g_istore_n X (lv' := [(2, vI t15), (0, .ref r_of), (1, vI p1), (3, vI x3_6)]) dX6_leastRest_18 (by decide) rfl ?_
        refine g_iinc X (lv' := [(3, vI (x3_6 + 1)), (2, vI t15), (0, .ref r_of), (1, vI p1)]) dX6_leastRest_19 3 rfl (by decide) rfl ?_
        refine g_goto X (tgt := 6) dX6_leastRest_22 (by decide) ?_
        refine g_lv [2, 3, 1, 0] rfl ?_
        exact ih6 t15 (x3_6 + 1) (by first | assumption | omega) (by first | assumption | omega) (by first | assumption | omega) (by omega)
  refine g_lv [2, 3, 1, 0] rfl ?_
  exact L6 _ t2 2 (by first | assumption | omega) (by first | assumption | omega) (by first | assumption | omega) (Nat.lt_succ_self _)
set_option maxHeartbeats 600000 in
set_option maxRecDepth 100000 in
theorem c_X6_mostRest (l : Launch) (D : va_G) (cI cB cJ : ClassId) (r_of : Nat) {v_of : Nat → Int} {p1 : Int} (r_v_of : RA (-2147483648) 2147483647 v_of) (hp0 : IR p1) (hp1 : 2 ≤ p1 ∧ p1 ≤ 60) (hp2 : ∀ v : Nat, 1 ≤ v → (v : Int) < p1 → 0 ≤ v_of v ∧ v_of v ≤ 1000) : CtI l yX6_mostRest cX6_mostRest 4 (some .int) ⟨1, 0, 0, 40⟩ D (TY cI cB cJ) (wA cI 4096 r_of v_of) [.ref r_of, vI p1] (fun z ws' => (IR z) ∧ (z = msM v_of (p1 - 1).toNat) ∧ (ws' = (wA cI 4096 r_of v_of))) := by
  refine hdrI (own := RX6) rfl (by decide +kernel) (Nat.le_of_ble_eq_true rfl) ?_
  intro p e s m args below meth c Q A X hQ
  refine g_lvE (lv2 := [(0, .ref r_of), (1, vI p1)]) rfl ?_
  refine g_aload_n X dX6_mostRest_0 0 rfl ?_
  refine g_iconst X dX6_mostRest_1 ?_
  refine g_iald X 0 0 rfl rfl (by omega) (by decide) dX6_mostRest_2 (fun t2 e2 => ?_)
  have r2 := r_v_of (1 : Int).toNat; rw [← e2] at r2
  have b2 := hp2 ((1 : Int)).toNat (by omega) (by omega)
  refine g_istore_n X (lv' := [(2, vI t2), (0, .ref r_of), (1, vI p1)]) dX6_mostRest_3 (by decide) rfl ?_
  refine g_iconst X dX6_mostRest_4 ?_
  refine g_istore_n X (lv' := [(3, vI 2), (2, vI t2), (0, .ref r_of), (1, vI p1)]) dX6_mostRest_5 (by decide) rfl ?_
  have h0 := msM_s v_of (x := 1) (by omega)
  have h1 : msM v_of ((1 : Int) - 1).toNat = 0 := rfl
  have h2 : msM v_of ((2 : Int) - 1).toNat = msM v_of (1 : Int).toNat := rfl
  have L6 : ∀ (n : Nat) (x2_6 : Int) (x3_6 : Int), (2 ≤ x3_6 ∧ x3_6 ≤ p1) → (0 ≤ x2_6 ∧ x2_6 ≤ 1000) → (x2_6 = msM v_of (x3_6 - 1).toNat) → (p1 - x3_6).toNat < n → GG p l e ⟨1, 0, 0, 40⟩ s m args below meth c 0 0 Q D A s.heap 4 (wA cI 4096 r_of v_of) 6 [(0, .ref r_of), (1, vI p1), (2, vI x2_6), (3, vI x3_6)] [] := by
    intro n
    induction n with
    | zero => intros; exfalso; omega
    | succ n ih6 =>
      intro x2_6 x3_6 w6_0 w6_1 w6_2 wm6
      have hS := msM_s v_of (x := x3_6) (by omega)
      have h3 : msM v_of (x3_6 + 1 - 1).toNat = msM v_of (x3_6).toNat := by rw [show x3_6 + 1 - 1 = x3_6 by omega]
      refine g_iload_n X dX6_mostRest_6 3 rfl ?_
      refine g_iload_n X dX6_mostRest_7 1 rfl ?_
      refine g_icmp_ge X (tgt := 25) dX6_mostRest_8 (by decide) (by omega) (by omega) (fun c8 => ?_) (fun c8 => ?_)
      · refine g_iload_n X dX6_mostRest_25 2 rfl ?_
        have hx : x3_6 = p1 := by omega
        rw [hx] at w6_2
        exact hQ _ _ _ _ dX6_mostRest_26 ⟨(by first | assumption | omega), (by first | assumption | omega), rfl⟩
      · refine g_iload_n X dX6_mostRest_11 2 rfl ?_
        refine g_aload_n X dX6_mostRest_12 0 rfl ?_
        refine g_iload_n X dX6_mostRest_13 3 rfl ?_
        refine g_iald X 0 0 rfl rfl (by omega) (by decide) dX6_mostRest_14 (fun t14 e14 => ?_)
        have r14 := r_v_of (x3_6 : Int).toNat; rw [← e14] at r14
        have b14 := hp2 (x3_6).toNat (by omega) (by omega)
        refine g_mmax X uw900 uw807 uw111 uw808 ⟨by decide, Nat.le_of_ble_eq_true rfl⟩ ⟨Nat.zero_le _, Nat.zero_le _⟩ (by omega) (by omega) dX6_mostRest_15 (fun t15 k15 => ?_)
        refine g_istore_n X (lv' := [(2, vI t15), (0, .ref r_of), (1, vI p1), (3, vI x3_6)]) dX6_mostRest_18 (by decide) rfl ?_
        refine g_iinc X (lv' := [(3, vI (x3_6 + 1)), (2, vI t15), (0, .ref r_of), (1, vI p1)]) dX6_mostRest_19 3 rfl (by decide) rfl ?_
        refine g_goto X (tgt := 6) dX6_mostRest_22 (by decide) ?_
        refine g_lv [2, 3, 1, 0] rfl ?_
        exact ih6 t15 (x3_6 + 1) (by first | assumption | omega) (by first | assumption | omega) (by first | assumption | omega) (by omega)
  refine g_lv [2, 3, 1, 0] rfl ?_
  exact L6 _ t2 2 (by first | assumption | omega) (by first | assumption | omega) (by first | assumption | omega) (Nat.lt_succ_self _)
set_option maxHeartbeats 600000 in
set_option maxRecDepth 100000 in
theorem c_X6_least (l : Launch) (D : va_G) (cI cB cJ : ClassId) (r_row : Nat) {v_row : Nat → Int} {p1 : Int} (r_v_row : RA (-2147483648) 2147483647 v_row) (hp0 : IR p1) (hp1 : 1 ≤ p1 ∧ p1 ≤ 20) (hp2 : ∀ j : Nat, (j : Int) < p1 → 0 ≤ v_row j ∧ v_row j ≤ 255) : CtI l yX6_least cX6_least 4 (some .int) ⟨1, 0, 0, 40⟩ D (TY cI cB cJ) (wA cI 20 r_row v_row) [.ref r_row, vI p1] (fun z ws' => (IR z) ∧ ((z = 0 ∧ 0 < ctP (fun j => decide (v_row j = 0)) p1.toNat) ∨ (z ≠ 0 ∧ ¬ 0 < ctP (fun j => decide (v_row j = 0)) p1.toNat)) ∧ (ws' = (wA cI 20 r_row v_row))) := by
  refine hdrI (own := RX6) rfl (by decide +kernel) (Nat.le_of_ble_eq_true rfl) ?_
  intro p e s m args below meth c Q A X hQ
  refine g_lvE (lv2 := [(0, .ref r_row), (1, vI p1)]) rfl ?_
  refine g_aload_n X dX6_least_0 0 rfl ?_
  refine g_iconst X dX6_least_1 ?_
  refine g_iald X 0 0 rfl rfl (by omega) (by decide) dX6_least_2 (fun t2 e2 => ?_)
  have r2 := r_v_row (0 : Int).toNat; rw [← e2] at r2
  have b2 := hp2 ((0 : Int)).toNat (by omega)
  refine g_istore_n X (lv' := [(2, vI t2), (0, .ref r_row), (1, vI p1)]) dX6_least_3 (by decide) rfl ?_
  refine g_iconst X dX6_least_4 ?_
  refine g_istore_n X (lv' := [(3, vI 1), (2, vI t2), (0, .ref r_row), (1, vI p1)]) dX6_least_5 (by decide) rfl ?_
  have L6 : ∀ (n : Nat) (x2_6 : Int) (x3_6 : Int), (1 ≤ x3_6 ∧ x3_6 ≤ p1) → (0 ≤ x2_6 ∧ x2_6 ≤ 255) → (∀ j : Nat, (j : Int) < x3_6 → x2_6 ≤ v_row j) → (∃ j : Nat, (j : Int) < x3_6 ∧ v_row j = x2_6) → (p1 - x3_6).toNat < n → GG p l e ⟨1, 0, 0, 40⟩ s m args below meth c 0 0 Q D A s.heap 4 (wA cI 20 r_row v_row) 6 [(0, .ref r_row), (1, vI p1), (2, vI x2_6), (3, vI x3_6)] [] := by
    intro n
    induction n with
    | zero => intros; exfalso; omega
    | succ n ih6 =>
      intro x2_6 x3_6 w6_0 w6_1 w6_2 w6_3 wm6
      refine g_iload_n X dX6_least_6 3 rfl ?_
      refine g_iload_n X dX6_least_7 1 rfl ?_
      refine g_icmp_ge X (tgt := 25) dX6_least_8 (by decide) (by omega) (by omega) (fun c8 => ?_) (fun c8 => ?_)
      · refine g_iload_n X dX6_least_25 2 rfl ?_
        exact hQ _ _ _ _ dX6_least_26 ⟨(by first | assumption | omega), (by rcases (show x2_6 = 0 ∨ x2_6 ≠ 0 by omega) with h0 | h0; (obtain ⟨j, h1, h2⟩ := w6_3; exact Or.inl ⟨h0, ctP_pos (P := fun j => decide (v_row j = 0)) (j := j) (by omega) (decide_eq_true (by omega))⟩); (exact Or.inr ⟨h0, fun h => by rw [ctP_z (P := fun j => decide (v_row j = 0)) (fun j hj => decide_eq_false (by have h3 := w6_2 j (by omega); have h4 := hp2 j (by omega); omega))] at h; omega⟩)), rfl⟩
      · refine g_iload_n X dX6_least_11 2 rfl ?_
        refine g_aload_n X dX6_least_12 0 rfl ?_
        refine g_iload_n X dX6_least_13 3 rfl ?_
        refine g_iald X 0 0 rfl rfl (by omega) (by decide) dX6_least_14 (fun t14 e14 => ?_)
        have r14 := r_v_row (x3_6 : Int).toNat; rw [← e14] at r14
        have b14 := hp2 (x3_6).toNat (by omega)
        refine g_mmin X uw901 uw398 uw111 uw399 ⟨by decide, Nat.le_of_ble_eq_true rfl⟩ ⟨Nat.zero_le _, Nat.zero_le _⟩ (by omega) (by omega) dX6_least_15 (fun t15 k15 => ?_)
        refine g_istore_n X (lv' := [(2, vI t15), (0, .ref r_row), (1, vI p1), (3, vI x3_6)]) dX6_least_18 (by decide) rfl ?_
        refine g_iinc X (lv' := [(3, vI (x3_6 + 1)), (2, vI t15), (0, .ref r_row), (1, vI p1)]) dX6_least_19 3 rfl (by decide) rfl ?_
        refine g_goto X (tgt := 6) dX6_least_22 (by decide) ?_
        refine g_lv [2, 3, 1, 0] rfl ?_
        exact ih6 t15 (x3_6 + 1) (by first | assumption | omega) (by first | assumption | omega) (by intro j hj; first | (have hj0 : j = 0 := (by omega); subst hj0; rw [e2]; exact Int.le_refl (v_row 0)) | (rcases (show (j : Int) < x3_6 ∨ j = (x3_6).toNat by omega) with h | h; (have := w6_2 j h; omega); (rw [h, ← e14]; omega))) (by first | exact ⟨0, by omega, e2.symm⟩ | (rcases k15 with h | h; (obtain ⟨j, h1, h2⟩ := w6_3; exact ⟨j, by omega, by omega⟩); exact ⟨(x3_6).toNat, by omega, by omega⟩)) (by omega)
  refine g_lv [2, 3, 1, 0] rfl ?_
  exact L6 _ t2 1 (by first | assumption | omega) (by first | assumption | omega) (by intro j hj; first | (have hj0 : j = 0 := (by omega); subst hj0; rw [e2]; exact Int.le_refl (v_row 0)) | (rcases (show (j : Int) < x3_6 ∨ j = (x3_6).toNat by omega) with h | h; (have := w6_2 j h; omega); (rw [h, ← e14]; omega))) (by first | exact ⟨0, by omega, e2.symm⟩ | (rcases k15 with h | h; (obtain ⟨j, h1, h2⟩ := w6_3; exact ⟨j, by omega, by omega⟩); exact ⟨(x3_6).toNat, by omega, by omega⟩)) (Nat.lt_succ_self _)
set_option maxHeartbeats 600000 in
set_option maxRecDepth 100000 in
theorem c_X6_hasTwoAlike (l : Launch) (D : va_G) (cI cB cJ : ClassId) (r_row : Nat) {v_row : Nat → Int} {p1 : Int} (r_v_row : RA (-2147483648) 2147483647 v_row) (hp0 : IR p1) (hp1 : 0 ≤ p1 ∧ p1 ≤ 20) (hp2 : ∀ j : Nat, (j : Int) < p1 → 0 ≤ v_row j ∧ v_row j ≤ 255) : CtI l yX6_hasTwoAlike cX6_hasTwoAlike 2 (some .boolean) ⟨2, 0, 0, 65⟩ D (TY cI cB cJ) (wA cI 20 r_row v_row) [.ref r_row, vI p1] (fun z ws' => (z = 0 ∨ z = 1) ∧ ((z = 1 ∧ 0 < twO v_row 0 p1.toNat) ∨ (z = 0 ∧ ¬ 0 < twO v_row 0 p1.toNat)) ∧ (ws' = (wA cI 20 r_row v_row))) := by
  refine hdrZ (own := RX6) rfl (by decide +kernel) (Nat.le_of_ble_eq_true rfl) ?_
  intro p e s m args below meth c Q A X hQ
  refine g_lvE (lv2 := [(0, .ref r_row), (1, vI p1)]) rfl ?_
  refine g_aload_n X dX6_hasTwoAlike_0 0 rfl ?_
  refine g_iload_n X dX6_hasTwoAlike_1 1 rfl ?_
  refine g_iconst X dX6_hasTwoAlike_2 ?_
  refine g_callSI0 X (c_X6_twosApart l D cI cB cJ r_row (p1 := p1) (p2 := 0) r_v_row (by first | assumption | omega) (by first | assumption | omega) (by first | assumption | omega) (by first | assumption | omega) (by first | assumption | omega)) cv_X6_twosApart uw1015 ⟨rfl, rfl, by decide, by decide⟩ rfl rfl (Nat.le_of_ble_eq_true rfl) ⟨Nat.zero_le _, Nat.zero_le _⟩ dX6_hasTwoAlike_3 (fun t3 ws3 k3 => ?_)
  obtain ⟨kp0_3, kp1_3, rfl⟩ := k3
  refine g_if_le X (tgt := 13) dX6_hasTwoAlike_6 (by decide) (by omega) (fun c6 => ?_) (fun c6 => ?_)
  · refine g_iconst X dX6_hasTwoAlike_13 ?_
    exact hQ _ _ _ _ dX6_hasTwoAlike_14 ⟨by omega, ⟨(by first | assumption | omega), rfl⟩⟩
  · refine g_iconst X dX6_hasTwoAlike_9 ?_
    refine g_goto X (tgt := 14) dX6_hasTwoAlike_10 (by decide) ?_
    exact hQ _ _ _ _ dX6_hasTwoAlike_14 ⟨by omega, ⟨(by first | assumption | omega), rfl⟩⟩
set_option maxHeartbeats 600000 in
set_option maxRecDepth 100000 in
theorem c_X8_put (l : Launch) (D : va_G) (cI cB cJ : ClassId) (h : Nat) (q : Nat → Nat) {v_lines v_many : Int} {v_least v_edges : Nat → Int} {p0 p1 p2 : Int} (r_v_edges : RA (-2147483648) 2147483647 v_edges) (hp0 : IR p0) (hp1 : IR p1) (hp2 : IR p2) (hp3 : 0 ≤ p0 ∧ p0 ≤ 3) : CtI l yX8_put cX8_put 7 (some .int) ⟨1, 0, 0, 40⟩ D (TY cI cB cJ) (wX8 cI cB cJ h q v_lines v_many v_least v_edges) [.ref h, vI p0, vI p1, vI p2] (fun z ws' => ∃ n_edges : Nat → Int, (RA (-2147483648) 2147483647 n_edges) ∧ (IR z) ∧ (ws' = (wX8 cI cB cJ h q v_lines v_many v_least n_edges))) := by
  refine hdrI (own := RX8) rfl (by decide +kernel) (Nat.le_of_ble_eq_true rfl) ?_
  intro p e s m args below meth c Q A X hQ
  refine g_lvE (lv2 := [(0, .ref h), (1, vI p0), (2, vI p1), (3, vI p2)]) rfl ?_
  refine g_iload_n X dX8_put_0 3 rfl ?_
  refine g_istore X (lv' := [(4, vI p2), (0, .ref h), (1, vI p0), (2, vI p1), (3, vI p2)]) dX8_put_1 (by decide) rfl ?_
  refine g_iload_n X dX8_put_3 3 rfl ?_
  refine g_istore X (lv' := [(5, vI p1), (4, vI p2), (0, .ref h), (1, vI p0), (2, vI p1), (3, vI p2)]) dX8_put_4 (by decide) rfl ?_
  refine g_iconst X dX8_put_6 ?_
  refine g_istore X (lv' := [(6, vI 0), (5, vI p1), (4, vI p2), (0, .ref h), (1, vI p0), (2, vI p1), (3, vI p2)]) dX8_put_7 (by decide) rfl ?_
  have L9 : ∀ (n : Nat) (x4_9 : Int) (x5_9 : Int) (x6_9 : Int) (edges_9 : Nat → Int), (RA (-2147483648) 2147483647 edges_9) → (0 ≤ x6_9 ∧ x6_9 ≤ p0 + 1) → (IR x4_9) → (IR x5_9) → (p0 + 1 - x6_9).toNat < n → GG p l e ⟨1, 0, 0, 40⟩ s m args below meth c 0 0 Q D A s.heap 7 (wX8 cI cB cJ h q v_lines v_many v_least edges_9) 9 [(0, .ref h), (1, vI p0), (4, vI x4_9), (5, vI x5_9), (6, vI x6_9)] [] := by
    intro n
    induction n with
    | zero => intros; exfalso; omega
    | succ n ih9 =>
      intro x4_9 x5_9 x6_9 edges_9 r_edges_9 w9_0 w9_1 w9_2 wm9
      refine g_iload X dX8_put_9 4 rfl ?_
      refine g_iload_n X dX8_put_11 1 rfl ?_
      refine g_icmp_gt X (tgt := 88) dX8_put_12 (by decide) (by omega) (by omega) (fun c12 => ?_) (fun c12 => ?_)
      · refine g_iload X dX8_put_88 2 rfl ?_
        exact hQ _ _ _ _ dX8_put_90 ⟨edges_9, r_edges_9, (by omega), rfl⟩
      · refine g_iload X dX8_put_15 4 rfl ?_
        refine g_if_le X (tgt := 43) dX8_put_17 (by decide) (by omega) (fun c17 => ?_) (fun c17 => ?_)
        · refine g_iload X dX8_put_43 3 rfl ?_
          refine g_if_eq X (tgt := 58) dX8_put_45 (by decide) (by omega) (fun c45 => ?_) (fun c45 => ?_)
          · refine g_iconst X dX8_put_58 ?_
            exact hQ _ _ _ _ dX8_put_59 ⟨edges_9, r_edges_9, (by omega), rfl⟩
          · refine g_iload X dX8_put_48 2 rfl ?_
            refine g_iload X dX8_put_50 3 rfl ?_
            refine g_callSNIE X (c_X9_isIn l D cI cB cJ (p0 := x4_9) (p1 := x5_9) (by first | assumption | omega) (by first | assumption | omega)) cv_X9_isIn nw941 ⟨rfl, rfl, by decide, by decide⟩ rfl rfl (Nat.le_of_ble_eq_true rfl) ⟨Nat.zero_le _, Nat.zero_le _⟩ dX8_put_52 (fun t52 ws52 k52 => ?_)
            obtain ⟨kb_52, ⟨kp0_52, rfl⟩⟩ := k52
            refine g_if_eq X (tgt := 60) dX8_put_55 (by decide) (by omega) (fun c55 => ?_) (fun c55 => ?_)
            · refine g_iload X dX8_put_60 2 rfl ?_
              refine g_iconst X dX8_put_62 ?_
              refine g_iload X dX8_put_63 3 rfl ?_
              refine g_ishl X dX8_put_65 ?_
              refine g_nm (fun t65 e65 => ?_)
              have r65 : IR t65 := by rw [e65]; exact z_ir _
              refine g_ior X dX8_put_66 ?_
              refine g_nm (fun t66 e66 => ?_)
              have r66 : IR t66 := by rw [e66]; exact z_ir _
              refine g_istore X (lv' := [(4, vI t66), (0, .ref h), (1, vI p0), (5, vI x5_9), (6, vI x6_9)]) dX8_put_67 (by decide) rfl ?_
              refine g_aload_n X dX8_put_69 1 rfl ?_
              refine gX8_get X 0 rfl 3 (by decide) uw367 rfl dX8_put_70 ?_
              refine g_iload_n X dX8_put_73 2 rfl ?_
              refine g_iconst X dX8_put_74 ?_
              refine g_imul X dX8_put_75 ?_
              refine g_iload X dX8_put_76 4 rfl ?_
              refine g_iadd X dX8_put_78 ?_
              refine g_iload X dX8_put_79 3 rfl ?_
              refine g_iast X 2 0 rfl rfl (by omega) (by decide) dX8_put_81 (fun edges_81 e81 => ?_)
              have r_edges_81 : RA (-2147483648) 2147483647 edges_81 := by rw [e81]; exact RA_up r_edges_9 (by omega)
              refine g_ws (ws2 := (wX8 cI cB cJ h q v_lines v_many v_least edges_81)) rfl ?_
              refine g_iinc X (lv' := [(6, vI (x6_9 + 1)), (4, vI t66), (0, .ref h), (1, vI p0), (5, vI x5_9)]) dX8_put_82 4 rfl (by decide) rfl ?_
              refine g_goto X (tgt := 9) dX8_put_85 (by decide) ?_
              refine g_lv [2, 3, 1, 4, 0] rfl ?_
              exact ih9 t66 x5_9 (x6_9 + 1) edges_81 r_edges_81 (by first | assumption | omega) (by first | assumption | omega) (by first | assumption | omega) (by omega)
            · refine g_iconst X dX8_put_58 ?_
              exact hQ _ _ _ _ dX8_put_59 ⟨edges_9, r_edges_9, (by omega), rfl⟩
        · refine g_iload X dX8_put_20 3 rfl ?_
          refine g_aload_n X dX8_put_22 0 rfl ?_
          refine gX8_get X 0 rfl 3 (by decide) uw367 rfl dX8_put_23 ?_
          refine g_iload_n X dX8_put_26 1 rfl ?_
          refine g_iconst X dX8_put_27 ?_
          refine g_isub X dX8_put_28 ?_
          refine g_iconst X dX8_put_29 ?_
          refine g_imul X dX8_put_30 ?_
          refine g_iload X dX8_put_31 4 rfl ?_
          refine g_iadd X dX8_put_33 ?_
          refine g_iconst X dX8_put_34 ?_
          refine g_isub X dX8_put_35 ?_
          refine g_iald X 2 0 rfl rfl (by omega) (by decide) dX8_put_36 (fun t36 e36 => ?_)
          have r36 := r_edges_9 ((((p0 - 1) * 4) + x6_9) - 1 : Int).toNat; rw [← e36] at r36
          refine g_isub X dX8_put_37 ?_
          refine g_nr (fun t37 e37 r37 => ?_)
          refine g_mabs X uw940 uw916 uw111 uw917 ⟨by decide, Nat.le_of_ble_eq_true rfl⟩ ⟨Nat.zero_le _, Nat.zero_le _⟩ (by omega) dX8_put_38 (fun t38 r38 k38 m38 => ?_)
          refine g_istore X (lv' := [(5, vI t38), (0, .ref h), (1, vI p0), (4, vI x4_9), (6, vI x6_9)]) dX8_put_41 (by decide) rfl ?_
          refine g_iload X dX8_put_43 0 rfl ?_
          refine g_if_eq X (tgt := 58) dX8_put_45 (by decide) (by omega) (fun c45 => ?_) (fun c45 => ?_)
          · refine g_iconst X dX8_put_58 ?_
            exact hQ _ _ _ _ dX8_put_59 ⟨edges_9, r_edges_9, (by omega), rfl⟩
          · refine g_iload X dX8_put_48 3 rfl ?_
            refine g_iload X dX8_put_50 0 rfl ?_
            refine g_callSNIE X (c_X9_isIn l D cI cB cJ (p0 := x4_9) (p1 := t38) (by first | assumption | omega) (by first | assumption | omega)) cv_X9_isIn nw941 ⟨rfl, rfl, by decide, by decide⟩ rfl rfl (Nat.le_of_ble_eq_true rfl) ⟨Nat.zero_le _, Nat.zero_le _⟩ dX8_put_52 (fun t52 ws52 k52 => ?_)
            obtain ⟨kb_52, ⟨kp0_52, rfl⟩⟩ := k52
            refine g_if_eq X (tgt := 60) dX8_put_55 (by decide) (by omega) (fun c55 => ?_) (fun c55 => ?_)
            · refine g_iload X dX8_put_60 3 rfl ?_
              refine g_iconst X dX8_put_62 ?_
              refine g_iload X dX8_put_63 0 rfl ?_
              refine g_ishl X dX8_put_65 ?_
              refine g_nm (fun t65 e65 => ?_)
              have r65 : IR t65 := by rw [e65]; exact z_ir _
              refine g_ior X dX8_put_66 ?_
              refine g_nm (fun t66 e66 => ?_)
              have r66 : IR t66 := by rw [e66]; exact z_ir _
              refine g_istore X (lv' := [(4, vI t66), (5, vI t38), (0, .ref h), (1, vI p0), (6, vI x6_9)]) dX8_put_67 (by decide) rfl ?_
              refine g_aload_n X dX8_put_69 2 rfl ?_
              refine gX8_get X 0 rfl 3 (by decide) uw367 rfl dX8_put_70 ?_
              refine g_iload_n X dX8_put_73 3 rfl ?_
              refine g_iconst X dX8_put_74 ?_
              refine g_imul X dX8_put_75 ?_
              refine g_iload X dX8_put_76 4 rfl ?_
              refine g_iadd X dX8_put_78 ?_
              refine g_iload X dX8_put_79 1 rfl ?_
              refine g_iast X 2 0 rfl rfl (by omega) (by decide) dX8_put_81 (fun edges_81 e81 => ?_)
              have r_edges_81 : RA (-2147483648) 2147483647 edges_81 := by rw [e81]; exact RA_up r_edges_9 (by omega)
              refine g_ws (ws2 := (wX8 cI cB cJ h q v_lines v_many v_least edges_81)) rfl ?_
              refine g_iinc X (lv' := [(6, vI (x6_9 + 1)), (4, vI t66), (5, vI t38), (0, .ref h), (1, vI p0)]) dX8_put_82 4 rfl (by decide) rfl ?_
              refine g_goto X (tgt := 9) dX8_put_85 (by decide) ?_
              refine g_lv [3, 4, 1, 2, 0] rfl ?_
              exact ih9 t66 t38 (x6_9 + 1) edges_81 r_edges_81 (by first | assumption | omega) (by first | assumption | omega) (by first | assumption | omega) (by omega)
            · refine g_iconst X dX8_put_58 ?_
              exact hQ _ _ _ _ dX8_put_59 ⟨edges_9, r_edges_9, (by omega), rfl⟩
  refine g_lv [3, 4, 2, 1, 0] rfl ?_
  exact L9 _ p2 p1 0 v_edges r_v_edges (by first | assumption | omega) (by first | assumption | omega) (by first | assumption | omega) (Nat.lt_succ_self _)
set_option maxHeartbeats 600000 in
set_option maxRecDepth 100000 in
theorem c_X8_countThis (l : Launch) (D : va_G) (cI cB cJ : ClassId) (h : Nat) (q : Nat → Nat) {v_lines v_many : Int} {v_least v_edges : Nat → Int} (kr_v_lines : 0 ≤ v_lines ∧ v_lines ≤ 4) (kr_v_many : (-2147483648) ≤ v_many ∧ v_many ≤ 2147483647) (r_v_least : RA (-2147483648) 2147483647 v_least) (r_v_edges : RA (-2147483648) 2147483647 v_edges) : CtV l yX8_countThis cX8_countThis 2 none ⟨0, 0, 0, 0⟩ D (TY cI cB cJ) (wX8 cI cB cJ h q v_lines v_many v_least v_edges) [.ref h] (fun ws' => ∃ n_many : Int, ∃ n_least : Nat → Int, ((-2147483648) ≤ n_many ∧ n_many ≤ 2147483647) ∧ (RA (-2147483648) 2147483647 n_least) ∧ (ws' = (wX8 cI cB cJ h q v_lines n_many n_least v_edges))) := by
  refine hdrV (own := RX8) rfl (by decide +kernel) (Nat.le_of_ble_eq_true rfl) ?_
  intro p e s m args below meth c Q A X hQ
  refine g_lvE (lv2 := [(0, .ref h)]) rfl ?_
  refine g_iconst X dX8_countThis_0 ?_
  refine g_istore_n X (lv' := [(1, vI 0), (0, .ref h)]) dX8_countThis_1 (by decide) rfl ?_
  have L2 : ∀ (n : Nat) (x1_2 : Int) (least_2 : Nat → Int), (RA (-2147483648) 2147483647 least_2) → (0 ≤ x1_2 ∧ x1_2 ≤ v_lines) → (v_lines - x1_2).toNat < n → GG p l e ⟨0, 0, 0, 0⟩ s m args below meth c 0 0 Q D A s.heap 2 (wX8 cI cB cJ h q v_lines v_many least_2 v_edges) 2 [(0, .ref h), (1, vI x1_2)] [] := by
    intro n
    induction n with
    | zero => intros; exfalso; omega
    | succ n ih2 =>
      intro x1_2 least_2 r_least_2 w2_0 wm2
      refine g_iload_n X dX8_countThis_2 1 rfl ?_
      refine g_aload_n X dX8_countThis_3 0 rfl ?_
      refine gX8_get X 0 rfl 0 (by decide) uw362 rfl dX8_countThis_4 ?_
      refine g_icmp_ge X (tgt := 37) dX8_countThis_7 (by decide) (by omega) (by omega) (fun c7 => ?_) (fun c7 => ?_)
      · refine g_aload_n X dX8_countThis_37 0 rfl ?_
        refine g_dup X rfl dX8_countThis_38 ?_
        refine gX8_get X 0 rfl 1 (by decide) uw363 rfl dX8_countThis_39 ?_
        refine g_iconst X dX8_countThis_42 ?_
        refine g_iadd X dX8_countThis_43 ?_
        refine g_nr (fun t43 e43 r43 => ?_)
        refine gX8_put X 0 rfl 1 (by decide) uw363 rfl rfl rfl (Nat.le_of_ble_eq_true rfl) dX8_countThis_44 (ws2 := (wX8 cI cB cJ h q v_lines t43 least_2 v_edges)) rfl ?_
        exact hQ _ _ _ dX8_countThis_47 ⟨t43, least_2, (by omega), r_least_2, rfl⟩
      · refine g_aload_n X dX8_countThis_10 0 rfl ?_
        refine gX8_get X 0 rfl 1 (by decide) uw363 rfl dX8_countThis_11 ?_
        refine g_if_ne X (tgt := 37) dX8_countThis_14 (by decide) (by omega) (fun c14 => ?_) (fun c14 => ?_)
        · refine g_aload_n X dX8_countThis_37 0 rfl ?_
          refine g_dup X rfl dX8_countThis_38 ?_
          refine gX8_get X 0 rfl 1 (by decide) uw363 rfl dX8_countThis_39 ?_
          refine g_iconst X dX8_countThis_42 ?_
          refine g_iadd X dX8_countThis_43 ?_
          refine g_nr (fun t43 e43 r43 => ?_)
          refine gX8_put X 0 rfl 1 (by decide) uw363 rfl rfl rfl (Nat.le_of_ble_eq_true rfl) dX8_countThis_44 (ws2 := (wX8 cI cB cJ h q v_lines t43 least_2 v_edges)) rfl ?_
          exact hQ _ _ _ dX8_countThis_47 ⟨t43, least_2, (by omega), r_least_2, rfl⟩
        · refine g_aload_n X dX8_countThis_17 0 rfl ?_
          refine gX8_get X 0 rfl 2 (by decide) uw365 rfl dX8_countThis_18 ?_
          refine g_iload_n X dX8_countThis_21 1 rfl ?_
          refine g_aload_n X dX8_countThis_22 0 rfl ?_
          refine gX8_get X 0 rfl 3 (by decide) uw367 rfl dX8_countThis_23 ?_
          refine g_iload_n X dX8_countThis_26 1 rfl ?_
          refine g_iconst X dX8_countThis_27 ?_
          refine g_imul X dX8_countThis_28 ?_
          refine g_iald X 2 0 rfl rfl (by omega) (by decide) dX8_countThis_29 (fun t29 e29 => ?_)
          have r29 := r_v_edges (x1_2 * 4 : Int).toNat; rw [← e29] at r29
          refine g_iast X 1 0 rfl rfl (by omega) (by decide) dX8_countThis_30 (fun least_30 e30 => ?_)
          have r_least_30 : RA (-2147483648) 2147483647 least_30 := by rw [e30]; exact RA_up r_least_2 (by omega)
          refine g_ws (ws2 := (wX8 cI cB cJ h q v_lines v_many least_30 v_edges)) rfl ?_
          refine g_iinc X (lv' := [(1, vI (x1_2 + 1)), (0, .ref h)]) dX8_countThis_31 1 rfl (by decide) rfl ?_
          refine g_goto X (tgt := 2) dX8_countThis_34 (by decide) ?_
          refine g_lv [1, 0] rfl ?_
          exact ih2 (x1_2 + 1) least_30 r_least_30 (by first | assumption | omega) (by omega)
  refine g_lv [1, 0] rfl ?_
  exact L2 _ 0 v_least r_v_least (by first | assumption | omega) (Nat.lt_succ_self _)
