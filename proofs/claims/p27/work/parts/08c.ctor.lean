theorem LInv_zf : LInv zf zf := fun j h => absurd (show (0 : Int) = 97 from h) (by decide)
theorem oct_zf : oct zf = zf := funext fun _ => (by decide : z_iand 0 255 = 0)
set_option maxRecDepth 100000 in
theorem b_X0_init (l : Launch) (D : va_G) (cI cB cJ : ClassId) (h : Nat) : CtJ l yX0_init cX0_init 1 ⟨2, 3, 300, 120⟩ D (TY cI cB cJ) [(h, .inr (0, [.null, .null, .null, vI 0]))] [.ref h] (fun w => BX0 cI cB cJ h (fun _ => 0) 0 0 w) 3 300 := by
  refine CtJ.imp (c_X0_init l D cI cB cJ h) (fun w hw => ?_)
  obtain ⟨q, rfl⟩ := hw
  exact ⟨q, _, _, _, _, (by omega), (RA_zf (by omega)), (RA_zf (by omega)), (RA_zf (by omega)), (BOd.off (fun _ => 0) 0 _ _ _), rfl⟩
set_option maxRecDepth 100000 in
theorem b_X1_init (l : Launch) (D : va_G) (cI cB cJ : ClassId) (h : Nat) : CtJ l yX1_init cX1_init 1 ⟨2, 6, 184, 120⟩ D (TY cI cB cJ) [(h, .inr (1, [vI 0, .null, .null, .null, .null, .null, .null]))] [.ref h] (fun w => BX1 cI cB cJ h 0 (fun _ => 0) 1 w) 6 184 := by
  refine CtJ.imp (c_X1_init l D cI cB cJ h) (fun w hw => ?_)
  obtain ⟨q, g1, g2, r1, r2, h0, rfl⟩ := hw
  exact ⟨q, 0, zf, zf, zf, zf, g1, g2, by omega, RA_zf (by omega), RA_zf (by omega), RA_zf (by omega), RA_zf (by omega), r1, r2, CLd.ini h0, rfl, rfl⟩
set_option maxRecDepth 100000 in
theorem b_X2_init (l : Launch) (D : va_G) (cI cB cJ : ClassId) (h : Nat) : CtJ l yX2_init cX2_init 1 ⟨2, 8, 649, 120⟩ D (TY cI cB cJ) [(h, .inr (2, [vI 0, .null, .null, .null, .null, vI 0, .null, .null, .null, .null, vI 0]))] [.ref h] (fun w => BX2 cI cB cJ h w) 8 649 := by
  refine CtJ.imp (c_X2_init l D cI cB cJ h) (fun w hw => ?_)
  obtain ⟨q, rfl⟩ := hw
  exact ⟨q, _, _, _, _, _, _, _, _, _, _, _, (by omega), (by omega), (by omega), (RA_zf (by omega)), (RA_zf (by omega)), (RA_zf (by omega)), (RA_zf (by omega)), (RA_zf (by omega)), (RA_zf (by omega)), (RA_zf (by omega)), (RA_zf (by omega)), (LInv_zf), rfl⟩
set_option maxRecDepth 100000 in
theorem b_X3_init (l : Launch) (D : va_G) (cI cB cJ : ClassId) (h : Nat) (t : Nat) : CtJ l yX3_init cX3_init 2 ⟨2, 0, 0, 120⟩ D (TY cI cB cJ) [(h, .inr (3, [.null, .null]))] [.ref h, .ref t] (fun w => BX3 cI cB cJ h t w) 0 0 := by
  refine CtJ.imp (c_X3_init l D cI cB cJ h t) (fun w hw => ?_)
  obtain ⟨q, rfl⟩ := hw
  exact ⟨q, _, rfl⟩
set_option maxRecDepth 100000 in
theorem b_X4_init (l : Launch) (D : va_G) (cI cB cJ : ClassId) (h : Nat) : CtJ l yX4_init cX4_init 1 ⟨2, 4, 32, 120⟩ D (TY cI cB cJ) [(h, .inr (4, [vI 0, .null, .null, .null, .null, vI 0, vI 0, vI 0, vI 0, vI 0]))] [.ref h] (fun w => BX4 cI cB cJ h 0 w) 4 32 := by
  refine CtJ.imp (c_X4_init l D cI cB cJ h) (fun w hw => ?_)
  obtain ⟨q, rfl⟩ := hw
  exact ⟨q, _, _, _, _, _, _, _, _, _, _, (by omega), (by omega), (by omega), (by omega), (by omega), (by omega), (RA_zf (by omega)), (RA_zf (by omega)), (RA_zf (by omega)), (RA_zf (by omega)), rfl, rfl⟩
set_option maxRecDepth 100000 in
theorem b_X5_init (l : Launch) (D : va_G) (cI cB cJ : ClassId) (h : Nat) : CtJ l yX5_init cX5_init 1 ⟨2, 2, 24, 120⟩ D (TY cI cB cJ) [(h, .inr (5, [.null, .null]))] [.ref h] (fun w => BX5 cI cB cJ h w) 2 24 := by
  refine CtJ.imp (c_X5_init l D cI cB cJ h) (fun w hw => ?_)
  obtain ⟨q, rfl⟩ := hw
  exact ⟨q, _, _, (RA_zf (by omega)), (RA_zf (by omega)), rfl⟩
set_option maxRecDepth 100000 in
theorem b_X7_init (l : Launch) (D : va_G) (cI cB cJ : ClassId) (h : Nat) : CtJ l yX7_init cX7_init 1 ⟨2, 2, 280, 120⟩ D (TY cI cB cJ) [(h, .inr (6, [.null, .null, vI 0, vI 0, vI 0, vI 0, vI 0]))] [.ref h] (fun w => BX7 cI cB cJ h 0 zf w) 2 280 := by
  refine CtJ.imp (c_X7_init l D cI cB cJ h) (fun w hw => ?_)
  obtain ⟨q, rfl⟩ := hw
  exact ⟨q, _, _, _, _, _, _, _, (by omega), (by omega), (by omega), (by omega), (by omega), (RA_zf (by omega)), (RA_zf (by omega)), rfl, rfl, rfl⟩
set_option maxRecDepth 100000 in
theorem b_X8_init (l : Launch) (D : va_G) (cI cB cJ : ClassId) (h : Nat) : CtJ l yX8_init cX8_init 1 ⟨2, 2, 20, 120⟩ D (TY cI cB cJ) [(h, .inr (7, [vI 0, vI 0, .null, .null]))] [.ref h] (fun w => BX8 cI cB cJ h w) 2 20 := by
  refine CtJ.imp (c_X8_init l D cI cB cJ h) (fun w hw => ?_)
  obtain ⟨q, rfl⟩ := hw
  exact ⟨q, _, _, _, _, (by omega), (by omega), (RA_zf (by omega)), (RA_zf (by omega)), rfl⟩
set_option maxRecDepth 100000 in
theorem b_X10_init (l : Launch) (D : va_G) (cI cB cJ : ClassId) (h : Nat) : CtJ l yX10_init cX10_init 1 ⟨1, 48, 55779, 120⟩ D (TY cI cB cJ) [(h, .inr (9, [.null, .null, .null, .null, .null, .null, .null, vI 0, vI 0, .null, vI 0, vI 0, vI 0, vI 0, vI 0, vI 0, vI 0, vI 0, vI 0, vI 0, .null, .null, .null, .null, .null, .null, .null, .null, .null, .null, .null, .null, .null, .null, .null, .null, .null, vI 0, .null, .null, .null, .null, .null, .null, .null, .null, .null, .null, .null, .null, .null, .null, .null, .null, .null, .null, .null, .null, .null, .null, .null, vI 0, vI 0, vI 0, vI 0, vI 0, vI 0]))] [.ref h] (fun w => BX10 cI cB cJ h 0 0 0 0 0 zf (fun _ => 0) w) 48 55779 := by
  refine CtJ.imp (c_X10_init l D cI cB cJ h) (fun w hw => ?_)
  obtain ⟨q, rfl⟩ := hw
  exact BX10.cast (BX10.mk q 0 0 0 0 0 0 0 0 0 0 0 0 0 0 0 0 0 0 0 (updZ zf 33 1) zf zf zf zf zf zf zf zf zf zf zf zf zf zf zf zf zf zf zf zf zf zf zf zf zf zf zf zf zf zf zf zf zf zf zf zf zf zf zf zf zf zf zf zf zf zf zf (by omega) (by omega) (by omega) (by omega) (by omega) (by omega) (by omega) (by omega) (by omega) (by omega) (by omega) (by omega) (by omega) (by omega) (by omega) (by omega) (by omega) (by omega) (by omega) (RA_up (RA_zf (by omega)) (by omega)) (RA_zf (by omega)) (RA_zf (by omega)) (RA_zf (by omega)) (RA_zf (by omega)) (RA_zf (by omega)) (RA_zf (by omega)) (RA_zf (by omega)) (RA_zf (by omega)) (RA_zf (by omega)) (RA_zf (by omega)) (RA_zf (by omega)) (RA_zf (by omega)) (RA_zf (by omega)) (RA_zf (by omega)) (RA_zf (by omega)) (RA_zf (by omega)) (RA_zf (by omega)) (RA_zf (by omega)) (RA_zf (by omega)) (RA_zf (by omega)) (RA_zf (by omega)) (RA_zf (by omega)) (RA_zf (by omega)) (RA_zf (by omega)) (RA_zf (by omega)) (RA_zf (by omega)) (RA_zf (by omega)) (RA_zf (by omega)) (RA_zf (by omega)) (RA_zf (by omega)) (RA_zf (by omega)) (RA_zf (by omega)) (RA_zf (by omega)) (RA_zf (by omega)) (RA_zf (by omega)) (RA_zf (by omega)) (RA_zf (by omega)) (RA_zf (by omega)) (RA_zf (by omega)) (RA_zf (by omega)) (RA_zf (by omega)) (RA_zf (by omega)) (RA_zf (by omega)) (RA_zf (by omega)) (RA_zf (by omega)) (RA_zf (by omega)) (AG.nil (fun _ => 0) zf zf zf zf) (fun j hj => by omega)) oct_zf
theorem cj_X9_init : CalJ yX9_init cX9_init 1 0 := ⟨uw123, uw122, uw100, rfl, by decide +kernel, by decide +kernel, by decide +kernel⟩
set_option maxHeartbeats 4000000 in
set_option maxRecDepth 100000 in
theorem c_X9_init (l : Launch) (D : va_G) (cI cB cJ : ClassId) (h : Nat) : CtJ l yX9_init cX9_init 1 ⟨5, 66, 6871, 200⟩ D (TY cI cB cJ) [(h, .inr (8, [.null, .null, .null, .null, .null, .null, .null, .null, .null, .null, .null, .null, vI 0, .null, .null]))] [.ref h] (fun ws' => StX cI cB cJ h 0 0 0 0 0 zf (fun _ => 0) ws') 66 6871 := by
  refine hdrJ (own := RX9) rfl (by decide +kernel) rfl (Nat.le_of_ble_eq_true rfl) ?_
  intro p e s m args below meth c Q A X hin hQ
  refine g_lvE (lv2 := [(0, .ref h)]) rfl ?_
  refine g_ws (ws2 := ([(h, .inr (8, [.null, .null, .null, .null, .null, .null, .null, .null, .null, .null, .null, .null, vI 0, .null, .null]))] ++ ([] : va_W))) rfl ?_
  refine g_aload_n X dX9_init_0 0 rfl ?_
  refine g_objInit X uw124 uw125 uw126 ⟨by decide, Nat.le_of_ble_eq_true rfl⟩ dX9_init_1 ?_
  refine g_aload_n X dX9_init_4 0 rfl ?_
  refine g_new X (C := RX7) (T := TX7) (N := 7) (ci := 6) (fs := [.null, .null, vI 0, vI 0, vI 0, vI 0, vI 0]) inU_X7 tyX7 tyX7_ok uw127 uw128 uw101 rfl (fun j hj => by rcases (show j = 0 ∨ j = 1 ∨ j = 2 ∨ j = 3 ∨ j = 4 ∨ j = 5 ∨ j = 6 by omega) with rfl | rfl | rfl | rfl | rfl | rfl | rfl <;> rfl) ⟨Nat.le_of_ble_eq_true rfl, Nat.le_of_ble_eq_true rfl⟩ dX9_init_5 (fun a5 => ?_)
  refine g_dup X rfl dX9_init_8 ?_
  refine g_ctorN X (b_X7_init l D cI cB cJ a5) cj_X7_init nw129 ⟨rfl, rfl, by decide, by decide⟩ rfl rfl (Nat.le_of_ble_eq_true rfl) ⟨Nat.le_of_ble_eq_true rfl, Nat.le_of_ble_eq_true rfl⟩ dX9_init_9 (fun w9 hw9 => ?_)
  refine g_ws (ws2 := ([(h, .inr (8, [.null, .null, .null, .null, .null, .null, .null, .null, .null, .null, .null, .null, vI 0, .null, .null]))] ++ (([] : va_W) ++ w9))) rfl ?_
  refine g_putF X hin 0 rfl rfl inU_X9 tyX9 tyX9_ok nmX9 0 (by decide) uw411 rfl rfl rfl rfl rfl (Nat.le_of_ble_eq_true rfl) dX9_init_12 (ws2 := ([(h, .inr (8, [.ref a5, .null, .null, .null, .null, .null, .null, .null, .null, .null, .null, .null, vI 0, .null, .null]))] ++ (([] : va_W) ++ w9))) rfl ?_
  refine g_aload_n X dX9_init_15 0 rfl ?_
  refine g_new X (C := RX1) (T := TX1) (N := 7) (ci := 1) (fs := [vI 0, .null, .null, .null, .null, .null, .null]) inU_X1 tyX1 tyX1_ok uw160 uw161 uw102 rfl (fun j hj => by rcases (show j = 0 ∨ j = 1 ∨ j = 2 ∨ j = 3 ∨ j = 4 ∨ j = 5 ∨ j = 6 by omega) with rfl | rfl | rfl | rfl | rfl | rfl | rfl <;> rfl) ⟨Nat.le_of_ble_eq_true rfl, Nat.le_of_ble_eq_true rfl⟩ dX9_init_16 (fun a16 => ?_)
  refine g_dup X rfl dX9_init_19 ?_
  refine g_ctor X (b_X1_init l D cI cB cJ a16) cj_X1_init uw162 ⟨rfl, rfl, by decide, by decide⟩ rfl rfl (Nat.le_of_ble_eq_true rfl) ⟨Nat.le_of_ble_eq_true rfl, Nat.le_of_ble_eq_true rfl⟩ dX9_init_20 (fun w20 hw20 => ?_)
  refine g_ws (ws2 := ([(h, .inr (8, [.ref a5, .null, .null, .null, .null, .null, .null, .null, .null, .null, .null, .null, vI 0, .null, .null]))] ++ ((([] : va_W) ++ w9) ++ w20))) rfl ?_
  refine gX9_put X 0 rfl 1 (by decide) uw412 rfl rfl rfl (Nat.le_of_ble_eq_true rfl) dX9_init_23 (ws2 := ([(h, .inr (8, [.ref a5, .ref a16, .null, .null, .null, .null, .null, .null, .null, .null, .null, .null, vI 0, .null, .null]))] ++ ((([] : va_W) ++ w9) ++ w20))) rfl ?_
  refine g_aload_n X dX9_init_26 0 rfl ?_
  refine g_new X (C := RX1) (T := TX1) (N := 7) (ci := 1) (fs := [vI 0, .null, .null, .null, .null, .null, .null]) inU_X1 tyX1 tyX1_ok uw160 uw161 uw102 rfl (fun j hj => by rcases (show j = 0 ∨ j = 1 ∨ j = 2 ∨ j = 3 ∨ j = 4 ∨ j = 5 ∨ j = 6 by omega) with rfl | rfl | rfl | rfl | rfl | rfl | rfl <;> rfl) ⟨Nat.le_of_ble_eq_true rfl, Nat.le_of_ble_eq_true rfl⟩ dX9_init_27 (fun a27 => ?_)
  refine g_dup X rfl dX9_init_30 ?_
  refine g_ctor X (b_X1_init l D cI cB cJ a27) cj_X1_init uw162 ⟨rfl, rfl, by decide, by decide⟩ rfl rfl (Nat.le_of_ble_eq_true rfl) ⟨Nat.le_of_ble_eq_true rfl, Nat.le_of_ble_eq_true rfl⟩ dX9_init_31 (fun w31 hw31 => ?_)
  refine g_ws (ws2 := ([(h, .inr (8, [.ref a5, .ref a16, .null, .null, .null, .null, .null, .null, .null, .null, .null, .null, vI 0, .null, .null]))] ++ (((([] : va_W) ++ w9) ++ w20) ++ w31))) rfl ?_
  refine gX9_put X 0 rfl 2 (by decide) uw413 rfl rfl rfl (Nat.le_of_ble_eq_true rfl) dX9_init_34 (ws2 := ([(h, .inr (8, [.ref a5, .ref a16, .ref a27, .null, .null, .null, .null, .null, .null, .null, .null, .null, vI 0, .null, .null]))] ++ (((([] : va_W) ++ w9) ++ w20) ++ w31))) rfl ?_
  refine g_aload_n X dX9_init_37 0 rfl ?_
  refine g_new X (C := RX0) (T := TX0) (N := 4) (ci := 0) (fs := [.null, .null, .null, vI 0]) inU_X0 tyX0 tyX0_ok uw202 uw203 uw103 rfl (fun j hj => by rcases (show j = 0 ∨ j = 1 ∨ j = 2 ∨ j = 3 by omega) with rfl | rfl | rfl | rfl <;> rfl) ⟨Nat.le_of_ble_eq_true rfl, Nat.le_of_ble_eq_true rfl⟩ dX9_init_38 (fun a38 => ?_)
  refine g_dup X rfl dX9_init_41 ?_
  refine g_ctorN X (b_X0_init l D cI cB cJ a38) cj_X0_init nw204 ⟨rfl, rfl, by decide, by decide⟩ rfl rfl (Nat.le_of_ble_eq_true rfl) ⟨Nat.le_of_ble_eq_true rfl, Nat.le_of_ble_eq_true rfl⟩ dX9_init_42 (fun w42 hw42 => ?_)
  refine g_ws (ws2 := ([(h, .inr (8, [.ref a5, .ref a16, .ref a27, .null, .null, .null, .null, .null, .null, .null, .null, .null, vI 0, .null, .null]))] ++ ((((([] : va_W) ++ w9) ++ w20) ++ w31) ++ w42))) rfl ?_
  refine g_putF X hin 0 rfl rfl inU_X9 tyX9 tyX9_ok nmX9 3 (by decide) uw414 rfl rfl rfl rfl rfl (Nat.le_of_ble_eq_true rfl) dX9_init_45 (ws2 := ([(h, .inr (8, [.ref a5, .ref a16, .ref a27, .ref a38, .null, .null, .null, .null, .null, .null, .null, .null, vI 0, .null, .null]))] ++ ((((([] : va_W) ++ w9) ++ w20) ++ w31) ++ w42))) rfl ?_
  refine g_aload_n X dX9_init_48 0 rfl ?_
  refine g_new X (C := RX0) (T := TX0) (N := 4) (ci := 0) (fs := [.null, .null, .null, vI 0]) inU_X0 tyX0 tyX0_ok uw202 uw203 uw103 rfl (fun j hj => by rcases (show j = 0 ∨ j = 1 ∨ j = 2 ∨ j = 3 by omega) with rfl | rfl | rfl | rfl <;> rfl) ⟨Nat.le_of_ble_eq_true rfl, Nat.le_of_ble_eq_true rfl⟩ dX9_init_49 (fun a49 => ?_)
  refine g_dup X rfl dX9_init_52 ?_
  refine g_ctorN X (b_X0_init l D cI cB cJ a49) cj_X0_init nw204 ⟨rfl, rfl, by decide, by decide⟩ rfl rfl (Nat.le_of_ble_eq_true rfl) ⟨Nat.le_of_ble_eq_true rfl, Nat.le_of_ble_eq_true rfl⟩ dX9_init_53 (fun w53 hw53 => ?_)
  refine g_ws (ws2 := ([(h, .inr (8, [.ref a5, .ref a16, .ref a27, .ref a38, .null, .null, .null, .null, .null, .null, .null, .null, vI 0, .null, .null]))] ++ (((((([] : va_W) ++ w9) ++ w20) ++ w31) ++ w42) ++ w53))) rfl ?_
  refine g_putF X hin 0 rfl rfl inU_X9 tyX9 tyX9_ok nmX9 4 (by decide) uw415 rfl rfl rfl rfl rfl (Nat.le_of_ble_eq_true rfl) dX9_init_56 (ws2 := ([(h, .inr (8, [.ref a5, .ref a16, .ref a27, .ref a38, .ref a49, .null, .null, .null, .null, .null, .null, .null, vI 0, .null, .null]))] ++ (((((([] : va_W) ++ w9) ++ w20) ++ w31) ++ w42) ++ w53))) rfl ?_
  refine g_aload_n X dX9_init_59 0 rfl ?_
  refine g_new X (C := RX5) (T := TX5) (N := 2) (ci := 5) (fs := [.null, .null]) inU_X5 tyX5 tyX5_ok uw223 uw224 uw104 rfl (fun j hj => by rcases (show j = 0 ∨ j = 1 by omega) with rfl | rfl <;> rfl) ⟨Nat.le_of_ble_eq_true rfl, Nat.le_of_ble_eq_true rfl⟩ dX9_init_60 (fun a60 => ?_)
  refine g_dup X rfl dX9_init_63 ?_
  refine g_ctorN X (b_X5_init l D cI cB cJ a60) cj_X5_init nw225 ⟨rfl, rfl, by decide, by decide⟩ rfl rfl (Nat.le_of_ble_eq_true rfl) ⟨Nat.le_of_ble_eq_true rfl, Nat.le_of_ble_eq_true rfl⟩ dX9_init_64 (fun w64 hw64 => ?_)
  refine g_ws (ws2 := ([(h, .inr (8, [.ref a5, .ref a16, .ref a27, .ref a38, .ref a49, .null, .null, .null, .null, .null, .null, .null, vI 0, .null, .null]))] ++ ((((((([] : va_W) ++ w9) ++ w20) ++ w31) ++ w42) ++ w53) ++ w64))) rfl ?_
  refine g_putF X hin 0 rfl rfl inU_X9 tyX9 tyX9_ok nmX9 5 (by decide) uw416 rfl rfl rfl rfl rfl (Nat.le_of_ble_eq_true rfl) dX9_init_67 (ws2 := ([(h, .inr (8, [.ref a5, .ref a16, .ref a27, .ref a38, .ref a49, .ref a60, .null, .null, .null, .null, .null, .null, vI 0, .null, .null]))] ++ ((((((([] : va_W) ++ w9) ++ w20) ++ w31) ++ w42) ++ w53) ++ w64))) rfl ?_
  refine g_aload_n X dX9_init_70 0 rfl ?_
  refine g_new X (C := RX3) (T := TX3) (N := 2) (ci := 3) (fs := [.null, .null]) inU_X3 tyX3 tyX3_ok uw236 uw237 uw105 rfl (fun j hj => by rcases (show j = 0 ∨ j = 1 by omega) with rfl | rfl <;> rfl) ⟨Nat.le_of_ble_eq_true rfl, Nat.le_of_ble_eq_true rfl⟩ dX9_init_71 (fun a71 => ?_)
  refine g_dup X rfl dX9_init_74 ?_
  refine g_aload_n X dX9_init_75 0 rfl ?_
  refine gX9_get X 0 rfl 0 (by decide) uw411 rfl dX9_init_76 ?_
  refine g_ctor X (b_X3_init l D cI cB cJ a71 a5) cj_X3_init uw238 ⟨rfl, rfl, by decide, by decide⟩ rfl rfl (Nat.le_of_ble_eq_true rfl) ⟨Nat.le_of_ble_eq_true rfl, Nat.le_of_ble_eq_true rfl⟩ dX9_init_79 (fun w79 hw79 => ?_)
  refine g_ws (ws2 := ([(h, .inr (8, [.ref a5, .ref a16, .ref a27, .ref a38, .ref a49, .ref a60, .null, .null, .null, .null, .null, .null, vI 0, .null, .null]))] ++ (((((((([] : va_W) ++ w9) ++ w20) ++ w31) ++ w42) ++ w53) ++ w64) ++ w79))) rfl ?_
  refine g_putF X hin 0 rfl rfl inU_X9 tyX9 tyX9_ok nmX9 6 (by decide) uw417 rfl rfl rfl rfl rfl (Nat.le_of_ble_eq_true rfl) dX9_init_82 (ws2 := ([(h, .inr (8, [.ref a5, .ref a16, .ref a27, .ref a38, .ref a49, .ref a60, .ref a71, .null, .null, .null, .null, .null, vI 0, .null, .null]))] ++ (((((((([] : va_W) ++ w9) ++ w20) ++ w31) ++ w42) ++ w53) ++ w64) ++ w79))) rfl ?_
  refine g_aload_n X dX9_init_85 0 rfl ?_
  refine g_new X (C := RX2) (T := TX2) (N := 11) (ci := 2) (fs := [vI 0, .null, .null, .null, .null, vI 0, .null, .null, .null, .null, vI 0]) inU_X2 tyX2 tyX2_ok uw249 uw250 uw106 rfl (fun j hj => by rcases (show j = 0 ∨ j = 1 ∨ j = 2 ∨ j = 3 ∨ j = 4 ∨ j = 5 ∨ j = 6 ∨ j = 7 ∨ j = 8 ∨ j = 9 ∨ j = 10 by omega) with rfl | rfl | rfl | rfl | rfl | rfl | rfl | rfl | rfl | rfl | rfl <;> rfl) ⟨Nat.le_of_ble_eq_true rfl, Nat.le_of_ble_eq_true rfl⟩ dX9_init_86 (fun a86 => ?_)
  refine g_dup X rfl dX9_init_89 ?_
  refine g_ctorN X (b_X2_init l D cI cB cJ a86) cj_X2_init nw251 ⟨rfl, rfl, by decide, by decide⟩ rfl rfl (Nat.le_of_ble_eq_true rfl) ⟨Nat.le_of_ble_eq_true rfl, Nat.le_of_ble_eq_true rfl⟩ dX9_init_90 (fun w90 hw90 => ?_)
  refine g_ws (ws2 := ([(h, .inr (8, [.ref a5, .ref a16, .ref a27, .ref a38, .ref a49, .ref a60, .ref a71, .null, .null, .null, .null, .null, vI 0, .null, .null]))] ++ ((((((((([] : va_W) ++ w9) ++ w20) ++ w31) ++ w42) ++ w53) ++ w64) ++ w79) ++ w90))) rfl ?_
  refine gX9_put X 0 rfl 7 (by decide) uw418 rfl rfl rfl (Nat.le_of_ble_eq_true rfl) dX9_init_93 (ws2 := ([(h, .inr (8, [.ref a5, .ref a16, .ref a27, .ref a38, .ref a49, .ref a60, .ref a71, .ref a86, .null, .null, .null, .null, vI 0, .null, .null]))] ++ ((((((((([] : va_W) ++ w9) ++ w20) ++ w31) ++ w42) ++ w53) ++ w64) ++ w79) ++ w90))) rfl ?_
  refine g_aload_n X dX9_init_96 0 rfl ?_
  refine g_new X (C := RX2) (T := TX2) (N := 11) (ci := 2) (fs := [vI 0, .null, .null, .null, .null, vI 0, .null, .null, .null, .null, vI 0]) inU_X2 tyX2 tyX2_ok uw249 uw250 uw106 rfl (fun j hj => by rcases (show j = 0 ∨ j = 1 ∨ j = 2 ∨ j = 3 ∨ j = 4 ∨ j = 5 ∨ j = 6 ∨ j = 7 ∨ j = 8 ∨ j = 9 ∨ j = 10 by omega) with rfl | rfl | rfl | rfl | rfl | rfl | rfl | rfl | rfl | rfl | rfl <;> rfl) ⟨Nat.le_of_ble_eq_true rfl, Nat.le_of_ble_eq_true rfl⟩ dX9_init_97 (fun a97 => ?_)
  refine g_dup X rfl dX9_init_100 ?_
  refine g_ctorN X (b_X2_init l D cI cB cJ a97) cj_X2_init nw251 ⟨rfl, rfl, by decide, by decide⟩ rfl rfl (Nat.le_of_ble_eq_true rfl) ⟨Nat.le_of_ble_eq_true rfl, Nat.le_of_ble_eq_true rfl⟩ dX9_init_101 (fun w101 hw101 => ?_)
  refine g_ws (ws2 := ([(h, .inr (8, [.ref a5, .ref a16, .ref a27, .ref a38, .ref a49, .ref a60, .ref a71, .ref a86, .null, .null, .null, .null, vI 0, .null, .null]))] ++ (((((((((([] : va_W) ++ w9) ++ w20) ++ w31) ++ w42) ++ w53) ++ w64) ++ w79) ++ w90) ++ w101))) rfl ?_
  refine gX9_put X 0 rfl 8 (by decide) uw419 rfl rfl rfl (Nat.le_of_ble_eq_true rfl) dX9_init_104 (ws2 := ([(h, .inr (8, [.ref a5, .ref a16, .ref a27, .ref a38, .ref a49, .ref a60, .ref a71, .ref a86, .ref a97, .null, .null, .null, vI 0, .null, .null]))] ++ (((((((((([] : va_W) ++ w9) ++ w20) ++ w31) ++ w42) ++ w53) ++ w64) ++ w79) ++ w90) ++ w101))) rfl ?_
  refine g_aload_n X dX9_init_107 0 rfl ?_
  refine g_new X (C := RX4) (T := TX4) (N := 10) (ci := 4) (fs := [vI 0, .null, .null, .null, .null, vI 0, vI 0, vI 0, vI 0, vI 0]) inU_X4 tyX4 tyX4_ok uw304 uw305 uw108 rfl (fun j hj => by rcases (show j = 0 ∨ j = 1 ∨ j = 2 ∨ j = 3 ∨ j = 4 ∨ j = 5 ∨ j = 6 ∨ j = 7 ∨ j = 8 ∨ j = 9 by omega) with rfl | rfl | rfl | rfl | rfl | rfl | rfl | rfl | rfl | rfl <;> rfl) ⟨Nat.le_of_ble_eq_true rfl, Nat.le_of_ble_eq_true rfl⟩ dX9_init_108 (fun a108 => ?_)
  refine g_dup X rfl dX9_init_111 ?_
  refine g_ctorN X (b_X4_init l D cI cB cJ a108) cj_X4_init nw306 ⟨rfl, rfl, by decide, by decide⟩ rfl rfl (Nat.le_of_ble_eq_true rfl) ⟨Nat.le_of_ble_eq_true rfl, Nat.le_of_ble_eq_true rfl⟩ dX9_init_112 (fun w112 hw112 => ?_)
  refine g_ws (ws2 := ([(h, .inr (8, [.ref a5, .ref a16, .ref a27, .ref a38, .ref a49, .ref a60, .ref a71, .ref a86, .ref a97, .null, .null, .null, vI 0, .null, .null]))] ++ ((((((((((([] : va_W) ++ w9) ++ w20) ++ w31) ++ w42) ++ w53) ++ w64) ++ w79) ++ w90) ++ w101) ++ w112))) rfl ?_
  refine g_putF X hin 0 rfl rfl inU_X9 tyX9 tyX9_ok nmX9 9 (by decide) uw420 rfl rfl rfl rfl rfl (Nat.le_of_ble_eq_true rfl) dX9_init_115 (ws2 := ([(h, .inr (8, [.ref a5, .ref a16, .ref a27, .ref a38, .ref a49, .ref a60, .ref a71, .ref a86, .ref a97, .ref a108, .null, .null, vI 0, .null, .null]))] ++ ((((((((((([] : va_W) ++ w9) ++ w20) ++ w31) ++ w42) ++ w53) ++ w64) ++ w79) ++ w90) ++ w101) ++ w112))) rfl ?_
  refine g_aload_n X dX9_init_118 0 rfl ?_
  refine g_new X (C := RX4) (T := TX4) (N := 10) (ci := 4) (fs := [vI 0, .null, .null, .null, .null, vI 0, vI 0, vI 0, vI 0, vI 0]) inU_X4 tyX4 tyX4_ok uw304 uw305 uw108 rfl (fun j hj => by rcases (show j = 0 ∨ j = 1 ∨ j = 2 ∨ j = 3 ∨ j = 4 ∨ j = 5 ∨ j = 6 ∨ j = 7 ∨ j = 8 ∨ j = 9 by omega) with rfl | rfl | rfl | rfl | rfl | rfl | rfl | rfl | rfl | rfl <;> rfl) ⟨Nat.le_of_ble_eq_true rfl, Nat.le_of_ble_eq_true rfl⟩ dX9_init_119 (fun a119 => ?_)
  refine g_dup X rfl dX9_init_122 ?_
  refine g_ctorN X (b_X4_init l D cI cB cJ a119) cj_X4_init nw306 ⟨rfl, rfl, by decide, by decide⟩ rfl rfl (Nat.le_of_ble_eq_true rfl) ⟨Nat.le_of_ble_eq_true rfl, Nat.le_of_ble_eq_true rfl⟩ dX9_init_123 (fun w123 hw123 => ?_)
  refine g_ws (ws2 := ([(h, .inr (8, [.ref a5, .ref a16, .ref a27, .ref a38, .ref a49, .ref a60, .ref a71, .ref a86, .ref a97, .ref a108, .null, .null, vI 0, .null, .null]))] ++ (((((((((((([] : va_W) ++ w9) ++ w20) ++ w31) ++ w42) ++ w53) ++ w64) ++ w79) ++ w90) ++ w101) ++ w112) ++ w123))) rfl ?_
  refine g_putF X hin 0 rfl rfl inU_X9 tyX9 tyX9_ok nmX9 10 (by decide) uw421 rfl rfl rfl rfl rfl (Nat.le_of_ble_eq_true rfl) dX9_init_126 (ws2 := ([(h, .inr (8, [.ref a5, .ref a16, .ref a27, .ref a38, .ref a49, .ref a60, .ref a71, .ref a86, .ref a97, .ref a108, .ref a119, .null, vI 0, .null, .null]))] ++ (((((((((((([] : va_W) ++ w9) ++ w20) ++ w31) ++ w42) ++ w53) ++ w64) ++ w79) ++ w90) ++ w101) ++ w112) ++ w123))) rfl ?_
  refine g_aload_n X dX9_init_129 0 rfl ?_
  refine g_new X (C := RX4) (T := TX4) (N := 10) (ci := 4) (fs := [vI 0, .null, .null, .null, .null, vI 0, vI 0, vI 0, vI 0, vI 0]) inU_X4 tyX4 tyX4_ok uw304 uw305 uw108 rfl (fun j hj => by rcases (show j = 0 ∨ j = 1 ∨ j = 2 ∨ j = 3 ∨ j = 4 ∨ j = 5 ∨ j = 6 ∨ j = 7 ∨ j = 8 ∨ j = 9 by omega) with rfl | rfl | rfl | rfl | rfl | rfl | rfl | rfl | rfl | rfl <;> rfl) ⟨Nat.le_of_ble_eq_true rfl, Nat.le_of_ble_eq_true rfl⟩ dX9_init_130 (fun a130 => ?_)
  refine g_dup X rfl dX9_init_133 ?_
  refine g_ctorN X (b_X4_init l D cI cB cJ a130) cj_X4_init nw306 ⟨rfl, rfl, by decide, by decide⟩ rfl rfl (Nat.le_of_ble_eq_true rfl) ⟨Nat.le_of_ble_eq_true rfl, Nat.le_of_ble_eq_true rfl⟩ dX9_init_134 (fun w134 hw134 => ?_)
  refine g_ws (ws2 := ([(h, .inr (8, [.ref a5, .ref a16, .ref a27, .ref a38, .ref a49, .ref a60, .ref a71, .ref a86, .ref a97, .ref a108, .ref a119, .null, vI 0, .null, .null]))] ++ ((((((((((((([] : va_W) ++ w9) ++ w20) ++ w31) ++ w42) ++ w53) ++ w64) ++ w79) ++ w90) ++ w101) ++ w112) ++ w123) ++ w134))) rfl ?_
  refine g_putF X hin 0 rfl rfl inU_X9 tyX9 tyX9_ok nmX9 11 (by decide) uw422 rfl rfl rfl rfl rfl (Nat.le_of_ble_eq_true rfl) dX9_init_137 (ws2 := ([(h, .inr (8, [.ref a5, .ref a16, .ref a27, .ref a38, .ref a49, .ref a60, .ref a71, .ref a86, .ref a97, .ref a108, .ref a119, .ref a130, vI 0, .null, .null]))] ++ ((((((((((((([] : va_W) ++ w9) ++ w20) ++ w31) ++ w42) ++ w53) ++ w64) ++ w79) ++ w90) ++ w101) ++ w112) ++ w123) ++ w134))) rfl ?_
  refine g_aload_n X dX9_init_140 0 rfl ?_
  refine g_iconst X dX9_init_141 ?_
  refine gX9_put X 0 rfl 12 (by decide) uw423 rfl (zI_bool (by omega)) (zI_bfit (by omega)) (Nat.le_of_ble_eq_true rfl) dX9_init_142 (ws2 := ([(h, .inr (8, [.ref a5, .ref a16, .ref a27, .ref a38, .ref a49, .ref a60, .ref a71, .ref a86, .ref a97, .ref a108, .ref a119, .ref a130, vI 0, .null, .null]))] ++ ((((((((((((([] : va_W) ++ w9) ++ w20) ++ w31) ++ w42) ++ w53) ++ w64) ++ w79) ++ w90) ++ w101) ++ w112) ++ w123) ++ w134))) rfl ?_
  refine g_aload_n X dX9_init_145 0 rfl ?_
  refine g_new X (C := RX8) (T := TX8) (N := 4) (ci := 7) (fs := [vI 0, vI 0, .null, .null]) inU_X8 tyX8 tyX8_ok uw356 uw357 uw109 rfl (fun j hj => by rcases (show j = 0 ∨ j = 1 ∨ j = 2 ∨ j = 3 by omega) with rfl | rfl | rfl | rfl <;> rfl) ⟨Nat.le_of_ble_eq_true rfl, Nat.le_of_ble_eq_true rfl⟩ dX9_init_146 (fun a146 => ?_)
  refine g_dup X rfl dX9_init_149 ?_
  refine g_ctorN X (b_X8_init l D cI cB cJ a146) cj_X8_init nw358 ⟨rfl, rfl, by decide, by decide⟩ rfl rfl (Nat.le_of_ble_eq_true rfl) ⟨Nat.le_of_ble_eq_true rfl, Nat.le_of_ble_eq_true rfl⟩ dX9_init_150 (fun w150 hw150 => ?_)
  refine g_ws (ws2 := ([(h, .inr (8, [.ref a5, .ref a16, .ref a27, .ref a38, .ref a49, .ref a60, .ref a71, .ref a86, .ref a97, .ref a108, .ref a119, .ref a130, vI 0, .null, .null]))] ++ (((((((((((((([] : va_W) ++ w9) ++ w20) ++ w31) ++ w42) ++ w53) ++ w64) ++ w79) ++ w90) ++ w101) ++ w112) ++ w123) ++ w134) ++ w150))) rfl ?_
  refine g_putF X hin 0 rfl rfl inU_X9 tyX9 tyX9_ok nmX9 13 (by decide) uw424 rfl rfl rfl rfl rfl (Nat.le_of_ble_eq_true rfl) dX9_init_153 (ws2 := ([(h, .inr (8, [.ref a5, .ref a16, .ref a27, .ref a38, .ref a49, .ref a60, .ref a71, .ref a86, .ref a97, .ref a108, .ref a119, .ref a130, vI 0, .ref a146, .null]))] ++ (((((((((((((([] : va_W) ++ w9) ++ w20) ++ w31) ++ w42) ++ w53) ++ w64) ++ w79) ++ w90) ++ w101) ++ w112) ++ w123) ++ w134) ++ w150))) rfl ?_
  refine g_aload_n X dX9_init_156 0 rfl ?_
  refine g_sipush X (z := 4096) dX9_init_157 (by decide) ?_
  refine g_newaI X 4096 rfl (by decide) uw159 ⟨Nat.le_of_ble_eq_true rfl, Nat.le_of_ble_eq_true rfl⟩ dX9_init_160 (fun a160 => ?_)
  refine g_ws (ws2 := ([(h, .inr (8, [.ref a5, .ref a16, .ref a27, .ref a38, .ref a49, .ref a60, .ref a71, .ref a86, .ref a97, .ref a108, .ref a119, .ref a130, vI 0, .ref a146, .null]))] ++ ((((((((((((((([] : va_W) ++ w9) ++ w20) ++ w31) ++ w42) ++ w53) ++ w64) ++ w79) ++ w90) ++ w101) ++ w112) ++ w123) ++ w134) ++ w150) ++ [(a160, eI cI 4096 zf)]))) rfl ?_
  refine g_putF X hin 0 rfl rfl inU_X9 tyX9 tyX9_ok nmX9 14 (by decide) uw425 rfl rfl rfl rfl rfl (Nat.le_of_ble_eq_true rfl) dX9_init_162 (ws2 := ([(h, .inr (8, [.ref a5, .ref a16, .ref a27, .ref a38, .ref a49, .ref a60, .ref a71, .ref a86, .ref a97, .ref a108, .ref a119, .ref a130, vI 0, .ref a146, .ref a160]))] ++ ((((((((((((((([] : va_W) ++ w9) ++ w20) ++ w31) ++ w42) ++ w53) ++ w64) ++ w79) ++ w90) ++ w101) ++ w112) ++ w123) ++ w134) ++ w150) ++ [(a160, eI cI 4096 zf)]))) rfl ?_
  refine g_aload_n X dX9_init_165 0 rfl ?_
  refine gX9_get X 0 rfl 3 (by decide) uw414 rfl dX9_init_166 ?_
  refine g_aload_n X dX9_init_169 0 rfl ?_
  refine gX9_get X 0 rfl 1 (by decide) uw412 rfl dX9_init_170 ?_
  refine g_iconst X dX9_init_173 ?_
  obtain ⟨q_bo, v_bo_canHold, v_bo_direct, v_bo_byAll, v_bo_more, F_bo_canHold, F_bo_direct, F_bo_byAll, F_bo_more, LC_bo, rfl⟩ := hw42
  obtain ⟨q_cl, v_cl_size, v_cl_first, v_cl_second, v_cl_kind, v_cl_number, v_cl_group, v_cl_over, F_cl_size, F_cl_first, F_cl_second, F_cl_kind, F_cl_number, F_cl_group, F_cl_over, LC_cl, rfl, rfl⟩ := hw20
  have hperm : ([(h, .inr (8, [.ref a5, .ref a16, .ref a27, .ref a38, .ref a49, .ref a60, .ref a71, .ref a86, .ref a97, .ref a108, .ref a119, .ref a130, vI 0, .ref a146, .ref a160]))] ++ ((((((((((((((([] : va_W) ++ w9) ++ (wX1 cI cB cJ a16 q_cl 0 v_cl_first v_cl_second v_cl_kind v_cl_number v_cl_group v_cl_over)) ++ w31) ++ (wX0 cI cB cJ a38 q_bo v_bo_canHold v_bo_direct v_bo_byAll v_bo_more)) ++ w53) ++ w64) ++ w79) ++ w90) ++ w101) ++ w112) ++ w123) ++ w134) ++ w150) ++ [(a160, eI cI 4096 zf)]) : va_W).Perm ((wX0 cI cB cJ a38 q_bo v_bo_canHold v_bo_direct v_bo_byAll v_bo_more ++ wX1 cI cB cJ a16 q_cl 0 v_cl_first v_cl_second v_cl_kind v_cl_number v_cl_group v_cl_over) ++ ([(h, .inr (8, [.ref a5, .ref a16, .ref a27, .ref a38, .ref a49, .ref a60, .ref a71, .ref a86, .ref a97, .ref a108, .ref a119, .ref a130, vI 0, .ref a146, .ref a160]))] ++ (w9 ++ w31 ++ w53 ++ w64 ++ w79 ++ w90 ++ w101 ++ w112 ++ w123 ++ w134 ++ w150 ++ [(a160, eI cI 4096 zf)]))) := va_permc _ _ (fun p => by simp only [List.countP_append, List.countP_nil]; omega)
  obtain ⟨k0, hk0⟩ := va_memI (hperm.mem_iff.mpr (List.mem_append_left _ (List.mem_append_left _ (List.mem_cons_self : (a38, _) ∈ wX0 cI cB cJ a38 q_bo v_bo_canHold v_bo_direct v_bo_byAll v_bo_more))))
  refine g_callVV0 X (CtV.frame (wr := ([(h, .inr (8, [.ref a5, .ref a16, .ref a27, .ref a38, .ref a49, .ref a60, .ref a71, .ref a86, .ref a97, .ref a108, .ref a119, .ref a130, vI 0, .ref a146, .ref a160]))] ++ (w9 ++ w31 ++ w53 ++ w64 ++ w79 ++ w90 ++ w101 ++ w112 ++ w123 ++ w134 ++ w150 ++ [(a160, eI cI 4096 zf)]))) (c_X0_follow l D cI cB cJ a38 q_bo a16 q_cl (v_canHold := v_bo_canHold) (v_direct := v_bo_direct) (v_byAll := v_bo_byAll) (v_more := v_bo_more) (v_cl_size := 0) (v_cl_first := v_cl_first) (v_cl_second := v_cl_second) (v_cl_kind := v_cl_kind) (v_cl_number := v_cl_number) (v_cl_group := v_cl_group) (v_cl_over := v_cl_over) (p1 := (-1)) F_bo_canHold F_bo_direct F_bo_byAll F_cl_size F_cl_first F_cl_second F_cl_kind F_cl_number (by omega) (fun j hj => absurd hj (by omega))) hperm) cv_X0_follow uw377 ⟨rfl, rfl, by decide, by decide⟩ k0 hk0 rfl rfl rfl rfl (Nat.le_of_ble_eq_true rfl) ⟨Nat.le_of_ble_eq_true rfl, Nat.le_of_ble_eq_true rfl⟩ dX9_init_174 (fun ws174 k174 => ?_)
  obtain ⟨w1, k1, rfl⟩ := k174
  obtain ⟨bo_canHold_174, bo_direct_174, bo_byAll_174, kr_bo_canHold_174, r_bo_direct_174, r_bo_byAll_174, kp0_174, kp1_174, kp2_174, rfl⟩ := k1
  exact hQ _ _ _ dX9_init_177 ⟨a5, a16, a27, a38, a49, a60, a71, a86, a97, a108, a119, a130, a146, 0, _, _, _, _, _, _, (([(h, .inr (8, [.ref a5, .ref a16, .ref a27, .ref a38, .ref a49, .ref a60, .ref a71, .ref a86, .ref a97, .ref a108, .ref a119, .ref a130, vI 0, .ref a146, .ref a160]))] ++ [(a160, eI cI 4096 zf)] : va_W)), w9, _, w31, _, w53, w64, w79, w90, w101, w112, w123, w134, w150, ⟨qL [a160], 0, zf, by omega, RA_zf (by omega), rfl, rfl⟩, hw9, ⟨q_cl, 0, v_cl_first, v_cl_second, v_cl_kind, v_cl_number, v_cl_group, v_cl_over, F_cl_size, F_cl_first, F_cl_second, F_cl_kind, F_cl_number, F_cl_group, F_cl_over, LC_cl, rfl, rfl⟩, hw31, ⟨q_bo, bo_canHold_174, bo_direct_174, bo_byAll_174, v_bo_more, kr_bo_canHold_174, r_bo_direct_174, r_bo_byAll_174, F_bo_more, (BOd.of rfl kp0_174 kp1_174 kp2_174), rfl⟩, hw53, hw64, hw79, hw90, hw101, hw112, hw123, hw134, hw150, (va_permc _ _ (fun p => by simp only [List.countP_append, List.countP_nil]; omega))⟩
