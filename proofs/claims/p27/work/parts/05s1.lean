set_option maxHeartbeats 600000 in
set_option maxRecDepth 100000 in
theorem c_J7_fill_53178_2 (l : Launch) (D : va_G) (cI cB cJ : ClassId) (r_row : Nat) {v_row : Nat → Int} {p1 : Int} (r_v_row : RA (-2147483648) 2147483647 v_row) (hp0 : IR p1) : CtV l yJ7_fill_53178 cJ7_fill_53178 4 none ⟨0, 0, 0, 0⟩ D (TY cI cB cJ) (wA cI 2 r_row v_row) [.ref r_row, vI p1] (fun ws' => ∃ n_row : Nat → Int, (RA (-2147483648) 2147483647 n_row) ∧ (∀ j : Nat, (j : Int) < 2 → n_row j = p1) ∧ (ws' = (wA cI 2 r_row n_row))) := by
  refine hdrV (own := RJ7) rfl (by decide +kernel) (Nat.le_of_ble_eq_true rfl) ?_
  intro p e s m args below meth c Q A X hQ
  refine g_lvE (lv2 := [(0, .ref r_row), (1, vI p1)]) rfl ?_
  refine g_iconst X dJ7_fill_53178_0 ?_
  refine g_istore_n X (lv' := [(2, vI 0), (0, .ref r_row), (1, vI p1)]) dJ7_fill_53178_1 (by decide) rfl ?_
  refine g_aload_n X dJ7_fill_53178_2 1 rfl ?_
  refine g_alen X 0 0 rfl rfl (z := 2) rfl dJ7_fill_53178_3 ?_
  refine g_istore_n X (lv' := [(3, vI 2), (2, vI 0), (0, .ref r_row), (1, vI p1)]) dJ7_fill_53178_4 (by decide) rfl ?_
  have L5 : ∀ (n : Nat) (x2_5 : Int) (row_5 : Nat → Int), (RA (-2147483648) 2147483647 row_5) → (0 ≤ x2_5 ∧ x2_5 ≤ 2) → (∀ j : Nat, (j : Int) < x2_5 → row_5 j = p1) → (2 - x2_5).toNat < n → GG p l e ⟨0, 0, 0, 0⟩ s m args below meth c 0 0 Q D A s.heap 4 (wA cI 2 r_row row_5) 5 [(0, .ref r_row), (1, vI p1), (2, vI x2_5), (3, vI 2)] [] := by
    intro n
    induction n with
    | zero => intros; exfalso; omega
    | succ n ih5 =>
      intro x2_5 row_5 r_row_5 w5_0 w5_1 wm5
      refine g_iload_n X dJ7_fill_53178_5 2 rfl ?_
      refine g_iload_n X dJ7_fill_53178_6 3 rfl ?_
      refine g_icmp_ge X (tgt := 20) dJ7_fill_53178_7 (by decide) (by omega) (by omega) (fun c7 => ?_) (fun c7 => ?_)
      · exact hQ _ _ _ dJ7_fill_53178_20 ⟨row_5, r_row_5, (by intro j hj; exact w5_1 j (by omega)), rfl⟩
      · refine g_aload_n X dJ7_fill_53178_10 0 rfl ?_
        refine g_iload_n X dJ7_fill_53178_11 2 rfl ?_
        refine g_iload_n X dJ7_fill_53178_12 1 rfl ?_
        refine g_iast X 0 0 rfl rfl (by omega) (by decide) dJ7_fill_53178_13 (fun row_13 e13 => ?_)
        have r_row_13 : RA (-2147483648) 2147483647 row_13 := by rw [e13]; exact RA_up r_row_5 (by omega)
        refine g_ws (ws2 := (wA cI 2 r_row row_13)) rfl ?_
        refine g_iinc X (lv' := [(2, vI (x2_5 + 1)), (0, .ref r_row), (1, vI p1), (3, vI 2)]) dJ7_fill_53178_14 2 rfl (by decide) rfl ?_
        refine g_goto X (tgt := 5) dJ7_fill_53178_17 (by decide) ?_
        refine g_lv [1, 2, 0, 3] rfl ?_
        exact ih5 (x2_5 + 1) row_13 r_row_13 (by first | assumption | omega) (by intro j hj; first | (exfalso; omega) | (rw [e13]; exact if hq : j = (x2_5).toNat then by (rw [hq, updZ_s]) else by (rw [updZ_n _ _ hq]; exact w5_1 j (by omega)))) (by omega)
  refine g_lv [2, 3, 1, 0] rfl ?_
  exact L5 _ 0 v_row r_v_row (by first | assumption | omega) (by intro j hj; first | (exfalso; omega) | (rw [e13]; exact if hq : j = (x2_5).toNat then by (rw [hq, updZ_s]) else by (rw [updZ_n _ _ hq]; exact w5_1 j (by omega)))) (Nat.lt_succ_self _)
set_option maxHeartbeats 600000 in
set_option maxRecDepth 100000 in
theorem c_J7_fill_53178_3 (l : Launch) (D : va_G) (cI cB cJ : ClassId) (r_row : Nat) {v_row : Nat → Int} {p1 : Int} (r_v_row : RA (-2147483648) 2147483647 v_row) (hp0 : IR p1) : CtV l yJ7_fill_53178 cJ7_fill_53178 4 none ⟨0, 0, 0, 0⟩ D (TY cI cB cJ) (wA cI 3 r_row v_row) [.ref r_row, vI p1] (fun ws' => ∃ n_row : Nat → Int, (RA (-2147483648) 2147483647 n_row) ∧ (∀ j : Nat, (j : Int) < 3 → n_row j = p1) ∧ (ws' = (wA cI 3 r_row n_row))) := by
  refine hdrV (own := RJ7) rfl (by decide +kernel) (Nat.le_of_ble_eq_true rfl) ?_
  intro p e s m args below meth c Q A X hQ
  refine g_lvE (lv2 := [(0, .ref r_row), (1, vI p1)]) rfl ?_
  refine g_iconst X dJ7_fill_53178_0 ?_
  refine g_istore_n X (lv' := [(2, vI 0), (0, .ref r_row), (1, vI p1)]) dJ7_fill_53178_1 (by decide) rfl ?_
  refine g_aload_n X dJ7_fill_53178_2 1 rfl ?_
  refine g_alen X 0 0 rfl rfl (z := 3) rfl dJ7_fill_53178_3 ?_
  refine g_istore_n X (lv' := [(3, vI 3), (2, vI 0), (0, .ref r_row), (1, vI p1)]) dJ7_fill_53178_4 (by decide) rfl ?_
  have L5 : ∀ (n : Nat) (x2_5 : Int) (row_5 : Nat → Int), (RA (-2147483648) 2147483647 row_5) → (0 ≤ x2_5 ∧ x2_5 ≤ 3) → (∀ j : Nat, (j : Int) < x2_5 → row_5 j = p1) → (3 - x2_5).toNat < n → GG p l e ⟨0, 0, 0, 0⟩ s m args below meth c 0 0 Q D A s.heap 4 (wA cI 3 r_row row_5) 5 [(0, .ref r_row), (1, vI p1), (2, vI x2_5), (3, vI 3)] [] := by
    intro n
    induction n with
    | zero => intros; exfalso; omega
    | succ n ih5 =>
      intro x2_5 row_5 r_row_5 w5_0 w5_1 wm5
      refine g_iload_n X dJ7_fill_53178_5 2 rfl ?_
      refine g_iload_n X dJ7_fill_53178_6 3 rfl ?_
      refine g_icmp_ge X (tgt := 20) dJ7_fill_53178_7 (by decide) (by omega) (by omega) (fun c7 => ?_) (fun c7 => ?_)
      · exact hQ _ _ _ dJ7_fill_53178_20 ⟨row_5, r_row_5, (by intro j hj; exact w5_1 j (by omega)), rfl⟩
      · refine g_aload_n X dJ7_fill_53178_10 0 rfl ?_
        refine g_iload_n X dJ7_fill_53178_11 2 rfl ?_
        refine g_iload_n X dJ7_fill_53178_12 1 rfl ?_
        refine g_iast X 0 0 rfl rfl (by omega) (by decide) dJ7_fill_53178_13 (fun row_13 e13 => ?_)
        have r_row_13 : RA (-2147483648) 2147483647 row_13 := by rw [e13]; exact RA_up r_row_5 (by omega)
        refine g_ws (ws2 := (wA cI 3 r_row row_13)) rfl ?_
        refine g_iinc X (lv' := [(2, vI (x2_5 + 1)), (0, .ref r_row), (1, vI p1), (3, vI 3)]) dJ7_fill_53178_14 2 rfl (by decide) rfl ?_
        refine g_goto X (tgt := 5) dJ7_fill_53178_17 (by decide) ?_
        refine g_lv [1, 2, 0, 3] rfl ?_
        exact ih5 (x2_5 + 1) row_13 r_row_13 (by first | assumption | omega) (by intro j hj; first | (exfalso; omega) | (rw [e13]; exact if hq : j = (x2_5).toNat then by (rw [hq, updZ_s]) else by (rw [updZ_n _ _ hq]; exact w5_1 j (by omega)))) (by omega)
  refine g_lv [2, 3, 1, 0] rfl ?_
  exact L5 _ 0 v_row r_v_row (by first | assumption | omega) (by intro j hj; first | (exfalso; omega) | (rw [e13]; exact if hq : j = (x2_5).toNat then by (rw [hq, updZ_s]) else by (rw [updZ_n _ _ hq]; exact w5_1 j (by omega)))) (Nat.lt_succ_self _)
set_option maxHeartbeats 600000 in
set_option maxRecDepth 100000 in
theorem c_J7_fill_53178_4 (l : Launch) (D : va_G) (cI cB cJ : ClassId) (r_row : Nat) {v_row : Nat → Int} {p1 : Int} (r_v_row : RA (-2147483648) 2147483647 v_row) (hp0 : IR p1) : CtV l yJ7_fill_53178 cJ7_fill_53178 4 none ⟨0, 0, 0, 0⟩ D (TY cI cB cJ) (wA cI 4 r_row v_row) [.ref r_row, vI p1] (fun ws' => ∃ n_row : Nat → Int, (RA (-2147483648) 2147483647 n_row) ∧ (∀ j : Nat, (j : Int) < 4 → n_row j = p1) ∧ (ws' = (wA cI 4 r_row n_row))) := by
  refine hdrV (own := RJ7) rfl (by decide +kernel) (Nat.le_of_ble_eq_true rfl) ?_
  intro p e s m args below meth c Q A X hQ
  refine g_lvE (lv2 := [(0, .ref r_row), (1, vI p1)]) rfl ?_
  refine g_iconst X dJ7_fill_53178_0 ?_
  refine g_istore_n X (lv' := [(2, vI 0), (0, .ref r_row), (1, vI p1)]) dJ7_fill_53178_1 (by decide) rfl ?_
  refine g_aload_n X dJ7_fill_53178_2 1 rfl ?_
  refine g_alen X 0 0 rfl rfl (z := 4) rfl dJ7_fill_53178_3 ?_
  refine g_istore_n X (lv' := [(3, vI 4), (2, vI 0), (0, .ref r_row), (1, vI p1)]) dJ7_fill_53178_4 (by decide) rfl ?_
  have L5 : ∀ (n : Nat) (x2_5 : Int) (row_5 : Nat → Int), (RA (-2147483648) 2147483647 row_5) → (0 ≤ x2_5 ∧ x2_5 ≤ 4) → (∀ j : Nat, (j : Int) < x2_5 → row_5 j = p1) → (4 - x2_5).toNat < n → GG p l e ⟨0, 0, 0, 0⟩ s m args below meth c 0 0 Q D A s.heap 4 (wA cI 4 r_row row_5) 5 [(0, .ref r_row), (1, vI p1), (2, vI x2_5), (3, vI 4)] [] := by
    intro n
    induction n with
    | zero => intros; exfalso; omega
    | succ n ih5 =>
      intro x2_5 row_5 r_row_5 w5_0 w5_1 wm5
      refine g_iload_n X dJ7_fill_53178_5 2 rfl ?_
      refine g_iload_n X dJ7_fill_53178_6 3 rfl ?_
      refine g_icmp_ge X (tgt := 20) dJ7_fill_53178_7 (by decide) (by omega) (by omega) (fun c7 => ?_) (fun c7 => ?_)
      · exact hQ _ _ _ dJ7_fill_53178_20 ⟨row_5, r_row_5, (by intro j hj; exact w5_1 j (by omega)), rfl⟩
      · refine g_aload_n X dJ7_fill_53178_10 0 rfl ?_
        refine g_iload_n X dJ7_fill_53178_11 2 rfl ?_
        refine g_iload_n X dJ7_fill_53178_12 1 rfl ?_
        refine g_iast X 0 0 rfl rfl (by omega) (by decide) dJ7_fill_53178_13 (fun row_13 e13 => ?_)
        have r_row_13 : RA (-2147483648) 2147483647 row_13 := by rw [e13]; exact RA_up r_row_5 (by omega)
        refine g_ws (ws2 := (wA cI 4 r_row row_13)) rfl ?_
        refine g_iinc X (lv' := [(2, vI (x2_5 + 1)), (0, .ref r_row), (1, vI p1), (3, vI 4)]) dJ7_fill_53178_14 2 rfl (by decide) rfl ?_
        refine g_goto X (tgt := 5) dJ7_fill_53178_17 (by decide) ?_
        refine g_lv [1, 2, 0, 3] rfl ?_
        exact ih5 (x2_5 + 1) row_13 r_row_13 (by first | assumption | omega) (by intro j hj; first | (exfalso; omega) | (rw [e13]; exact if hq : j = (x2_5).toNat then by (rw [hq, updZ_s]) else by (rw [updZ_n _ _ hq]; exact w5_1 j (by omega)))) (by omega)
  refine g_lv [2, 3, 1, 0] rfl ?_
  exact L5 _ 0 v_row r_v_row (by first | assumption | omega) (by intro j hj; first | (exfalso; omega) | (rw [e13]; exact if hq : j = (x2_5).toNat then by (rw [hq, updZ_s]) else by (rw [updZ_n _ _ hq]; exact w5_1 j (by omega)))) (Nat.lt_succ_self _)
set_option maxHeartbeats 1000000 in
set_option maxRecDepth 100000 in
theorem s_X6_bestRiseOf_2 {p : Program} {l : Launch} {e : Env} {s : State} {m : MethodId} {args : Array Value} {below : List Frame} {meth : Method} {c : Code} {Q : State → Prop} {A : Nat → Prop} {D : va_G} {cI cB cJ : ClassId} {cc0 ss0 : Nat} (X : CX p m c cX6_bestRiseOf 7 s args RX6 D (TY cI cB cJ) A s.heap) (hcs : cc0 ≤ 2 ∧ ss0 ≤ 8) (r_row : Nat) (r_sold : Nat) (r_hold : Nat) {v_row : Nat → Int} {v_sold : Nat → Int} {v_hold : Nat → Int} {p1 : Int} (r_v_row : RA (-2147483648) 2147483647 v_row) (r_v_sold : RA (-2147483648) 2147483647 v_sold) (r_v_hold : RA (-2147483648) 2147483647 v_hold) (hp0 : 1 ≤ p1 ∧ p1 ≤ 20) (hp1 : ∀ j : Nat, (j : Int) < p1 → 0 ≤ v_row j ∧ v_row j ≤ 255) (hp2 : ∀ j : Nat, v_sold j = 0) (hQ : ∀ (z : Int) (f_row : Nat → Int) (f_sold : Nat → Int) (f_hold : Nat → Int) (pc : Nat) (lv : List (Nat × Value)), decode cX6_bestRiseOf pc = .ok (.ireturn, 1) → (IR z ∧ z = brF v_row p1.toNat 1) → RA (-2147483648) 2147483647 f_row → RA (-2147483648) 2147483647 f_sold → RA (-2147483648) 2147483647 f_hold → GG p l e ⟨1, 2, 8, 40⟩ s m args below meth c cc0 ss0 Q D A s.heap 7 ((wA cI 20 r_row f_row) ++ (wA cI 2 r_sold f_sold) ++ (wA cI 2 r_hold f_hold)) pc lv [vI z]) : GG p l e ⟨1, 2, 8, 40⟩ s m args below meth c cc0 ss0 Q D A s.heap 7 ((wA cI 20 r_row v_row) ++ (wA cI 2 r_sold v_sold) ++ (wA cI 2 r_hold v_hold)) 13 [(4, .ref r_hold), (3, .ref r_sold), (0, .ref r_row), (1, vI p1), (2, vI 1)] [] := by
  refine g_aload X dX6_bestRiseOf_13 0 rfl ?_
  refine g_aload_n X dX6_bestRiseOf_15 2 rfl ?_
  refine g_iconst X dX6_bestRiseOf_16 ?_
  refine g_iald X 0 0 rfl rfl (by omega) (by decide) dX6_bestRiseOf_17 (fun t17 e17 => ?_)
  have r17 := r_v_row (0 : Int).toNat; rw [← e17] at r17
  have b17 := hp1 ((0 : Int)).toNat (by omega)
  refine g_ineg X dX6_bestRiseOf_18 ?_
  refine g_callSVw X (c_J7_fill_53178_2 l D cI cB cJ r_hold (p1 := -t17) r_v_hold (by first | assumption | omega)) [2] rfl rfl rfl cv_J7_fill_53178 uw953 ⟨rfl, rfl, (by dsimp only; omega), (by dsimp only; omega)⟩ rfl rfl (Nat.le_of_ble_eq_true rfl) hcs dX6_bestRiseOf_19 (fun ws19 k19 => ?_)
  obtain ⟨hold_19, r_hold_19, kp0_19, rfl⟩ := k19
  refine ⟨rfl, ?_⟩
  refine g_ws (ws2 := ((wA cI 20 r_row v_row) ++ (wA cI 2 r_sold v_sold) ++ (wA cI 2 r_hold hold_19))) rfl ?_
  refine g_iconst X dX6_bestRiseOf_22 ?_
  refine g_istore X (lv' := [(5, vI 1), (4, .ref r_hold), (3, .ref r_sold), (0, .ref r_row), (1, vI p1), (2, vI 1)]) dX6_bestRiseOf_23 (by decide) rfl ?_
  have h1 := br_1 (p := v_row) (hp1 0 (by omega))
  have L25 : ∀ (n : Nat) (x5_25 : Int) (sold_25 : Nat → Int) (hold_25 : Nat → Int), (RA (-2147483648) 2147483647 sold_25) → (RA (-2147483648) 2147483647 hold_25) → (1 ≤ x5_25 ∧ x5_25 ≤ p1) → (∀ j : Nat, (j : Int) < 2 → sold_25 j = brF v_row (x5_25).toNat j) → (∀ j : Nat, 1 ≤ j → (j : Int) < 2 → hold_25 j = brH v_row (x5_25).toNat (j - 1)) → (p1 - x5_25).toNat < n → GG p l e ⟨1, 2, 8, 40⟩ s m args below meth c cc0 ss0 Q D A s.heap 7 ((wA cI 20 r_row v_row) ++ (wA cI 2 r_sold sold_25) ++ (wA cI 2 r_hold hold_25)) 25 [(0, .ref r_row), (1, vI p1), (2, vI 1), (3, .ref r_sold), (4, .ref r_hold), (5, vI x5_25)] [] := by
    intro n
    induction n with
    | zero => intros; exfalso; omega
    | succ n ih25 =>
      intro x5_25 sold_25 hold_25 r_sold_25 r_hold_25 w25_0 w25_1 w25_2 wm25
      have hR := br_r (p := v_row) (x5_25).toNat (fun i hi => hp1 i (by omega))
      refine g_iload X dX6_bestRiseOf_25 5 rfl ?_
      refine g_iload_n X dX6_bestRiseOf_27 1 rfl ?_
      refine g_icmp_ge X (tgt := 97) dX6_bestRiseOf_28 (by decide) (by omega) (by omega) (fun c28 => ?_) (fun c28 => ?_)
      · refine g_aload_n X dX6_bestRiseOf_97 3 rfl ?_
        refine g_iload_n X dX6_bestRiseOf_98 2 rfl ?_
        refine g_iald X 1 0 rfl rfl (by omega) (by decide) dX6_bestRiseOf_99 (fun t99 e99 => ?_)
        have r99 := r_sold_25 (1 : Int).toNat; rw [← e99] at r99
        have hx : x5_25 = p1 := by omega
        have hF : sold_25 (1 : Int).toNat = brF v_row (x5_25).toNat 1 := w25_1 1 (by omega)
        rw [hx] at hF
        exact hQ _ v_row sold_25 hold_25 _ _ dX6_bestRiseOf_100 ⟨by omega, by first | assumption | omega⟩ r_v_row r_sold_25 r_hold_25
      · refine g_iconst X dX6_bestRiseOf_31 ?_
        refine g_istore X (lv' := [(6, vI 1), (0, .ref r_row), (1, vI p1), (2, vI 1), (3, .ref r_sold), (4, .ref r_hold), (5, vI x5_25)]) dX6_bestRiseOf_32 (by decide) rfl ?_
        have L34 : ∀ (n : Nat) (x6_34 : Int) (sold_34 : Nat → Int) (hold_34 : Nat → Int), (RA (-2147483648) 2147483647 sold_34) → (RA (-2147483648) 2147483647 hold_34) → (1 ≤ x6_34 ∧ x6_34 ≤ 2) → (∀ j : Nat, (j : Int) < x6_34 → sold_34 j = brF v_row ((x5_25).toNat + 1) j) → (∀ j : Nat, x6_34 ≤ (j : Int) → (j : Int) < 2 → sold_34 j = brF v_row (x5_25).toNat j) → (∀ j : Nat, 1 ≤ j → (j : Int) < x6_34 → hold_34 j = brH v_row ((x5_25).toNat + 1) (j - 1)) → (∀ j : Nat, x6_34 ≤ (j : Int) → (j : Int) < 2 → hold_34 j = brH v_row (x5_25).toNat (j - 1)) → (2 - x6_34).toNat < n → GG p l e ⟨1, 2, 8, 40⟩ s m args below meth c cc0 ss0 Q D A s.heap 7 ((wA cI 20 r_row v_row) ++ (wA cI 2 r_sold sold_34) ++ (wA cI 2 r_hold hold_34)) 34 [(0, .ref r_row), (1, vI p1), (2, vI 1), (3, .ref r_sold), (4, .ref r_hold), (5, vI x5_25), (6, vI x6_34)] [] := by
          intro n
          induction n with
          | zero => intros; exfalso; omega
          | succ n ih34 =>
            intro x6_34 sold_34 hold_34 r_sold_34 r_hold_34 w34_0 w34_1 w34_2 w34_3 w34_4 wm34
            have hR1 := br_r (p := v_row) ((x5_25).toNat + 1) (fun i hi => hp1 i (by omega))
            have hS := br_step (p := v_row) (x5_25).toNat ((x6_34).toNat - 1) (fun i hi => hp1 i (by omega))
            rw [show (x6_34).toNat - 1 + 1 = (x6_34).toNat by omega] at hS
            rw [show (x6_34).toNat - 1 = (x6_34 - 1).toNat by omega] at hS
            refine g_iload X dX6_bestRiseOf_34 6 rfl ?_
            refine g_iload_n X dX6_bestRiseOf_36 2 rfl ?_
            refine g_icmp_gt X (tgt := 91) dX6_bestRiseOf_37 (by decide) (by omega) (by omega) (fun c37 => ?_) (fun c37 => ?_)
            · refine g_iinc X (lv' := [(5, vI (x5_25 + 1)), (0, .ref r_row), (1, vI p1), (2, vI 1), (3, .ref r_sold), (4, .ref r_hold), (6, vI x6_34)]) dX6_bestRiseOf_91 5 rfl (by decide) rfl ?_
              refine g_goto X (tgt := 25) dX6_bestRiseOf_94 (by decide) ?_
              refine g_lv [1, 2, 3, 4, 5, 0] rfl ?_
              exact ih25 (x5_25 + 1) sold_34 hold_34 r_sold_34 r_hold_34 (by first | assumption | omega) (by intro j hj; first | (rw [show (1 : Int).toNat = 1 from rfl, (h1 j).1]; exact hp2 j) | (rw [show (x5_25 + 1).toNat = (x5_25).toNat + 1 by omega]; exact w34_1 j (by omega))) (by intro j hj hj2; first | (rw [show (1 : Int).toNat = 1 from rfl, (h1 (j - 1)).2, kp0_19 j hj2, e17]; rfl) | (rw [show (x5_25 + 1).toNat = (x5_25).toNat + 1 by omega]; exact w34_3 j hj (by omega))) (by omega)
            · refine g_aload X dX6_bestRiseOf_40 4 rfl ?_
              refine g_iload X dX6_bestRiseOf_42 6 rfl ?_
              refine g_aload X dX6_bestRiseOf_44 4 rfl ?_
              refine g_iload X dX6_bestRiseOf_46 6 rfl ?_
              refine g_iald X 2 0 rfl rfl (by omega) (by decide) dX6_bestRiseOf_48 (fun t48 e48 => ?_)
              have r48 := r_hold_34 (x6_34 : Int).toNat; rw [← e48] at r48
              have b48 := w34_4 (x6_34).toNat (by omega) (by omega)
              have g48 := hR ((x6_34).toNat - 1)
              refine g_aload_n X dX6_bestRiseOf_49 3 rfl ?_
              refine g_iload X dX6_bestRiseOf_50 6 rfl ?_
              refine g_iconst X dX6_bestRiseOf_52 ?_
              refine g_isub X dX6_bestRiseOf_53 ?_
              refine g_iald X 1 0 rfl rfl (by omega) (by decide) dX6_bestRiseOf_54 (fun t54 e54 => ?_)
              have r54 := r_sold_34 (x6_34 - 1 : Int).toNat; rw [← e54] at r54
              have b54 := w34_1 ((x6_34 - 1)).toNat (by omega)
              have g54 := hR1 ((x6_34 - 1)).toNat
              refine g_aload_n X dX6_bestRiseOf_55 0 rfl ?_
              refine g_iload X dX6_bestRiseOf_56 5 rfl ?_
              refine g_iald X 0 0 rfl rfl (by omega) (by decide) dX6_bestRiseOf_58 (fun t58 e58 => ?_)
              have r58 := r_v_row (x5_25 : Int).toNat; rw [← e58] at r58
              have b58 := hp1 (x5_25).toNat (by omega)
              refine g_isub X dX6_bestRiseOf_59 ?_
              refine g_mmax X uw900 uw807 uw111 uw808 ⟨by decide, Nat.le_of_ble_eq_true rfl⟩ hcs (by omega) (by omega) dX6_bestRiseOf_60 (fun t60 k60 => ?_)
              have hv : t60 = brH v_row ((x5_25).toNat + 1) (x6_34 - 1).toNat := by rw [hS.1]; rw [show (x6_34).toNat - 1 = (x6_34 - 1).toNat by omega] at b48; have m1 := mx_e (brH v_row (x5_25).toNat (x6_34 - 1).toNat) (brF v_row ((x5_25).toNat + 1) (x6_34 - 1).toNat - v_row (x5_25).toNat); omega
              refine g_iast X 2 0 rfl rfl (by omega) (by decide) dX6_bestRiseOf_63 (fun hold_63 e63 => ?_)
              have r_hold_63 : RA (-2147483648) 2147483647 hold_63 := by rw [e63]; exact RA_up r_hold_34 (by omega)
              refine g_ws (ws2 := ((wA cI 20 r_row v_row) ++ (wA cI 2 r_sold sold_34) ++ (wA cI 2 r_hold hold_63))) rfl ?_
              refine g_aload_n X dX6_bestRiseOf_64 3 rfl ?_
              refine g_iload X dX6_bestRiseOf_65 6 rfl ?_
              refine g_aload_n X dX6_bestRiseOf_67 3 rfl ?_
              refine g_iload X dX6_bestRiseOf_68 6 rfl ?_
              refine g_iald X 1 0 rfl rfl (by omega) (by decide) dX6_bestRiseOf_70 (fun t70 e70 => ?_)
              have r70 := r_sold_34 (x6_34 : Int).toNat; rw [← e70] at r70
              have b70 := w34_2 (x6_34).toNat (by omega) (by omega)
              have g70 := hR (x6_34).toNat
              refine g_aload X dX6_bestRiseOf_71 4 rfl ?_
              refine g_iload X dX6_bestRiseOf_73 6 rfl ?_
              refine g_iald X 2 0 rfl rfl (by omega) (by decide) dX6_bestRiseOf_75 (fun t75 e75 => ?_)
              have r75 := r_hold_63 (x6_34 : Int).toNat; rw [← e75] at r75
              have hv2 : t75 = brH v_row ((x5_25).toNat + 1) (x6_34 - 1).toNat := by rw [e75, e63, updZ_s]; exact hv
              have g75 := hR1 (x6_34 - 1).toNat
              refine g_aload_n X dX6_bestRiseOf_76 0 rfl ?_
              refine g_iload X dX6_bestRiseOf_77 5 rfl ?_
              refine g_iald X 0 0 rfl rfl (by omega) (by decide) dX6_bestRiseOf_79 (fun t79 e79 => ?_)
              have r79 := r_v_row (x5_25 : Int).toNat; rw [← e79] at r79
              have b79 := hp1 (x5_25).toNat (by omega)
              refine g_iadd X dX6_bestRiseOf_80 ?_
              refine g_mmax X uw900 uw807 uw111 uw808 ⟨by decide, Nat.le_of_ble_eq_true rfl⟩ hcs (by omega) (by omega) dX6_bestRiseOf_81 (fun t81 k81 => ?_)
              have hv3 : t81 = brF v_row ((x5_25).toNat + 1) (x6_34).toNat := by rw [hS.2]; have m1 := mx_e (brF v_row (x5_25).toNat (x6_34).toNat) (brH v_row ((x5_25).toNat + 1) (x6_34 - 1).toNat + v_row (x5_25).toNat); omega
              refine g_iast X 1 0 rfl rfl (by omega) (by decide) dX6_bestRiseOf_84 (fun sold_84 e84 => ?_)
              have r_sold_84 : RA (-2147483648) 2147483647 sold_84 := by rw [e84]; exact RA_up r_sold_34 (by omega)
              refine g_ws (ws2 := ((wA cI 20 r_row v_row) ++ (wA cI 2 r_sold sold_84) ++ (wA cI 2 r_hold hold_63))) rfl ?_
              refine g_iinc X (lv' := [(6, vI (x6_34 + 1)), (0, .ref r_row), (1, vI p1), (2, vI 1), (3, .ref r_sold), (4, .ref r_hold), (5, vI x5_25)]) dX6_bestRiseOf_85 6 rfl (by decide) rfl ?_
              refine g_goto X (tgt := 34) dX6_bestRiseOf_88 (by decide) ?_
              refine g_lv [1, 2, 3, 4, 5, 6, 0] rfl ?_
              exact ih34 (x6_34 + 1) sold_84 hold_63 r_sold_84 r_hold_63 (by first | assumption | omega) (by intro j hj; first | (have hj0 : j = 0 := (by omega); subst hj0; rw [w25_1 0 (by omega), brF_0, brF_0]) | (rw [e84]; exact if hq : j = (x6_34).toNat then by (rw [hq, updZ_s]; exact hv3) else by (rw [updZ_n _ _ hq]; exact w34_1 j (by omega)))) (by intro j hj hj2; first | exact w25_1 j hj2 | (rw [e84, updZ_n _ _ (by omega)]; exact w34_2 j (by omega) hj2)) (by intro j hj hj2; first | (exfalso; omega) | (rw [e63]; exact if hq : j = (x6_34).toNat then by (rw [hq, updZ_s, show (x6_34).toNat - 1 = (x6_34 - 1).toNat by omega]; exact hv) else by (rw [updZ_n _ _ hq]; exact w34_3 j hj (by omega)))) (by intro j hj hj2; first | exact w25_2 j (by omega) hj2 | (rw [e63, updZ_n _ _ (by omega)]; exact w34_4 j (by omega) hj2)) (by omega)
        refine g_lv [1, 2, 3, 4, 5, 6, 0] rfl ?_
        exact L34 _ 1 sold_25 hold_25 r_sold_25 r_hold_25 (by first | assumption | omega) (by intro j hj; first | (have hj0 : j = 0 := (by omega); subst hj0; rw [w25_1 0 (by omega), brF_0, brF_0]) | (rw [e84]; exact if hq : j = (x6_34).toNat then by (rw [hq, updZ_s]; exact hv3) else by (rw [updZ_n _ _ hq]; exact w34_1 j (by omega)))) (by intro j hj hj2; first | exact w25_1 j hj2 | (rw [e84, updZ_n _ _ (by omega)]; exact w34_2 j (by omega) hj2)) (by intro j hj hj2; first | (exfalso; omega) | (rw [e63]; exact if hq : j = (x6_34).toNat then by (rw [hq, updZ_s, show (x6_34).toNat - 1 = (x6_34 - 1).toNat by omega]; exact hv) else by (rw [updZ_n _ _ hq]; exact w34_3 j hj (by omega)))) (by intro j hj hj2; first | exact w25_2 j (by omega) hj2 | (rw [e63, updZ_n _ _ (by omega)]; exact w34_4 j (by omega) hj2)) (Nat.lt_succ_self _)
  refine g_lv [3, 4, 5, 2, 1, 0] rfl ?_
  exact L25 _ 1 v_sold hold_19 r_v_sold r_hold_19 (by first | assumption | omega) (by intro j hj; first | (rw [show (1 : Int).toNat = 1 from rfl, (h1 j).1]; exact hp2 j) | (rw [show (x5_25 + 1).toNat = (x5_25).toNat + 1 by omega]; exact w34_1 j (by omega))) (by intro j hj hj2; first | (rw [show (1 : Int).toNat = 1 from rfl, (h1 (j - 1)).2, kp0_19 j hj2, e17]; rfl) | (rw [show (x5_25 + 1).toNat = (x5_25).toNat + 1 by omega]; exact w34_3 j hj (by omega))) (Nat.lt_succ_self _)
set_option maxHeartbeats 1000000 in
set_option maxRecDepth 100000 in
theorem s_X6_bestRiseOf_3 {p : Program} {l : Launch} {e : Env} {s : State} {m : MethodId} {args : Array Value} {below : List Frame} {meth : Method} {c : Code} {Q : State → Prop} {A : Nat → Prop} {D : va_G} {cI cB cJ : ClassId} {cc0 ss0 : Nat} (X : CX p m c cX6_bestRiseOf 7 s args RX6 D (TY cI cB cJ) A s.heap) (hcs : cc0 ≤ 2 ∧ ss0 ≤ 8) (r_row : Nat) (r_sold : Nat) (r_hold : Nat) {v_row : Nat → Int} {v_sold : Nat → Int} {v_hold : Nat → Int} {p1 : Int} (r_v_row : RA (-2147483648) 2147483647 v_row) (r_v_sold : RA (-2147483648) 2147483647 v_sold) (r_v_hold : RA (-2147483648) 2147483647 v_hold) (hp0 : 1 ≤ p1 ∧ p1 ≤ 20) (hp1 : ∀ j : Nat, (j : Int) < p1 → 0 ≤ v_row j ∧ v_row j ≤ 255) (hp2 : ∀ j : Nat, v_sold j = 0) (hQ : ∀ (z : Int) (f_row : Nat → Int) (f_sold : Nat → Int) (f_hold : Nat → Int) (pc : Nat) (lv : List (Nat × Value)), decode cX6_bestRiseOf pc = .ok (.ireturn, 1) → (IR z ∧ z = brF v_row p1.toNat 2) → RA (-2147483648) 2147483647 f_row → RA (-2147483648) 2147483647 f_sold → RA (-2147483648) 2147483647 f_hold → GG p l e ⟨1, 2, 8, 40⟩ s m args below meth c cc0 ss0 Q D A s.heap 7 ((wA cI 20 r_row f_row) ++ (wA cI 3 r_sold f_sold) ++ (wA cI 3 r_hold f_hold)) pc lv [vI z]) : GG p l e ⟨1, 2, 8, 40⟩ s m args below meth c cc0 ss0 Q D A s.heap 7 ((wA cI 20 r_row v_row) ++ (wA cI 3 r_sold v_sold) ++ (wA cI 3 r_hold v_hold)) 13 [(4, .ref r_hold), (3, .ref r_sold), (0, .ref r_row), (1, vI p1), (2, vI 2)] [] := by
  refine g_aload X dX6_bestRiseOf_13 0 rfl ?_
  refine g_aload_n X dX6_bestRiseOf_15 2 rfl ?_
  refine g_iconst X dX6_bestRiseOf_16 ?_
  refine g_iald X 0 0 rfl rfl (by omega) (by decide) dX6_bestRiseOf_17 (fun t17 e17 => ?_)
  have r17 := r_v_row (0 : Int).toNat; rw [← e17] at r17
  have b17 := hp1 ((0 : Int)).toNat (by omega)
  refine g_ineg X dX6_bestRiseOf_18 ?_
  refine g_callSVw X (c_J7_fill_53178_3 l D cI cB cJ r_hold (p1 := -t17) r_v_hold (by first | assumption | omega)) [2] rfl rfl rfl cv_J7_fill_53178 uw953 ⟨rfl, rfl, (by dsimp only; omega), (by dsimp only; omega)⟩ rfl rfl (Nat.le_of_ble_eq_true rfl) hcs dX6_bestRiseOf_19 (fun ws19 k19 => ?_)
  obtain ⟨hold_19, r_hold_19, kp0_19, rfl⟩ := k19
  refine ⟨rfl, ?_⟩
  refine g_ws (ws2 := ((wA cI 20 r_row v_row) ++ (wA cI 3 r_sold v_sold) ++ (wA cI 3 r_hold hold_19))) rfl ?_
  refine g_iconst X dX6_bestRiseOf_22 ?_
  refine g_istore X (lv' := [(5, vI 1), (4, .ref r_hold), (3, .ref r_sold), (0, .ref r_row), (1, vI p1), (2, vI 2)]) dX6_bestRiseOf_23 (by decide) rfl ?_
  have h1 := br_1 (p := v_row) (hp1 0 (by omega))
  have L25 : ∀ (n : Nat) (x5_25 : Int) (sold_25 : Nat → Int) (hold_25 : Nat → Int), (RA (-2147483648) 2147483647 sold_25) → (RA (-2147483648) 2147483647 hold_25) → (1 ≤ x5_25 ∧ x5_25 ≤ p1) → (∀ j : Nat, (j : Int) < 3 → sold_25 j = brF v_row (x5_25).toNat j) → (∀ j : Nat, 1 ≤ j → (j : Int) < 3 → hold_25 j = brH v_row (x5_25).toNat (j - 1)) → (p1 - x5_25).toNat < n → GG p l e ⟨1, 2, 8, 40⟩ s m args below meth c cc0 ss0 Q D A s.heap 7 ((wA cI 20 r_row v_row) ++ (wA cI 3 r_sold sold_25) ++ (wA cI 3 r_hold hold_25)) 25 [(0, .ref r_row), (1, vI p1), (2, vI 2), (3, .ref r_sold), (4, .ref r_hold), (5, vI x5_25)] [] := by
    intro n
    induction n with
    | zero => intros; exfalso; omega
    | succ n ih25 =>
      intro x5_25 sold_25 hold_25 r_sold_25 r_hold_25 w25_0 w25_1 w25_2 wm25
      have hR := br_r (p := v_row) (x5_25).toNat (fun i hi => hp1 i (by omega))
      refine g_iload X dX6_bestRiseOf_25 5 rfl ?_
      refine g_iload_n X dX6_bestRiseOf_27 1 rfl ?_
      refine g_icmp_ge X (tgt := 97) dX6_bestRiseOf_28 (by decide) (by omega) (by omega) (fun c28 => ?_) (fun c28 => ?_)
      · refine g_aload_n X dX6_bestRiseOf_97 3 rfl ?_
        refine g_iload_n X dX6_bestRiseOf_98 2 rfl ?_
        refine g_iald X 1 0 rfl rfl (by omega) (by decide) dX6_bestRiseOf_99 (fun t99 e99 => ?_)
        have r99 := r_sold_25 (2 : Int).toNat; rw [← e99] at r99
        have hx : x5_25 = p1 := by omega
        have hF : sold_25 (2 : Int).toNat = brF v_row (x5_25).toNat 2 := w25_1 2 (by omega)
        rw [hx] at hF
        exact hQ _ v_row sold_25 hold_25 _ _ dX6_bestRiseOf_100 ⟨by omega, by first | assumption | omega⟩ r_v_row r_sold_25 r_hold_25
      · refine g_iconst X dX6_bestRiseOf_31 ?_
        refine g_istore X (lv' := [(6, vI 1), (0, .ref r_row), (1, vI p1), (2, vI 2), (3, .ref r_sold), (4, .ref r_hold), (5, vI x5_25)]) dX6_bestRiseOf_32 (by decide) rfl ?_
        have L34 : ∀ (n : Nat) (x6_34 : Int) (sold_34 : Nat → Int) (hold_34 : Nat → Int), (RA (-2147483648) 2147483647 sold_34) → (RA (-2147483648) 2147483647 hold_34) → (1 ≤ x6_34 ∧ x6_34 ≤ 3) → (∀ j : Nat, (j : Int) < x6_34 → sold_34 j = brF v_row ((x5_25).toNat + 1) j) → (∀ j : Nat, x6_34 ≤ (j : Int) → (j : Int) < 3 → sold_34 j = brF v_row (x5_25).toNat j) → (∀ j : Nat, 1 ≤ j → (j : Int) < x6_34 → hold_34 j = brH v_row ((x5_25).toNat + 1) (j - 1)) → (∀ j : Nat, x6_34 ≤ (j : Int) → (j : Int) < 3 → hold_34 j = brH v_row (x5_25).toNat (j - 1)) → (3 - x6_34).toNat < n → GG p l e ⟨1, 2, 8, 40⟩ s m args below meth c cc0 ss0 Q D A s.heap 7 ((wA cI 20 r_row v_row) ++ (wA cI 3 r_sold sold_34) ++ (wA cI 3 r_hold hold_34)) 34 [(0, .ref r_row), (1, vI p1), (2, vI 2), (3, .ref r_sold), (4, .ref r_hold), (5, vI x5_25), (6, vI x6_34)] [] := by
          intro n
          induction n with
          | zero => intros; exfalso; omega
          | succ n ih34 =>
            intro x6_34 sold_34 hold_34 r_sold_34 r_hold_34 w34_0 w34_1 w34_2 w34_3 w34_4 wm34
            have hR1 := br_r (p := v_row) ((x5_25).toNat + 1) (fun i hi => hp1 i (by omega))
            have hS := br_step (p := v_row) (x5_25).toNat ((x6_34).toNat - 1) (fun i hi => hp1 i (by omega))
            rw [show (x6_34).toNat - 1 + 1 = (x6_34).toNat by omega] at hS
            rw [show (x6_34).toNat - 1 = (x6_34 - 1).toNat by omega] at hS
            refine g_iload X dX6_bestRiseOf_34 6 rfl ?_
            refine g_iload_n X dX6_bestRiseOf_36 2 rfl ?_
            refine g_icmp_gt X (tgt := 91) dX6_bestRiseOf_37 (by decide) (by omega) (by omega) (fun c37 => ?_) (fun c37 => ?_)
            · refine g_iinc X (lv' := [(5, vI (x5_25 + 1)), (0, .ref r_row), (1, vI p1), (2, vI 2), (3, .ref r_sold), (4, .ref r_hold), (6, vI x6_34)]) dX6_bestRiseOf_91 5 rfl (by decide) rfl ?_
              refine g_goto X (tgt := 25) dX6_bestRiseOf_94 (by decide) ?_
              refine g_lv [1, 2, 3, 4, 5, 0] rfl ?_
              exact ih25 (x5_25 + 1) sold_34 hold_34 r_sold_34 r_hold_34 (by first | assumption | omega) (by intro j hj; first | (rw [show (1 : Int).toNat = 1 from rfl, (h1 j).1]; exact hp2 j) | (rw [show (x5_25 + 1).toNat = (x5_25).toNat + 1 by omega]; exact w34_1 j (by omega))) (by intro j hj hj2; first | (rw [show (1 : Int).toNat = 1 from rfl, (h1 (j - 1)).2, kp0_19 j hj2, e17]; rfl) | (rw [show (x5_25 + 1).toNat = (x5_25).toNat + 1 by omega]; exact w34_3 j hj (by omega))) (by omega)
            · refine g_aload X dX6_bestRiseOf_40 4 rfl ?_
              refine g_iload X dX6_bestRiseOf_42 6 rfl ?_
              refine g_aload X dX6_bestRiseOf_44 4 rfl ?_
              refine g_iload X dX6_bestRiseOf_46 6 rfl ?_
              refine g_iald X 2 0 rfl rfl (by omega) (by decide) dX6_bestRiseOf_48 (fun t48 e48 => ?_)
              have r48 := r_hold_34 (x6_34 : Int).toNat; rw [← e48] at r48
              have b48 := w34_4 (x6_34).toNat (by omega) (by omega)
              have g48 := hR ((x6_34).toNat - 1)
              refine g_aload_n X dX6_bestRiseOf_49 3 rfl ?_
              refine g_iload X dX6_bestRiseOf_50 6 rfl ?_
              refine g_iconst X dX6_bestRiseOf_52 ?_
              refine g_isub X dX6_bestRiseOf_53 ?_
              refine g_iald X 1 0 rfl rfl (by omega) (by decide) dX6_bestRiseOf_54 (fun t54 e54 => ?_)
              have r54 := r_sold_34 (x6_34 - 1 : Int).toNat; rw [← e54] at r54
              have b54 := w34_1 ((x6_34 - 1)).toNat (by omega)
              have g54 := hR1 ((x6_34 - 1)).toNat
              refine g_aload_n X dX6_bestRiseOf_55 0 rfl ?_
              refine g_iload X dX6_bestRiseOf_56 5 rfl ?_
              refine g_iald X 0 0 rfl rfl (by omega) (by decide) dX6_bestRiseOf_58 (fun t58 e58 => ?_)
              have r58 := r_v_row (x5_25 : Int).toNat; rw [← e58] at r58
              have b58 := hp1 (x5_25).toNat (by omega)
              refine g_isub X dX6_bestRiseOf_59 ?_
              refine g_mmax X uw900 uw807 uw111 uw808 ⟨by decide, Nat.le_of_ble_eq_true rfl⟩ hcs (by omega) (by omega) dX6_bestRiseOf_60 (fun t60 k60 => ?_)
              have hv : t60 = brH v_row ((x5_25).toNat + 1) (x6_34 - 1).toNat := by rw [hS.1]; rw [show (x6_34).toNat - 1 = (x6_34 - 1).toNat by omega] at b48; have m1 := mx_e (brH v_row (x5_25).toNat (x6_34 - 1).toNat) (brF v_row ((x5_25).toNat + 1) (x6_34 - 1).toNat - v_row (x5_25).toNat); omega
              refine g_iast X 2 0 rfl rfl (by omega) (by decide) dX6_bestRiseOf_63 (fun hold_63 e63 => ?_)
              have r_hold_63 : RA (-2147483648) 2147483647 hold_63 := by rw [e63]; exact RA_up r_hold_34 (by omega)
              refine g_ws (ws2 := ((wA cI 20 r_row v_row) ++ (wA cI 3 r_sold sold_34) ++ (wA cI 3 r_hold hold_63))) rfl ?_
              refine g_aload_n X dX6_bestRiseOf_64 3 rfl ?_
              refine g_iload X dX6_bestRiseOf_65 6 rfl ?_
              refine g_aload_n X dX6_bestRiseOf_67 3 rfl ?_
              refine g_iload X dX6_bestRiseOf_68 6 rfl ?_
              refine g_iald X 1 0 rfl rfl (by omega) (by decide) dX6_bestRiseOf_70 (fun t70 e70 => ?_)
              have r70 := r_sold_34 (x6_34 : Int).toNat; rw [← e70] at r70
              have b70 := w34_2 (x6_34).toNat (by omega) (by omega)
              have g70 := hR (x6_34).toNat
              refine g_aload X dX6_bestRiseOf_71 4 rfl ?_
              refine g_iload X dX6_bestRiseOf_73 6 rfl ?_
              refine g_iald X 2 0 rfl rfl (by omega) (by decide) dX6_bestRiseOf_75 (fun t75 e75 => ?_)
              have r75 := r_hold_63 (x6_34 : Int).toNat; rw [← e75] at r75
              have hv2 : t75 = brH v_row ((x5_25).toNat + 1) (x6_34 - 1).toNat := by rw [e75, e63, updZ_s]; exact hv
              have g75 := hR1 (x6_34 - 1).toNat
              refine g_aload_n X dX6_bestRiseOf_76 0 rfl ?_
              refine g_iload X dX6_bestRiseOf_77 5 rfl ?_
              refine g_iald X 0 0 rfl rfl (by omega) (by decide) dX6_bestRiseOf_79 (fun t79 e79 => ?_)
              have r79 := r_v_row (x5_25 : Int).toNat; rw [← e79] at r79
              have b79 := hp1 (x5_25).toNat (by omega)
              refine g_iadd X dX6_bestRiseOf_80 ?_
              refine g_mmax X uw900 uw807 uw111 uw808 ⟨by decide, Nat.le_of_ble_eq_true rfl⟩ hcs (by omega) (by omega) dX6_bestRiseOf_81 (fun t81 k81 => ?_)
              have hv3 : t81 = brF v_row ((x5_25).toNat + 1) (x6_34).toNat := by rw [hS.2]; have m1 := mx_e (brF v_row (x5_25).toNat (x6_34).toNat) (brH v_row ((x5_25).toNat + 1) (x6_34 - 1).toNat + v_row (x5_25).toNat); omega
              refine g_iast X 1 0 rfl rfl (by omega) (by decide) dX6_bestRiseOf_84 (fun sold_84 e84 => ?_)
              have r_sold_84 : RA (-2147483648) 2147483647 sold_84 := by rw [e84]; exact RA_up r_sold_34 (by omega)
              refine g_ws (ws2 := ((wA cI 20 r_row v_row) ++ (wA cI 3 r_sold sold_84) ++ (wA cI 3 r_hold hold_63))) rfl ?_
              refine g_iinc X (lv' := [(6, vI (x6_34 + 1)), (0, .ref r_row), (1, vI p1), (2, vI 2), (3, .ref r_sold), (4, .ref r_hold), (5, vI x5_25)]) dX6_bestRiseOf_85 6 rfl (by decide) rfl ?_
              refine g_goto X (tgt := 34) dX6_bestRiseOf_88 (by decide) ?_
              refine g_lv [1, 2, 3, 4, 5, 6, 0] rfl ?_
              exact ih34 (x6_34 + 1) sold_84 hold_63 r_sold_84 r_hold_63 (by first | assumption | omega) (by intro j hj; first | (have hj0 : j = 0 := (by omega); subst hj0; rw [w25_1 0 (by omega), brF_0, brF_0]) | (rw [e84]; exact if hq : j = (x6_34).toNat then by (rw [hq, updZ_s]; exact hv3) else by (rw [updZ_n _ _ hq]; exact w34_1 j (by omega)))) (by intro j hj hj2; first | exact w25_1 j hj2 | (rw [e84, updZ_n _ _ (by omega)]; exact w34_2 j (by omega) hj2)) (by intro j hj hj2; first | (exfalso; omega) | (rw [e63]; exact if hq : j = (x6_34).toNat then by (rw [hq, updZ_s, show (x6_34).toNat - 1 = (x6_34 - 1).toNat by omega]; exact hv) else by (rw [updZ_n _ _ hq]; exact w34_3 j hj (by omega)))) (by intro j hj hj2; first | exact w25_2 j (by omega) hj2 | (rw [e63, updZ_n _ _ (by omega)]; exact w34_4 j (by omega) hj2)) (by omega)
        refine g_lv [1, 2, 3, 4, 5, 6, 0] rfl ?_
        exact L34 _ 1 sold_25 hold_25 r_sold_25 r_hold_25 (by first | assumption | omega) (by intro j hj; first | (have hj0 : j = 0 := (by omega); subst hj0; rw [w25_1 0 (by omega), brF_0, brF_0]) | (rw [e84]; exact if hq : j = (x6_34).toNat then by (rw [hq, updZ_s]; exact hv3) else by (rw [updZ_n _ _ hq]; exact w34_1 j (by omega)))) (by intro j hj hj2; first | exact w25_1 j hj2 | (rw [e84, updZ_n _ _ (by omega)]; exact w34_2 j (by omega) hj2)) (by intro j hj hj2; first | (exfalso; omega) | (rw [e63]; exact if hq : j = (x6_34).toNat then by (rw [hq, updZ_s, show (x6_34).toNat - 1 = (x6_34 - 1).toNat by omega]; exact hv) else by (rw [updZ_n _ _ hq]; exact w34_3 j hj (by omega)))) (by intro j hj hj2; first | exact w25_2 j (by omega) hj2 | (rw [e63, updZ_n _ _ (by omega)]; exact w34_4 j (by omega) hj2)) (Nat.lt_succ_self _)
  refine g_lv [3, 4, 5, 2, 1, 0] rfl ?_
  exact L25 _ 1 v_sold hold_19 r_v_sold r_hold_19 (by first | assumption | omega) (by intro j hj; first | (rw [show (1 : Int).toNat = 1 from rfl, (h1 j).1]; exact hp2 j) | (rw [show (x5_25 + 1).toNat = (x5_25).toNat + 1 by omega]; exact w34_1 j (by omega))) (by intro j hj hj2; first | (rw [show (1 : Int).toNat = 1 from rfl, (h1 (j - 1)).2, kp0_19 j hj2, e17]; rfl) | (rw [show (x5_25 + 1).toNat = (x5_25).toNat + 1 by omega]; exact w34_3 j hj (by omega))) (Nat.lt_succ_self _)
set_option maxHeartbeats 1000000 in
set_option maxRecDepth 100000 in
theorem s_X6_bestRiseOf_4 {p : Program} {l : Launch} {e : Env} {s : State} {m : MethodId} {args : Array Value} {below : List Frame} {meth : Method} {c : Code} {Q : State → Prop} {A : Nat → Prop} {D : va_G} {cI cB cJ : ClassId} {cc0 ss0 : Nat} (X : CX p m c cX6_bestRiseOf 7 s args RX6 D (TY cI cB cJ) A s.heap) (hcs : cc0 ≤ 2 ∧ ss0 ≤ 8) (r_row : Nat) (r_sold : Nat) (r_hold : Nat) {v_row : Nat → Int} {v_sold : Nat → Int} {v_hold : Nat → Int} {p1 : Int} (r_v_row : RA (-2147483648) 2147483647 v_row) (r_v_sold : RA (-2147483648) 2147483647 v_sold) (r_v_hold : RA (-2147483648) 2147483647 v_hold) (hp0 : 1 ≤ p1 ∧ p1 ≤ 20) (hp1 : ∀ j : Nat, (j : Int) < p1 → 0 ≤ v_row j ∧ v_row j ≤ 255) (hp2 : ∀ j : Nat, v_sold j = 0) (hQ : ∀ (z : Int) (f_row : Nat → Int) (f_sold : Nat → Int) (f_hold : Nat → Int) (pc : Nat) (lv : List (Nat × Value)), decode cX6_bestRiseOf pc = .ok (.ireturn, 1) → (IR z ∧ z = brF v_row p1.toNat 3) → RA (-2147483648) 2147483647 f_row → RA (-2147483648) 2147483647 f_sold → RA (-2147483648) 2147483647 f_hold → GG p l e ⟨1, 2, 8, 40⟩ s m args below meth c cc0 ss0 Q D A s.heap 7 ((wA cI 20 r_row f_row) ++ (wA cI 4 r_sold f_sold) ++ (wA cI 4 r_hold f_hold)) pc lv [vI z]) : GG p l e ⟨1, 2, 8, 40⟩ s m args below meth c cc0 ss0 Q D A s.heap 7 ((wA cI 20 r_row v_row) ++ (wA cI 4 r_sold v_sold) ++ (wA cI 4 r_hold v_hold)) 13 [(4, .ref r_hold), (3, .ref r_sold), (0, .ref r_row), (1, vI p1), (2, vI 3)] [] := by
  refine g_aload X dX6_bestRiseOf_13 0 rfl ?_
  refine g_aload_n X dX6_bestRiseOf_15 2 rfl ?_
  refine g_iconst X dX6_bestRiseOf_16 ?_
  refine g_iald X 0 0 rfl rfl (by omega) (by decide) dX6_bestRiseOf_17 (fun t17 e17 => ?_)
  have r17 := r_v_row (0 : Int).toNat; rw [← e17] at r17
  have b17 := hp1 ((0 : Int)).toNat (by omega)
  refine g_ineg X dX6_bestRiseOf_18 ?_
  refine g_callSVw X (c_J7_fill_53178_4 l D cI cB cJ r_hold (p1 := -t17) r_v_hold (by first | assumption | omega)) [2] rfl rfl rfl cv_J7_fill_53178 uw953 ⟨rfl, rfl, (by dsimp only; omega), (by dsimp only; omega)⟩ rfl rfl (Nat.le_of_ble_eq_true rfl) hcs dX6_bestRiseOf_19 (fun ws19 k19 => ?_)
  obtain ⟨hold_19, r_hold_19, kp0_19, rfl⟩ := k19
  refine ⟨rfl, ?_⟩
  refine g_ws (ws2 := ((wA cI 20 r_row v_row) ++ (wA cI 4 r_sold v_sold) ++ (wA cI 4 r_hold hold_19))) rfl ?_
  refine g_iconst X dX6_bestRiseOf_22 ?_
  refine g_istore X (lv' := [(5, vI 1), (4, .ref r_hold), (3, .ref r_sold), (0, .ref r_row), (1, vI p1), (2, vI 3)]) dX6_bestRiseOf_23 (by decide) rfl ?_
  have h1 := br_1 (p := v_row) (hp1 0 (by omega))
  have L25 : ∀ (n : Nat) (x5_25 : Int) (sold_25 : Nat → Int) (hold_25 : Nat → Int), (RA (-2147483648) 2147483647 sold_25) → (RA (-2147483648) 2147483647 hold_25) → (1 ≤ x5_25 ∧ x5_25 ≤ p1) → (∀ j : Nat, (j : Int) < 4 → sold_25 j = brF v_row (x5_25).toNat j) → (∀ j : Nat, 1 ≤ j → (j : Int) < 4 → hold_25 j = brH v_row (x5_25).toNat (j - 1)) → (p1 - x5_25).toNat < n → GG p l e ⟨1, 2, 8, 40⟩ s m args below meth c cc0 ss0 Q D A s.heap 7 ((wA cI 20 r_row v_row) ++ (wA cI 4 r_sold sold_25) ++ (wA cI 4 r_hold hold_25)) 25 [(0, .ref r_row), (1, vI p1), (2, vI 3), (3, .ref r_sold), (4, .ref r_hold), (5, vI x5_25)] [] := by
    intro n
    induction n with
    | zero => intros; exfalso; omega
    | succ n ih25 =>
      intro x5_25 sold_25 hold_25 r_sold_25 r_hold_25 w25_0 w25_1 w25_2 wm25
      have hR := br_r (p := v_row) (x5_25).toNat (fun i hi => hp1 i (by omega))
      refine g_iload X dX6_bestRiseOf_25 5 rfl ?_
      refine g_iload_n X dX6_bestRiseOf_27 1 rfl ?_
      refine g_icmp_ge X (tgt := 97) dX6_bestRiseOf_28 (by decide) (by omega) (by omega) (fun c28 => ?_) (fun c28 => ?_)
      · refine g_aload_n X dX6_bestRiseOf_97 3 rfl ?_
        refine g_iload_n X dX6_bestRiseOf_98 2 rfl ?_
        refine g_iald X 1 0 rfl rfl (by omega) (by decide) dX6_bestRiseOf_99 (fun t99 e99 => ?_)
        have r99 := r_sold_25 (3 : Int).toNat; rw [← e99] at r99
        have hx : x5_25 = p1 := by omega
        have hF : sold_25 (3 : Int).toNat = brF v_row (x5_25).toNat 3 := w25_1 3 (by omega)
        rw [hx] at hF
        exact hQ _ v_row sold_25 hold_25 _ _ dX6_bestRiseOf_100 ⟨by omega, by first | assumption | omega⟩ r_v_row r_sold_25 r_hold_25
      · refine g_iconst X dX6_bestRiseOf_31 ?_
        refine g_istore X (lv' := [(6, vI 1), (0, .ref r_row), (1, vI p1), (2, vI 3), (3, .ref r_sold), (4, .ref r_hold), (5, vI x5_25)]) dX6_bestRiseOf_32 (by decide) rfl ?_
        have L34 : ∀ (n : Nat) (x6_34 : Int) (sold_34 : Nat → Int) (hold_34 : Nat → Int), (RA (-2147483648) 2147483647 sold_34) → (RA (-2147483648) 2147483647 hold_34) → (1 ≤ x6_34 ∧ x6_34 ≤ 4) → (∀ j : Nat, (j : Int) < x6_34 → sold_34 j = brF v_row ((x5_25).toNat + 1) j) → (∀ j : Nat, x6_34 ≤ (j : Int) → (j : Int) < 4 → sold_34 j = brF v_row (x5_25).toNat j) → (∀ j : Nat, 1 ≤ j → (j : Int) < x6_34 → hold_34 j = brH v_row ((x5_25).toNat + 1) (j - 1)) → (∀ j : Nat, x6_34 ≤ (j : Int) → (j : Int) < 4 → hold_34 j = brH v_row (x5_25).toNat (j - 1)) → (4 - x6_34).toNat < n → GG p l e ⟨1, 2, 8, 40⟩ s m args below meth c cc0 ss0 Q D A s.heap 7 ((wA cI 20 r_row v_row) ++ (wA cI 4 r_sold sold_34) ++ (wA cI 4 r_hold hold_34)) 34 [(0, .ref r_row), (1, vI p1), (2, vI 3), (3, .ref r_sold), (4, .ref r_hold), (5, vI x5_25), (6, vI x6_34)] [] := by
          intro n
          induction n with
          | zero => intros; exfalso; omega
          | succ n ih34 =>
            intro x6_34 sold_34 hold_34 r_sold_34 r_hold_34 w34_0 w34_1 w34_2 w34_3 w34_4 wm34
            have hR1 := br_r (p := v_row) ((x5_25).toNat + 1) (fun i hi => hp1 i (by omega))
            have hS := br_step (p := v_row) (x5_25).toNat ((x6_34).toNat - 1) (fun i hi => hp1 i (by omega))
            rw [show (x6_34).toNat - 1 + 1 = (x6_34).toNat by omega] at hS
            rw [show (x6_34).toNat - 1 = (x6_34 - 1).toNat by omega] at hS
            refine g_iload X dX6_bestRiseOf_34 6 rfl ?_
            refine g_iload_n X dX6_bestRiseOf_36 2 rfl ?_
            refine g_icmp_gt X (tgt := 91) dX6_bestRiseOf_37 (by decide) (by omega) (by omega) (fun c37 => ?_) (fun c37 => ?_)
            · refine g_iinc X (lv' := [(5, vI (x5_25 + 1)), (0, .ref r_row), (1, vI p1), (2, vI 3), (3, .ref r_sold), (4, .ref r_hold), (6, vI x6_34)]) dX6_bestRiseOf_91 5 rfl (by decide) rfl ?_
              refine g_goto X (tgt := 25) dX6_bestRiseOf_94 (by decide) ?_
              refine g_lv [1, 2, 3, 4, 5, 0] rfl ?_
              exact ih25 (x5_25 + 1) sold_34 hold_34 r_sold_34 r_hold_34 (by first | assumption | omega) (by intro j hj; first | (rw [show (1 : Int).toNat = 1 from rfl, (h1 j).1]; exact hp2 j) | (rw [show (x5_25 + 1).toNat = (x5_25).toNat + 1 by omega]; exact w34_1 j (by omega))) (by intro j hj hj2; first | (rw [show (1 : Int).toNat = 1 from rfl, (h1 (j - 1)).2, kp0_19 j hj2, e17]; rfl) | (rw [show (x5_25 + 1).toNat = (x5_25).toNat + 1 by omega]; exact w34_3 j hj (by omega))) (by omega)
            · refine g_aload X dX6_bestRiseOf_40 4 rfl ?_
              refine g_iload X dX6_bestRiseOf_42 6 rfl ?_
              refine g_aload X dX6_bestRiseOf_44 4 rfl ?_
              refine g_iload X dX6_bestRiseOf_46 6 rfl ?_
              refine g_iald X 2 0 rfl rfl (by omega) (by decide) dX6_bestRiseOf_48 (fun t48 e48 => ?_)
              have r48 := r_hold_34 (x6_34 : Int).toNat; rw [← e48] at r48
              have b48 := w34_4 (x6_34).toNat (by omega) (by omega)
              have g48 := hR ((x6_34).toNat - 1)
              refine g_aload_n X dX6_bestRiseOf_49 3 rfl ?_
              refine g_iload X dX6_bestRiseOf_50 6 rfl ?_
              refine g_iconst X dX6_bestRiseOf_52 ?_
              refine g_isub X dX6_bestRiseOf_53 ?_
              refine g_iald X 1 0 rfl rfl (by omega) (by decide) dX6_bestRiseOf_54 (fun t54 e54 => ?_)
              have r54 := r_sold_34 (x6_34 - 1 : Int).toNat; rw [← e54] at r54
              have b54 := w34_1 ((x6_34 - 1)).toNat (by omega)
              have g54 := hR1 ((x6_34 - 1)).toNat
              refine g_aload_n X dX6_bestRiseOf_55 0 rfl ?_
              refine g_iload X dX6_bestRiseOf_56 5 rfl ?_
              refine g_iald X 0 0 rfl rfl (by omega) (by decide) dX6_bestRiseOf_58 (fun t58 e58 => ?_)
              have r58 := r_v_row (x5_25 : Int).toNat; rw [← e58] at r58
              have b58 := hp1 (x5_25).toNat (by omega)
              refine g_isub X dX6_bestRiseOf_59 ?_
              refine g_mmax X uw900 uw807 uw111 uw808 ⟨by decide, Nat.le_of_ble_eq_true rfl⟩ hcs (by omega) (by omega) dX6_bestRiseOf_60 (fun t60 k60 => ?_)
              have hv : t60 = brH v_row ((x5_25).toNat + 1) (x6_34 - 1).toNat := by rw [hS.1]; rw [show (x6_34).toNat - 1 = (x6_34 - 1).toNat by omega] at b48; have m1 := mx_e (brH v_row (x5_25).toNat (x6_34 - 1).toNat) (brF v_row ((x5_25).toNat + 1) (x6_34 - 1).toNat - v_row (x5_25).toNat); omega
              refine g_iast X 2 0 rfl rfl (by omega) (by decide) dX6_bestRiseOf_63 (fun hold_63 e63 => ?_)
              have r_hold_63 : RA (-2147483648) 2147483647 hold_63 := by rw [e63]; exact RA_up r_hold_34 (by omega)
              refine g_ws (ws2 := ((wA cI 20 r_row v_row) ++ (wA cI 4 r_sold sold_34) ++ (wA cI 4 r_hold hold_63))) rfl ?_
              refine g_aload_n X dX6_bestRiseOf_64 3 rfl ?_
              refine g_iload X dX6_bestRiseOf_65 6 rfl ?_
              refine g_aload_n X dX6_bestRiseOf_67 3 rfl ?_
              refine g_iload X dX6_bestRiseOf_68 6 rfl ?_
              refine g_iald X 1 0 rfl rfl (by omega) (by decide) dX6_bestRiseOf_70 (fun t70 e70 => ?_)
              have r70 := r_sold_34 (x6_34 : Int).toNat; rw [← e70] at r70
              have b70 := w34_2 (x6_34).toNat (by omega) (by omega)
              have g70 := hR (x6_34).toNat
              refine g_aload X dX6_bestRiseOf_71 4 rfl ?_
              refine g_iload X dX6_bestRiseOf_73 6 rfl ?_
              refine g_iald X 2 0 rfl rfl (by omega) (by decide) dX6_bestRiseOf_75 (fun t75 e75 => ?_)
              have r75 := r_hold_63 (x6_34 : Int).toNat; rw [← e75] at r75
              have hv2 : t75 = brH v_row ((x5_25).toNat + 1) (x6_34 - 1).toNat := by rw [e75, e63, updZ_s]; exact hv
              have g75 := hR1 (x6_34 - 1).toNat
              refine g_aload_n X dX6_bestRiseOf_76 0 rfl ?_
              refine g_iload X dX6_bestRiseOf_77 5 rfl ?_
              refine g_iald X 0 0 rfl rfl (by omega) (by decide) dX6_bestRiseOf_79 (fun t79 e79 => ?_)
              have r79 := r_v_row (x5_25 : Int).toNat; rw [← e79] at r79
              have b79 := hp1 (x5_25).toNat (by omega)
              refine g_iadd X dX6_bestRiseOf_80 ?_
              refine g_mmax X uw900 uw807 uw111 uw808 ⟨by decide, Nat.le_of_ble_eq_true rfl⟩ hcs (by omega) (by omega) dX6_bestRiseOf_81 (fun t81 k81 => ?_)
              have hv3 : t81 = brF v_row ((x5_25).toNat + 1) (x6_34).toNat := by rw [hS.2]; have m1 := mx_e (brF v_row (x5_25).toNat (x6_34).toNat) (brH v_row ((x5_25).toNat + 1) (x6_34 - 1).toNat + v_row (x5_25).toNat); omega
              refine g_iast X 1 0 rfl rfl (by omega) (by decide) dX6_bestRiseOf_84 (fun sold_84 e84 => ?_)
              have r_sold_84 : RA (-2147483648) 2147483647 sold_84 := by rw [e84]; exact RA_up r_sold_34 (by omega)
              refine g_ws (ws2 := ((wA cI 20 r_row v_row) ++ (wA cI 4 r_sold sold_84) ++ (wA cI 4 r_hold hold_63))) rfl ?_
              refine g_iinc X (lv' := [(6, vI (x6_34 + 1)), (0, .ref r_row), (1, vI p1), (2, vI 3), (3, .ref r_sold), (4, .ref r_hold), (5, vI x5_25)]) dX6_bestRiseOf_85 6 rfl (by decide) rfl ?_
              refine g_goto X (tgt := 34) dX6_bestRiseOf_88 (by decide) ?_
              refine g_lv [1, 2, 3, 4, 5, 6, 0] rfl ?_
              exact ih34 (x6_34 + 1) sold_84 hold_63 r_sold_84 r_hold_63 (by first | assumption | omega) (by intro j hj; first | (have hj0 : j = 0 := (by omega); subst hj0; rw [w25_1 0 (by omega), brF_0, brF_0]) | (rw [e84]; exact if hq : j = (x6_34).toNat then by (rw [hq, updZ_s]; exact hv3) else by (rw [updZ_n _ _ hq]; exact w34_1 j (by omega)))) (by intro j hj hj2; first | exact w25_1 j hj2 | (rw [e84, updZ_n _ _ (by omega)]; exact w34_2 j (by omega) hj2)) (by intro j hj hj2; first | (exfalso; omega) | (rw [e63]; exact if hq : j = (x6_34).toNat then by (rw [hq, updZ_s, show (x6_34).toNat - 1 = (x6_34 - 1).toNat by omega]; exact hv) else by (rw [updZ_n _ _ hq]; exact w34_3 j hj (by omega)))) (by intro j hj hj2; first | exact w25_2 j (by omega) hj2 | (rw [e63, updZ_n _ _ (by omega)]; exact w34_4 j (by omega) hj2)) (by omega)
        refine g_lv [1, 2, 3, 4, 5, 6, 0] rfl ?_
        exact L34 _ 1 sold_25 hold_25 r_sold_25 r_hold_25 (by first | assumption | omega) (by intro j hj; first | (have hj0 : j = 0 := (by omega); subst hj0; rw [w25_1 0 (by omega), brF_0, brF_0]) | (rw [e84]; exact if hq : j = (x6_34).toNat then by (rw [hq, updZ_s]; exact hv3) else by (rw [updZ_n _ _ hq]; exact w34_1 j (by omega)))) (by intro j hj hj2; first | exact w25_1 j hj2 | (rw [e84, updZ_n _ _ (by omega)]; exact w34_2 j (by omega) hj2)) (by intro j hj hj2; first | (exfalso; omega) | (rw [e63]; exact if hq : j = (x6_34).toNat then by (rw [hq, updZ_s, show (x6_34).toNat - 1 = (x6_34 - 1).toNat by omega]; exact hv) else by (rw [updZ_n _ _ hq]; exact w34_3 j hj (by omega)))) (by intro j hj hj2; first | exact w25_2 j (by omega) hj2 | (rw [e63, updZ_n _ _ (by omega)]; exact w34_4 j (by omega) hj2)) (Nat.lt_succ_self _)
  refine g_lv [3, 4, 5, 2, 1, 0] rfl ?_
  exact L25 _ 1 v_sold hold_19 r_v_sold r_hold_19 (by first | assumption | omega) (by intro j hj; first | (rw [show (1 : Int).toNat = 1 from rfl, (h1 j).1]; exact hp2 j) | (rw [show (x5_25 + 1).toNat = (x5_25).toNat + 1 by omega]; exact w34_1 j (by omega))) (by intro j hj hj2; first | (rw [show (1 : Int).toNat = 1 from rfl, (h1 (j - 1)).2, kp0_19 j hj2, e17]; rfl) | (rw [show (x5_25 + 1).toNat = (x5_25).toNat + 1 by omega]; exact w34_3 j hj (by omega))) (Nat.lt_succ_self _)
