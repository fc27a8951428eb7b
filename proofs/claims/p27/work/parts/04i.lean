set_option maxHeartbeats 4000000 in
set_option maxRecDepth 100000 in
theorem c_X10_copies (l : Launch) (D : va_G) (cI cB cJ : ClassId) (r_from : Nat) (r_to : Nat) {v_from v_to : Nat → Int} (r_v_from : RA (-2147483648) 2147483647 v_from) (r_v_to : RA (-2147483648) 2147483647 v_to) : CtV l yX10_copies cX10_copies 3 none ⟨0, 0, 0, 0⟩ D (TY cI cB cJ) ((wA cI 34 r_from v_from) ++ (wA cI 34 r_to v_to)) [.ref r_from, .ref r_to] (fun ws' => ∃ n_to : Nat → Int, (RA (-2147483648) 2147483647 n_to) ∧ (∀ j : Nat, j < 34 → n_to j = v_from j) ∧ (ws' = ((wA cI 34 r_from v_from) ++ (wA cI 34 r_to n_to)))) := by
  refine hdrV (own := RX10) rfl (by decide +kernel) (Nat.le_of_ble_eq_true rfl) ?_
  intro p e s m args below meth c Q A X hQ
  refine g_lvE (lv2 := [(0, .ref r_from), (1, .ref r_to)]) rfl ?_
  refine g_iconst X dX10_copies_0 ?_
  refine g_istore_n X (lv' := [(2, vI 0), (0, .ref r_from), (1, .ref r_to)]) dX10_copies_1 (by decide) rfl ?_
  have L2 : ∀ (n : Nat) (x2_2 : Int) (to_2 : Nat → Int), (RA (-2147483648) 2147483647 to_2) → (0 ≤ x2_2 ∧ x2_2 ≤ 34) → (∀ j : Nat, (j : Int) < x2_2 → to_2 j = v_from j) → (34 - x2_2).toNat < n → GG p l e ⟨0, 0, 0, 0⟩ s m args below meth c 0 0 Q D A s.heap 3 ((wA cI 34 r_from v_from) ++ (wA cI 34 r_to to_2)) 2 [(0, .ref r_from), (1, .ref r_to), (2, vI x2_2)] [] := by
    intro n
    induction n with
    | zero => intros; exfalso; omega
    | succ n ih2 =>
      intro x2_2 to_2 r_to_2 w2_0 w2_1 wm2
      refine g_iload_n X dX10_copies_2 2 rfl ?_
      refine g_bipush X (z := 34) dX10_copies_3 (by decide) ?_
      refine g_icmp_ge X (tgt := 20) dX10_copies_5 (by decide) (by omega) (by omega) (fun c5 => ?_) (fun c5 => ?_)
      · have hf : ∀ j : Nat, j < 34 → to_2 j = v_from j := fun j hj => w2_1 j (by omega)
        exact hQ _ _ _ dX10_copies_20 ⟨to_2, r_to_2, (by first | assumption | omega), rfl⟩
      · refine g_aload_n X dX10_copies_8 1 rfl ?_
        refine g_iload_n X dX10_copies_9 2 rfl ?_
        refine g_aload_n X dX10_copies_10 0 rfl ?_
        refine g_iload_n X dX10_copies_11 2 rfl ?_
        refine g_iald X 0 0 rfl rfl (by omega) (by decide) dX10_copies_12 (fun t12 e12 => ?_)
        have r12 := r_v_from (x2_2 : Int).toNat; rw [← e12] at r12
        refine g_iast X 1 0 rfl rfl (by omega) (by decide) dX10_copies_13 (fun to_13 e13 => ?_)
        have r_to_13 : RA (-2147483648) 2147483647 to_13 := by rw [e13]; exact RA_up r_to_2 (by omega)
        refine g_ws (ws2 := ((wA cI 34 r_from v_from) ++ (wA cI 34 r_to to_13))) rfl ?_
        refine g_iinc X (lv' := [(2, vI (x2_2 + 1)), (0, .ref r_from), (1, .ref r_to)]) dX10_copies_14 2 rfl (by decide) rfl ?_
        refine g_goto X (tgt := 2) dX10_copies_17 (by decide) ?_
        refine g_lv [1, 2, 0] rfl ?_
        exact ih2 (x2_2 + 1) to_13 r_to_13 (by first | assumption | omega) (by intro j hj; first | (exfalso; omega) | (rw [e13]; exact if hq : j = (x2_2).toNat then by (rw [hq, updZ_s, e12]) else by (rw [updZ_n _ _ hq]; exact w2_1 j (by omega)))) (by omega)
  refine g_lv [1, 2, 0] rfl ?_
  exact L2 _ 0 v_to r_v_to (by first | assumption | omega) (by intro j hj; first | (exfalso; omega) | (rw [e13]; exact if hq : j = (x2_2).toNat then by (rw [hq, updZ_s, e12]) else by (rw [updZ_n _ _ hq]; exact w2_1 j (by omega)))) (Nat.lt_succ_self _)
