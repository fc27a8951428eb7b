set_option maxHeartbeats 4000000 in
set_option maxRecDepth 100000 in
theorem c_X10_isIdle (l : Launch) (D : va_G) (cI cB cJ : ClassId) (h : Nat) (q : Nat → Nat) {v_stalls v_claimMany v_taped v_place0 v_length0 v_fault v_number0 v_open v_codeMany v_waiting v_saidMany v_clauses v_newMany v_newStalls v_lines v_salesNow v_outNow v_isKept v_keptStalls : Int} {v_now v_aside v_kept v_oneOf v_otherOf v_signOf v_byOf v_tape v_said v_waitsAt v_saidLetter v_saidFrom v_saidHalf v_saidTo v_codes v_clauseOf v_codeFrom v_codeHalf v_codeTo v_stack v_facts v_newOne v_newOther v_newSign v_newBy v_moreOf v_firstOf v_toldOf v_mostOf v_mostThen v_sumTo v_rowFrom v_ordersOf v_lessOf v_weightOf v_rowNow v_slowRow v_fastRow v_lineNow v_firstLine v_freeBy v_heldBy v_heightOf v_upTo v_downTo v_oftenOf v_newUpper v_newLower : Nat → Int} {p0 : Int} (kr_v_claimMany : 0 ≤ v_claimMany ∧ v_claimMany ≤ 40) (r_v_oneOf : RA 0 11 v_oneOf) (r_v_otherOf : RA 0 11 v_otherOf) (r_v_signOf : RA (-2147483648) 2147483647 v_signOf) (r_v_byOf : RA (-9999) 9999 v_byOf) (r_v_toldOf : RA (-9999) 1000000 v_toldOf) (r_v_mostOf : RA (-1000000) 1000000 v_mostOf) (r_v_mostThen : RA (-1000000) 1000000 v_mostThen) (hp0 : IR p0) (hp1 : 0 ≤ p0) (hp2 : ∀ j : Nat, (j : Int) < v_claimMany → v_oneOf j ≠ v_otherOf j) (hp3 : okN (toF v_oneOf v_otherOf v_signOf v_byOf (-1) v_claimMany.toNat) 12 ∧ ∀ c : Nat, c < 144 → v_mostOf c = fwN (toF v_oneOf v_otherOf v_signOf v_byOf (-1) v_claimMany.toNat) 12 c) : CtI l yX10_isIdle cX10_isIdle 4 (some .boolean) ⟨4, 0, 0, 91⟩ D (TY cI cB cJ) (wX10 cI cB cJ h q v_stalls v_claimMany v_taped v_place0 v_length0 v_fault v_number0 v_open v_codeMany v_waiting v_saidMany v_clauses v_newMany v_newStalls v_lines v_salesNow v_outNow v_isKept v_keptStalls v_now v_aside v_kept v_oneOf v_otherOf v_signOf v_byOf v_tape v_said v_waitsAt v_saidLetter v_saidFrom v_saidHalf v_saidTo v_codes v_clauseOf v_codeFrom v_codeHalf v_codeTo v_stack v_facts v_newOne v_newOther v_newSign v_newBy v_moreOf v_firstOf v_toldOf v_mostOf v_mostThen v_sumTo v_rowFrom v_ordersOf v_lessOf v_weightOf v_rowNow v_slowRow v_fastRow v_lineNow v_firstLine v_freeBy v_heldBy v_heightOf v_upTo v_downTo v_oftenOf v_newUpper v_newLower) [.ref h, vI p0] (fun z ws' => (z = 0 ∨ z = 1) ∧ ∃ n_toldOf : Nat → Int, ∃ n_mostOf : Nat → Int, ∃ n_mostThen : Nat → Int, (RA (-9999) 1000000 n_toldOf) ∧ (RA (-1000000) 1000000 n_mostOf) ∧ (RA (-1000000) 1000000 n_mostThen) ∧ ((z = 1 ∧ idl v_oneOf v_otherOf v_signOf v_byOf v_claimMany.toNat p0.toNat) ∨ (z = 0 ∧ ¬ idl v_oneOf v_otherOf v_signOf v_byOf v_claimMany.toNat p0.toNat)) ∧ (∀ c : Nat, c < 144 → n_mostOf c = fwN (toF v_oneOf v_otherOf v_signOf v_byOf (-1) v_claimMany.toNat) 12 c) ∧ (ws' = (wX10 cI cB cJ h q v_stalls v_claimMany v_taped v_place0 v_length0 v_fault v_number0 v_open v_codeMany v_waiting v_saidMany v_clauses v_newMany v_newStalls v_lines v_salesNow v_outNow v_isKept v_keptStalls v_now v_aside v_kept v_oneOf v_otherOf v_signOf v_byOf v_tape v_said v_waitsAt v_saidLetter v_saidFrom v_saidHalf v_saidTo v_codes v_clauseOf v_codeFrom v_codeHalf v_codeTo v_stack v_facts v_newOne v_newOther v_newSign v_newBy v_moreOf v_firstOf n_toldOf n_mostOf n_mostThen v_sumTo v_rowFrom v_ordersOf v_lessOf v_weightOf v_rowNow v_slowRow v_fastRow v_lineNow v_firstLine v_freeBy v_heldBy v_heightOf v_upTo v_downTo v_oftenOf v_newUpper v_newLower))) := by
  refine hdrZ (own := RX10) rfl (by decide +kernel) (Nat.le_of_ble_eq_true rfl) ?_
  intro p e s m args below meth c Q A X hQ
  refine g_lvE (lv2 := [(0, .ref h), (1, vI p0)]) rfl ?_
  refine g_iconst X dX10_isIdle_0 ?_
  refine g_istore_n X (lv' := [(2, vI 0), (0, .ref h), (1, vI p0)]) dX10_isIdle_1 (by decide) rfl ?_
  have L2 : ∀ (n : Nat) (x2_2 : Int) (mostThen_2 : Nat → Int), (RA (-1000000) 1000000 mostThen_2) → (0 ≤ x2_2 ∧ x2_2 ≤ 144) → (∀ c : Nat, (c : Int) < x2_2 → mostThen_2 c = v_mostOf c) → (144 - x2_2).toNat < n → GG p l e ⟨4, 0, 0, 91⟩ s m args below meth c 0 0 Q D A s.heap 4 (wX10 cI cB cJ h q v_stalls v_claimMany v_taped v_place0 v_length0 v_fault v_number0 v_open v_codeMany v_waiting v_saidMany v_clauses v_newMany v_newStalls v_lines v_salesNow v_outNow v_isKept v_keptStalls v_now v_aside v_kept v_oneOf v_otherOf v_signOf v_byOf v_tape v_said v_waitsAt v_saidLetter v_saidFrom v_saidHalf v_saidTo v_codes v_clauseOf v_codeFrom v_codeHalf v_codeTo v_stack v_facts v_newOne v_newOther v_newSign v_newBy v_moreOf v_firstOf v_toldOf v_mostOf mostThen_2 v_sumTo v_rowFrom v_ordersOf v_lessOf v_weightOf v_rowNow v_slowRow v_fastRow v_lineNow v_firstLine v_freeBy v_heldBy v_heightOf v_upTo v_downTo v_oftenOf v_newUpper v_newLower) 2 [(0, .ref h), (1, vI p0), (2, vI x2_2)] [] := by
    intro n
    induction n with
    | zero => intros; exfalso; omega
    | succ n ih2 =>
      intro x2_2 mostThen_2 r_mostThen_2 w2_0 w2_1 wm2
      refine g_iload_n X dX10_isIdle_2 2 rfl ?_
      refine g_sipush X (z := 144) dX10_isIdle_3 (by decide) ?_
      refine g_icmp_ge X (tgt := 27) dX10_isIdle_6 (by decide) (by omega) (by omega) (fun c6 => ?_) (fun c6 => ?_)
      · have hTh : ∀ c : Nat, c < 144 → mostThen_2 c = v_mostOf c := fun c hc => w2_1 c (by omega)
        refine g_aload_n X dX10_isIdle_27 0 rfl ?_
        refine g_iload_n X dX10_isIdle_28 1 rfl ?_
        refine g_callVV0 X (c_X10_laysMost l D cI cB cJ h q (p0 := p0) (by omega) r_v_oneOf r_v_otherOf r_v_signOf r_v_byOf r_v_toldOf r_v_mostOf (by first | assumption | omega) (by first | assumption | omega)) cv_X10_laysMost uw1538 ⟨rfl, rfl, by decide, by decide⟩ 0 rfl rfl rfl rfl rfl (Nat.le_of_ble_eq_true rfl) ⟨Nat.zero_le _, Nat.zero_le _⟩ dX10_isIdle_29 (fun ws29 k29 => ?_)
        obtain ⟨toldOf_29, mostOf_29, r_toldOf_29, r_mostOf_29, kp0_29, kp1_29, rfl⟩ := k29
        refine g_iconst X dX10_isIdle_32 ?_
        refine g_istore_n X (lv' := [(2, vI 1), (0, .ref h), (1, vI p0)]) dX10_isIdle_33 (by decide) rfl ?_
        refine g_iconst X dX10_isIdle_34 ?_
        refine g_istore_n X (lv' := [(3, vI 0), (2, vI 1), (0, .ref h), (1, vI p0)]) dX10_isIdle_35 (by decide) rfl ?_
        have L36 : ∀ (n : Nat) (x2_36 : Int) (x3_36 : Int), (0 ≤ x3_36 ∧ x3_36 ≤ 144) → ((x2_36 = 1 ∧ ∀ c : Nat, (c : Int) < x3_36 → v_mostOf c = mostOf_29 c) ∨ (x2_36 = 0 ∧ ¬ ∀ c : Nat, c < 144 → v_mostOf c = mostOf_29 c)) → (144 - x3_36).toNat < n → GG p l e ⟨4, 0, 0, 91⟩ s m args below meth c 0 0 Q D A s.heap 4 (wX10 cI cB cJ h q v_stalls v_claimMany v_taped v_place0 v_length0 v_fault v_number0 v_open v_codeMany v_waiting v_saidMany v_clauses v_newMany v_newStalls v_lines v_salesNow v_outNow v_isKept v_keptStalls v_now v_aside v_kept v_oneOf v_otherOf v_signOf v_byOf v_tape v_said v_waitsAt v_saidLetter v_saidFrom v_saidHalf v_saidTo v_codes v_clauseOf v_codeFrom v_codeHalf v_codeTo v_stack v_facts v_newOne v_newOther v_newSign v_newBy v_moreOf v_firstOf toldOf_29 mostOf_29 mostThen_2 v_sumTo v_rowFrom v_ordersOf v_lessOf v_weightOf v_rowNow v_slowRow v_fastRow v_lineNow v_firstLine v_freeBy v_heldBy v_heightOf v_upTo v_downTo v_oftenOf v_newUpper v_newLower) 36 [(0, .ref h), (2, vI x2_36), (3, vI x3_36)] [] := by
          intro n
          induction n with
          | zero => intros; exfalso; omega
          | succ n ih36 =>
            intro x2_36 x3_36 w36_0 w36_1 wm36
            refine g_iload_n X dX10_isIdle_36 2 rfl ?_
            refine g_sipush X (z := 144) dX10_isIdle_37 (by decide) ?_
            refine g_icmp_ge X (tgt := 74) dX10_isIdle_40 (by decide) (by omega) (by omega) (fun c40 => ?_) (fun c40 => ?_)
            · have hI : (x2_36 = 1 ∧ idl v_oneOf v_otherOf v_signOf v_byOf v_claimMany.toNat p0.toNat) ∨ (x2_36 = 0 ∧ ¬ idl v_oneOf v_otherOf v_signOf v_byOf v_claimMany.toNat p0.toNat) := idl_like (w := p0) (by omega) hp3 kp1_29 (w36_1.elim (fun h => Or.inl ⟨h.1, fun c hc => h.2 c (by omega)⟩) (fun h => Or.inr h))
              refine g_aload_n X dX10_isIdle_74 0 rfl ?_
              refine g_iconst X dX10_isIdle_75 ?_
              refine g_callVV0 X (c_X10_laysMost l D cI cB cJ h q (p0 := (-1)) (by omega) r_v_oneOf r_v_otherOf r_v_signOf r_v_byOf r_toldOf_29 r_mostOf_29 (by first | assumption | omega) (by first | assumption | omega)) cv_X10_laysMost uw1538 ⟨rfl, rfl, by decide, by decide⟩ 0 rfl rfl rfl rfl rfl (Nat.le_of_ble_eq_true rfl) ⟨Nat.zero_le _, Nat.zero_le _⟩ dX10_isIdle_76 (fun ws76 k76 => ?_)
              obtain ⟨toldOf_76, mostOf_76, r_toldOf_76, r_mostOf_76, kp0_76, kp1_76, rfl⟩ := k76
              refine g_iload_n X dX10_isIdle_79 1 rfl ?_
              exact hQ _ _ _ _ dX10_isIdle_80 ⟨by omega, ⟨toldOf_76, mostOf_76, mostThen_2, r_toldOf_76, r_mostOf_76, r_mostThen_2, (by exact hI), (by exact (kp1_76.resolve_right (fun h => h.1 hp3.1)).2), rfl⟩⟩
            · refine g_iload_n X dX10_isIdle_43 1 rfl ?_
              refine g_if_eq X (tgt := 66) dX10_isIdle_44 (by decide) (by omega) (fun c44 => ?_) (fun c44 => ?_)
              · refine g_iconst X dX10_isIdle_66 ?_
                refine g_istore_n X (lv' := [(2, vI 0), (0, .ref h), (3, vI x3_36)]) dX10_isIdle_67 (by decide) rfl ?_
                refine g_iinc X (lv' := [(3, vI (x3_36 + 1)), (2, vI 0), (0, .ref h)]) dX10_isIdle_68 2 rfl (by decide) rfl ?_
                refine g_goto X (tgt := 36) dX10_isIdle_71 (by decide) ?_
                refine g_lv [2, 1, 0] rfl ?_
                exact ih36 0 (x3_36 + 1) (by first | assumption | omega) (by first | exact Or.inl ⟨rfl, fun c hc => absurd hc (by omega)⟩ | (rcases w36_1 with ⟨a1, a2⟩ | ⟨a1, a2⟩; (first | (exfalso; omega) | exact Or.inl ⟨rfl, fun c hc => by rcases (show (c : Int) < x3_36 ∨ c = (x3_36).toNat by omega) with h | h; exact a2 c h; (rw [h, ← hTh _ (by omega)]; omega)⟩ | exact Or.inr ⟨rfl, fun h => by have h9 := h (x3_36).toNat (by omega); have h8 := hTh (x3_36).toNat (by omega); omega⟩); (first | (exfalso; omega) | exact Or.inr ⟨rfl, a2⟩))) (by omega)
              · refine g_aload_n X dX10_isIdle_47 0 rfl ?_
                refine gM_get X 0 rfl 41 (by decide) uw1220 rfl dX10_isIdle_48 ?_
                refine g_iload_n X dX10_isIdle_51 2 rfl ?_
                refine g_iald X 29 0 rfl rfl (by omega) (by decide) dX10_isIdle_52 (fun t52 e52 => ?_)
                have r52 := r_mostOf_29 (x3_36 : Int).toNat; rw [← e52] at r52
                refine g_aload_n X dX10_isIdle_53 0 rfl ?_
                refine gM_get X 0 rfl 42 (by decide) uw1221 rfl dX10_isIdle_54 ?_
                refine g_iload_n X dX10_isIdle_57 2 rfl ?_
                refine g_iald X 30 0 rfl rfl (by omega) (by decide) dX10_isIdle_58 (fun t58 e58 => ?_)
                have r58 := r_mostThen_2 (x3_36 : Int).toNat; rw [← e58] at r58
                refine g_icmp_ne X (tgt := 66) dX10_isIdle_59 (by decide) (by omega) (by omega) (fun c59 => ?_) (fun c59 => ?_)
                · refine g_iconst X dX10_isIdle_66 ?_
                  refine g_istore_n X (lv' := [(2, vI 0), (0, .ref h), (3, vI x3_36)]) dX10_isIdle_67 (by decide) rfl ?_
                  refine g_iinc X (lv' := [(3, vI (x3_36 + 1)), (2, vI 0), (0, .ref h)]) dX10_isIdle_68 2 rfl (by decide) rfl ?_
                  refine g_goto X (tgt := 36) dX10_isIdle_71 (by decide) ?_
                  refine g_lv [2, 1, 0] rfl ?_
                  exact ih36 0 (x3_36 + 1) (by first | assumption | omega) (by first | exact Or.inl ⟨rfl, fun c hc => absurd hc (by omega)⟩ | (rcases w36_1 with ⟨a1, a2⟩ | ⟨a1, a2⟩; (first | (exfalso; omega) | exact Or.inl ⟨rfl, fun c hc => by rcases (show (c : Int) < x3_36 ∨ c = (x3_36).toNat by omega) with h | h; exact a2 c h; (rw [h, ← hTh _ (by omega)]; omega)⟩ | exact Or.inr ⟨rfl, fun h => by have h9 := h (x3_36).toNat (by omega); have h8 := hTh (x3_36).toNat (by omega); omega⟩); (first | (exfalso; omega) | exact Or.inr ⟨rfl, a2⟩))) (by omega)
                · refine g_iconst X dX10_isIdle_62 ?_
                  refine g_goto X (tgt := 67) dX10_isIdle_63 (by decide) ?_
                  refine g_istore_n X (lv' := [(2, vI 1), (0, .ref h), (3, vI x3_36)]) dX10_isIdle_67 (by decide) rfl ?_
                  refine g_iinc X (lv' := [(3, vI (x3_36 + 1)), (2, vI 1), (0, .ref h)]) dX10_isIdle_68 2 rfl (by decide) rfl ?_
                  refine g_goto X (tgt := 36) dX10_isIdle_71 (by decide) ?_
                  refine g_lv [2, 1, 0] rfl ?_
                  exact ih36 1 (x3_36 + 1) (by first | assumption | omega) (by first | exact Or.inl ⟨rfl, fun c hc => absurd hc (by omega)⟩ | (rcases w36_1 with ⟨a1, a2⟩ | ⟨a1, a2⟩; (first | (exfalso; omega) | exact Or.inl ⟨rfl, fun c hc => by rcases (show (c : Int) < x3_36 ∨ c = (x3_36).toNat by omega) with h | h; exact a2 c h; (rw [h, ← hTh _ (by omega)]; omega)⟩ | exact Or.inr ⟨rfl, fun h => by have h9 := h (x3_36).toNat (by omega); have h8 := hTh (x3_36).toNat (by omega); omega⟩); (first | (exfalso; omega) | exact Or.inr ⟨rfl, a2⟩))) (by omega)
        refine g_lv [2, 1, 0] rfl ?_
        exact L36 _ 1 0 (by first | assumption | omega) (by first | exact Or.inl ⟨rfl, fun c hc => absurd hc (by omega)⟩ | (rcases w36_1 with ⟨a1, a2⟩ | ⟨a1, a2⟩; (first | (exfalso; omega) | exact Or.inl ⟨rfl, fun c hc => by rcases (show (c : Int) < x3_36 ∨ c = (x3_36).toNat by omega) with h | h; exact a2 c h; (rw [h, ← hTh _ (by omega)]; omega)⟩ | exact Or.inr ⟨rfl, fun h => by have h9 := h (x3_36).toNat (by omega); have h8 := hTh (x3_36).toNat (by omega); omega⟩); (first | (exfalso; omega) | exact Or.inr ⟨rfl, a2⟩))) (Nat.lt_succ_self _)
      · refine g_aload_n X dX10_isIdle_9 0 rfl ?_
        refine gM_get X 0 rfl 42 (by decide) uw1221 rfl dX10_isIdle_10 ?_
        refine g_iload_n X dX10_isIdle_13 2 rfl ?_
        refine g_aload_n X dX10_isIdle_14 0 rfl ?_
        refine gM_get X 0 rfl 41 (by decide) uw1220 rfl dX10_isIdle_15 ?_
        refine g_iload_n X dX10_isIdle_18 2 rfl ?_
        refine g_iald X 29 0 rfl rfl (by omega) (by decide) dX10_isIdle_19 (fun t19 e19 => ?_)
        have r19 := r_v_mostOf (x2_2 : Int).toNat; rw [← e19] at r19
        refine g_iast X 30 0 rfl rfl (by omega) (by decide) dX10_isIdle_20 (fun mostThen_20 e20 => ?_)
        have r_mostThen_20 : RA (-1000000) 1000000 mostThen_20 := by rw [e20]; exact RA_up r_mostThen_2 (by omega)
        refine g_ws (ws2 := (wX10 cI cB cJ h q v_stalls v_claimMany v_taped v_place0 v_length0 v_fault v_number0 v_open v_codeMany v_waiting v_saidMany v_clauses v_newMany v_newStalls v_lines v_salesNow v_outNow v_isKept v_keptStalls v_now v_aside v_kept v_oneOf v_otherOf v_signOf v_byOf v_tape v_said v_waitsAt v_saidLetter v_saidFrom v_saidHalf v_saidTo v_codes v_clauseOf v_codeFrom v_codeHalf v_codeTo v_stack v_facts v_newOne v_newOther v_newSign v_newBy v_moreOf v_firstOf v_toldOf v_mostOf mostThen_20 v_sumTo v_rowFrom v_ordersOf v_lessOf v_weightOf v_rowNow v_slowRow v_fastRow v_lineNow v_firstLine v_freeBy v_heldBy v_heightOf v_upTo v_downTo v_oftenOf v_newUpper v_newLower)) rfl ?_
        refine g_iinc X (lv' := [(2, vI (x2_2 + 1)), (0, .ref h), (1, vI p0)]) dX10_isIdle_21 2 rfl (by decide) rfl ?_
        refine g_goto X (tgt := 2) dX10_isIdle_24 (by decide) ?_
        refine g_lv [1, 2, 0] rfl ?_
        exact ih2 (x2_2 + 1) mostThen_20 r_mostThen_20 (by first | assumption | omega) (by intro c hc; first | (exfalso; omega) | (rcases (show (c : Int) < x2_2 ∨ c = (x2_2).toNat by omega) with h | h; (rw [e20, updZ_n _ _ (by omega)]; exact w2_1 c h); (rw [e20, h, updZ_s]; exact e19))) (by omega)
  refine g_lv [1, 2, 0] rfl ?_
  exact L2 _ 0 v_mostThen r_v_mostThen (by first | assumption | omega) (by intro c hc; first | (exfalso; omega) | (rcases (show (c : Int) < x2_2 ∨ c = (x2_2).toNat by omega) with h | h; (rw [e20, updZ_n _ _ (by omega)]; exact w2_1 c h); (rw [e20, h, updZ_s]; exact e19))) (Nat.lt_succ_self _)
set_option maxHeartbeats 4000000 in
set_option maxRecDepth 100000 in
theorem c_X10_idle (l : Launch) (D : va_G) (cI cB cJ : ClassId) (h : Nat) (q : Nat → Nat) {v_stalls v_claimMany v_taped v_place0 v_length0 v_fault v_number0 v_open v_codeMany v_waiting v_saidMany v_clauses v_newMany v_newStalls v_lines v_salesNow v_outNow v_isKept v_keptStalls : Int} {v_now v_aside v_kept v_oneOf v_otherOf v_signOf v_byOf v_tape v_said v_waitsAt v_saidLetter v_saidFrom v_saidHalf v_saidTo v_codes v_clauseOf v_codeFrom v_codeHalf v_codeTo v_stack v_facts v_newOne v_newOther v_newSign v_newBy v_moreOf v_firstOf v_toldOf v_mostOf v_mostThen v_sumTo v_rowFrom v_ordersOf v_lessOf v_weightOf v_rowNow v_slowRow v_fastRow v_lineNow v_firstLine v_freeBy v_heldBy v_heightOf v_upTo v_downTo v_oftenOf v_newUpper v_newLower : Nat → Int} {p0 : Int} (kr_v_claimMany : 0 ≤ v_claimMany ∧ v_claimMany ≤ 40) (r_v_oneOf : RA 0 11 v_oneOf) (r_v_otherOf : RA 0 11 v_otherOf) (r_v_signOf : RA (-2147483648) 2147483647 v_signOf) (r_v_byOf : RA (-9999) 9999 v_byOf) (r_v_toldOf : RA (-9999) 1000000 v_toldOf) (r_v_mostOf : RA (-1000000) 1000000 v_mostOf) (r_v_mostThen : RA (-1000000) 1000000 v_mostThen) (hp0 : IR p0) (hp1 : ∀ j : Nat, (j : Int) < v_claimMany → v_oneOf j ≠ v_otherOf j) : CtI l yX10_idle cX10_idle 5 (some .int) ⟨5, 0, 0, 114⟩ D (TY cI cB cJ) (wX10 cI cB cJ h q v_stalls v_claimMany v_taped v_place0 v_length0 v_fault v_number0 v_open v_codeMany v_waiting v_saidMany v_clauses v_newMany v_newStalls v_lines v_salesNow v_outNow v_isKept v_keptStalls v_now v_aside v_kept v_oneOf v_otherOf v_signOf v_byOf v_tape v_said v_waitsAt v_saidLetter v_saidFrom v_saidHalf v_saidTo v_codes v_clauseOf v_codeFrom v_codeHalf v_codeTo v_stack v_facts v_newOne v_newOther v_newSign v_newBy v_moreOf v_firstOf v_toldOf v_mostOf v_mostThen v_sumTo v_rowFrom v_ordersOf v_lessOf v_weightOf v_rowNow v_slowRow v_fastRow v_lineNow v_firstLine v_freeBy v_heldBy v_heightOf v_upTo v_downTo v_oftenOf v_newUpper v_newLower) [.ref h, vI p0] (fun z ws' => ∃ n_toldOf : Nat → Int, ∃ n_mostOf : Nat → Int, ∃ n_mostThen : Nat → Int, (RA (-9999) 1000000 n_toldOf) ∧ (RA (-1000000) 1000000 n_mostOf) ∧ (RA (-1000000) 1000000 n_mostThen) ∧ (IR z) ∧ (((0 ≤ p0 ∧ p0 ≤ 1) ∧ (okZ (toF v_oneOf v_otherOf v_signOf v_byOf (-1) v_claimMany.toNat)) ≠ 1 ∧ z = -3) ∨ ((0 ≤ p0 ∧ p0 ≤ 1) ∧ (okZ (toF v_oneOf v_otherOf v_signOf v_byOf (-1) v_claimMany.toNat)) = 1 ∧ p0 = 0 ∧ z = idC v_oneOf v_otherOf v_signOf v_byOf v_claimMany.toNat v_claimMany.toNat) ∨ ((0 ≤ p0 ∧ p0 ≤ 1) ∧ (okZ (toF v_oneOf v_otherOf v_signOf v_byOf (-1) v_claimMany.toNat)) = 1 ∧ p0 = 1 ∧ z = idV v_oneOf v_otherOf v_signOf v_byOf v_claimMany.toNat v_claimMany.toNat) ∨ (¬ (0 ≤ p0 ∧ p0 ≤ 1) ∧ z = -1)) ∧ (ws' = (wX10 cI cB cJ h q v_stalls v_claimMany v_taped v_place0 v_length0 v_fault v_number0 v_open v_codeMany v_waiting v_saidMany v_clauses v_newMany v_newStalls v_lines v_salesNow v_outNow v_isKept v_keptStalls v_now v_aside v_kept v_oneOf v_otherOf v_signOf v_byOf v_tape v_said v_waitsAt v_saidLetter v_saidFrom v_saidHalf v_saidTo v_codes v_clauseOf v_codeFrom v_codeHalf v_codeTo v_stack v_facts v_newOne v_newOther v_newSign v_newBy v_moreOf v_firstOf n_toldOf n_mostOf n_mostThen v_sumTo v_rowFrom v_ordersOf v_lessOf v_weightOf v_rowNow v_slowRow v_fastRow v_lineNow v_firstLine v_freeBy v_heldBy v_heightOf v_upTo v_downTo v_oftenOf v_newUpper v_newLower))) := by
  refine hdrI (own := RX10) rfl (by decide +kernel) (Nat.le_of_ble_eq_true rfl) ?_
  intro p e s m args below meth c Q A X hQ
  refine g_lvE (lv2 := [(0, .ref h), (1, vI p0)]) rfl ?_
  refine g_iload_n X dX10_idle_0 1 rfl ?_
  refine g_iconst X dX10_idle_1 ?_
  refine g_iconst X dX10_idle_2 ?_
  refine g_callSIE X (c_X10_in l D cI cB cJ (p0 := p0) (p1 := 0) (p2 := 1) (by first | assumption | omega) (by first | assumption | omega) (by first | assumption | omega)) cv_X10_in uw1394 ⟨rfl, rfl, by decide, by decide⟩ rfl rfl (Nat.le_of_ble_eq_true rfl) ⟨Nat.zero_le _, Nat.zero_le _⟩ dX10_idle_3 (fun t3 ws3 k3 => ?_)
  obtain ⟨kb_3, ⟨kp0_3, rfl⟩⟩ := k3
  refine g_if_ne X (tgt := 11) dX10_idle_6 (by decide) (by omega) (fun c6 => ?_) (fun c6 => ?_)
  · refine g_aload_n X dX10_idle_11 0 rfl ?_
    refine g_iconst X dX10_idle_12 ?_
    refine g_callVV0 X (c_X10_laysMost l D cI cB cJ h q (p0 := (-1)) (by omega) r_v_oneOf r_v_otherOf r_v_signOf r_v_byOf r_v_toldOf r_v_mostOf (by first | assumption | omega) (by first | assumption | omega)) cv_X10_laysMost uw1538 ⟨rfl, rfl, by decide, by decide⟩ 0 rfl rfl rfl rfl rfl (Nat.le_of_ble_eq_true rfl) ⟨Nat.zero_le _, Nat.zero_le _⟩ dX10_idle_13 (fun ws13 k13 => ?_)
    obtain ⟨toldOf_13, mostOf_13, r_toldOf_13, r_mostOf_13, kp0_13, kp1_13, rfl⟩ := k13
    refine g_aload_n X dX10_idle_16 0 rfl ?_
    refine g_callVI0 X (c_X10_canBeSo l D cI cB cJ h q  r_mostOf_13) cv_X10_canBeSo uw1557 ⟨rfl, rfl, by decide, by decide⟩ 0 rfl rfl rfl rfl rfl (Nat.le_of_ble_eq_true rfl) ⟨Nat.zero_le _, Nat.zero_le _⟩ dX10_idle_17 (fun t17 ws17 k17 => ?_)
    obtain ⟨kb_17, ⟨kp0_17, rfl⟩⟩ := k17
    have hcan : (t17 = 1 ∧ okN (toF v_oneOf v_otherOf v_signOf v_byOf (-1) v_claimMany.toNat) 12 ∧ ∀ c : Nat, c < 144 → mostOf_13 c = fwN (toF v_oneOf v_otherOf v_signOf v_byOf (-1) v_claimMany.toNat) 12 c) ∨ (t17 = 0 ∧ ¬ okN (toF v_oneOf v_otherOf v_signOf v_byOf (-1) v_claimMany.toNat) 12) := can_e kp1_13 kp0_17
    have hoz := okZ_e (toF v_oneOf v_otherOf v_signOf v_byOf (-1) v_claimMany.toNat)
    have hok : t17 = okZ (toF v_oneOf v_otherOf v_signOf v_byOf (-1) v_claimMany.toNat) := by rcases hcan with ⟨g1, g2, _⟩ | ⟨g1, g2⟩; (rcases hoz with ⟨k1, k2⟩ | ⟨k1, k2⟩; omega; exact absurd g2 k1); (rcases hoz with ⟨k1, k2⟩ | ⟨k1, k2⟩; exact absurd k1 g2; omega)
    have hM9 : t17 = 1 → okN (toF v_oneOf v_otherOf v_signOf v_byOf (-1) v_claimMany.toNat) 12 ∧ ∀ c : Nat, c < 144 → mostOf_13 c = fwN (toF v_oneOf v_otherOf v_signOf v_byOf (-1) v_claimMany.toNat) 12 c := fun h => (hcan.resolve_right (fun g => by omega)).2
    clear hcan hoz kp1_13 kp0_17
    refine g_if_ne X (tgt := 26) dX10_idle_20 (by decide) (by omega) (fun c20 => ?_) (fun c20 => ?_)
    · have hM := (hM9 (by omega)).2
      have hok2 : okN (toF v_oneOf v_otherOf v_signOf v_byOf (-1) v_claimMany.toNat) 12 := (hM9 (by omega)).1
      refine g_iconst X dX10_idle_26 ?_
      refine g_istore_n X (lv' := [(2, vI 0), (0, .ref h), (1, vI p0)]) dX10_idle_27 (by decide) rfl ?_
      refine g_bipush X (z := (-2)) dX10_idle_28 (by decide) ?_
      refine g_istore_n X (lv' := [(3, vI (-2)), (2, vI 0), (0, .ref h), (1, vI p0)]) dX10_idle_30 (by decide) rfl ?_
      refine g_aload_n X dX10_idle_31 2 rfl ?_
      refine gM_get X 0 rfl 8 (by decide) uw1187 rfl dX10_idle_32 ?_
      refine g_iconst X dX10_idle_35 ?_
      refine g_isub X dX10_idle_36 ?_
      refine g_istore X (lv' := [(4, vI (v_claimMany - 1)), (3, vI (-2)), (2, vI 0), (0, .ref h), (1, vI p0)]) dX10_idle_37 (by decide) rfl ?_
      have hz0 : (v_claimMany - 1 + 1).toNat = v_claimMany.toNat := by congr 1; omega
      have L39 : ∀ (n : Nat) (x2_39 : Int) (x3_39 : Int) (x4_39 : Int) (toldOf_39 : Nat → Int) (mostOf_39 : Nat → Int) (mostThen_39 : Nat → Int), (RA (-9999) 1000000 toldOf_39) → (RA (-1000000) 1000000 mostOf_39) → (RA (-1000000) 1000000 mostThen_39) → (-1 ≤ x4_39 ∧ x4_39 < v_claimMany ∨ (x4_39 = -1)) → (0 ≤ x2_39 ∧ x2_39 ≤ v_claimMany - 1 - x4_39) → (-2 ≤ x3_39 ∧ x3_39 ≤ 40) → (x2_39 = idC v_oneOf v_otherOf v_signOf v_byOf v_claimMany.toNat v_claimMany.toNat - idC v_oneOf v_otherOf v_signOf v_byOf v_claimMany.toNat (x4_39 + 1).toNat) → ((x3_39 = -2 ∧ ∀ k : Nat, x4_39 < (k : Int) → (k : Int) < v_claimMany → ¬ idl v_oneOf v_otherOf v_signOf v_byOf v_claimMany.toNat k) ∨ (x4_39 < x3_39 ∧ x3_39 < v_claimMany ∧ idl v_oneOf v_otherOf v_signOf v_byOf v_claimMany.toNat (x3_39).toNat ∧ ∀ k : Nat, x4_39 < (k : Int) → (k : Int) < x3_39 → ¬ idl v_oneOf v_otherOf v_signOf v_byOf v_claimMany.toNat k)) → (∀ c : Nat, c < 144 → mostOf_39 c = fwN (toF v_oneOf v_otherOf v_signOf v_byOf (-1) v_claimMany.toNat) 12 c) → (x4_39 + 1).toNat < n → GG p l e ⟨5, 0, 0, 114⟩ s m args below meth c 0 0 Q D A s.heap 5 (wX10 cI cB cJ h q v_stalls v_claimMany v_taped v_place0 v_length0 v_fault v_number0 v_open v_codeMany v_waiting v_saidMany v_clauses v_newMany v_newStalls v_lines v_salesNow v_outNow v_isKept v_keptStalls v_now v_aside v_kept v_oneOf v_otherOf v_signOf v_byOf v_tape v_said v_waitsAt v_saidLetter v_saidFrom v_saidHalf v_saidTo v_codes v_clauseOf v_codeFrom v_codeHalf v_codeTo v_stack v_facts v_newOne v_newOther v_newSign v_newBy v_moreOf v_firstOf toldOf_39 mostOf_39 mostThen_39 v_sumTo v_rowFrom v_ordersOf v_lessOf v_weightOf v_rowNow v_slowRow v_fastRow v_lineNow v_firstLine v_freeBy v_heldBy v_heightOf v_upTo v_downTo v_oftenOf v_newUpper v_newLower) 39 [(0, .ref h), (1, vI p0), (2, vI x2_39), (3, vI x3_39), (4, vI x4_39)] [] := by
        intro n
        induction n with
        | zero => intros; exfalso; omega
        | succ n ih39 =>
          intro x2_39 x3_39 x4_39 toldOf_39 mostOf_39 mostThen_39 r_toldOf_39 r_mostOf_39 r_mostThen_39 w39_0 w39_1 w39_2 w39_3 w39_4 w39_5 wm39
          have hz4 : (x4_39 + (-1) + 1).toNat = (x4_39).toNat := by congr 1; omega
          refine g_iload X dX10_idle_39 4 rfl ?_
          refine g_if_lt X (tgt := 69) dX10_idle_41 (by decide) (by omega) (fun c41 => ?_) (fun c41 => ?_)
          · refine g_iload_n X dX10_idle_69 1 rfl ?_
            refine g_if_ne X (tgt := 77) dX10_idle_70 (by decide) (by omega) (fun c70 => ?_) (fun c70 => ?_)
            · refine g_iload_n X dX10_idle_77 3 rfl ?_
              have hz : idC v_oneOf v_otherOf v_signOf v_byOf v_claimMany.toNat (x4_39 + 1).toNat = 0 := by rw [show (x4_39 + 1).toNat = 0 by omega]; rfl
              have hV : x3_39 = idV v_oneOf v_otherOf v_signOf v_byOf v_claimMany.toNat v_claimMany.toNat := idG.u (by rcases w39_4 with ⟨a1, a2⟩ | ⟨a1, a2, a3, a4⟩; exact Or.inl ⟨a1, fun k hk => a2 k (by omega) (by omega)⟩; exact Or.inr ⟨by omega, by omega, a3, fun k hk => a4 k (by omega) hk⟩)
              exact hQ _ _ _ _ dX10_idle_78 ⟨toldOf_39, mostOf_39, mostThen_39, r_toldOf_39, r_mostOf_39, r_mostThen_39, (by first | assumption | omega), (by first | assumption | omega), rfl⟩
            · refine g_iload_n X dX10_idle_73 2 rfl ?_
              refine g_goto X (tgt := 78) dX10_idle_74 (by decide) ?_
              have hz : idC v_oneOf v_otherOf v_signOf v_byOf v_claimMany.toNat (x4_39 + 1).toNat = 0 := by rw [show (x4_39 + 1).toNat = 0 by omega]; rfl
              have hV : x3_39 = idV v_oneOf v_otherOf v_signOf v_byOf v_claimMany.toNat v_claimMany.toNat := idG.u (by rcases w39_4 with ⟨a1, a2⟩ | ⟨a1, a2, a3, a4⟩; exact Or.inl ⟨a1, fun k hk => a2 k (by omega) (by omega)⟩; exact Or.inr ⟨by omega, by omega, a3, fun k hk => a4 k (by omega) hk⟩)
              exact hQ _ _ _ _ dX10_idle_78 ⟨toldOf_39, mostOf_39, mostThen_39, r_toldOf_39, r_mostOf_39, r_mostThen_39, (by first | assumption | omega), (by first | assumption | omega), rfl⟩
          · have hS := idC_s v_oneOf v_otherOf v_signOf v_byOf v_claimMany.toNat (x := x4_39) (by omega)
            have hMo : okN (toF v_oneOf v_otherOf v_signOf v_byOf (-1) v_claimMany.toNat) 12 ∧ ∀ c : Nat, c < 144 → mostOf_39 c = fwN (toF v_oneOf v_otherOf v_signOf v_byOf (-1) v_claimMany.toNat) 12 c := ⟨hok2, w39_5⟩
            refine g_aload_n X dX10_idle_44 0 rfl ?_
            refine g_iload X dX10_idle_45 4 rfl ?_
            refine g_callVI0 X (c_X10_isIdle l D cI cB cJ h q (p0 := x4_39) (by omega) r_v_oneOf r_v_otherOf r_v_signOf r_v_byOf r_toldOf_39 r_mostOf_39 r_mostThen_39 (by first | assumption | omega) (by first | assumption | omega) (by first | assumption | omega) (by first | assumption | omega)) cv_X10_isIdle uw1596 ⟨rfl, rfl, by decide, by decide⟩ 0 rfl rfl rfl rfl rfl (Nat.le_of_ble_eq_true rfl) ⟨Nat.zero_le _, Nat.zero_le _⟩ dX10_idle_47 (fun t47 ws47 k47 => ?_)
            obtain ⟨kb_47, ⟨toldOf_47, mostOf_47, mostThen_47, r_toldOf_47, r_mostOf_47, r_mostThen_47, kp0_47, kp1_47, rfl⟩⟩ := k47
            refine g_if_ne X (tgt := 56) dX10_idle_50 (by decide) (by omega) (fun c50 => ?_) (fun c50 => ?_)
            · refine g_iload_n X dX10_idle_56 2 rfl ?_
              refine g_iconst X dX10_idle_57 ?_
              refine g_iadd X dX10_idle_58 ?_
              refine g_istore_n X (lv' := [(2, vI (x2_39 + 1)), (0, .ref h), (1, vI p0), (3, vI x3_39), (4, vI x4_39)]) dX10_idle_59 (by decide) rfl ?_
              refine g_iload X dX10_idle_60 4 rfl ?_
              refine g_istore_n X (lv' := [(3, vI x4_39), (2, vI (x2_39 + 1)), (0, .ref h), (1, vI p0), (4, vI x4_39)]) dX10_idle_62 (by decide) rfl ?_
              try (have hI2 := (kp0_47.resolve_right (fun h => by omega)).2)
              try (have hI3 := (kp0_47.resolve_left (fun h => by omega)).2)
              try (have hS2 := (hS.resolve_right (fun g => g.1 hI2)).2)
              try (have hS2 := (hS.resolve_left (fun g => hI3 g.1)).2)
              refine g_iinc X (lv' := [(4, vI (x4_39 + (-1))), (3, vI x4_39), (2, vI (x2_39 + 1)), (0, .ref h), (1, vI p0)]) dX10_idle_63 4 rfl (by decide) rfl ?_
              refine g_goto X (tgt := 39) dX10_idle_66 (by decide) ?_
              refine g_lv [3, 4, 2, 1, 0] rfl ?_
              exact ih39 (x2_39 + 1) x4_39 (x4_39 + (-1)) toldOf_47 mostOf_47 mostThen_47 r_toldOf_47 r_mostOf_47 r_mostThen_47 (by first | assumption | omega) (by first | assumption | omega) (by first | assumption | omega) (by first | (rw [hz0]; omega) | (rw [hz4]; omega)) (by first | exact Or.inl ⟨rfl, fun k h1 h2 => absurd h2 (by omega)⟩ | exact Or.inr ⟨by omega, by omega, hI2, fun k h1 h2 => absurd h2 (by omega)⟩ | (rcases w39_4 with ⟨a1, a2⟩ | ⟨a1, a2, a3, a4⟩; exact Or.inl ⟨a1, fun k h1 h2 => by rcases (show x4_39 < (k : Int) ∨ k = (x4_39).toNat by omega) with h | h; exact a2 k h h2; (rw [h]; exact hI3)⟩; exact Or.inr ⟨by omega, a2, a3, fun k h1 h2 => by rcases (show x4_39 < (k : Int) ∨ k = (x4_39).toNat by omega) with h | h; exact a4 k h h2; (rw [h]; exact hI3)⟩)) (by first | exact hM | exact kp1_47) (by omega)
            · refine g_goto X (tgt := 63) dX10_idle_53 (by decide) ?_
              try (have hI2 := (kp0_47.resolve_right (fun h => by omega)).2)
              try (have hI3 := (kp0_47.resolve_left (fun h => by omega)).2)
              try (have hS2 := (hS.resolve_right (fun g => g.1 hI2)).2)
              try (have hS2 := (hS.resolve_left (fun g => hI3 g.1)).2)
              refine g_iinc X (lv' := [(4, vI (x4_39 + (-1))), (0, .ref h), (1, vI p0), (2, vI x2_39), (3, vI x3_39)]) dX10_idle_63 4 rfl (by decide) rfl ?_
              refine g_goto X (tgt := 39) dX10_idle_66 (by decide) ?_
              refine g_lv [1, 2, 3, 4, 0] rfl ?_
              exact ih39 x2_39 x3_39 (x4_39 + (-1)) toldOf_47 mostOf_47 mostThen_47 r_toldOf_47 r_mostOf_47 r_mostThen_47 (by first | assumption | omega) (by first | assumption | omega) (by first | assumption | omega) (by first | (rw [hz0]; omega) | (rw [hz4]; omega)) (by first | exact Or.inl ⟨rfl, fun k h1 h2 => absurd h2 (by omega)⟩ | exact Or.inr ⟨by omega, by omega, hI2, fun k h1 h2 => absurd h2 (by omega)⟩ | (rcases w39_4 with ⟨a1, a2⟩ | ⟨a1, a2, a3, a4⟩; exact Or.inl ⟨a1, fun k h1 h2 => by rcases (show x4_39 < (k : Int) ∨ k = (x4_39).toNat by omega) with h | h; exact a2 k h h2; (rw [h]; exact hI3)⟩; exact Or.inr ⟨by omega, a2, a3, fun k h1 h2 => by rcases (show x4_39 < (k : Int) ∨ k = (x4_39).toNat by omega) with h | h; exact a4 k h h2; (rw [h]; exact hI3)⟩)) (by first | exact hM | exact kp1_47) (by omega)
      refine g_lv [3, 4, 2, 1, 0] rfl ?_
      exact L39 _ 0 (-2) (v_claimMany - 1) toldOf_13 mostOf_13 v_mostThen r_toldOf_13 r_mostOf_13 r_v_mostThen (by first | assumption | omega) (by first | assumption | omega) (by first | assumption | omega) (by first | (rw [hz0]; omega) | (rw [hz4]; omega)) (by first | exact Or.inl ⟨rfl, fun k h1 h2 => absurd h2 (by omega)⟩ | exact Or.inr ⟨by omega, by omega, hI2, fun k h1 h2 => absurd h2 (by omega)⟩ | (rcases w39_4 with ⟨a1, a2⟩ | ⟨a1, a2, a3, a4⟩; exact Or.inl ⟨a1, fun k h1 h2 => by rcases (show x4_39 < (k : Int) ∨ k = (x4_39).toNat by omega) with h | h; exact a2 k h h2; (rw [h]; exact hI3)⟩; exact Or.inr ⟨by omega, a2, a3, fun k h1 h2 => by rcases (show x4_39 < (k : Int) ∨ k = (x4_39).toNat by omega) with h | h; exact a4 k h h2; (rw [h]; exact hI3)⟩)) (by first | exact hM | exact kp1_47) (Nat.lt_succ_self _)
    · refine g_bipush X (z := (-3)) dX10_idle_23 (by decide) ?_
      exact hQ _ _ _ _ dX10_idle_25 ⟨toldOf_13, mostOf_13, v_mostThen, r_toldOf_13, r_mostOf_13, r_v_mostThen, (by first | assumption | omega), (by first | assumption | omega), rfl⟩
  · refine g_iconst X dX10_idle_9 ?_
    exact hQ _ _ _ _ dX10_idle_10 ⟨v_toldOf, v_mostOf, v_mostThen, r_v_toldOf, r_v_mostOf, r_v_mostThen, (by first | assumption | omega), (by first | assumption | omega), rfl⟩
set_option maxHeartbeats 4000000 in
set_option maxRecDepth 100000 in
theorem c_X10_groupOf (l : Launch) (D : va_G) (cI cB cJ : ClassId) (h : Nat) (q : Nat → Nat) {v_stalls v_claimMany v_taped v_place0 v_length0 v_fault v_number0 v_open v_codeMany v_waiting v_saidMany v_clauses v_newMany v_newStalls v_lines v_salesNow v_outNow v_isKept v_keptStalls : Int} {v_now v_aside v_kept v_oneOf v_otherOf v_signOf v_byOf v_tape v_said v_waitsAt v_saidLetter v_saidFrom v_saidHalf v_saidTo v_codes v_clauseOf v_codeFrom v_codeHalf v_codeTo v_stack v_facts v_newOne v_newOther v_newSign v_newBy v_moreOf v_firstOf v_toldOf v_mostOf v_mostThen v_sumTo v_rowFrom v_ordersOf v_lessOf v_weightOf v_rowNow v_slowRow v_fastRow v_lineNow v_firstLine v_freeBy v_heldBy v_heightOf v_upTo v_downTo v_oftenOf v_newUpper v_newLower : Nat → Int} {p0 : Int} (r_v_firstOf : RA 0 11 v_firstOf) (hp0 : IR p0) (hp1 : 0 ≤ p0 ∧ p0 ≤ 11) : CtI l yX10_groupOf cX10_groupOf 4 (some .int) ⟨0, 0, 0, 0⟩ D (TY cI cB cJ) (wX10 cI cB cJ h q v_stalls v_claimMany v_taped v_place0 v_length0 v_fault v_number0 v_open v_codeMany v_waiting v_saidMany v_clauses v_newMany v_newStalls v_lines v_salesNow v_outNow v_isKept v_keptStalls v_now v_aside v_kept v_oneOf v_otherOf v_signOf v_byOf v_tape v_said v_waitsAt v_saidLetter v_saidFrom v_saidHalf v_saidTo v_codes v_clauseOf v_codeFrom v_codeHalf v_codeTo v_stack v_facts v_newOne v_newOther v_newSign v_newBy v_moreOf v_firstOf v_toldOf v_mostOf v_mostThen v_sumTo v_rowFrom v_ordersOf v_lessOf v_weightOf v_rowNow v_slowRow v_fastRow v_lineNow v_firstLine v_freeBy v_heldBy v_heightOf v_upTo v_downTo v_oftenOf v_newUpper v_newLower) [.ref h, vI p0] (fun z ws' => (IR z) ∧ (ws' = (wX10 cI cB cJ h q v_stalls v_claimMany v_taped v_place0 v_length0 v_fault v_number0 v_open v_codeMany v_waiting v_saidMany v_clauses v_newMany v_newStalls v_lines v_salesNow v_outNow v_isKept v_keptStalls v_now v_aside v_kept v_oneOf v_otherOf v_signOf v_byOf v_tape v_said v_waitsAt v_saidLetter v_saidFrom v_saidHalf v_saidTo v_codes v_clauseOf v_codeFrom v_codeHalf v_codeTo v_stack v_facts v_newOne v_newOther v_newSign v_newBy v_moreOf v_firstOf v_toldOf v_mostOf v_mostThen v_sumTo v_rowFrom v_ordersOf v_lessOf v_weightOf v_rowNow v_slowRow v_fastRow v_lineNow v_firstLine v_freeBy v_heldBy v_heightOf v_upTo v_downTo v_oftenOf v_newUpper v_newLower))) := by
  refine hdrI (own := RX10) rfl (by decide +kernel) (Nat.le_of_ble_eq_true rfl) ?_
  intro p e s m args below meth c Q A X hQ
  refine g_lvE (lv2 := [(0, .ref h), (1, vI p0)]) rfl ?_
  refine g_iconst X dX10_groupOf_0 ?_
  refine g_istore_n X (lv' := [(2, vI 0), (0, .ref h), (1, vI p0)]) dX10_groupOf_1 (by decide) rfl ?_
  refine g_iconst X dX10_groupOf_2 ?_
  refine g_istore_n X (lv' := [(3, vI 0), (2, vI 0), (0, .ref h), (1, vI p0)]) dX10_groupOf_3 (by decide) rfl ?_
  have L4 : ∀ (n : Nat) (x2_4 : Int) (x3_4 : Int), (0 ≤ x3_4 ∧ x3_4 ≤ 12) → (IR x2_4) → (12 - x3_4).toNat < n → GG p l e ⟨0, 0, 0, 0⟩ s m args below meth c 0 0 Q D A s.heap 4 (wX10 cI cB cJ h q v_stalls v_claimMany v_taped v_place0 v_length0 v_fault v_number0 v_open v_codeMany v_waiting v_saidMany v_clauses v_newMany v_newStalls v_lines v_salesNow v_outNow v_isKept v_keptStalls v_now v_aside v_kept v_oneOf v_otherOf v_signOf v_byOf v_tape v_said v_waitsAt v_saidLetter v_saidFrom v_saidHalf v_saidTo v_codes v_clauseOf v_codeFrom v_codeHalf v_codeTo v_stack v_facts v_newOne v_newOther v_newSign v_newBy v_moreOf v_firstOf v_toldOf v_mostOf v_mostThen v_sumTo v_rowFrom v_ordersOf v_lessOf v_weightOf v_rowNow v_slowRow v_fastRow v_lineNow v_firstLine v_freeBy v_heldBy v_heightOf v_upTo v_downTo v_oftenOf v_newUpper v_newLower) 4 [(0, .ref h), (1, vI p0), (2, vI x2_4), (3, vI x3_4)] [] := by
    intro n
    induction n with
    | zero => intros; exfalso; omega
    | succ n ih4 =>
      intro x2_4 x3_4 w4_0 w4_1 wm4
      refine g_iload_n X dX10_groupOf_4 3 rfl ?_
      refine g_bipush X (z := 12) dX10_groupOf_5 (by decide) ?_
      refine g_icmp_ge X (tgt := 37) dX10_groupOf_7 (by decide) (by omega) (by omega) (fun c7 => ?_) (fun c7 => ?_)
      · refine g_iload_n X dX10_groupOf_37 2 rfl ?_
        exact hQ _ _ _ _ dX10_groupOf_38 ⟨(by omega), rfl⟩
      · refine g_aload_n X dX10_groupOf_10 0 rfl ?_
        refine gM_get X 0 rfl 39 (by decide) uw1218 rfl dX10_groupOf_11 ?_
        refine g_iload_n X dX10_groupOf_14 3 rfl ?_
        refine g_iald X 27 0 rfl rfl (by omega) (by decide) dX10_groupOf_15 (fun t15 e15 => ?_)
        have r15 := r_v_firstOf (x3_4 : Int).toNat; rw [← e15] at r15
        refine g_aload_n X dX10_groupOf_16 0 rfl ?_
        refine gM_get X 0 rfl 39 (by decide) uw1218 rfl dX10_groupOf_17 ?_
        refine g_iload_n X dX10_groupOf_20 1 rfl ?_
        refine g_iald X 27 0 rfl rfl (by omega) (by decide) dX10_groupOf_21 (fun t21 e21 => ?_)
        have r21 := r_v_firstOf (p0 : Int).toNat; rw [← e21] at r21
        refine g_icmp_ne X (tgt := 31) dX10_groupOf_22 (by decide) (by omega) (by omega) (fun c22 => ?_) (fun c22 => ?_)
        · refine g_iinc X (lv' := [(3, vI (x3_4 + 1)), (0, .ref h), (1, vI p0), (2, vI x2_4)]) dX10_groupOf_31 3 rfl (by decide) rfl ?_
          refine g_goto X (tgt := 4) dX10_groupOf_34 (by decide) ?_
          refine g_lv [1, 2, 3, 0] rfl ?_
          exact ih4 x2_4 (x3_4 + 1) (by first | assumption | omega) (by first | assumption | omega) (by omega)
        · refine g_iload_n X dX10_groupOf_25 2 rfl ?_
          refine g_iconst X dX10_groupOf_26 ?_
          refine g_iload_n X dX10_groupOf_27 3 rfl ?_
          refine g_ishl X dX10_groupOf_28 ?_
          refine g_nm (fun t28 e28 => ?_)
          have r28 : IR t28 := by rw [e28]; exact z_ir _
          refine g_ior X dX10_groupOf_29 ?_
          refine g_nm (fun t29 e29 => ?_)
          have r29 : IR t29 := by rw [e29]; exact z_ir _
          refine g_istore_n X (lv' := [(2, vI t29), (0, .ref h), (1, vI p0), (3, vI x3_4)]) dX10_groupOf_30 (by decide) rfl ?_
          refine g_iinc X (lv' := [(3, vI (x3_4 + 1)), (2, vI t29), (0, .ref h), (1, vI p0)]) dX10_groupOf_31 3 rfl (by decide) rfl ?_
          refine g_goto X (tgt := 4) dX10_groupOf_34 (by decide) ?_
          refine g_lv [2, 3, 1, 0] rfl ?_
          exact ih4 t29 (x3_4 + 1) (by first | assumption | omega) (by first | assumption | omega) (by omega)
  refine g_lv [2, 3, 1, 0] rfl ?_
  exact L4 _ 0 0 (by first | assumption | omega) (by first | assumption | omega) (Nat.lt_succ_self _)
set_option maxHeartbeats 4000000 in
set_option maxRecDepth 100000 in
theorem c_X10_steadyBy (l : Launch) (D : va_G) (cI cB cJ : ClassId) (h : Nat) (q : Nat → Nat) {v_stalls v_claimMany v_taped v_place0 v_length0 v_fault v_number0 v_open v_codeMany v_waiting v_saidMany v_clauses v_newMany v_newStalls v_lines v_salesNow v_outNow v_isKept v_keptStalls : Int} {v_now v_aside v_kept v_oneOf v_otherOf v_signOf v_byOf v_tape v_said v_waitsAt v_saidLetter v_saidFrom v_saidHalf v_saidTo v_codes v_clauseOf v_codeFrom v_codeHalf v_codeTo v_stack v_facts v_newOne v_newOther v_newSign v_newBy v_moreOf v_firstOf v_toldOf v_mostOf v_mostThen v_sumTo v_rowFrom v_ordersOf v_lessOf v_weightOf v_rowNow v_slowRow v_fastRow v_lineNow v_firstLine v_freeBy v_heldBy v_heightOf v_upTo v_downTo v_oftenOf v_newUpper v_newLower : Nat → Int} {p0 p1 : Int} (r_v_tape : RA (-128) 127 v_tape) (r_v_upTo : RA (-2147483648) 2147483647 v_upTo) (hp0 : IR p0) (hp1 : IR p1) (hp2 : 0 ≤ p0 ∧ p0 ≤ 20) (hp3 : -255 ≤ p1 ∧ p1 ≤ 255) : CtI l yX10_steadyBy cX10_steadyBy 6 (some .int) ⟨1, 0, 0, 21⟩ D (TY cI cB cJ) (wX10 cI cB cJ h q v_stalls v_claimMany v_taped v_place0 v_length0 v_fault v_number0 v_open v_codeMany v_waiting v_saidMany v_clauses v_newMany v_newStalls v_lines v_salesNow v_outNow v_isKept v_keptStalls v_now v_aside v_kept v_oneOf v_otherOf v_signOf v_byOf v_tape v_said v_waitsAt v_saidLetter v_saidFrom v_saidHalf v_saidTo v_codes v_clauseOf v_codeFrom v_codeHalf v_codeTo v_stack v_facts v_newOne v_newOther v_newSign v_newBy v_moreOf v_firstOf v_toldOf v_mostOf v_mostThen v_sumTo v_rowFrom v_ordersOf v_lessOf v_weightOf v_rowNow v_slowRow v_fastRow v_lineNow v_firstLine v_freeBy v_heldBy v_heightOf v_upTo v_downTo v_oftenOf v_newUpper v_newLower) [.ref h, vI p0, vI p1] (fun z ws' => ∃ n_upTo : Nat → Int, (RA (-2147483648) 2147483647 n_upTo) ∧ (1 ≤ z ∧ z ≤ 21) ∧ (∃ u : Nat → Int, SDp (oct v_tape) p1 p0.toNat u ∧ (∀ k : Nat, k < p0.toNat → u k ≤ z) ∧ (z = 1 ∨ ∃ k : Nat, k < p0.toNat ∧ z = u k)) ∧ (ws' = (wX10 cI cB cJ h q v_stalls v_claimMany v_taped v_place0 v_length0 v_fault v_number0 v_open v_codeMany v_waiting v_saidMany v_clauses v_newMany v_newStalls v_lines v_salesNow v_outNow v_isKept v_keptStalls v_now v_aside v_kept v_oneOf v_otherOf v_signOf v_byOf v_tape v_said v_waitsAt v_saidLetter v_saidFrom v_saidHalf v_saidTo v_codes v_clauseOf v_codeFrom v_codeHalf v_codeTo v_stack v_facts v_newOne v_newOther v_newSign v_newBy v_moreOf v_firstOf v_toldOf v_mostOf v_mostThen v_sumTo v_rowFrom v_ordersOf v_lessOf v_weightOf v_rowNow v_slowRow v_fastRow v_lineNow v_firstLine v_freeBy v_heldBy v_heightOf n_upTo v_downTo v_oftenOf v_newUpper v_newLower))) := by
  refine hdrI (own := RX10) rfl (by decide +kernel) (Nat.le_of_ble_eq_true rfl) ?_
  intro p e s m args below meth c Q A X hQ
  refine g_lvE (lv2 := [(0, .ref h), (1, vI p0), (2, vI p1)]) rfl ?_
  refine g_iconst X dX10_steadyBy_0 ?_
  refine g_istore_n X (lv' := [(3, vI 1), (0, .ref h), (1, vI p0), (2, vI p1)]) dX10_steadyBy_1 (by decide) rfl ?_
  refine g_iconst X dX10_steadyBy_2 ?_
  refine g_istore X (lv' := [(4, vI 0), (3, vI 1), (0, .ref h), (1, vI p0), (2, vI p1)]) dX10_steadyBy_3 (by decide) rfl ?_
  have L5 : ∀ (n : Nat) (x3_5 : Int) (x4_5 : Int) (upTo_5 : Nat → Int), (RA (-2147483648) 2147483647 upTo_5) → (0 ≤ x4_5 ∧ x4_5 ≤ p0) → (SDp (oct v_tape) p1 (x4_5).toNat upTo_5) → (MXp upTo_5 x4_5 x3_5) → (p0 - x4_5).toNat < n → GG p l e ⟨1, 0, 0, 21⟩ s m args below meth c 0 0 Q D A s.heap 6 (wX10 cI cB cJ h q v_stalls v_claimMany v_taped v_place0 v_length0 v_fault v_number0 v_open v_codeMany v_waiting v_saidMany v_clauses v_newMany v_newStalls v_lines v_salesNow v_outNow v_isKept v_keptStalls v_now v_aside v_kept v_oneOf v_otherOf v_signOf v_byOf v_tape v_said v_waitsAt v_saidLetter v_saidFrom v_saidHalf v_saidTo v_codes v_clauseOf v_codeFrom v_codeHalf v_codeTo v_stack v_facts v_newOne v_newOther v_newSign v_newBy v_moreOf v_firstOf v_toldOf v_mostOf v_mostThen v_sumTo v_rowFrom v_ordersOf v_lessOf v_weightOf v_rowNow v_slowRow v_fastRow v_lineNow v_firstLine v_freeBy v_heldBy v_heightOf upTo_5 v_downTo v_oftenOf v_newUpper v_newLower) 5 [(0, .ref h), (1, vI p0), (2, vI p1), (3, vI x3_5), (4, vI x4_5)] [] := by
    intro n
    induction n with
    | zero => intros; exfalso; omega
    | succ n ih5 =>
      intro x3_5 x4_5 upTo_5 r_upTo_5 w5_0 w5_1 w5_2 wm5
      have hm := w5_2.1
      refine g_iload X dX10_steadyBy_5 4 rfl ?_
      refine g_iload_n X dX10_steadyBy_7 1 rfl ?_
      refine g_icmp_ge X (tgt := 96) dX10_steadyBy_8 (by decide) (by omega) (by omega) (fun c8 => ?_) (fun c8 => ?_)
      · refine g_iload_n X dX10_steadyBy_96 3 rfl ?_
        have hx : x4_5 = p0 := by omega
        rw [hx] at w5_1 w5_2
        have hm2 := w5_2.1
        exact hQ _ _ _ _ dX10_steadyBy_97 ⟨upTo_5, r_upTo_5, (by first | assumption | omega), (by exact ⟨upTo_5, w5_1, fun k hk => (w5_2.2.1 k (by omega)).1, w5_2.2.2.elim (fun h => Or.inl h) (fun ⟨k, h1, h2⟩ => Or.inr ⟨k, by omega, h2⟩)⟩), rfl⟩
      · refine g_aload_n X dX10_steadyBy_11 0 rfl ?_
        refine gM_get X 0 rfl 56 (by decide) uw1235 rfl dX10_steadyBy_12 ?_
        refine g_iload X dX10_steadyBy_15 4 rfl ?_
        refine g_iconst X dX10_steadyBy_17 ?_
        refine g_iast X 44 0 rfl rfl (by omega) (by decide) dX10_steadyBy_18 (fun upTo_18 e18 => ?_)
        have r_upTo_18 : RA (-2147483648) 2147483647 upTo_18 := by rw [e18]; exact RA_up r_upTo_5 (by omega)
        refine g_ws (ws2 := (wX10 cI cB cJ h q v_stalls v_claimMany v_taped v_place0 v_length0 v_fault v_number0 v_open v_codeMany v_waiting v_saidMany v_clauses v_newMany v_newStalls v_lines v_salesNow v_outNow v_isKept v_keptStalls v_now v_aside v_kept v_oneOf v_otherOf v_signOf v_byOf v_tape v_said v_waitsAt v_saidLetter v_saidFrom v_saidHalf v_saidTo v_codes v_clauseOf v_codeFrom v_codeHalf v_codeTo v_stack v_facts v_newOne v_newOther v_newSign v_newBy v_moreOf v_firstOf v_toldOf v_mostOf v_mostThen v_sumTo v_rowFrom v_ordersOf v_lessOf v_weightOf v_rowNow v_slowRow v_fastRow v_lineNow v_firstLine v_freeBy v_heldBy v_heightOf upTo_18 v_downTo v_oftenOf v_newUpper v_newLower)) rfl ?_
        refine g_iconst X dX10_steadyBy_19 ?_
        refine g_istore X (lv' := [(5, vI 0), (0, .ref h), (1, vI p0), (2, vI p1), (3, vI x3_5), (4, vI x4_5)]) dX10_steadyBy_20 (by decide) rfl ?_
        have L22 : ∀ (n : Nat) (x5_22 : Int) (upTo_22 : Nat → Int), (RA (-2147483648) 2147483647 upTo_22) → (0 ≤ x5_22 ∧ x5_22 ≤ x4_5) → (SDi (oct v_tape) p1 (x4_5).toNat upTo_22 x5_22) → (∀ k : Nat, k ≠ (x4_5).toNat → upTo_22 k = upTo_5 k) → (x4_5 - x5_22).toNat < n → GG p l e ⟨1, 0, 0, 21⟩ s m args below meth c 0 0 Q D A s.heap 6 (wX10 cI cB cJ h q v_stalls v_claimMany v_taped v_place0 v_length0 v_fault v_number0 v_open v_codeMany v_waiting v_saidMany v_clauses v_newMany v_newStalls v_lines v_salesNow v_outNow v_isKept v_keptStalls v_now v_aside v_kept v_oneOf v_otherOf v_signOf v_byOf v_tape v_said v_waitsAt v_saidLetter v_saidFrom v_saidHalf v_saidTo v_codes v_clauseOf v_codeFrom v_codeHalf v_codeTo v_stack v_facts v_newOne v_newOther v_newSign v_newBy v_moreOf v_firstOf v_toldOf v_mostOf v_mostThen v_sumTo v_rowFrom v_ordersOf v_lessOf v_weightOf v_rowNow v_slowRow v_fastRow v_lineNow v_firstLine v_freeBy v_heldBy v_heightOf upTo_22 v_downTo v_oftenOf v_newUpper v_newLower) 22 [(0, .ref h), (1, vI p0), (2, vI p1), (3, vI x3_5), (4, vI x4_5), (5, vI x5_22)] [] := by
          intro n
          induction n with
          | zero => intros; exfalso; omega
          | succ n ih22 =>
            intro x5_22 upTo_22 r_upTo_22 w22_0 w22_1 w22_2 wm22
            have hi := w22_1.1
            refine g_iload X dX10_steadyBy_22 5 rfl ?_
            refine g_iload X dX10_steadyBy_24 4 rfl ?_
            refine g_icmp_ge X (tgt := 78) dX10_steadyBy_26 (by decide) (by omega) (by omega) (fun c26 => ?_) (fun c26 => ?_)
            · refine g_iload_n X dX10_steadyBy_78 3 rfl ?_
              refine g_aload_n X dX10_steadyBy_79 0 rfl ?_
              refine gM_get X 0 rfl 56 (by decide) uw1235 rfl dX10_steadyBy_80 ?_
              refine g_iload X dX10_steadyBy_83 4 rfl ?_
              refine g_iald X 44 0 rfl rfl (by omega) (by decide) dX10_steadyBy_85 (fun t85 e85 => ?_)
              have r85 := r_upTo_22 (x4_5 : Int).toNat; rw [← e85] at r85
              have b85 := w22_1.1
              refine g_callSIE X (c_X10_max l D cI cB cJ (p0 := x3_5) (p1 := t85) (by first | assumption | omega) (by first | assumption | omega)) cv_X10_max uw1554 ⟨rfl, rfl, by decide, by decide⟩ rfl rfl (Nat.le_of_ble_eq_true rfl) ⟨Nat.zero_le _, Nat.zero_le _⟩ dX10_steadyBy_86 (fun t86 ws86 k86 => ?_)
              obtain ⟨kp0_86, rfl⟩ := k86
              refine g_istore_n X (lv' := [(3, vI t86), (0, .ref h), (1, vI p0), (2, vI p1), (4, vI x4_5), (5, vI x5_22)]) dX10_steadyBy_89 (by decide) rfl ?_
              have hx : x5_22 = x4_5 := by omega
              rw [hx] at w22_1
              refine g_iinc X (lv' := [(4, vI (x4_5 + 1)), (3, vI t86), (0, .ref h), (1, vI p0), (2, vI p1), (5, vI x5_22)]) dX10_steadyBy_90 4 rfl (by decide) rfl ?_
              refine g_goto X (tgt := 5) dX10_steadyBy_93 (by decide) ?_
              refine g_lv [2, 3, 4, 1, 0] rfl ?_
              exact ih5 t86 (x4_5 + 1) upTo_22 r_upTo_22 (by first | assumption | omega) (by first | exact SDp.nil _ _ _ | exact SDp.add w5_1 (by omega) w22_2 w22_1) (by first | exact MXp.ini _ | exact MXp.step w5_2 (by omega) w22_2 e85 (by omega) kp0_86) (by omega)
            · refine g_aload_n X dX10_steadyBy_29 0 rfl ?_
              refine g_iload X dX10_steadyBy_30 4 rfl ?_
              refine g_callVI0 X (c_X10_octet l D cI cB cJ h q (p0 := x4_5) r_v_tape (by first | assumption | omega) (by first | assumption | omega)) cv_X10_octet uw1641 ⟨rfl, rfl, by decide, by decide⟩ 0 rfl rfl rfl rfl rfl (Nat.le_of_ble_eq_true rfl) ⟨Nat.zero_le _, Nat.zero_le _⟩ dX10_steadyBy_32 (fun t32 ws32 k32 => ?_)
              obtain ⟨kp0_32, kp1_32, kp2_32, rfl⟩ := k32
              refine g_aload_n X dX10_steadyBy_35 0 rfl ?_
              refine g_iload X dX10_steadyBy_36 5 rfl ?_
              refine g_callVI0 X (c_X10_octet l D cI cB cJ h q (p0 := x5_22) r_v_tape (by first | assumption | omega) (by first | assumption | omega)) cv_X10_octet uw1641 ⟨rfl, rfl, by decide, by decide⟩ 0 rfl rfl rfl rfl rfl (Nat.le_of_ble_eq_true rfl) ⟨Nat.zero_le _, Nat.zero_le _⟩ dX10_steadyBy_38 (fun t38 ws38 k38 => ?_)
              obtain ⟨kp0_38, kp1_38, kp2_38, rfl⟩ := k38
              refine g_isub X dX10_steadyBy_41 ?_
              refine g_iload_n X dX10_steadyBy_42 2 rfl ?_
              refine g_icmp_ne X (tgt := 72) dX10_steadyBy_43 (by decide) (by omega) (by omega) (fun c43 => ?_) (fun c43 => ?_)
              · have hN : SDi (oct v_tape) p1 (x4_5).toNat upTo_22 (x5_22 + 1) := by first | exact SDi.step w22_1 (by omega) (by have h1 := w22_2 (x5_22).toNat (by omega); have h2 := (w5_2.2.1 (x5_22).toNat (by omega)).2; omega) (Or.inr ⟨by omega, e71, rfl, by omega⟩) | exact SDi.step (p := 0) (t := 0) w22_1 (by omega) (by have h1 := w22_2 (x5_22).toNat (by omega); have h2 := (w5_2.2.1 (x5_22).toNat (by omega)).2; omega) (Or.inl ⟨by omega, rfl⟩)
                have hO2 : ∀ k : Nat, k ≠ (x4_5).toNat → upTo_22 k = upTo_5 k := by first | exact w22_2 | (intro k hk; rw [e71, updZ_n _ _ hk]; exact w22_2 k hk)
                refine g_iinc X (lv' := [(5, vI (x5_22 + 1)), (0, .ref h), (1, vI p0), (2, vI p1), (3, vI x3_5), (4, vI x4_5)]) dX10_steadyBy_72 5 rfl (by decide) rfl ?_
                refine g_goto X (tgt := 22) dX10_steadyBy_75 (by decide) ?_
                refine g_lv [1, 2, 3, 4, 5, 0] rfl ?_
                exact ih22 (x5_22 + 1) upTo_22 r_upTo_22 (by first | assumption | omega) (by first | exact SDi.ini e18 rfl | exact hN) (by first | (intro k hk; rw [e18, updZ_n _ _ hk]) | exact hO2) (by omega)
              · refine g_aload_n X dX10_steadyBy_46 0 rfl ?_
                refine gM_get X 0 rfl 56 (by decide) uw1235 rfl dX10_steadyBy_47 ?_
                refine g_iload X dX10_steadyBy_50 4 rfl ?_
                refine g_aload_n X dX10_steadyBy_52 0 rfl ?_
                refine gM_get X 0 rfl 56 (by decide) uw1235 rfl dX10_steadyBy_53 ?_
                refine g_iload X dX10_steadyBy_56 4 rfl ?_
                refine g_iald X 44 0 rfl rfl (by omega) (by decide) dX10_steadyBy_58 (fun t58 e58 => ?_)
                have r58 := r_upTo_22 (x4_5 : Int).toNat; rw [← e58] at r58
                have hi58 := w22_1.1
                refine g_aload_n X dX10_steadyBy_59 0 rfl ?_
                refine gM_get X 0 rfl 56 (by decide) uw1235 rfl dX10_steadyBy_60 ?_
                refine g_iload X dX10_steadyBy_63 5 rfl ?_
                refine g_iald X 44 0 rfl rfl (by omega) (by decide) dX10_steadyBy_65 (fun t65 e65 => ?_)
                have r65 := r_upTo_22 (x5_22 : Int).toNat; rw [← e65] at r65
                have b65 := w22_2 (x5_22).toNat (by omega)
                have c65 := (w5_2.2.1 (x5_22).toNat (by omega)).2
                refine g_iconst X dX10_steadyBy_66 ?_
                refine g_iadd X dX10_steadyBy_67 ?_
                refine g_callSIE X (c_X10_max l D cI cB cJ (p0 := t58) (p1 := t65 + 1) (by first | assumption | omega) (by first | assumption | omega)) cv_X10_max uw1554 ⟨rfl, rfl, by decide, by decide⟩ rfl rfl (Nat.le_of_ble_eq_true rfl) ⟨Nat.zero_le _, Nat.zero_le _⟩ dX10_steadyBy_68 (fun t68 ws68 k68 => ?_)
                obtain ⟨kp0_68, rfl⟩ := k68
                refine g_iast X 44 0 rfl rfl (by omega) (by decide) dX10_steadyBy_71 (fun upTo_71 e71 => ?_)
                have r_upTo_71 : RA (-2147483648) 2147483647 upTo_71 := by rw [e71]; exact RA_up r_upTo_22 (by omega)
                refine g_ws (ws2 := (wX10 cI cB cJ h q v_stalls v_claimMany v_taped v_place0 v_length0 v_fault v_number0 v_open v_codeMany v_waiting v_saidMany v_clauses v_newMany v_newStalls v_lines v_salesNow v_outNow v_isKept v_keptStalls v_now v_aside v_kept v_oneOf v_otherOf v_signOf v_byOf v_tape v_said v_waitsAt v_saidLetter v_saidFrom v_saidHalf v_saidTo v_codes v_clauseOf v_codeFrom v_codeHalf v_codeTo v_stack v_facts v_newOne v_newOther v_newSign v_newBy v_moreOf v_firstOf v_toldOf v_mostOf v_mostThen v_sumTo v_rowFrom v_ordersOf v_lessOf v_weightOf v_rowNow v_slowRow v_fastRow v_lineNow v_firstLine v_freeBy v_heldBy v_heightOf upTo_71 v_downTo v_oftenOf v_newUpper v_newLower)) rfl ?_
                have hN : SDi (oct v_tape) p1 (x4_5).toNat upTo_71 (x5_22 + 1) := by first | exact SDi.step w22_1 (by omega) (by have h1 := w22_2 (x5_22).toNat (by omega); have h2 := (w5_2.2.1 (x5_22).toNat (by omega)).2; omega) (Or.inr ⟨by omega, e71, rfl, by omega⟩) | exact SDi.step (p := 0) (t := 0) w22_1 (by omega) (by have h1 := w22_2 (x5_22).toNat (by omega); have h2 := (w5_2.2.1 (x5_22).toNat (by omega)).2; omega) (Or.inl ⟨by omega, rfl⟩)
                have hO2 : ∀ k : Nat, k ≠ (x4_5).toNat → upTo_71 k = upTo_5 k := by first | exact w22_2 | (intro k hk; rw [e71, updZ_n _ _ hk]; exact w22_2 k hk)
                refine g_iinc X (lv' := [(5, vI (x5_22 + 1)), (0, .ref h), (1, vI p0), (2, vI p1), (3, vI x3_5), (4, vI x4_5)]) dX10_steadyBy_72 5 rfl (by decide) rfl ?_
                refine g_goto X (tgt := 22) dX10_steadyBy_75 (by decide) ?_
                refine g_lv [1, 2, 3, 4, 5, 0] rfl ?_
                exact ih22 (x5_22 + 1) upTo_71 r_upTo_71 (by first | assumption | omega) (by first | exact SDi.ini e18 rfl | exact hN) (by first | (intro k hk; rw [e18, updZ_n _ _ hk]) | exact hO2) (by omega)
        refine g_lv [1, 2, 3, 4, 5, 0] rfl ?_
        exact L22 _ 0 upTo_18 r_upTo_18 (by first | assumption | omega) (by first | exact SDi.ini e18 rfl | exact hN) (by first | (intro k hk; rw [e18, updZ_n _ _ hk]) | exact hO2) (Nat.lt_succ_self _)
  refine g_lv [2, 3, 4, 1, 0] rfl ?_
  exact L5 _ 1 0 v_upTo r_v_upTo (by first | assumption | omega) (by first | exact SDp.nil _ _ _ | exact SDp.add w5_1 (by omega) w22_2 w22_1) (by first | exact MXp.ini _ | exact MXp.step w5_2 (by omega) w22_2 e85 (by omega) kp0_86) (Nat.lt_succ_self _)
set_option maxHeartbeats 4000000 in
set_option maxRecDepth 100000 in
theorem c_X10_unsteady (l : Launch) (D : va_G) (cI cB cJ : ClassId) (h : Nat) (q : Nat → Nat) {v_stalls v_claimMany v_taped v_place0 v_length0 v_fault v_number0 v_open v_codeMany v_waiting v_saidMany v_clauses v_newMany v_newStalls v_lines v_salesNow v_outNow v_isKept v_keptStalls : Int} {v_now v_aside v_kept v_oneOf v_otherOf v_signOf v_byOf v_tape v_said v_waitsAt v_saidLetter v_saidFrom v_saidHalf v_saidTo v_codes v_clauseOf v_codeFrom v_codeHalf v_codeTo v_stack v_facts v_newOne v_newOther v_newSign v_newBy v_moreOf v_firstOf v_toldOf v_mostOf v_mostThen v_sumTo v_rowFrom v_ordersOf v_lessOf v_weightOf v_rowNow v_slowRow v_fastRow v_lineNow v_firstLine v_freeBy v_heldBy v_heightOf v_upTo v_downTo v_oftenOf v_newUpper v_newLower : Nat → Int} {p0 : Int} (r_v_tape : RA (-128) 127 v_tape) (r_v_upTo : RA (-2147483648) 2147483647 v_upTo) (r_v_downTo : RA (-2147483648) 2147483647 v_downTo) (hp0 : IR p0) (hp1 : 1 ≤ p0 ∧ p0 ≤ 20) : CtI l yX10_unsteady cX10_unsteady 5 (some .int) ⟨1, 0, 0, 21⟩ D (TY cI cB cJ) (wX10 cI cB cJ h q v_stalls v_claimMany v_taped v_place0 v_length0 v_fault v_number0 v_open v_codeMany v_waiting v_saidMany v_clauses v_newMany v_newStalls v_lines v_salesNow v_outNow v_isKept v_keptStalls v_now v_aside v_kept v_oneOf v_otherOf v_signOf v_byOf v_tape v_said v_waitsAt v_saidLetter v_saidFrom v_saidHalf v_saidTo v_codes v_clauseOf v_codeFrom v_codeHalf v_codeTo v_stack v_facts v_newOne v_newOther v_newSign v_newBy v_moreOf v_firstOf v_toldOf v_mostOf v_mostThen v_sumTo v_rowFrom v_ordersOf v_lessOf v_weightOf v_rowNow v_slowRow v_fastRow v_lineNow v_firstLine v_freeBy v_heldBy v_heightOf v_upTo v_downTo v_oftenOf v_newUpper v_newLower) [.ref h, vI p0] (fun z ws' => ∃ n_upTo : Nat → Int, ∃ n_downTo : Nat → Int, (RA (-2147483648) 2147483647 n_upTo) ∧ (RA (-2147483648) 2147483647 n_downTo) ∧ (1 ≤ z ∧ z ≤ 21) ∧ (z = unF (oct v_tape) p0.toNat) ∧ (ws' = (wX10 cI cB cJ h q v_stalls v_claimMany v_taped v_place0 v_length0 v_fault v_number0 v_open v_codeMany v_waiting v_saidMany v_clauses v_newMany v_newStalls v_lines v_salesNow v_outNow v_isKept v_keptStalls v_now v_aside v_kept v_oneOf v_otherOf v_signOf v_byOf v_tape v_said v_waitsAt v_saidLetter v_saidFrom v_saidHalf v_saidTo v_codes v_clauseOf v_codeFrom v_codeHalf v_codeTo v_stack v_facts v_newOne v_newOther v_newSign v_newBy v_moreOf v_firstOf v_toldOf v_mostOf v_mostThen v_sumTo v_rowFrom v_ordersOf v_lessOf v_weightOf v_rowNow v_slowRow v_fastRow v_lineNow v_firstLine v_freeBy v_heldBy v_heightOf n_upTo n_downTo v_oftenOf v_newUpper v_newLower))) := by
  refine hdrI (own := RX10) rfl (by decide +kernel) (Nat.le_of_ble_eq_true rfl) ?_
  intro p e s m args below meth c Q A X hQ
  refine g_lvE (lv2 := [(0, .ref h), (1, vI p0)]) rfl ?_
  refine g_iconst X dX10_unsteady_0 ?_
  refine g_istore_n X (lv' := [(2, vI 1), (0, .ref h), (1, vI p0)]) dX10_unsteady_1 (by decide) rfl ?_
  refine g_iconst X dX10_unsteady_2 ?_
  refine g_istore_n X (lv' := [(3, vI 0), (2, vI 1), (0, .ref h), (1, vI p0)]) dX10_unsteady_3 (by decide) rfl ?_
  have L4 : ∀ (n : Nat) (x2_4 : Int) (x3_4 : Int) (upTo_4 : Nat → Int) (downTo_4 : Nat → Int), (RA (-2147483648) 2147483647 upTo_4) → (RA (-2147483648) 2147483647 downTo_4) → (0 ≤ x3_4 ∧ x3_4 ≤ p0) → (UDp (oct v_tape) (x3_4).toNat upTo_4 downTo_4) → (MUp upTo_4 downTo_4 x3_4 x2_4) → (p0 - x3_4).toNat < n → GG p l e ⟨1, 0, 0, 21⟩ s m args below meth c 0 0 Q D A s.heap 5 (wX10 cI cB cJ h q v_stalls v_claimMany v_taped v_place0 v_length0 v_fault v_number0 v_open v_codeMany v_waiting v_saidMany v_clauses v_newMany v_newStalls v_lines v_salesNow v_outNow v_isKept v_keptStalls v_now v_aside v_kept v_oneOf v_otherOf v_signOf v_byOf v_tape v_said v_waitsAt v_saidLetter v_saidFrom v_saidHalf v_saidTo v_codes v_clauseOf v_codeFrom v_codeHalf v_codeTo v_stack v_facts v_newOne v_newOther v_newSign v_newBy v_moreOf v_firstOf v_toldOf v_mostOf v_mostThen v_sumTo v_rowFrom v_ordersOf v_lessOf v_weightOf v_rowNow v_slowRow v_fastRow v_lineNow v_firstLine v_freeBy v_heldBy v_heightOf upTo_4 downTo_4 v_oftenOf v_newUpper v_newLower) 4 [(0, .ref h), (1, vI p0), (2, vI x2_4), (3, vI x3_4)] [] := by
    intro n
    induction n with
    | zero => intros; exfalso; omega
    | succ n ih4 =>
      intro x2_4 x3_4 upTo_4 downTo_4 r_upTo_4 r_downTo_4 w4_0 w4_1 w4_2 wm4
      have hm := w4_2.1
      refine g_iload_n X dX10_unsteady_4 3 rfl ?_
      refine g_iload_n X dX10_unsteady_5 1 rfl ?_
      refine g_icmp_ge X (tgt := 140) dX10_unsteady_6 (by decide) (by omega) (by omega) (fun c6 => ?_) (fun c6 => ?_)
      · refine g_iload_n X dX10_unsteady_140 2 rfl ?_
        have hx : x3_4 = p0 := by omega
        rw [hx] at w4_1 w4_2
        have hm2 := w4_2.1
        have hF : x2_4 = unF (oct v_tape) p0.toNat := un_main w4_1 (by omega) (by omega) (fun k hk => (w4_2.2.1 k (by omega)).1) (w4_2.2.2.elim (fun h => Or.inl h) (fun ⟨k, h1, h2⟩ => Or.inr ⟨k, by omega, h2⟩))
        exact hQ _ _ _ _ dX10_unsteady_141 ⟨upTo_4, downTo_4, r_upTo_4, r_downTo_4, (by first | assumption | omega), (by first | assumption | omega), rfl⟩
      · refine g_aload_n X dX10_unsteady_9 0 rfl ?_
        refine gM_get X 0 rfl 56 (by decide) uw1235 rfl dX10_unsteady_10 ?_
        refine g_iload_n X dX10_unsteady_13 3 rfl ?_
        refine g_iconst X dX10_unsteady_14 ?_
        refine g_iast X 44 0 rfl rfl (by omega) (by decide) dX10_unsteady_15 (fun upTo_15 e15 => ?_)
        have r_upTo_15 : RA (-2147483648) 2147483647 upTo_15 := by rw [e15]; exact RA_up r_upTo_4 (by omega)
        refine g_ws (ws2 := (wX10 cI cB cJ h q v_stalls v_claimMany v_taped v_place0 v_length0 v_fault v_number0 v_open v_codeMany v_waiting v_saidMany v_clauses v_newMany v_newStalls v_lines v_salesNow v_outNow v_isKept v_keptStalls v_now v_aside v_kept v_oneOf v_otherOf v_signOf v_byOf v_tape v_said v_waitsAt v_saidLetter v_saidFrom v_saidHalf v_saidTo v_codes v_clauseOf v_codeFrom v_codeHalf v_codeTo v_stack v_facts v_newOne v_newOther v_newSign v_newBy v_moreOf v_firstOf v_toldOf v_mostOf v_mostThen v_sumTo v_rowFrom v_ordersOf v_lessOf v_weightOf v_rowNow v_slowRow v_fastRow v_lineNow v_firstLine v_freeBy v_heldBy v_heightOf upTo_15 downTo_4 v_oftenOf v_newUpper v_newLower)) rfl ?_
        refine g_aload_n X dX10_unsteady_16 0 rfl ?_
        refine gM_get X 0 rfl 57 (by decide) uw1236 rfl dX10_unsteady_17 ?_
        refine g_iload_n X dX10_unsteady_20 3 rfl ?_
        refine g_iconst X dX10_unsteady_21 ?_
        refine g_iast X 45 0 rfl rfl (by omega) (by decide) dX10_unsteady_22 (fun downTo_22 e22 => ?_)
        have r_downTo_22 : RA (-2147483648) 2147483647 downTo_22 := by rw [e22]; exact RA_up r_downTo_4 (by omega)
        refine g_ws (ws2 := (wX10 cI cB cJ h q v_stalls v_claimMany v_taped v_place0 v_length0 v_fault v_number0 v_open v_codeMany v_waiting v_saidMany v_clauses v_newMany v_newStalls v_lines v_salesNow v_outNow v_isKept v_keptStalls v_now v_aside v_kept v_oneOf v_otherOf v_signOf v_byOf v_tape v_said v_waitsAt v_saidLetter v_saidFrom v_saidHalf v_saidTo v_codes v_clauseOf v_codeFrom v_codeHalf v_codeTo v_stack v_facts v_newOne v_newOther v_newSign v_newBy v_moreOf v_firstOf v_toldOf v_mostOf v_mostThen v_sumTo v_rowFrom v_ordersOf v_lessOf v_weightOf v_rowNow v_slowRow v_fastRow v_lineNow v_firstLine v_freeBy v_heldBy v_heightOf upTo_15 downTo_22 v_oftenOf v_newUpper v_newLower)) rfl ?_
        refine g_iconst X dX10_unsteady_23 ?_
        refine g_istore X (lv' := [(4, vI 0), (0, .ref h), (1, vI p0), (2, vI x2_4), (3, vI x3_4)]) dX10_unsteady_24 (by decide) rfl ?_
        have L26 : ∀ (n : Nat) (x4_26 : Int) (upTo_26 : Nat → Int) (downTo_26 : Nat → Int), (RA (-2147483648) 2147483647 upTo_26) → (RA (-2147483648) 2147483647 downTo_26) → (0 ≤ x4_26 ∧ x4_26 ≤ x3_4) → (UDi (oct v_tape) (x3_4).toNat upTo_26 downTo_26 x4_26) → (∀ k : Nat, k ≠ (x3_4).toNat → upTo_26 k = upTo_4 k ∧ downTo_26 k = downTo_4 k) → (x3_4 - x4_26).toNat < n → GG p l e ⟨1, 0, 0, 21⟩ s m args below meth c 0 0 Q D A s.heap 5 (wX10 cI cB cJ h q v_stalls v_claimMany v_taped v_place0 v_length0 v_fault v_number0 v_open v_codeMany v_waiting v_saidMany v_clauses v_newMany v_newStalls v_lines v_salesNow v_outNow v_isKept v_keptStalls v_now v_aside v_kept v_oneOf v_otherOf v_signOf v_byOf v_tape v_said v_waitsAt v_saidLetter v_saidFrom v_saidHalf v_saidTo v_codes v_clauseOf v_codeFrom v_codeHalf v_codeTo v_stack v_facts v_newOne v_newOther v_newSign v_newBy v_moreOf v_firstOf v_toldOf v_mostOf v_mostThen v_sumTo v_rowFrom v_ordersOf v_lessOf v_weightOf v_rowNow v_slowRow v_fastRow v_lineNow v_firstLine v_freeBy v_heldBy v_heightOf upTo_26 downTo_26 v_oftenOf v_newUpper v_newLower) 26 [(0, .ref h), (1, vI p0), (2, vI x2_4), (3, vI x3_4), (4, vI x4_26)] [] := by
          intro n
          induction n with
          | zero => intros; exfalso; omega
          | succ n ih26 =>
            intro x4_26 upTo_26 downTo_26 r_upTo_26 r_downTo_26 w26_0 w26_1 w26_2 wm26
            have hi := w26_1.1.1
            have hj := w26_1.2.1
            refine g_iload X dX10_unsteady_26 4 rfl ?_
            refine g_iload_n X dX10_unsteady_28 3 rfl ?_
            refine g_icmp_ge X (tgt := 114) dX10_unsteady_29 (by decide) (by omega) (by omega) (fun c29 => ?_) (fun c29 => ?_)
            · have hx : x4_26 = x3_4 := by omega
              rw [hx] at w26_1
              have hi3 := w26_1.1.1
              have hj3 := w26_1.2.1
              refine g_iload_n X dX10_unsteady_114 2 rfl ?_
              refine g_aload_n X dX10_unsteady_115 0 rfl ?_
              refine gM_get X 0 rfl 56 (by decide) uw1235 rfl dX10_unsteady_116 ?_
              refine g_iload_n X dX10_unsteady_119 3 rfl ?_
              refine g_iald X 44 0 rfl rfl (by omega) (by decide) dX10_unsteady_120 (fun t120 e120 => ?_)
              have r120 := r_upTo_26 (x3_4 : Int).toNat; rw [← e120] at r120
              refine g_aload_n X dX10_unsteady_121 0 rfl ?_
              refine gM_get X 0 rfl 57 (by decide) uw1236 rfl dX10_unsteady_122 ?_
              refine g_iload_n X dX10_unsteady_125 3 rfl ?_
              refine g_iald X 45 0 rfl rfl (by omega) (by decide) dX10_unsteady_126 (fun t126 e126 => ?_)
              have r126 := r_downTo_26 (x3_4 : Int).toNat; rw [← e126] at r126
              refine g_callSIE X (c_X10_max l D cI cB cJ (p0 := t120) (p1 := t126) (by first | assumption | omega) (by first | assumption | omega)) cv_X10_max uw1554 ⟨rfl, rfl, by decide, by decide⟩ rfl rfl (Nat.le_of_ble_eq_true rfl) ⟨Nat.zero_le _, Nat.zero_le _⟩ dX10_unsteady_127 (fun t127 ws127 k127 => ?_)
              obtain ⟨kp0_127, rfl⟩ := k127
              refine g_callSIE X (c_X10_max l D cI cB cJ (p0 := x2_4) (p1 := t127) (by first | assumption | omega) (by first | assumption | omega)) cv_X10_max uw1554 ⟨rfl, rfl, by decide, by decide⟩ rfl rfl (Nat.le_of_ble_eq_true rfl) ⟨Nat.zero_le _, Nat.zero_le _⟩ dX10_unsteady_130 (fun t130 ws130 k130 => ?_)
              obtain ⟨kp0_130, rfl⟩ := k130
              refine g_istore_n X (lv' := [(2, vI t130), (0, .ref h), (1, vI p0), (3, vI x3_4), (4, vI x4_26)]) dX10_unsteady_133 (by decide) rfl ?_
              refine g_iinc X (lv' := [(3, vI (x3_4 + 1)), (2, vI t130), (0, .ref h), (1, vI p0), (4, vI x4_26)]) dX10_unsteady_134 3 rfl (by decide) rfl ?_
              refine g_goto X (tgt := 4) dX10_unsteady_137 (by decide) ?_
              refine g_lv [2, 3, 1, 0] rfl ?_
              exact ih4 t130 (x3_4 + 1) upTo_26 downTo_26 r_upTo_26 r_downTo_26 (by first | assumption | omega) (by first | exact UDp.nil _ _ _ | exact UDp.add w4_1 (by omega) w26_2 w26_1) (by first | exact MUp.ini _ _ | exact MUp.step w4_2 (by omega) w26_2 e120 e126 (by omega) kp0_127 kp0_130) (by omega)
            · refine g_aload_n X dX10_unsteady_32 0 rfl ?_
              refine g_iload_n X dX10_unsteady_33 3 rfl ?_
              refine g_callVI0 X (c_X10_octet l D cI cB cJ h q (p0 := x3_4) r_v_tape (by first | assumption | omega) (by first | assumption | omega)) cv_X10_octet uw1641 ⟨rfl, rfl, by decide, by decide⟩ 0 rfl rfl rfl rfl rfl (Nat.le_of_ble_eq_true rfl) ⟨Nat.zero_le _, Nat.zero_le _⟩ dX10_unsteady_34 (fun t34 ws34 k34 => ?_)
              obtain ⟨kp0_34, kp1_34, kp2_34, rfl⟩ := k34
              refine g_aload_n X dX10_unsteady_37 0 rfl ?_
              refine g_iload X dX10_unsteady_38 4 rfl ?_
              refine g_callVI0 X (c_X10_octet l D cI cB cJ h q (p0 := x4_26) r_v_tape (by first | assumption | omega) (by first | assumption | omega)) cv_X10_octet uw1641 ⟨rfl, rfl, by decide, by decide⟩ 0 rfl rfl rfl rfl rfl (Nat.le_of_ble_eq_true rfl) ⟨Nat.zero_le _, Nat.zero_le _⟩ dX10_unsteady_40 (fun t40 ws40 k40 => ?_)
              obtain ⟨kp0_40, kp1_40, kp2_40, rfl⟩ := k40
              refine g_icmp_le X (tgt := 70) dX10_unsteady_43 (by decide) (by omega) (by omega) (fun c43 => ?_) (fun c43 => ?_)
              · refine g_aload_n X dX10_unsteady_70 0 rfl ?_
                refine g_iload_n X dX10_unsteady_71 3 rfl ?_
                refine g_callVI0 X (c_X10_octet l D cI cB cJ h q (p0 := x3_4) r_v_tape (by first | assumption | omega) (by first | assumption | omega)) cv_X10_octet uw1641 ⟨rfl, rfl, by decide, by decide⟩ 0 rfl rfl rfl rfl rfl (Nat.le_of_ble_eq_true rfl) ⟨Nat.zero_le _, Nat.zero_le _⟩ dX10_unsteady_72 (fun t72 ws72 k72 => ?_)
                obtain ⟨kp0_72, kp1_72, kp2_72, rfl⟩ := k72
                refine g_aload_n X dX10_unsteady_75 0 rfl ?_
                refine g_iload X dX10_unsteady_76 4 rfl ?_
                refine g_callVI0 X (c_X10_octet l D cI cB cJ h q (p0 := x4_26) r_v_tape (by first | assumption | omega) (by first | assumption | omega)) cv_X10_octet uw1641 ⟨rfl, rfl, by decide, by decide⟩ 0 rfl rfl rfl rfl rfl (Nat.le_of_ble_eq_true rfl) ⟨Nat.zero_le _, Nat.zero_le _⟩ dX10_unsteady_78 (fun t78 ws78 k78 => ?_)
                obtain ⟨kp0_78, kp1_78, kp2_78, rfl⟩ := k78
                refine g_icmp_ge X (tgt := 108) dX10_unsteady_81 (by decide) (by omega) (by omega) (fun c81 => ?_) (fun c81 => ?_)
                · have hN : UDi (oct v_tape) (x3_4).toNat upTo_26 downTo_26 (x4_26 + 1) := by first | exact UDi.step w26_1 (by omega) (by have h1 := w26_2 (x4_26).toNat (by omega); have h2 := (w4_2.2.1 (x4_26).toNat (by omega)).2; omega) (Or.inr ⟨by omega, e69, rfl, by omega⟩) (Or.inr ⟨by omega, e107, rfl, by omega⟩) | exact UDi.step (s := 0) (q := 0) w26_1 (by omega) (by have h1 := w26_2 (x4_26).toNat (by omega); have h2 := (w4_2.2.1 (x4_26).toNat (by omega)).2; omega) (Or.inr ⟨by omega, e69, rfl, by omega⟩) (Or.inl ⟨by omega, rfl⟩) | exact UDi.step (t := 0) (p := 0) w26_1 (by omega) (by have h1 := w26_2 (x4_26).toNat (by omega); have h2 := (w4_2.2.1 (x4_26).toNat (by omega)).2; omega) (Or.inl ⟨by omega, rfl⟩) (Or.inr ⟨by omega, e107, rfl, by omega⟩) | exact UDi.step (t := 0) (p := 0) (s := 0) (q := 0) w26_1 (by omega) (by have h1 := w26_2 (x4_26).toNat (by omega); have h2 := (w4_2.2.1 (x4_26).toNat (by omega)).2; omega) (Or.inl ⟨by omega, rfl⟩) (Or.inl ⟨by omega, rfl⟩)
                  have hO2 : ∀ k : Nat, k ≠ (x3_4).toNat → upTo_26 k = upTo_4 k ∧ downTo_26 k = downTo_4 k := by first | exact w26_2 | (intro k hk; rw [e69, updZ_n _ _ hk]; exact w26_2 k hk) | (intro k hk; rw [e107, updZ_n _ _ hk]; exact w26_2 k hk) | (intro k hk; rw [e69, e107, updZ_n _ _ hk, updZ_n _ _ hk]; exact w26_2 k hk)
                  refine g_iinc X (lv' := [(4, vI (x4_26 + 1)), (0, .ref h), (1, vI p0), (2, vI x2_4), (3, vI x3_4)]) dX10_unsteady_108 4 rfl (by decide) rfl ?_
                  refine g_goto X (tgt := 26) dX10_unsteady_111 (by decide) ?_
                  refine g_lv [1, 2, 3, 4, 0] rfl ?_
                  exact ih26 (x4_26 + 1) upTo_26 downTo_26 r_upTo_26 r_downTo_26 (by first | assumption | omega) (by first | exact UDi.ini e15 rfl e22 rfl | exact hN) (by first | (intro k hk; rw [e15, e22, updZ_n _ _ hk, updZ_n _ _ hk]; exact ⟨rfl, rfl⟩) | exact hO2) (by omega)
                · refine g_aload_n X dX10_unsteady_84 0 rfl ?_
                  refine gM_get X 0 rfl 57 (by decide) uw1236 rfl dX10_unsteady_85 ?_
                  refine g_iload_n X dX10_unsteady_88 3 rfl ?_
                  refine g_aload_n X dX10_unsteady_89 0 rfl ?_
                  refine gM_get X 0 rfl 57 (by decide) uw1236 rfl dX10_unsteady_90 ?_
                  refine g_iload_n X dX10_unsteady_93 3 rfl ?_
                  refine g_iald X 45 0 rfl rfl (by omega) (by decide) dX10_unsteady_94 (fun t94 e94 => ?_)
                  have r94 := r_downTo_26 (x3_4 : Int).toNat; rw [← e94] at r94
                  refine g_aload_n X dX10_unsteady_95 0 rfl ?_
                  refine gM_get X 0 rfl 56 (by decide) uw1235 rfl dX10_unsteady_96 ?_
                  refine g_iload X dX10_unsteady_99 4 rfl ?_
                  refine g_iald X 44 0 rfl rfl (by omega) (by decide) dX10_unsteady_101 (fun t101 e101 => ?_)
                  have r101 := r_upTo_26 (x4_26 : Int).toNat; rw [← e101] at r101
                  have b101 := w26_2 (x4_26).toNat (by omega)
                  have c101 := (w4_2.2.1 (x4_26).toNat (by omega)).2
                  have d101 : t101 = upTo_26 (x4_26).toNat := by first | exact e101 | (rw [e101, e69, updZ_n _ _ (by omega)])
                  refine g_iconst X dX10_unsteady_102 ?_
                  refine g_iadd X dX10_unsteady_103 ?_
                  refine g_callSIE X (c_X10_max l D cI cB cJ (p0 := t94) (p1 := t101 + 1) (by first | assumption | omega) (by first | assumption | omega)) cv_X10_max uw1554 ⟨rfl, rfl, by decide, by decide⟩ rfl rfl (Nat.le_of_ble_eq_true rfl) ⟨Nat.zero_le _, Nat.zero_le _⟩ dX10_unsteady_104 (fun t104 ws104 k104 => ?_)
                  obtain ⟨kp0_104, rfl⟩ := k104
                  refine g_iast X 45 0 rfl rfl (by omega) (by decide) dX10_unsteady_107 (fun downTo_107 e107 => ?_)
                  have r_downTo_107 : RA (-2147483648) 2147483647 downTo_107 := by rw [e107]; exact RA_up r_downTo_26 (by omega)
                  refine g_ws (ws2 := (wX10 cI cB cJ h q v_stalls v_claimMany v_taped v_place0 v_length0 v_fault v_number0 v_open v_codeMany v_waiting v_saidMany v_clauses v_newMany v_newStalls v_lines v_salesNow v_outNow v_isKept v_keptStalls v_now v_aside v_kept v_oneOf v_otherOf v_signOf v_byOf v_tape v_said v_waitsAt v_saidLetter v_saidFrom v_saidHalf v_saidTo v_codes v_clauseOf v_codeFrom v_codeHalf v_codeTo v_stack v_facts v_newOne v_newOther v_newSign v_newBy v_moreOf v_firstOf v_toldOf v_mostOf v_mostThen v_sumTo v_rowFrom v_ordersOf v_lessOf v_weightOf v_rowNow v_slowRow v_fastRow v_lineNow v_firstLine v_freeBy v_heldBy v_heightOf upTo_26 downTo_107 v_oftenOf v_newUpper v_newLower)) rfl ?_
                  have hN : UDi (oct v_tape) (x3_4).toNat upTo_26 downTo_107 (x4_26 + 1) := by first | exact UDi.step w26_1 (by omega) (by have h1 := w26_2 (x4_26).toNat (by omega); have h2 := (w4_2.2.1 (x4_26).toNat (by omega)).2; omega) (Or.inr ⟨by omega, e69, rfl, by omega⟩) (Or.inr ⟨by omega, e107, rfl, by omega⟩) | exact UDi.step (s := 0) (q := 0) w26_1 (by omega) (by have h1 := w26_2 (x4_26).toNat (by omega); have h2 := (w4_2.2.1 (x4_26).toNat (by omega)).2; omega) (Or.inr ⟨by omega, e69, rfl, by omega⟩) (Or.inl ⟨by omega, rfl⟩) | exact UDi.step (t := 0) (p := 0) w26_1 (by omega) (by have h1 := w26_2 (x4_26).toNat (by omega); have h2 := (w4_2.2.1 (x4_26).toNat (by omega)).2; omega) (Or.inl ⟨by omega, rfl⟩) (Or.inr ⟨by omega, e107, rfl, by omega⟩) | exact UDi.step (t := 0) (p := 0) (s := 0) (q := 0) w26_1 (by omega) (by have h1 := w26_2 (x4_26).toNat (by omega); have h2 := (w4_2.2.1 (x4_26).toNat (by omega)).2; omega) (Or.inl ⟨by omega, rfl⟩) (Or.inl ⟨by omega, rfl⟩)
                  have hO2 : ∀ k : Nat, k ≠ (x3_4).toNat → upTo_26 k = upTo_4 k ∧ downTo_107 k = downTo_4 k := by first | exact w26_2 | (intro k hk; rw [e69, updZ_n _ _ hk]; exact w26_2 k hk) | (intro k hk; rw [e107, updZ_n _ _ hk]; exact w26_2 k hk) | (intro k hk; rw [e69, e107, updZ_n _ _ hk, updZ_n _ _ hk]; exact w26_2 k hk)
                  refine g_iinc X (lv' := [(4, vI (x4_26 + 1)), (0, .ref h), (1, vI p0), (2, vI x2_4), (3, vI x3_4)]) dX10_unsteady_108 4 rfl (by decide) rfl ?_
                  refine g_goto X (tgt := 26) dX10_unsteady_111 (by decide) ?_
                  refine g_lv [1, 2, 3, 4, 0] rfl ?_
                  exact ih26 (x4_26 + 1) upTo_26 downTo_107 r_upTo_26 r_downTo_107 (by first | assumption | omega) (by first | exact UDi.ini e15 rfl e22 rfl | exact hN) (by first | (intro k hk; rw [e15, e22, updZ_n _ _ hk, updZ_n _ _ hk]; exact ⟨rfl, rfl⟩) | exact hO2) (by omega)
              · refine g_aload_n X dX10_unsteady_46 0 rfl ?_
                refine gM_get X 0 rfl 56 (by decide) uw1235 rfl dX10_unsteady_47 ?_
                refine g_iload_n X dX10_unsteady_50 3 rfl ?_
                refine g_aload_n X dX10_unsteady_51 0 rfl ?_
                refine gM_get X 0 rfl 56 (by decide) uw1235 rfl dX10_unsteady_52 ?_
                refine g_iload_n X dX10_unsteady_55 3 rfl ?_
                refine g_iald X 44 0 rfl rfl (by omega) (by decide) dX10_unsteady_56 (fun t56 e56 => ?_)
                have r56 := r_upTo_26 (x3_4 : Int).toNat; rw [← e56] at r56
                refine g_aload_n X dX10_unsteady_57 0 rfl ?_
                refine gM_get X 0 rfl 57 (by decide) uw1236 rfl dX10_unsteady_58 ?_
                refine g_iload X dX10_unsteady_61 4 rfl ?_
                refine g_iald X 45 0 rfl rfl (by omega) (by decide) dX10_unsteady_63 (fun t63 e63 => ?_)
                have r63 := r_downTo_26 (x4_26 : Int).toNat; rw [← e63] at r63
                have b63 := w26_2 (x4_26).toNat (by omega)
                have c63 := (w4_2.2.1 (x4_26).toNat (by omega)).2
                refine g_iconst X dX10_unsteady_64 ?_
                refine g_iadd X dX10_unsteady_65 ?_
                refine g_callSIE X (c_X10_max l D cI cB cJ (p0 := t56) (p1 := t63 + 1) (by first | assumption | omega) (by first | assumption | omega)) cv_X10_max uw1554 ⟨rfl, rfl, by decide, by decide⟩ rfl rfl (Nat.le_of_ble_eq_true rfl) ⟨Nat.zero_le _, Nat.zero_le _⟩ dX10_unsteady_66 (fun t66 ws66 k66 => ?_)
                obtain ⟨kp0_66, rfl⟩ := k66
                refine g_iast X 44 0 rfl rfl (by omega) (by decide) dX10_unsteady_69 (fun upTo_69 e69 => ?_)
                have r_upTo_69 : RA (-2147483648) 2147483647 upTo_69 := by rw [e69]; exact RA_up r_upTo_26 (by omega)
                refine g_ws (ws2 := (wX10 cI cB cJ h q v_stalls v_claimMany v_taped v_place0 v_length0 v_fault v_number0 v_open v_codeMany v_waiting v_saidMany v_clauses v_newMany v_newStalls v_lines v_salesNow v_outNow v_isKept v_keptStalls v_now v_aside v_kept v_oneOf v_otherOf v_signOf v_byOf v_tape v_said v_waitsAt v_saidLetter v_saidFrom v_saidHalf v_saidTo v_codes v_clauseOf v_codeFrom v_codeHalf v_codeTo v_stack v_facts v_newOne v_newOther v_newSign v_newBy v_moreOf v_firstOf v_toldOf v_mostOf v_mostThen v_sumTo v_rowFrom v_ordersOf v_lessOf v_weightOf v_rowNow v_slowRow v_fastRow v_lineNow v_firstLine v_freeBy v_heldBy v_heightOf upTo_69 downTo_26 v_oftenOf v_newUpper v_newLower)) rfl ?_
                refine g_aload_n X dX10_unsteady_70 0 rfl ?_
                refine g_iload_n X dX10_unsteady_71 3 rfl ?_
                refine g_callVI0 X (c_X10_octet l D cI cB cJ h q (p0 := x3_4) r_v_tape (by first | assumption | omega) (by first | assumption | omega)) cv_X10_octet uw1641 ⟨rfl, rfl, by decide, by decide⟩ 0 rfl rfl rfl rfl rfl (Nat.le_of_ble_eq_true rfl) ⟨Nat.zero_le _, Nat.zero_le _⟩ dX10_unsteady_72 (fun t72 ws72 k72 => ?_)
                obtain ⟨kp0_72, kp1_72, kp2_72, rfl⟩ := k72
                refine g_aload_n X dX10_unsteady_75 0 rfl ?_
                refine g_iload X dX10_unsteady_76 4 rfl ?_
                refine g_callVI0 X (c_X10_octet l D cI cB cJ h q (p0 := x4_26) r_v_tape (by first | assumption | omega) (by first | assumption | omega)) cv_X10_octet uw1641 ⟨rfl, rfl, by decide, by decide⟩ 0 rfl rfl rfl rfl rfl (Nat.le_of_ble_eq_true rfl) ⟨Nat.zero_le _, Nat.zero_le _⟩ dX10_unsteady_78 (fun t78 ws78 k78 => ?_)
                obtain ⟨kp0_78, kp1_78, kp2_78, rfl⟩ := k78
                refine g_icmp_ge X (tgt := 108) dX10_unsteady_81 (by decide) (by omega) (by omega) (fun c81 => ?_) (fun c81 => ?_)
                · have hN : UDi (oct v_tape) (x3_4).toNat upTo_69 downTo_26 (x4_26 + 1) := by first | exact UDi.step w26_1 (by omega) (by have h1 := w26_2 (x4_26).toNat (by omega); have h2 := (w4_2.2.1 (x4_26).toNat (by omega)).2; omega) (Or.inr ⟨by omega, e69, rfl, by omega⟩) (Or.inr ⟨by omega, e107, rfl, by omega⟩) | exact UDi.step (s := 0) (q := 0) w26_1 (by omega) (by have h1 := w26_2 (x4_26).toNat (by omega); have h2 := (w4_2.2.1 (x4_26).toNat (by omega)).2; omega) (Or.inr ⟨by omega, e69, rfl, by omega⟩) (Or.inl ⟨by omega, rfl⟩) | exact UDi.step (t := 0) (p := 0) w26_1 (by omega) (by have h1 := w26_2 (x4_26).toNat (by omega); have h2 := (w4_2.2.1 (x4_26).toNat (by omega)).2; omega) (Or.inl ⟨by omega, rfl⟩) (Or.inr ⟨by omega, e107, rfl, by omega⟩) | exact UDi.step (t := 0) (p := 0) (s := 0) (q := 0) w26_1 (by omega) (by have h1 := w26_2 (x4_26).toNat (by omega); have h2 := (w4_2.2.1 (x4_26).toNat (by omega)).2; omega) (Or.inl ⟨by omega, rfl⟩) (Or.inl ⟨by omega, rfl⟩)
                  have hO2 : ∀ k : Nat, k ≠ (x3_4).toNat → upTo_69 k = upTo_4 k ∧ downTo_26 k = downTo_4 k := by first | exact w26_2 | (intro k hk; rw [e69, updZ_n _ _ hk]; exact w26_2 k hk) | (intro k hk; rw [e107, updZ_n _ _ hk]; exact w26_2 k hk) | (intro k hk; rw [e69, e107, updZ_n _ _ hk, updZ_n _ _ hk]; exact w26_2 k hk)
                  refine g_iinc X (lv' := [(4, vI (x4_26 + 1)), (0, .ref h), (1, vI p0), (2, vI x2_4), (3, vI x3_4)]) dX10_unsteady_108 4 rfl (by decide) rfl ?_
                  refine g_goto X (tgt := 26) dX10_unsteady_111 (by decide) ?_
                  refine g_lv [1, 2, 3, 4, 0] rfl ?_
                  exact ih26 (x4_26 + 1) upTo_69 downTo_26 r_upTo_69 r_downTo_26 (by first | assumption | omega) (by first | exact UDi.ini e15 rfl e22 rfl | exact hN) (by first | (intro k hk; rw [e15, e22, updZ_n _ _ hk, updZ_n _ _ hk]; exact ⟨rfl, rfl⟩) | exact hO2) (by omega)
                · refine g_aload_n X dX10_unsteady_84 0 rfl ?_
                  refine gM_get X 0 rfl 57 (by decide) uw1236 rfl dX10_unsteady_85 ?_
                  refine g_iload_n X dX10_unsteady_88 3 rfl ?_
                  refine g_aload_n X dX10_unsteady_89 0 rfl ?_
                  refine gM_get X 0 rfl 57 (by decide) uw1236 rfl dX10_unsteady_90 ?_
                  refine g_iload_n X dX10_unsteady_93 3 rfl ?_
                  refine g_iald X 45 0 rfl rfl (by omega) (by decide) dX10_unsteady_94 (fun t94 e94 => ?_)
                  have r94 := r_downTo_26 (x3_4 : Int).toNat; rw [← e94] at r94
                  refine g_aload_n X dX10_unsteady_95 0 rfl ?_
                  refine gM_get X 0 rfl 56 (by decide) uw1235 rfl dX10_unsteady_96 ?_
                  refine g_iload X dX10_unsteady_99 4 rfl ?_
                  refine g_iald X 44 0 rfl rfl (by omega) (by decide) dX10_unsteady_101 (fun t101 e101 => ?_)
                  have r101 := r_upTo_69 (x4_26 : Int).toNat; rw [← e101] at r101
                  have b101 := w26_2 (x4_26).toNat (by omega)
                  have c101 := (w4_2.2.1 (x4_26).toNat (by omega)).2
                  have d101 : t101 = upTo_26 (x4_26).toNat := by first | exact e101 | (rw [e101, e69, updZ_n _ _ (by omega)])
                  refine g_iconst X dX10_unsteady_102 ?_
                  refine g_iadd X dX10_unsteady_103 ?_
                  refine g_callSIE X (c_X10_max l D cI cB cJ (p0 := t94) (p1 := t101 + 1) (by first | assumption | omega) (by first | assumption | omega)) cv_X10_max uw1554 ⟨rfl, rfl, by decide, by decide⟩ rfl rfl (Nat.le_of_ble_eq_true rfl) ⟨Nat.zero_le _, Nat.zero_le _⟩ dX10_unsteady_104 (fun t104 ws104 k104 => ?_)
                  obtain ⟨kp0_104, rfl⟩ := k104
                  refine g_iast X 45 0 rfl rfl (by omega) (by decide) dX10_unsteady_107 (fun downTo_107 e107 => ?_)
                  have r_downTo_107 : RA (-2147483648) 2147483647 downTo_107 := by rw [e107]; exact RA_up r_downTo_26 (by omega)
                  refine g_ws (ws2 := (wX10 cI cB cJ h q v_stalls v_claimMany v_taped v_place0 v_length0 v_fault v_number0 v_open v_codeMany v_waiting v_saidMany v_clauses v_newMany v_newStalls v_lines v_salesNow v_outNow v_isKept v_keptStalls v_now v_aside v_kept v_oneOf v_otherOf v_signOf v_byOf v_tape v_said v_waitsAt v_saidLetter v_saidFrom v_saidHalf v_saidTo v_codes v_clauseOf v_codeFrom v_codeHalf v_codeTo v_stack v_facts v_newOne v_newOther v_newSign v_newBy v_moreOf v_firstOf v_toldOf v_mostOf v_mostThen v_sumTo v_rowFrom v_ordersOf v_lessOf v_weightOf v_rowNow v_slowRow v_fastRow v_lineNow v_firstLine v_freeBy v_heldBy v_heightOf upTo_69 downTo_107 v_oftenOf v_newUpper v_newLower)) rfl ?_
                  have hN : UDi (oct v_tape) (x3_4).toNat upTo_69 downTo_107 (x4_26 + 1) := by first | exact UDi.step w26_1 (by omega) (by have h1 := w26_2 (x4_26).toNat (by omega); have h2 := (w4_2.2.1 (x4_26).toNat (by omega)).2; omega) (Or.inr ⟨by omega, e69, rfl, by omega⟩) (Or.inr ⟨by omega, e107, rfl, by omega⟩) | exact UDi.step (s := 0) (q := 0) w26_1 (by omega) (by have h1 := w26_2 (x4_26).toNat (by omega); have h2 := (w4_2.2.1 (x4_26).toNat (by omega)).2; omega) (Or.inr ⟨by omega, e69, rfl, by omega⟩) (Or.inl ⟨by omega, rfl⟩) | exact UDi.step (t := 0) (p := 0) w26_1 (by omega) (by have h1 := w26_2 (x4_26).toNat (by omega); have h2 := (w4_2.2.1 (x4_26).toNat (by omega)).2; omega) (Or.inl ⟨by omega, rfl⟩) (Or.inr ⟨by omega, e107, rfl, by omega⟩) | exact UDi.step (t := 0) (p := 0) (s := 0) (q := 0) w26_1 (by omega) (by have h1 := w26_2 (x4_26).toNat (by omega); have h2 := (w4_2.2.1 (x4_26).toNat (by omega)).2; omega) (Or.inl ⟨by omega, rfl⟩) (Or.inl ⟨by omega, rfl⟩)
                  have hO2 : ∀ k : Nat, k ≠ (x3_4).toNat → upTo_69 k = upTo_4 k ∧ downTo_107 k = downTo_4 k := by first | exact w26_2 | (intro k hk; rw [e69, updZ_n _ _ hk]; exact w26_2 k hk) | (intro k hk; rw [e107, updZ_n _ _ hk]; exact w26_2 k hk) | (intro k hk; rw [e69, e107, updZ_n _ _ hk, updZ_n _ _ hk]; exact w26_2 k hk)
                  refine g_iinc X (lv' := [(4, vI (x4_26 + 1)), (0, .ref h), (1, vI p0), (2, vI x2_4), (3, vI x3_4)]) dX10_unsteady_108 4 rfl (by decide) rfl ?_
                  refine g_goto X (tgt := 26) dX10_unsteady_111 (by decide) ?_
                  refine g_lv [1, 2, 3, 4, 0] rfl ?_
                  exact ih26 (x4_26 + 1) upTo_69 downTo_107 r_upTo_69 r_downTo_107 (by first | assumption | omega) (by first | exact UDi.ini e15 rfl e22 rfl | exact hN) (by first | (intro k hk; rw [e15, e22, updZ_n _ _ hk, updZ_n _ _ hk]; exact ⟨rfl, rfl⟩) | exact hO2) (by omega)
        refine g_lv [1, 2, 3, 4, 0] rfl ?_
        exact L26 _ 0 upTo_15 downTo_22 r_upTo_15 r_downTo_22 (by first | assumption | omega) (by first | exact UDi.ini e15 rfl e22 rfl | exact hN) (by first | (intro k hk; rw [e15, e22, updZ_n _ _ hk, updZ_n _ _ hk]; exact ⟨rfl, rfl⟩) | exact hO2) (Nat.lt_succ_self _)
  refine g_lv [2, 3, 1, 0] rfl ?_
  exact L4 _ 1 0 v_upTo v_downTo r_v_upTo r_v_downTo (by first | assumption | omega) (by first | exact UDp.nil _ _ _ | exact UDp.add w4_1 (by omega) w26_2 w26_1) (by first | exact MUp.ini _ _ | exact MUp.step w4_2 (by omega) w26_2 e120 e126 (by omega) kp0_127 kp0_130) (Nat.lt_succ_self _)
set_option maxHeartbeats 4000000 in
set_option maxRecDepth 100000 in
theorem c_X10_steady (l : Launch) (D : va_G) (cI cB cJ : ClassId) (h : Nat) (q : Nat → Nat) {v_stalls v_claimMany v_taped v_place0 v_length0 v_fault v_number0 v_open v_codeMany v_waiting v_saidMany v_clauses v_newMany v_newStalls v_lines v_salesNow v_outNow v_isKept v_keptStalls : Int} {v_now v_aside v_kept v_oneOf v_otherOf v_signOf v_byOf v_tape v_said v_waitsAt v_saidLetter v_saidFrom v_saidHalf v_saidTo v_codes v_clauseOf v_codeFrom v_codeHalf v_codeTo v_stack v_facts v_newOne v_newOther v_newSign v_newBy v_moreOf v_firstOf v_toldOf v_mostOf v_mostThen v_sumTo v_rowFrom v_ordersOf v_lessOf v_weightOf v_rowNow v_slowRow v_fastRow v_lineNow v_firstLine v_freeBy v_heldBy v_heightOf v_upTo v_downTo v_oftenOf v_newUpper v_newLower : Nat → Int} {p0 p1 : Int} (kr_v_taped : 0 ≤ v_taped ∧ v_taped ≤ 260) (r_v_tape : RA (-128) 127 v_tape) (r_v_upTo : RA (-2147483648) 2147483647 v_upTo) (r_v_downTo : RA (-2147483648) 2147483647 v_downTo) (hp0 : IR p0) (hp1 : IR p1) : CtI l yX10_steady cX10_steady 5 (some .int) ⟨2, 0, 0, 46⟩ D (TY cI cB cJ) (wX10 cI cB cJ h q v_stalls v_claimMany v_taped v_place0 v_length0 v_fault v_number0 v_open v_codeMany v_waiting v_saidMany v_clauses v_newMany v_newStalls v_lines v_salesNow v_outNow v_isKept v_keptStalls v_now v_aside v_kept v_oneOf v_otherOf v_signOf v_byOf v_tape v_said v_waitsAt v_saidLetter v_saidFrom v_saidHalf v_saidTo v_codes v_clauseOf v_codeFrom v_codeHalf v_codeTo v_stack v_facts v_newOne v_newOther v_newSign v_newBy v_moreOf v_firstOf v_toldOf v_mostOf v_mostThen v_sumTo v_rowFrom v_ordersOf v_lessOf v_weightOf v_rowNow v_slowRow v_fastRow v_lineNow v_firstLine v_freeBy v_heldBy v_heightOf v_upTo v_downTo v_oftenOf v_newUpper v_newLower) [.ref h, vI p0, vI p1] (fun z ws' => ∃ n_taped : Int, ∃ n_upTo : Nat → Int, ∃ n_downTo : Nat → Int, (0 ≤ n_taped ∧ n_taped ≤ 260) ∧ (RA (-2147483648) 2147483647 n_upTo) ∧ (RA (-2147483648) 2147483647 n_downTo) ∧ (IR z) ∧ ((0 ≤ p1 ∧ p1 ≤ 1 ∧ 1 ≤ p0 ∧ p0 ≤ 20 ∧ p0 ≤ v_taped ∧ n_taped = 0) ∨ (¬ (0 ≤ p1 ∧ p1 ≤ 1 ∧ 1 ≤ p0 ∧ p0 ≤ 20 ∧ p0 ≤ v_taped) ∧ n_taped = v_taped)) ∧ (((0 ≤ p1 ∧ p1 ≤ 1 ∧ 1 ≤ p0 ∧ p0 ≤ 20 ∧ p0 ≤ v_taped) ∧ z = stF (oct v_tape) p0 p1) ∨ (¬ (0 ≤ p1 ∧ p1 ≤ 1 ∧ 1 ≤ p0 ∧ p0 ≤ 20 ∧ p0 ≤ v_taped) ∧ z = -1)) ∧ (ws' = (wX10 cI cB cJ h q v_stalls v_claimMany n_taped v_place0 v_length0 v_fault v_number0 v_open v_codeMany v_waiting v_saidMany v_clauses v_newMany v_newStalls v_lines v_salesNow v_outNow v_isKept v_keptStalls v_now v_aside v_kept v_oneOf v_otherOf v_signOf v_byOf v_tape v_said v_waitsAt v_saidLetter v_saidFrom v_saidHalf v_saidTo v_codes v_clauseOf v_codeFrom v_codeHalf v_codeTo v_stack v_facts v_newOne v_newOther v_newSign v_newBy v_moreOf v_firstOf v_toldOf v_mostOf v_mostThen v_sumTo v_rowFrom v_ordersOf v_lessOf v_weightOf v_rowNow v_slowRow v_fastRow v_lineNow v_firstLine v_freeBy v_heldBy v_heightOf n_upTo n_downTo v_oftenOf v_newUpper v_newLower))) := by
  refine hdrI (own := RX10) rfl (by decide +kernel) (Nat.le_of_ble_eq_true rfl) ?_
  intro p e s m args below meth c Q A X hQ
  refine g_lvE (lv2 := [(0, .ref h), (1, vI p0), (2, vI p1)]) rfl ?_
  refine g_iload_n X dX10_steady_0 1 rfl ?_
  refine g_iconst X dX10_steady_1 ?_
  refine g_bipush X (z := 20) dX10_steady_2 (by decide) ?_
  refine g_callSIE X (c_X10_in l D cI cB cJ (p0 := p0) (p1 := 1) (p2 := 20) (by first | assumption | omega) (by first | assumption | omega) (by first | assumption | omega)) cv_X10_in uw1394 ⟨rfl, rfl, by decide, by decide⟩ rfl rfl (Nat.le_of_ble_eq_true rfl) ⟨Nat.zero_le _, Nat.zero_le _⟩ dX10_steady_4 (fun t4 ws4 k4 => ?_)
  obtain ⟨kb_4, ⟨kp0_4, rfl⟩⟩ := k4
  refine g_if_eq X (tgt := 27) dX10_steady_7 (by decide) (by omega) (fun c7 => ?_) (fun c7 => ?_)
  · clear kb_4
    replace kp0_4 := (kp0_4.resolve_left (fun h => absurd h.1 (by omega))).2
    refine g_iconst X dX10_steady_27 ?_
    exact hQ _ _ _ _ dX10_steady_28 ⟨v_taped, v_upTo, v_downTo, (by omega), r_v_upTo, r_v_downTo, (by first | assumption | omega), (by first | assumption | omega), (by first | assumption | omega), rfl⟩
  · replace kb_4 := kb_4.resolve_left (fun h => c7 h)
    replace kp0_4 := kp0_4.resolve_right (fun h => c7 h.1)
    refine g_iload_n X dX10_steady_10 2 rfl ?_
    refine g_iconst X dX10_steady_11 ?_
    refine g_iconst X dX10_steady_12 ?_
    refine g_callSIE X (c_X10_in l D cI cB cJ (p0 := p1) (p1 := 0) (p2 := 1) (by first | assumption | omega) (by first | assumption | omega) (by first | assumption | omega)) cv_X10_in uw1394 ⟨rfl, rfl, by decide, by decide⟩ rfl rfl (Nat.le_of_ble_eq_true rfl) ⟨Nat.zero_le _, Nat.zero_le _⟩ dX10_steady_13 (fun t13 ws13 k13 => ?_)
    obtain ⟨kb_13, ⟨kp0_13, rfl⟩⟩ := k13
    refine g_if_eq X (tgt := 27) dX10_steady_16 (by decide) (by omega) (fun c16 => ?_) (fun c16 => ?_)
    · clear kb_13
      replace kp0_13 := (kp0_13.resolve_left (fun h => absurd h.1 (by omega))).2
      refine g_iconst X dX10_steady_27 ?_
      exact hQ _ _ _ _ dX10_steady_28 ⟨v_taped, v_upTo, v_downTo, (by omega), r_v_upTo, r_v_downTo, (by first | assumption | omega), (by first | assumption | omega), (by first | assumption | omega), rfl⟩
    · replace kb_13 := kb_13.resolve_left (fun h => c16 h)
      replace kp0_13 := kp0_13.resolve_right (fun h => c16 h.1)
      refine g_iload_n X dX10_steady_19 1 rfl ?_
      refine g_aload_n X dX10_steady_20 0 rfl ?_
      refine gM_get X 0 rfl 10 (by decide) uw1189 rfl dX10_steady_21 ?_
      refine g_icmp_le X (tgt := 29) dX10_steady_24 (by decide) (by omega) (by omega) (fun c24 => ?_) (fun c24 => ?_)
      · refine g_aload_n X dX10_steady_29 0 rfl ?_
        refine g_iconst X dX10_steady_30 ?_
        refine gM_put X 0 rfl 10 (by decide) uw1189 rfl rfl rfl (Nat.le_of_ble_eq_true rfl) dX10_steady_31 (ws2 := (wX10 cI cB cJ h q v_stalls v_claimMany 0 v_place0 v_length0 v_fault v_number0 v_open v_codeMany v_waiting v_saidMany v_clauses v_newMany v_newStalls v_lines v_salesNow v_outNow v_isKept v_keptStalls v_now v_aside v_kept v_oneOf v_otherOf v_signOf v_byOf v_tape v_said v_waitsAt v_saidLetter v_saidFrom v_saidHalf v_saidTo v_codes v_clauseOf v_codeFrom v_codeHalf v_codeTo v_stack v_facts v_newOne v_newOther v_newSign v_newBy v_moreOf v_firstOf v_toldOf v_mostOf v_mostThen v_sumTo v_rowFrom v_ordersOf v_lessOf v_weightOf v_rowNow v_slowRow v_fastRow v_lineNow v_firstLine v_freeBy v_heldBy v_heightOf v_upTo v_downTo v_oftenOf v_newUpper v_newLower)) rfl ?_
        refine g_iload_n X dX10_steady_34 2 rfl ?_
        refine g_iconst X dX10_steady_35 ?_
        refine g_icmp_ne X (tgt := 45) dX10_steady_36 (by decide) (by omega) (by omega) (fun c36 => ?_) (fun c36 => ?_)
        · refine g_iconst X dX10_steady_45 ?_
          refine g_istore_n X (lv' := [(3, vI 1), (0, .ref h), (1, vI p0), (2, vI p1)]) dX10_steady_46 (by decide) rfl ?_
          refine g_sipush X (z := (-255)) dX10_steady_47 (by decide) ?_
          refine g_istore X (lv' := [(4, vI (-255)), (3, vI 1), (0, .ref h), (1, vI p0), (2, vI p1)]) dX10_steady_50 (by decide) rfl ?_
          have L52 : ∀ (n : Nat) (x3_52 : Int) (x4_52 : Int) (upTo_52 : Nat → Int), (RA (-2147483648) 2147483647 upTo_52) → (-255 ≤ x4_52 ∧ x4_52 ≤ 256) → (1 ≤ x3_52 ∧ x3_52 ≤ 100) → (STq (oct v_tape) p0.toNat x4_52 x3_52) → (256 - x4_52).toNat < n → GG p l e ⟨2, 0, 0, 46⟩ s m args below meth c 0 0 Q D A s.heap 5 (wX10 cI cB cJ h q v_stalls v_claimMany 0 v_place0 v_length0 v_fault v_number0 v_open v_codeMany v_waiting v_saidMany v_clauses v_newMany v_newStalls v_lines v_salesNow v_outNow v_isKept v_keptStalls v_now v_aside v_kept v_oneOf v_otherOf v_signOf v_byOf v_tape v_said v_waitsAt v_saidLetter v_saidFrom v_saidHalf v_saidTo v_codes v_clauseOf v_codeFrom v_codeHalf v_codeTo v_stack v_facts v_newOne v_newOther v_newSign v_newBy v_moreOf v_firstOf v_toldOf v_mostOf v_mostThen v_sumTo v_rowFrom v_ordersOf v_lessOf v_weightOf v_rowNow v_slowRow v_fastRow v_lineNow v_firstLine v_freeBy v_heldBy v_heightOf upTo_52 v_downTo v_oftenOf v_newUpper v_newLower) 52 [(0, .ref h), (1, vI p0), (3, vI x3_52), (4, vI x4_52)] [] := by
            intro n
            induction n with
            | zero => intros; exfalso; omega
            | succ n ih52 =>
              intro x3_52 x4_52 upTo_52 r_upTo_52 w52_0 w52_1 w52_2 wm52
              refine g_iload X dX10_steady_52 3 rfl ?_
              refine g_sipush X (z := 256) dX10_steady_54 (by decide) ?_
              refine g_icmp_ge X (tgt := 78) dX10_steady_57 (by decide) (by omega) (by omega) (fun c57 => ?_) (fun c57 => ?_)
              · refine g_iload_n X dX10_steady_78 2 rfl ?_
                have hE := stF_e (oct v_tape) p0 p1
                have hF : x3_52 = lsO (oct v_tape) p0.toNat p0.toNat := by have h9 := w52_2; rw [show x4_52 = 256 by omega] at h9; exact st_main (fun i _ => oct_r v_tape i) h9.1 h9.2.1 h9.2.2
                exact hQ _ _ _ _ dX10_steady_79 ⟨0, upTo_52, v_downTo, (by omega), r_upTo_52, r_v_downTo, (by first | assumption | omega), (by first | assumption | omega), (by first | assumption | omega), rfl⟩
              · refine g_iload_n X dX10_steady_60 2 rfl ?_
                refine g_aload_n X dX10_steady_61 0 rfl ?_
                refine g_iload_n X dX10_steady_62 1 rfl ?_
                refine g_iload X dX10_steady_63 3 rfl ?_
                refine g_callVI0 X (c_X10_steadyBy l D cI cB cJ h q (p0 := p0) (p1 := x4_52) r_v_tape r_upTo_52 (by first | assumption | omega) (by first | assumption | omega) (by first | assumption | omega) (by first | assumption | omega)) cv_X10_steadyBy uw1726 ⟨rfl, rfl, by decide, by decide⟩ 0 rfl rfl rfl rfl rfl (Nat.le_of_ble_eq_true rfl) ⟨Nat.zero_le _, Nat.zero_le _⟩ dX10_steady_65 (fun t65 ws65 k65 => ?_)
                obtain ⟨upTo_65, r_upTo_65, kp0_65, kp1_65, rfl⟩ := k65
                refine g_callSIE X (c_X10_max l D cI cB cJ (p0 := x3_52) (p1 := t65) (by first | assumption | omega) (by first | assumption | omega)) cv_X10_max uw1554 ⟨rfl, rfl, by decide, by decide⟩ rfl rfl (Nat.le_of_ble_eq_true rfl) ⟨Nat.zero_le _, Nat.zero_le _⟩ dX10_steady_68 (fun t68 ws68 k68 => ?_)
                obtain ⟨kp0_68, rfl⟩ := k68
                have hT9 : STq (oct v_tape) p0.toNat (x4_52 + 1) t68 := STq.step w52_2 kp1_65 kp0_68
                clear kp1_65
                refine g_istore_n X (lv' := [(3, vI t68), (0, .ref h), (1, vI p0), (4, vI x4_52)]) dX10_steady_71 (by decide) rfl ?_
                refine g_iinc X (lv' := [(4, vI (x4_52 + 1)), (3, vI t68), (0, .ref h), (1, vI p0)]) dX10_steady_72 3 rfl (by decide) rfl ?_
                refine g_goto X (tgt := 52) dX10_steady_75 (by decide) ?_
                refine g_lv [2, 3, 1, 0] rfl ?_
                exact ih52 t68 (x4_52 + 1) upTo_65 r_upTo_65 (by first | assumption | omega) (by first | assumption | omega) (by first | exact STq.ini _ _ | exact hT9) (by omega)
          refine g_lv [2, 3, 1, 0] rfl ?_
          exact L52 _ 1 (-255) v_upTo r_v_upTo (by first | assumption | omega) (by first | assumption | omega) (by first | exact STq.ini _ _ | exact hT9) (Nat.lt_succ_self _)
        · refine g_aload_n X dX10_steady_39 0 rfl ?_
          refine g_iload_n X dX10_steady_40 1 rfl ?_
          refine g_callVI0 X (c_X10_unsteady l D cI cB cJ h q (p0 := p0) r_v_tape r_v_upTo r_v_downTo (by first | assumption | omega) (by first | assumption | omega)) cv_X10_unsteady uw1722 ⟨rfl, rfl, by decide, by decide⟩ 0 rfl rfl rfl rfl rfl (Nat.le_of_ble_eq_true rfl) ⟨Nat.zero_le _, Nat.zero_le _⟩ dX10_steady_41 (fun t41 ws41 k41 => ?_)
          obtain ⟨upTo_41, downTo_41, r_upTo_41, r_downTo_41, kp0_41, kp1_41, rfl⟩ := k41
          have hE := stF_e (oct v_tape) p0 p1
          exact hQ _ _ _ _ dX10_steady_44 ⟨0, upTo_41, downTo_41, (by omega), r_upTo_41, r_downTo_41, (by first | assumption | omega), (by first | assumption | omega), (by first | assumption | omega), rfl⟩
      · refine g_iconst X dX10_steady_27 ?_
        exact hQ _ _ _ _ dX10_steady_28 ⟨v_taped, v_upTo, v_downTo, (by omega), r_v_upTo, r_v_downTo, (by first | assumption | omega), (by first | assumption | omega), (by first | assumption | omega), rfl⟩
set_option maxHeartbeats 4000000 in
set_option maxRecDepth 100000 in
theorem c_X10_comes (l : Launch) (D : va_G) (cI cB cJ : ClassId) (h : Nat) (q : Nat → Nat) {v_stalls v_claimMany v_taped v_place0 v_length0 v_fault v_number0 v_open v_codeMany v_waiting v_saidMany v_clauses v_newMany v_newStalls v_lines v_salesNow v_outNow v_isKept v_keptStalls : Int} {v_now v_aside v_kept v_oneOf v_otherOf v_signOf v_byOf v_tape v_said v_waitsAt v_saidLetter v_saidFrom v_saidHalf v_saidTo v_codes v_clauseOf v_codeFrom v_codeHalf v_codeTo v_stack v_facts v_newOne v_newOther v_newSign v_newBy v_moreOf v_firstOf v_toldOf v_mostOf v_mostThen v_sumTo v_rowFrom v_ordersOf v_lessOf v_weightOf v_rowNow v_slowRow v_fastRow v_lineNow v_firstLine v_freeBy v_heldBy v_heightOf v_upTo v_downTo v_oftenOf v_newUpper v_newLower : Nat → Int} {p0 p1 : Int} (kr_v_taped : 0 ≤ v_taped ∧ v_taped ≤ 260) (r_v_tape : RA (-128) 127 v_tape) (hp0 : IR p0) (hp1 : IR p1) : CtI l yX10_comes cX10_comes 6 (some .int) ⟨2, 0, 0, 44⟩ D (TY cI cB cJ) (wX10 cI cB cJ h q v_stalls v_claimMany v_taped v_place0 v_length0 v_fault v_number0 v_open v_codeMany v_waiting v_saidMany v_clauses v_newMany v_newStalls v_lines v_salesNow v_outNow v_isKept v_keptStalls v_now v_aside v_kept v_oneOf v_otherOf v_signOf v_byOf v_tape v_said v_waitsAt v_saidLetter v_saidFrom v_saidHalf v_saidTo v_codes v_clauseOf v_codeFrom v_codeHalf v_codeTo v_stack v_facts v_newOne v_newOther v_newSign v_newBy v_moreOf v_firstOf v_toldOf v_mostOf v_mostThen v_sumTo v_rowFrom v_ordersOf v_lessOf v_weightOf v_rowNow v_slowRow v_fastRow v_lineNow v_firstLine v_freeBy v_heldBy v_heightOf v_upTo v_downTo v_oftenOf v_newUpper v_newLower) [.ref h, vI p0, vI p1] (fun z ws' => ∃ n_taped : Int, (0 ≤ n_taped ∧ n_taped ≤ 260) ∧ (IR z) ∧ ((0 ≤ p1 ∧ p1 ≤ 1 ∧ 1 ≤ p0 ∧ p0 ≤ 8 ∧ p0 ≤ v_taped ∧ n_taped = 0) ∨ (¬ (0 ≤ p1 ∧ p1 ≤ 1 ∧ 1 ≤ p0 ∧ p0 ≤ 8 ∧ p0 ≤ v_taped) ∧ n_taped = v_taped)) ∧ (((0 ≤ p1 ∧ p1 ≤ 1 ∧ 1 ≤ p0 ∧ p0 ≤ 8 ∧ p0 ≤ v_taped) ∧ z = cmF (oct v_tape) p0 p1) ∨ (¬ (0 ≤ p1 ∧ p1 ≤ 1 ∧ 1 ≤ p0 ∧ p0 ≤ 8 ∧ p0 ≤ v_taped) ∧ z = -1)) ∧ (ws' = (wX10 cI cB cJ h q v_stalls v_claimMany n_taped v_place0 v_length0 v_fault v_number0 v_open v_codeMany v_waiting v_saidMany v_clauses v_newMany v_newStalls v_lines v_salesNow v_outNow v_isKept v_keptStalls v_now v_aside v_kept v_oneOf v_otherOf v_signOf v_byOf v_tape v_said v_waitsAt v_saidLetter v_saidFrom v_saidHalf v_saidTo v_codes v_clauseOf v_codeFrom v_codeHalf v_codeTo v_stack v_facts v_newOne v_newOther v_newSign v_newBy v_moreOf v_firstOf v_toldOf v_mostOf v_mostThen v_sumTo v_rowFrom v_ordersOf v_lessOf v_weightOf v_rowNow v_slowRow v_fastRow v_lineNow v_firstLine v_freeBy v_heldBy v_heightOf v_upTo v_downTo v_oftenOf v_newUpper v_newLower))) := by
  refine hdrI (own := RX10) rfl (by decide +kernel) (Nat.le_of_ble_eq_true rfl) ?_
  intro p e s m args below meth c Q A X hQ
  refine g_lvE (lv2 := [(0, .ref h), (1, vI p0), (2, vI p1)]) rfl ?_
  refine g_iload_n X dX10_comes_0 1 rfl ?_
  refine g_iconst X dX10_comes_1 ?_
  refine g_bipush X (z := 8) dX10_comes_2 (by decide) ?_
  refine g_callSIE X (c_X10_in l D cI cB cJ (p0 := p0) (p1 := 1) (p2 := 8) (by first | assumption | omega) (by first | assumption | omega) (by first | assumption | omega)) cv_X10_in uw1394 ⟨rfl, rfl, by decide, by decide⟩ rfl rfl (Nat.le_of_ble_eq_true rfl) ⟨Nat.zero_le _, Nat.zero_le _⟩ dX10_comes_4 (fun t4 ws4 k4 => ?_)
  obtain ⟨kb_4, ⟨kp0_4, rfl⟩⟩ := k4
  refine g_if_eq X (tgt := 27) dX10_comes_7 (by decide) (by omega) (fun c7 => ?_) (fun c7 => ?_)
  · clear kb_4
    replace kp0_4 := (kp0_4.resolve_left (fun h => absurd h.1 (by omega))).2
    refine g_iconst X dX10_comes_27 ?_
    exact hQ _ _ _ _ dX10_comes_28 ⟨v_taped, (by omega), (by first | assumption | omega), (by first | assumption | omega), (by first | assumption | omega), rfl⟩
  · replace kb_4 := kb_4.resolve_left (fun h => c7 h)
    replace kp0_4 := kp0_4.resolve_right (fun h => c7 h.1)
    refine g_iload_n X dX10_comes_10 2 rfl ?_
    refine g_iconst X dX10_comes_11 ?_
    refine g_iconst X dX10_comes_12 ?_
    refine g_callSIE X (c_X10_in l D cI cB cJ (p0 := p1) (p1 := 0) (p2 := 1) (by first | assumption | omega) (by first | assumption | omega) (by first | assumption | omega)) cv_X10_in uw1394 ⟨rfl, rfl, by decide, by decide⟩ rfl rfl (Nat.le_of_ble_eq_true rfl) ⟨Nat.zero_le _, Nat.zero_le _⟩ dX10_comes_13 (fun t13 ws13 k13 => ?_)
    obtain ⟨kb_13, ⟨kp0_13, rfl⟩⟩ := k13
    refine g_if_eq X (tgt := 27) dX10_comes_16 (by decide) (by omega) (fun c16 => ?_) (fun c16 => ?_)
    · clear kb_13
      replace kp0_13 := (kp0_13.resolve_left (fun h => absurd h.1 (by omega))).2
      refine g_iconst X dX10_comes_27 ?_
      exact hQ _ _ _ _ dX10_comes_28 ⟨v_taped, (by omega), (by first | assumption | omega), (by first | assumption | omega), (by first | assumption | omega), rfl⟩
    · replace kb_13 := kb_13.resolve_left (fun h => c16 h)
      replace kp0_13 := kp0_13.resolve_right (fun h => c16 h.1)
      refine g_iload_n X dX10_comes_19 1 rfl ?_
      refine g_aload_n X dX10_comes_20 0 rfl ?_
      refine gM_get X 0 rfl 10 (by decide) uw1189 rfl dX10_comes_21 ?_
      refine g_icmp_le X (tgt := 29) dX10_comes_24 (by decide) (by omega) (by omega) (fun c24 => ?_) (fun c24 => ?_)
      · refine g_aload_n X dX10_comes_29 0 rfl ?_
        refine g_iconst X dX10_comes_30 ?_
        refine gM_put X 0 rfl 10 (by decide) uw1189 rfl rfl rfl (Nat.le_of_ble_eq_true rfl) dX10_comes_31 (ws2 := (wX10 cI cB cJ h q v_stalls v_claimMany 0 v_place0 v_length0 v_fault v_number0 v_open v_codeMany v_waiting v_saidMany v_clauses v_newMany v_newStalls v_lines v_salesNow v_outNow v_isKept v_keptStalls v_now v_aside v_kept v_oneOf v_otherOf v_signOf v_byOf v_tape v_said v_waitsAt v_saidLetter v_saidFrom v_saidHalf v_saidTo v_codes v_clauseOf v_codeFrom v_codeHalf v_codeTo v_stack v_facts v_newOne v_newOther v_newSign v_newBy v_moreOf v_firstOf v_toldOf v_mostOf v_mostThen v_sumTo v_rowFrom v_ordersOf v_lessOf v_weightOf v_rowNow v_slowRow v_fastRow v_lineNow v_firstLine v_freeBy v_heldBy v_heightOf v_upTo v_downTo v_oftenOf v_newUpper v_newLower)) rfl ?_
        refine g_iconst X dX10_comes_34 ?_
        refine g_istore_n X (lv' := [(3, vI 0), (0, .ref h), (1, vI p0), (2, vI p1)]) dX10_comes_35 (by decide) rfl ?_
        refine g_iconst X dX10_comes_36 ?_
        refine g_istore X (lv' := [(4, vI 0), (3, vI 0), (0, .ref h), (1, vI p0), (2, vI p1)]) dX10_comes_37 (by decide) rfl ?_
        refine g_iconst X dX10_comes_39 ?_
        refine g_istore X (lv' := [(5, vI 0), (4, vI 0), (3, vI 0), (0, .ref h), (1, vI p0), (2, vI p1)]) dX10_comes_40 (by decide) rfl ?_
        have L42 : ∀ (n : Nat) (x3_42 : Int) (x4_42 : Int) (x5_42 : Int), (0 ≤ x5_42 ∧ x5_42 ≤ p0) → (0 ≤ x3_42 ∧ x3_42 ≤ 255) → (0 ≤ x4_42 ∧ x4_42 ≤ 2147483647) → (0 < x5_42 → 0 < x4_42) → (x3_42 = cmM (oct v_tape) (x5_42).toNat) → (x4_42 = cmG (oct v_tape) (x5_42).toNat) → (∀ j : Nat, (j : Int) < x5_42 → oct v_tape j ≠ 0) → (p0 - x5_42).toNat < n → GG p l e ⟨2, 0, 0, 44⟩ s m args below meth c 0 0 Q D A s.heap 6 (wX10 cI cB cJ h q v_stalls v_claimMany 0 v_place0 v_length0 v_fault v_number0 v_open v_codeMany v_waiting v_saidMany v_clauses v_newMany v_newStalls v_lines v_salesNow v_outNow v_isKept v_keptStalls v_now v_aside v_kept v_oneOf v_otherOf v_signOf v_byOf v_tape v_said v_waitsAt v_saidLetter v_saidFrom v_saidHalf v_saidTo v_codes v_clauseOf v_codeFrom v_codeHalf v_codeTo v_stack v_facts v_newOne v_newOther v_newSign v_newBy v_moreOf v_firstOf v_toldOf v_mostOf v_mostThen v_sumTo v_rowFrom v_ordersOf v_lessOf v_weightOf v_rowNow v_slowRow v_fastRow v_lineNow v_firstLine v_freeBy v_heldBy v_heightOf v_upTo v_downTo v_oftenOf v_newUpper v_newLower) 42 [(0, .ref h), (1, vI p0), (2, vI p1), (3, vI x3_42), (4, vI x4_42), (5, vI x5_42)] [] := by
          intro n
          induction n with
          | zero => intros; exfalso; omega
          | succ n ih42 =>
            intro x3_42 x4_42 x5_42 w42_0 w42_1 w42_2 w42_3 w42_4 w42_5 w42_6 wm42
            have hM := cmM_s (oct v_tape) (x := x5_42) (by omega)
            refine g_iload X dX10_comes_42 5 rfl ?_
            refine g_iload_n X dX10_comes_44 1 rfl ?_
            refine g_icmp_ge X (tgt := 90) dX10_comes_45 (by decide) (by omega) (by omega) (fun c45 => ?_) (fun c45 => ?_)
            · refine g_aload_n X dX10_comes_90 0 rfl ?_
              refine g_iload_n X dX10_comes_91 1 rfl ?_
              refine g_callVI0 X (c_X10_areUnlike l D cI cB cJ h q (p0 := p0) r_v_tape (by first | assumption | omega) (by first | assumption | omega) (by first | assumption | omega)) cv_X10_areUnlike uw1737 ⟨rfl, rfl, by decide, by decide⟩ 0 rfl rfl rfl rfl rfl (Nat.le_of_ble_eq_true rfl) ⟨Nat.zero_le _, Nat.zero_le _⟩ dX10_comes_92 (fun t92 ws92 k92 => ?_)
              obtain ⟨kb_92, ⟨kp0_92, rfl⟩⟩ := k92
              refine g_if_ne X (tgt := 101) dX10_comes_95 (by decide) (by omega) (fun c95 => ?_) (fun c95 => ?_)
              · replace kb_92 := kb_92.resolve_left (fun h => c95 h)
                replace kp0_92 := kp0_92.resolve_right (fun h => c95 h.1)
                have hB : ¬ (0 < ctP (fun j => decide (oct v_tape j = 0)) p0.toNat ∨ 0 < twO (oct v_tape) 0 p0.toNat) := by rw [ctP_z (P := fun j => decide (oct v_tape j = 0)) (fun j hj => decide_eq_false (w42_6 j (by omega)))]; omega
                have hx : x5_42 = p0 := by omega
                rw [hx] at w42_4 w42_5
                have hm := cm_many (f := oct v_tape) (n := p0.toNat) (by omega) (fun j hj => by have h1 := w42_6 j (by omega); have h2 := oct_r v_tape j; omega) (fun i j hi hj he => twO_ne (by omega) i j hi hj he)
                have h1 : p0 = 1 → cmM (oct v_tape) p0.toNat / cmG (oct v_tape) p0.toNat - 1 = 0 := fun h => by rw [h]; exact cm_one (by have h1 := w42_6 0 (by omega); have h2 := oct_r v_tape 0; omega)
                refine g_iload_n X dX10_comes_101 1 rfl ?_
                refine g_iconst X dX10_comes_102 ?_
                refine g_icmp_ge X (tgt := 110) dX10_comes_103 (by decide) (by omega) (by omega) (fun c103 => ?_) (fun c103 => ?_)
                · refine g_iload_n X dX10_comes_110 3 rfl ?_
                  refine g_iload X dX10_comes_111 4 rfl ?_
                  refine g_idiv X dX10_comes_113 (by omega) (by omega) ?_
                  refine g_nm (fun t113 e113 => ?_)
                  have r113 := z_div_r x3_42 x4_42 (by omega) (by omega); rw [← e113] at r113
                  refine g_iload_n X dX10_comes_114 1 rfl ?_
                  refine g_isub X dX10_comes_115 ?_
                  refine g_istore X (lv' := [(5, vI (t113 - p0)), (0, .ref h), (1, vI p0), (2, vI p1), (3, vI x3_42), (4, vI x4_42)]) dX10_comes_116 (by decide) rfl ?_
                  have hv : (t113 - p0) = cmM (oct v_tape) p0.toNat / cmG (oct v_tape) p0.toNat - p0 := by first | (rw [← w42_4, ← w42_5, ← e113]) | (have := h1 (by omega); omega)
                  refine g_iload_n X dX10_comes_118 3 rfl ?_
                  refine g_if_ne X (tgt := 127) dX10_comes_119 (by decide) (by omega) (fun c119 => ?_) (fun c119 => ?_)
                  · refine g_iload X dX10_comes_127 0 rfl ?_
                    refine g_iconst X dX10_comes_129 ?_
                    refine g_iremT X dX10_comes_130 (by omega) (by omega) ?_
                    refine g_nm (fun t130 e130 => ?_)
                    have r130 := z_iremT_r (t113 - p0) 2 (by omega) (by omega); rw [← e130] at r130
                    have hF : t130 = cmF (oct v_tape) p0 p1 := by first | (rw [cmF_0 hB (by omega)]; omega) | (rw [cmF_1 hB (by omega), ← hv, e130]; exact Int.tmod_eq_emod_of_nonneg (by omega))
                    exact hQ _ _ _ _ dX10_comes_131 ⟨0, (by omega), (by first | assumption | omega), (by first | assumption | omega), (by first | assumption | omega), rfl⟩
                  · refine g_iload X dX10_comes_122 0 rfl ?_
                    refine g_goto X (tgt := 131) dX10_comes_124 (by decide) ?_
                    have hF : (t113 - p0) = cmF (oct v_tape) p0 p1 := by first | (rw [cmF_0 hB (by omega)]; omega) | (rw [cmF_1 hB (by omega), ← hv, e130]; exact Int.tmod_eq_emod_of_nonneg (by omega))
                    exact hQ _ _ _ _ dX10_comes_131 ⟨0, (by omega), (by first | assumption | omega), (by first | assumption | omega), (by first | assumption | omega), rfl⟩
                · refine g_iconst X dX10_comes_106 ?_
                  refine g_goto X (tgt := 116) dX10_comes_107 (by decide) ?_
                  refine g_istore X (lv' := [(5, vI 0), (0, .ref h), (1, vI p0), (2, vI p1), (3, vI x3_42), (4, vI x4_42)]) dX10_comes_116 (by decide) rfl ?_
                  have hv : 0 = cmM (oct v_tape) p0.toNat / cmG (oct v_tape) p0.toNat - p0 := by first | (rw [← w42_4, ← w42_5, ← e113]) | (have := h1 (by omega); omega)
                  refine g_iload_n X dX10_comes_118 3 rfl ?_
                  refine g_if_ne X (tgt := 127) dX10_comes_119 (by decide) (by omega) (fun c119 => ?_) (fun c119 => ?_)
                  · refine g_iload X dX10_comes_127 0 rfl ?_
                    refine g_iconst X dX10_comes_129 ?_
                    refine g_iremT X dX10_comes_130 (by omega) (by omega) ?_
                    refine g_nm (fun t130 e130 => ?_)
                    have r130 := z_iremT_r 0 2 (by omega) (by omega); rw [← e130] at r130
                    have hF : t130 = cmF (oct v_tape) p0 p1 := by first | (rw [cmF_0 hB (by omega)]; omega) | (rw [cmF_1 hB (by omega), ← hv, e130]; exact Int.tmod_eq_emod_of_nonneg (by omega))
                    exact hQ _ _ _ _ dX10_comes_131 ⟨0, (by omega), (by first | assumption | omega), (by first | assumption | omega), (by first | assumption | omega), rfl⟩
                  · refine g_iload X dX10_comes_122 0 rfl ?_
                    refine g_goto X (tgt := 131) dX10_comes_124 (by decide) ?_
                    have hF : 0 = cmF (oct v_tape) p0 p1 := by first | (rw [cmF_0 hB (by omega)]; omega) | (rw [cmF_1 hB (by omega), ← hv, e130]; exact Int.tmod_eq_emod_of_nonneg (by omega))
                    exact hQ _ _ _ _ dX10_comes_131 ⟨0, (by omega), (by first | assumption | omega), (by first | assumption | omega), (by first | assumption | omega), rfl⟩
              · clear kb_92
                replace kp0_92 := (kp0_92.resolve_left (fun h => absurd h.1 (by omega))).2
                refine g_bipush X (z := (-3)) dX10_comes_98 (by decide) ?_
                have hF : cmF (oct v_tape) p0 p1 = -3 := cmF_bad _ (Or.inr (by omega))
                exact hQ _ _ _ _ dX10_comes_100 ⟨0, (by omega), (by first | assumption | omega), (by first | assumption | omega), (by first | assumption | omega), rfl⟩
            · refine g_aload_n X dX10_comes_48 0 rfl ?_
              refine g_iload X dX10_comes_49 5 rfl ?_
              refine g_callVI0 X (c_X10_octet l D cI cB cJ h q (p0 := x5_42) r_v_tape (by first | assumption | omega) (by first | assumption | omega)) cv_X10_octet uw1641 ⟨rfl, rfl, by decide, by decide⟩ 0 rfl rfl rfl rfl rfl (Nat.le_of_ble_eq_true rfl) ⟨Nat.zero_le _, Nat.zero_le _⟩ dX10_comes_51 (fun t51 ws51 k51 => ?_)
              obtain ⟨kp0_51, kp1_51, kp2_51, rfl⟩ := k51
              refine g_if_ne X (tgt := 60) dX10_comes_54 (by decide) (by omega) (fun c54 => ?_) (fun c54 => ?_)
              · refine g_iload_n X dX10_comes_60 3 rfl ?_
                refine g_aload_n X dX10_comes_61 0 rfl ?_
                refine g_iload X dX10_comes_62 5 rfl ?_
                refine g_callVI0 X (c_X10_octet l D cI cB cJ h q (p0 := x5_42) r_v_tape (by first | assumption | omega) (by first | assumption | omega)) cv_X10_octet uw1641 ⟨rfl, rfl, by decide, by decide⟩ 0 rfl rfl rfl rfl rfl (Nat.le_of_ble_eq_true rfl) ⟨Nat.zero_le _, Nat.zero_le _⟩ dX10_comes_64 (fun t64 ws64 k64 => ?_)
                obtain ⟨kp0_64, kp1_64, kp2_64, rfl⟩ := k64
                refine g_callSIE X (c_X10_max l D cI cB cJ (p0 := x3_42) (p1 := t64) (by first | assumption | omega) (by first | assumption | omega)) cv_X10_max uw1554 ⟨rfl, rfl, by decide, by decide⟩ rfl rfl (Nat.le_of_ble_eq_true rfl) ⟨Nat.zero_le _, Nat.zero_le _⟩ dX10_comes_67 (fun t67 ws67 k67 => ?_)
                obtain ⟨kp0_67, rfl⟩ := k67
                refine g_istore_n X (lv' := [(3, vI t67), (0, .ref h), (1, vI p0), (2, vI p1), (4, vI x4_42), (5, vI x5_42)]) dX10_comes_70 (by decide) rfl ?_
                refine g_iload X dX10_comes_71 4 rfl ?_
                refine g_aload_n X dX10_comes_73 1 rfl ?_
                refine g_iload X dX10_comes_74 5 rfl ?_
                refine g_callVI0 X (c_X10_octet l D cI cB cJ h q (p0 := x5_42) r_v_tape (by first | assumption | omega) (by first | assumption | omega)) cv_X10_octet uw1641 ⟨rfl, rfl, by decide, by decide⟩ 0 rfl rfl rfl rfl rfl (Nat.le_of_ble_eq_true rfl) ⟨Nat.zero_le _, Nat.zero_le _⟩ dX10_comes_76 (fun t76 ws76 k76 => ?_)
                obtain ⟨kp0_76, kp1_76, kp2_76, rfl⟩ := k76
                refine g_callSIE X (c_X10_gcd l D cI cB cJ (p0 := x4_42) (p1 := t76) (by first | assumption | omega) (by first | assumption | omega) (by first | assumption | omega) (by first | assumption | omega)) cv_X10_gcd uw1734 ⟨rfl, rfl, by decide, by decide⟩ rfl rfl (Nat.le_of_ble_eq_true rfl) ⟨Nat.zero_le _, Nat.zero_le _⟩ dX10_comes_79 (fun t79 ws79 k79 => ?_)
                obtain ⟨kp0_79, kp1_79, kp2_79, rfl⟩ := k79
                refine g_istore X (lv' := [(4, vI t79), (3, vI t67), (0, .ref h), (1, vI p0), (2, vI p1), (5, vI x5_42)]) dX10_comes_82 (by decide) rfl ?_
                refine g_iinc X (lv' := [(5, vI (x5_42 + 1)), (4, vI t79), (3, vI t67), (0, .ref h), (1, vI p0), (2, vI p1)]) dX10_comes_84 5 rfl (by decide) rfl ?_
                refine g_goto X (tgt := 42) dX10_comes_87 (by decide) ?_
                refine g_lv [3, 4, 5, 2, 1, 0] rfl ?_
                exact ih42 t67 t79 (x5_42 + 1) (by first | assumption | omega) (by first | assumption | omega) (by first | assumption | omega) (by first | assumption | omega) (by first | rfl | omega) (by first | rfl | (rw [kp2_79, kp2_76, w42_5]; exact (cmG_s _ (by omega)).symm)) (by intro j hj; first | (exfalso; omega) | (rcases (show (j : Int) < x5_42 ∨ j = (x5_42).toNat by omega) with h | h; exact w42_6 j h; rw [h]; omega)) (by omega)
              · refine g_bipush X (z := (-3)) dX10_comes_57 (by decide) ?_
                have hF : cmF (oct v_tape) p0 p1 = -3 := cmF_bad _ (Or.inl (ctP_pos (P := fun j => decide (oct v_tape j = 0)) (j := (x5_42).toNat) (by omega) (decide_eq_true (by omega))))
                exact hQ _ _ _ _ dX10_comes_59 ⟨0, (by omega), (by first | assumption | omega), (by first | assumption | omega), (by first | assumption | omega), rfl⟩
        refine g_lv [3, 4, 5, 2, 1, 0] rfl ?_
        exact L42 _ 0 0 0 (by first | assumption | omega) (by first | assumption | omega) (by first | assumption | omega) (by first | assumption | omega) (by first | rfl | omega) (by first | rfl | (rw [kp2_79, kp2_76, w42_5]; exact (cmG_s _ (by omega)).symm)) (by intro j hj; first | (exfalso; omega) | (rcases (show (j : Int) < x5_42 ∨ j = (x5_42).toNat by omega) with h | h; exact w42_6 j h; rw [h]; omega)) (Nat.lt_succ_self _)
      · refine g_iconst X dX10_comes_27 ?_
        exact hQ _ _ _ _ dX10_comes_28 ⟨v_taped, (by omega), (by first | assumption | omega), (by first | assumption | omega), (by first | assumption | omega), rfl⟩
set_option maxHeartbeats 4000000 in
set_option maxRecDepth 100000 in
theorem c_X10_rests (l : Launch) (D : va_G) (cI cB cJ : ClassId) (h : Nat) (q : Nat → Nat) {v_stalls v_claimMany v_taped v_place0 v_length0 v_fault v_number0 v_open v_codeMany v_waiting v_saidMany v_clauses v_newMany v_newStalls v_lines v_salesNow v_outNow v_isKept v_keptStalls : Int} {v_now v_aside v_kept v_oneOf v_otherOf v_signOf v_byOf v_tape v_said v_waitsAt v_saidLetter v_saidFrom v_saidHalf v_saidTo v_codes v_clauseOf v_codeFrom v_codeHalf v_codeTo v_stack v_facts v_newOne v_newOther v_newSign v_newBy v_moreOf v_firstOf v_toldOf v_mostOf v_mostThen v_sumTo v_rowFrom v_ordersOf v_lessOf v_weightOf v_rowNow v_slowRow v_fastRow v_lineNow v_firstLine v_freeBy v_heldBy v_heightOf v_upTo v_downTo v_oftenOf v_newUpper v_newLower : Nat → Int} {p0 p1 p2 : Int} (kr_v_taped : 0 ≤ v_taped ∧ v_taped ≤ 260) (r_v_tape : RA (-128) 127 v_tape) (r_v_oftenOf : RA (-2147483648) 2147483647 v_oftenOf) (hp0 : IR p0) (hp1 : IR p1) (hp2 : IR p2) : CtI l yX10_rests cX10_rests 7 (some .int) ⟨2, 0, 0, 44⟩ D (TY cI cB cJ) (wX10 cI cB cJ h q v_stalls v_claimMany v_taped v_place0 v_length0 v_fault v_number0 v_open v_codeMany v_waiting v_saidMany v_clauses v_newMany v_newStalls v_lines v_salesNow v_outNow v_isKept v_keptStalls v_now v_aside v_kept v_oneOf v_otherOf v_signOf v_byOf v_tape v_said v_waitsAt v_saidLetter v_saidFrom v_saidHalf v_saidTo v_codes v_clauseOf v_codeFrom v_codeHalf v_codeTo v_stack v_facts v_newOne v_newOther v_newSign v_newBy v_moreOf v_firstOf v_toldOf v_mostOf v_mostThen v_sumTo v_rowFrom v_ordersOf v_lessOf v_weightOf v_rowNow v_slowRow v_fastRow v_lineNow v_firstLine v_freeBy v_heldBy v_heightOf v_upTo v_downTo v_oftenOf v_newUpper v_newLower) [.ref h, vI p0, vI p1, vI p2] (fun z ws' => ∃ n_taped : Int, ∃ n_oftenOf : Nat → Int, (0 ≤ n_taped ∧ n_taped ≤ 260) ∧ (RA (-2147483648) 2147483647 n_oftenOf) ∧ (IR z) ∧ ((2 ≤ p1 ∧ p1 ≤ 60 ∧ 0 ≤ p2 ∧ p2 ≤ 1 ∧ 2 ≤ p0 ∧ p0 ≤ 12 ∧ p0 ≤ v_taped ∧ n_taped = 0) ∨ (¬ (2 ≤ p1 ∧ p1 ≤ 60 ∧ 0 ≤ p2 ∧ p2 ≤ 1 ∧ 2 ≤ p0 ∧ p0 ≤ 12 ∧ p0 ≤ v_taped) ∧ n_taped = v_taped)) ∧ (((2 ≤ p1 ∧ p1 ≤ 60 ∧ 0 ≤ p2 ∧ p2 ≤ 1 ∧ 2 ≤ p0 ∧ p0 ≤ 12 ∧ p0 ≤ v_taped) ∧ z = rsF (oct v_tape) p0 p1 p2) ∨ (¬ (2 ≤ p1 ∧ p1 ≤ 60 ∧ 0 ≤ p2 ∧ p2 ≤ 1 ∧ 2 ≤ p0 ∧ p0 ≤ 12 ∧ p0 ≤ v_taped) ∧ z = -1)) ∧ (ws' = (wX10 cI cB cJ h q v_stalls v_claimMany n_taped v_place0 v_length0 v_fault v_number0 v_open v_codeMany v_waiting v_saidMany v_clauses v_newMany v_newStalls v_lines v_salesNow v_outNow v_isKept v_keptStalls v_now v_aside v_kept v_oneOf v_otherOf v_signOf v_byOf v_tape v_said v_waitsAt v_saidLetter v_saidFrom v_saidHalf v_saidTo v_codes v_clauseOf v_codeFrom v_codeHalf v_codeTo v_stack v_facts v_newOne v_newOther v_newSign v_newBy v_moreOf v_firstOf v_toldOf v_mostOf v_mostThen v_sumTo v_rowFrom v_ordersOf v_lessOf v_weightOf v_rowNow v_slowRow v_fastRow v_lineNow v_firstLine v_freeBy v_heldBy v_heightOf v_upTo v_downTo n_oftenOf v_newUpper v_newLower))) := by
  refine hdrI (own := RX10) rfl (by decide +kernel) (Nat.le_of_ble_eq_true rfl) ?_
  intro p e s m args below meth c Q A X hQ
  refine g_lvE (lv2 := [(0, .ref h), (1, vI p0), (2, vI p1), (3, vI p2)]) rfl ?_
  refine g_iload_n X dX10_rests_0 1 rfl ?_
  refine g_iconst X dX10_rests_1 ?_
  refine g_bipush X (z := 12) dX10_rests_2 (by decide) ?_
  refine g_callSIE X (c_X10_in l D cI cB cJ (p0 := p0) (p1 := 2) (p2 := 12) (by first | assumption | omega) (by first | assumption | omega) (by first | assumption | omega)) cv_X10_in uw1394 ⟨rfl, rfl, by decide, by decide⟩ rfl rfl (Nat.le_of_ble_eq_true rfl) ⟨Nat.zero_le _, Nat.zero_le _⟩ dX10_rests_4 (fun t4 ws4 k4 => ?_)
  obtain ⟨kb_4, ⟨kp0_4, rfl⟩⟩ := k4
  refine g_if_eq X (tgt := 37) dX10_rests_7 (by decide) (by omega) (fun c7 => ?_) (fun c7 => ?_)
  · clear kb_4
    replace kp0_4 := (kp0_4.resolve_left (fun h => absurd h.1 (by omega))).2
    refine g_iconst X dX10_rests_37 ?_
    exact hQ _ _ _ _ dX10_rests_38 ⟨v_taped, v_oftenOf, (by omega), r_v_oftenOf, (by first | assumption | omega), (by first | assumption | omega), (by first | assumption | omega), rfl⟩
  · replace kb_4 := kb_4.resolve_left (fun h => c7 h)
    replace kp0_4 := kp0_4.resolve_right (fun h => c7 h.1)
    refine g_iload_n X dX10_rests_10 2 rfl ?_
    refine g_iconst X dX10_rests_11 ?_
    refine g_bipush X (z := 60) dX10_rests_12 (by decide) ?_
    refine g_callSIE X (c_X10_in l D cI cB cJ (p0 := p1) (p1 := 2) (p2 := 60) (by first | assumption | omega) (by first | assumption | omega) (by first | assumption | omega)) cv_X10_in uw1394 ⟨rfl, rfl, by decide, by decide⟩ rfl rfl (Nat.le_of_ble_eq_true rfl) ⟨Nat.zero_le _, Nat.zero_le _⟩ dX10_rests_14 (fun t14 ws14 k14 => ?_)
    obtain ⟨kb_14, ⟨kp0_14, rfl⟩⟩ := k14
    refine g_if_eq X (tgt := 37) dX10_rests_17 (by decide) (by omega) (fun c17 => ?_) (fun c17 => ?_)
    · clear kb_14
      replace kp0_14 := (kp0_14.resolve_left (fun h => absurd h.1 (by omega))).2
      refine g_iconst X dX10_rests_37 ?_
      exact hQ _ _ _ _ dX10_rests_38 ⟨v_taped, v_oftenOf, (by omega), r_v_oftenOf, (by first | assumption | omega), (by first | assumption | omega), (by first | assumption | omega), rfl⟩
    · replace kb_14 := kb_14.resolve_left (fun h => c17 h)
      replace kp0_14 := kp0_14.resolve_right (fun h => c17 h.1)
      refine g_iload_n X dX10_rests_20 3 rfl ?_
      refine g_iconst X dX10_rests_21 ?_
      refine g_iconst X dX10_rests_22 ?_
      refine g_callSIE X (c_X10_in l D cI cB cJ (p0 := p2) (p1 := 0) (p2 := 1) (by first | assumption | omega) (by first | assumption | omega) (by first | assumption | omega)) cv_X10_in uw1394 ⟨rfl, rfl, by decide, by decide⟩ rfl rfl (Nat.le_of_ble_eq_true rfl) ⟨Nat.zero_le _, Nat.zero_le _⟩ dX10_rests_23 (fun t23 ws23 k23 => ?_)
      obtain ⟨kb_23, ⟨kp0_23, rfl⟩⟩ := k23
      refine g_if_eq X (tgt := 37) dX10_rests_26 (by decide) (by omega) (fun c26 => ?_) (fun c26 => ?_)
      · clear kb_23
        replace kp0_23 := (kp0_23.resolve_left (fun h => absurd h.1 (by omega))).2
        refine g_iconst X dX10_rests_37 ?_
        exact hQ _ _ _ _ dX10_rests_38 ⟨v_taped, v_oftenOf, (by omega), r_v_oftenOf, (by first | assumption | omega), (by first | assumption | omega), (by first | assumption | omega), rfl⟩
      · replace kb_23 := kb_23.resolve_left (fun h => c26 h)
        replace kp0_23 := kp0_23.resolve_right (fun h => c26 h.1)
        refine g_iload_n X dX10_rests_29 1 rfl ?_
        refine g_aload_n X dX10_rests_30 0 rfl ?_
        refine gM_get X 0 rfl 10 (by decide) uw1189 rfl dX10_rests_31 ?_
        refine g_icmp_le X (tgt := 39) dX10_rests_34 (by decide) (by omega) (by omega) (fun c34 => ?_) (fun c34 => ?_)
        · refine g_aload_n X dX10_rests_39 0 rfl ?_
          refine g_iconst X dX10_rests_40 ?_
          refine gM_put X 0 rfl 10 (by decide) uw1189 rfl rfl rfl (Nat.le_of_ble_eq_true rfl) dX10_rests_41 (ws2 := (wX10 cI cB cJ h q v_stalls v_claimMany 0 v_place0 v_length0 v_fault v_number0 v_open v_codeMany v_waiting v_saidMany v_clauses v_newMany v_newStalls v_lines v_salesNow v_outNow v_isKept v_keptStalls v_now v_aside v_kept v_oneOf v_otherOf v_signOf v_byOf v_tape v_said v_waitsAt v_saidLetter v_saidFrom v_saidHalf v_saidTo v_codes v_clauseOf v_codeFrom v_codeHalf v_codeTo v_stack v_facts v_newOne v_newOther v_newSign v_newBy v_moreOf v_firstOf v_toldOf v_mostOf v_mostThen v_sumTo v_rowFrom v_ordersOf v_lessOf v_weightOf v_rowNow v_slowRow v_fastRow v_lineNow v_firstLine v_freeBy v_heldBy v_heightOf v_upTo v_downTo v_oftenOf v_newUpper v_newLower)) rfl ?_
          refine g_iconst X dX10_rests_44 ?_
          refine g_istore X (lv' := [(4, vI 0), (0, .ref h), (1, vI p0), (2, vI p1), (3, vI p2)]) dX10_rests_45 (by decide) rfl ?_
          have L47 : ∀ (n : Nat) (x4_47 : Int), (0 ≤ x4_47 ∧ x4_47 ≤ p0) → (∀ j : Nat, (j : Int) < x4_47 → z_iand (v_tape j) 255 < p1) → (p0 - x4_47).toNat < n → GG p l e ⟨2, 0, 0, 44⟩ s m args below meth c 0 0 Q D A s.heap 7 (wX10 cI cB cJ h q v_stalls v_claimMany 0 v_place0 v_length0 v_fault v_number0 v_open v_codeMany v_waiting v_saidMany v_clauses v_newMany v_newStalls v_lines v_salesNow v_outNow v_isKept v_keptStalls v_now v_aside v_kept v_oneOf v_otherOf v_signOf v_byOf v_tape v_said v_waitsAt v_saidLetter v_saidFrom v_saidHalf v_saidTo v_codes v_clauseOf v_codeFrom v_codeHalf v_codeTo v_stack v_facts v_newOne v_newOther v_newSign v_newBy v_moreOf v_firstOf v_toldOf v_mostOf v_mostThen v_sumTo v_rowFrom v_ordersOf v_lessOf v_weightOf v_rowNow v_slowRow v_fastRow v_lineNow v_firstLine v_freeBy v_heldBy v_heightOf v_upTo v_downTo v_oftenOf v_newUpper v_newLower) 47 [(0, .ref h), (1, vI p0), (2, vI p1), (3, vI p2), (4, vI x4_47)] [] := by
            intro n
            induction n with
            | zero => intros; exfalso; omega
            | succ n ih47 =>
              intro x4_47 w47_0 w47_1 wm47
              refine g_iload X dX10_rests_47 4 rfl ?_
              refine g_iload_n X dX10_rests_49 1 rfl ?_
              refine g_icmp_ge X (tgt := 72) dX10_rests_50 (by decide) (by omega) (by omega) (fun c50 => ?_) (fun c50 => ?_)
              · refine g_aload_n X dX10_rests_72 0 rfl ?_
                refine g_iload_n X dX10_rests_73 1 rfl ?_
                refine g_callVI0 X (c_X10_areUnlike l D cI cB cJ h q (p0 := p0) r_v_tape (by first | assumption | omega) (by first | assumption | omega) (by first | assumption | omega)) cv_X10_areUnlike uw1737 ⟨rfl, rfl, by decide, by decide⟩ 0 rfl rfl rfl rfl rfl (Nat.le_of_ble_eq_true rfl) ⟨Nat.zero_le _, Nat.zero_le _⟩ dX10_rests_74 (fun t74 ws74 k74 => ?_)
                obtain ⟨kb_74, ⟨kp0_74, rfl⟩⟩ := k74
                refine g_if_ne X (tgt := 83) dX10_rests_77 (by decide) (by omega) (fun c77 => ?_) (fun c77 => ?_)
                · replace kb_74 := kb_74.resolve_left (fun h => c77 h)
                  replace kp0_74 := kp0_74.resolve_right (fun h => c77 h.1)
                  refine g_iconst X dX10_rests_83 ?_
                  refine g_istore X (lv' := [(4, vI 0), (0, .ref h), (1, vI p0), (2, vI p1), (3, vI p2)]) dX10_rests_84 (by decide) rfl ?_
                  have L86 : ∀ (n : Nat) (x4_86 : Int) (oftenOf_86 : Nat → Int), (RA (-2147483648) 2147483647 oftenOf_86) → (0 ≤ x4_86 ∧ x4_86 ≤ p1) → (∀ j : Nat, (j : Int) < x4_86 → oftenOf_86 j = 0) → (p1 - x4_86).toNat < n → GG p l e ⟨2, 0, 0, 44⟩ s m args below meth c 0 0 Q D A s.heap 7 (wX10 cI cB cJ h q v_stalls v_claimMany 0 v_place0 v_length0 v_fault v_number0 v_open v_codeMany v_waiting v_saidMany v_clauses v_newMany v_newStalls v_lines v_salesNow v_outNow v_isKept v_keptStalls v_now v_aside v_kept v_oneOf v_otherOf v_signOf v_byOf v_tape v_said v_waitsAt v_saidLetter v_saidFrom v_saidHalf v_saidTo v_codes v_clauseOf v_codeFrom v_codeHalf v_codeTo v_stack v_facts v_newOne v_newOther v_newSign v_newBy v_moreOf v_firstOf v_toldOf v_mostOf v_mostThen v_sumTo v_rowFrom v_ordersOf v_lessOf v_weightOf v_rowNow v_slowRow v_fastRow v_lineNow v_firstLine v_freeBy v_heldBy v_heightOf v_upTo v_downTo oftenOf_86 v_newUpper v_newLower) 86 [(0, .ref h), (1, vI p0), (2, vI p1), (3, vI p2), (4, vI x4_86)] [] := by
                    intro n
                    induction n with
                    | zero => intros; exfalso; omega
                    | succ n ih86 =>
                      intro x4_86 oftenOf_86 r_oftenOf_86 w86_0 w86_1 wm86
                      refine g_iload X dX10_rests_86 4 rfl ?_
                      refine g_iload_n X dX10_rests_88 2 rfl ?_
                      refine g_icmp_ge X (tgt := 106) dX10_rests_89 (by decide) (by omega) (by omega) (fun c89 => ?_) (fun c89 => ?_)
                      · refine g_iconst X dX10_rests_106 ?_
                        refine g_istore X (lv' := [(4, vI 0), (0, .ref h), (1, vI p0), (2, vI p1), (3, vI p2)]) dX10_rests_107 (by decide) rfl ?_
                        have hpp : 0 ≤ p0 * p0 ∧ p0 * p0 ≤ 12 * 12 := ⟨Int.mul_nonneg (by omega) (by omega), Int.mul_le_mul (by omega) (by omega) (by omega) (by omega)⟩
                        have L109 : ∀ (n : Nat) (x4_109 : Int) (oftenOf_109 : Nat → Int), (RA (-2147483648) 2147483647 oftenOf_109) → (0 ≤ x4_109 ∧ x4_109 ≤ p0 * p0) → (∀ v : Nat, (v : Int) < p1 → oftenOf_109 v = rsC (oct v_tape) p1 p0.toNat (x4_109).toNat v) → (p0 * p0 - x4_109).toNat < n → GG p l e ⟨2, 0, 0, 44⟩ s m args below meth c 0 0 Q D A s.heap 7 (wX10 cI cB cJ h q v_stalls v_claimMany 0 v_place0 v_length0 v_fault v_number0 v_open v_codeMany v_waiting v_saidMany v_clauses v_newMany v_newStalls v_lines v_salesNow v_outNow v_isKept v_keptStalls v_now v_aside v_kept v_oneOf v_otherOf v_signOf v_byOf v_tape v_said v_waitsAt v_saidLetter v_saidFrom v_saidHalf v_saidTo v_codes v_clauseOf v_codeFrom v_codeHalf v_codeTo v_stack v_facts v_newOne v_newOther v_newSign v_newBy v_moreOf v_firstOf v_toldOf v_mostOf v_mostThen v_sumTo v_rowFrom v_ordersOf v_lessOf v_weightOf v_rowNow v_slowRow v_fastRow v_lineNow v_firstLine v_freeBy v_heldBy v_heightOf v_upTo v_downTo oftenOf_109 v_newUpper v_newLower) 109 [(0, .ref h), (1, vI p0), (2, vI p1), (3, vI p2), (4, vI x4_109)] [] := by
                          intro n
                          induction n with
                          | zero => intros; exfalso; omega
                          | succ n ih109 =>
                            intro x4_109 oftenOf_109 r_oftenOf_109 w109_0 w109_1 wm109
                            refine g_iload X dX10_rests_109 4 rfl ?_
                            refine g_iload_n X dX10_rests_111 1 rfl ?_
                            refine g_iload_n X dX10_rests_112 1 rfl ?_
                            refine g_imul X dX10_rests_113 ?_
                            refine g_nm (fun t113 e113 => ?_)
                            refine g_icmp_ge X (tgt := 162) dX10_rests_114 (by decide) (by omega) (by omega) (fun c114 => ?_) (fun c114 => ?_)
                            · have hx : x4_109 = p0 * p0 := by omega
                              have hO : ∀ v : Nat, (v : Int) < p1 → oftenOf_109 v = rsO (oct v_tape) p1 p0.toNat p0.toNat v := fun v hv => by rw [← rsC_eZ (oct v_tape) p1 (n := p0) (by omega), ← hx]; exact w109_1 v hv
                              have hR : ∀ v : Nat, (v : Int) < p1 → 0 ≤ oftenOf_109 v ∧ oftenOf_109 v ≤ 1000 := fun v hv => by rw [hO v hv]; have h3 := rsO_r (oct v_tape) p1 p0.toNat p0.toNat (by omega) v; omega
                              refine g_ldcw X (z := 1000000) dX10_rests_162 uw1546 (by decide) ?_
                              refine g_istore X (lv' := [(4, vI 1000000), (0, .ref h), (1, vI p0), (2, vI p1), (3, vI p2)]) dX10_rests_165 (by decide) rfl ?_
                              refine g_iconst X dX10_rests_167 ?_
                              refine g_istore X (lv' := [(5, vI 0), (4, vI 1000000), (0, .ref h), (1, vI p0), (2, vI p1), (3, vI p2)]) dX10_rests_168 (by decide) rfl ?_
                              refine g_iconst X dX10_rests_170 ?_
                              refine g_istore X (lv' := [(6, vI 1), (5, vI 0), (4, vI 1000000), (0, .ref h), (1, vI p0), (2, vI p1), (3, vI p2)]) dX10_rests_171 (by decide) rfl ?_
                              have h5 : lsM oftenOf_109 ((1 : Int) - 1).toNat = 1000000 := rfl
                              have h6 : msM oftenOf_109 ((1 : Int) - 1).toNat = 0 := rfl
                              have L173 : ∀ (n : Nat) (x4_173 : Int) (x5_173 : Int) (x6_173 : Int), (1 ≤ x6_173 ∧ x6_173 ≤ p1) → (0 ≤ x4_173 ∧ x4_173 ≤ 1000000) → (0 ≤ x5_173 ∧ x5_173 ≤ 1000000) → (x4_173 = lsM oftenOf_109 (x6_173 - 1).toNat) → (x5_173 = msM oftenOf_109 (x6_173 - 1).toNat) → (p1 - x6_173).toNat < n → GG p l e ⟨2, 0, 0, 44⟩ s m args below meth c 0 0 Q D A s.heap 7 (wX10 cI cB cJ h q v_stalls v_claimMany 0 v_place0 v_length0 v_fault v_number0 v_open v_codeMany v_waiting v_saidMany v_clauses v_newMany v_newStalls v_lines v_salesNow v_outNow v_isKept v_keptStalls v_now v_aside v_kept v_oneOf v_otherOf v_signOf v_byOf v_tape v_said v_waitsAt v_saidLetter v_saidFrom v_saidHalf v_saidTo v_codes v_clauseOf v_codeFrom v_codeHalf v_codeTo v_stack v_facts v_newOne v_newOther v_newSign v_newBy v_moreOf v_firstOf v_toldOf v_mostOf v_mostThen v_sumTo v_rowFrom v_ordersOf v_lessOf v_weightOf v_rowNow v_slowRow v_fastRow v_lineNow v_firstLine v_freeBy v_heldBy v_heightOf v_upTo v_downTo oftenOf_109 v_newUpper v_newLower) 173 [(0, .ref h), (2, vI p1), (3, vI p2), (4, vI x4_173), (5, vI x5_173), (6, vI x6_173)] [] := by
                                intro n
                                induction n with
                                | zero => intros; exfalso; omega
                                | succ n ih173 =>
                                  intro x4_173 x5_173 x6_173 w173_0 w173_1 w173_2 w173_3 w173_4 wm173
                                  have hL := lsM_s oftenOf_109 (x := x6_173) (by omega)
                                  have hM := msM_s oftenOf_109 (x := x6_173) (by omega)
                                  have h7 : lsM oftenOf_109 (x6_173 + 1 - 1).toNat = lsM oftenOf_109 (x6_173).toNat ∧ msM oftenOf_109 (x6_173 + 1 - 1).toNat = msM oftenOf_109 (x6_173).toNat := by rw [show x6_173 + 1 - 1 = x6_173 by omega]; exact ⟨rfl, rfl⟩
                                  refine g_iload X dX10_rests_173 5 rfl ?_
                                  refine g_iload_n X dX10_rests_175 1 rfl ?_
                                  refine g_icmp_ge X (tgt := 213) dX10_rests_176 (by decide) (by omega) (by omega) (fun c176 => ?_) (fun c176 => ?_)
                                  · refine g_iload_n X dX10_rests_213 2 rfl ?_
                                    refine g_if_ne X (tgt := 222) dX10_rests_214 (by decide) (by omega) (fun c214 => ?_) (fun c214 => ?_)
                                    · refine g_iload X dX10_rests_222 4 rfl ?_
                                      have hx6 : x6_173 = p1 := by omega
                                      rw [hx6] at w173_3 w173_4
                                      have hB : ¬ (0 < ctP (fun j => decide (p1 ≤ oct v_tape j)) p0.toNat ∨ 0 < twO (oct v_tape) 0 p0.toNat) := by rw [ctP_z (P := fun j => decide (p1 ≤ oct v_tape j)) (fun j hj => decide_eq_false (by have h9 : oct v_tape j < p1 := w47_1 j (by omega); omega))]; omega
                                      have hF := rsF_e p2 hB
                                      have hl : lsM oftenOf_109 (p1 - 1).toNat = lsM (rsO (oct v_tape) p1 p0.toNat p0.toNat) (p1 - 1).toNat := lsM_c _ (fun j h1 h2 => hO j (by omega))
                                      have hm : msM oftenOf_109 (p1 - 1).toNat = msM (rsO (oct v_tape) p1 p0.toNat p0.toNat) (p1 - 1).toNat := msM_c _ (fun j h1 h2 => hO j (by omega))
                                      exact hQ _ _ _ _ dX10_rests_224 ⟨0, oftenOf_109, (by omega), r_oftenOf_109, (by first | assumption | omega), (by first | assumption | omega), (by first | assumption | omega), rfl⟩
                                    · refine g_iload X dX10_rests_217 3 rfl ?_
                                      refine g_goto X (tgt := 224) dX10_rests_219 (by decide) ?_
                                      have hx6 : x6_173 = p1 := by omega
                                      rw [hx6] at w173_3 w173_4
                                      have hB : ¬ (0 < ctP (fun j => decide (p1 ≤ oct v_tape j)) p0.toNat ∨ 0 < twO (oct v_tape) 0 p0.toNat) := by rw [ctP_z (P := fun j => decide (p1 ≤ oct v_tape j)) (fun j hj => decide_eq_false (by have h9 : oct v_tape j < p1 := w47_1 j (by omega); omega))]; omega
                                      have hF := rsF_e p2 hB
                                      have hl : lsM oftenOf_109 (p1 - 1).toNat = lsM (rsO (oct v_tape) p1 p0.toNat p0.toNat) (p1 - 1).toNat := lsM_c _ (fun j h1 h2 => hO j (by omega))
                                      have hm : msM oftenOf_109 (p1 - 1).toNat = msM (rsO (oct v_tape) p1 p0.toNat p0.toNat) (p1 - 1).toNat := msM_c _ (fun j h1 h2 => hO j (by omega))
                                      exact hQ _ _ _ _ dX10_rests_224 ⟨0, oftenOf_109, (by omega), r_oftenOf_109, (by first | assumption | omega), (by first | assumption | omega), (by first | assumption | omega), rfl⟩
                                  · refine g_iload X dX10_rests_179 3 rfl ?_
                                    refine g_aload_n X dX10_rests_181 0 rfl ?_
                                    refine gM_get X 0 rfl 58 (by decide) uw1237 rfl dX10_rests_182 ?_
                                    refine g_iload X dX10_rests_185 5 rfl ?_
                                    refine g_iald X 46 0 rfl rfl (by omega) (by decide) dX10_rests_187 (fun t187 e187 => ?_)
                                    have r187 := r_oftenOf_109 (x6_173 : Int).toNat; rw [← e187] at r187
                                    have b187 := hR (x6_173).toNat (by omega)
                                    refine g_callSIE X (c_X10_min l D cI cB cJ (p0 := x4_173) (p1 := t187) (by first | assumption | omega) (by first | assumption | omega)) cv_X10_min uw1551 ⟨rfl, rfl, by decide, by decide⟩ rfl rfl (Nat.le_of_ble_eq_true rfl) ⟨Nat.zero_le _, Nat.zero_le _⟩ dX10_rests_188 (fun t188 ws188 k188 => ?_)
                                    obtain ⟨kp0_188, rfl⟩ := k188
                                    refine g_istore X (lv' := [(4, vI t188), (0, .ref h), (2, vI p1), (3, vI p2), (5, vI x5_173), (6, vI x6_173)]) dX10_rests_191 (by decide) rfl ?_
                                    refine g_iload X dX10_rests_193 4 rfl ?_
                                    refine g_aload_n X dX10_rests_195 1 rfl ?_
                                    refine gM_get X 0 rfl 58 (by decide) uw1237 rfl dX10_rests_196 ?_
                                    refine g_iload X dX10_rests_199 5 rfl ?_
                                    refine g_iald X 46 0 rfl rfl (by omega) (by decide) dX10_rests_201 (fun t201 e201 => ?_)
                                    have r201 := r_oftenOf_109 (x6_173 : Int).toNat; rw [← e201] at r201
                                    have b201 := hR (x6_173).toNat (by omega)
                                    refine g_callSIE X (c_X10_max l D cI cB cJ (p0 := x5_173) (p1 := t201) (by first | assumption | omega) (by first | assumption | omega)) cv_X10_max uw1554 ⟨rfl, rfl, by decide, by decide⟩ rfl rfl (Nat.le_of_ble_eq_true rfl) ⟨Nat.zero_le _, Nat.zero_le _⟩ dX10_rests_202 (fun t202 ws202 k202 => ?_)
                                    obtain ⟨kp0_202, rfl⟩ := k202
                                    refine g_istore X (lv' := [(5, vI t202), (4, vI t188), (0, .ref h), (2, vI p1), (3, vI p2), (6, vI x6_173)]) dX10_rests_205 (by decide) rfl ?_
                                    refine g_iinc X (lv' := [(6, vI (x6_173 + 1)), (5, vI t202), (4, vI t188), (0, .ref h), (2, vI p1), (3, vI p2)]) dX10_rests_207 5 rfl (by decide) rfl ?_
                                    refine g_goto X (tgt := 173) dX10_rests_210 (by decide) ?_
                                    refine g_lv [3, 4, 5, 2, 1, 0] rfl ?_
                                    exact ih173 t188 t202 (x6_173 + 1) (by first | assumption | omega) (by first | assumption | omega) (by first | assumption | omega) (by first | assumption | omega) (by first | assumption | omega) (by omega)
                              refine g_lv [3, 5, 6, 2, 1, 0] rfl ?_
                              exact L173 _ 1000000 0 1 (by first | assumption | omega) (by first | assumption | omega) (by first | assumption | omega) (by first | assumption | omega) (by first | assumption | omega) (Nat.lt_succ_self _)
                            · refine g_aload_n X dX10_rests_117 0 rfl ?_
                              refine g_iload X dX10_rests_118 4 rfl ?_
                              refine g_iload_n X dX10_rests_120 1 rfl ?_
                              refine g_idiv X dX10_rests_121 (by omega) (by omega) ?_
                              refine g_nm (fun t121 e121 => ?_)
                              have r121 := z_div_r x4_109 p0 (by omega) (by omega); rw [← e121] at r121
                              refine g_callVI0 X (c_X10_octet l D cI cB cJ h q (p0 := t121) r_v_tape (by first | assumption | omega) (by first | assumption | omega)) cv_X10_octet uw1641 ⟨rfl, rfl, by decide, by decide⟩ 0 rfl rfl rfl rfl rfl (Nat.le_of_ble_eq_true rfl) ⟨Nat.zero_le _, Nat.zero_le _⟩ dX10_rests_122 (fun t122 ws122 k122 => ?_)
                              obtain ⟨kp0_122, kp1_122, kp2_122, rfl⟩ := k122
                              refine g_aload_n X dX10_rests_125 0 rfl ?_
                              refine g_iload X dX10_rests_126 4 rfl ?_
                              refine g_iload_n X dX10_rests_128 1 rfl ?_
                              refine g_irem X dX10_rests_129 (by omega) (by omega) ?_
                              refine g_nm (fun t129 e129 => ?_)
                              have r129 : 0 ≤ t129 ∧ ((0 : Int) < p0 → t129 < p0) := by rw [e129]; exact ⟨Int.emod_nonneg _ (by omega), fun h => Int.emod_lt_of_pos _ h⟩
                              refine g_callVI0 X (c_X10_octet l D cI cB cJ h q (p0 := t129) r_v_tape (by first | assumption | omega) (by first | assumption | omega)) cv_X10_octet uw1641 ⟨rfl, rfl, by decide, by decide⟩ 0 rfl rfl rfl rfl rfl (Nat.le_of_ble_eq_true rfl) ⟨Nat.zero_le _, Nat.zero_le _⟩ dX10_rests_130 (fun t130 ws130 k130 => ?_)
                              obtain ⟨kp0_130, kp1_130, kp2_130, rfl⟩ := k130
                              refine g_isub X dX10_rests_133 ?_
                              refine g_iload_n X dX10_rests_134 2 rfl ?_
                              refine g_iadd X dX10_rests_135 ?_
                              refine g_iload_n X dX10_rests_136 2 rfl ?_
                              have hb := w47_1 (t129).toNat (by omega)
                              refine g_irem X dX10_rests_137 (by omega) (by omega) ?_
                              refine g_nm (fun t137 e137 => ?_)
                              have r137 : 0 ≤ t137 ∧ ((0 : Int) < p1 → t137 < p1) := by rw [e137]; exact ⟨Int.emod_nonneg _ (by omega), fun h => Int.emod_lt_of_pos _ h⟩
                              refine g_istore X (lv' := [(5, vI t137), (0, .ref h), (1, vI p0), (2, vI p1), (3, vI p2), (4, vI x4_109)]) dX10_rests_138 (by decide) rfl ?_
                              refine g_aload_n X dX10_rests_140 1 rfl ?_
                              refine gM_get X 0 rfl 58 (by decide) uw1237 rfl dX10_rests_141 ?_
                              refine g_iload X dX10_rests_144 0 rfl ?_
                              refine g_aload_n X dX10_rests_146 1 rfl ?_
                              refine gM_get X 0 rfl 58 (by decide) uw1237 rfl dX10_rests_147 ?_
                              refine g_iload X dX10_rests_150 0 rfl ?_
                              refine g_iald X 46 0 rfl rfl (by omega) (by decide) dX10_rests_152 (fun t152 e152 => ?_)
                              have r152 := r_oftenOf_109 (t137 : Int).toNat; rw [← e152] at r152
                              have b152 := w109_1 (t137).toNat (by omega)
                              have g152 := rsC_rZ (oct v_tape) p1 (n := p0) (x := x4_109) (by omega) (by omega) (t137).toNat
                              refine g_iconst X dX10_rests_153 ?_
                              refine g_iadd X dX10_rests_154 ?_
                              refine g_iast X 46 0 rfl rfl (by omega) (by decide) dX10_rests_155 (fun oftenOf_155 e155 => ?_)
                              have r_oftenOf_155 : RA (-2147483648) 2147483647 oftenOf_155 := by rw [e155]; exact RA_up r_oftenOf_109 (by omega)
                              refine g_ws (ws2 := (wX10 cI cB cJ h q v_stalls v_claimMany 0 v_place0 v_length0 v_fault v_number0 v_open v_codeMany v_waiting v_saidMany v_clauses v_newMany v_newStalls v_lines v_salesNow v_outNow v_isKept v_keptStalls v_now v_aside v_kept v_oneOf v_otherOf v_signOf v_byOf v_tape v_said v_waitsAt v_saidLetter v_saidFrom v_saidHalf v_saidTo v_codes v_clauseOf v_codeFrom v_codeHalf v_codeTo v_stack v_facts v_newOne v_newOther v_newSign v_newBy v_moreOf v_firstOf v_toldOf v_mostOf v_mostThen v_sumTo v_rowFrom v_ordersOf v_lessOf v_weightOf v_rowNow v_slowRow v_fastRow v_lineNow v_firstLine v_freeBy v_heldBy v_heightOf v_upTo v_downTo oftenOf_155 v_newUpper v_newLower)) rfl ?_
                              refine g_iinc X (lv' := [(4, vI (x4_109 + 1)), (5, vI t137), (0, .ref h), (1, vI p0), (2, vI p1), (3, vI p2)]) dX10_rests_156 5 rfl (by decide) rfl ?_
                              refine g_goto X (tgt := 109) dX10_rests_159 (by decide) ?_
                              refine g_lv [2, 3, 4, 5, 0] rfl ?_
                              exact ih109 (x4_109 + 1) oftenOf_155 r_oftenOf_155 (by first | assumption | omega) (by intro v hv; first | (rw [show (0 : Int).toNat = 0 from rfl, rsC_z]; exact w86_1 v (by omega)) | (rw [e155, rsC_sZ _ _ (by omega) (by omega)]; exact rs_st0 w109_1 (rsX_m (by omega) (by rw [e137, kp2_122, kp2_130, e121, e129])) (by omega) (by omega) v hv)) (by omega)
                        refine g_lv [1, 2, 3, 4, 0] rfl ?_
                        exact L109 _ 0 oftenOf_86 r_oftenOf_86 (by first | assumption | omega) (by intro v hv; first | (rw [show (0 : Int).toNat = 0 from rfl, rsC_z]; exact w86_1 v (by omega)) | (rw [e155, rsC_sZ _ _ (by omega) (by omega)]; exact rs_st0 w109_1 (rsX_m (by omega) (by rw [e137, kp2_122, kp2_130, e121, e129])) (by omega) (by omega) v hv)) (Nat.lt_succ_self _)
                      · refine g_aload_n X dX10_rests_92 0 rfl ?_
                        refine gM_get X 0 rfl 58 (by decide) uw1237 rfl dX10_rests_93 ?_
                        refine g_iload X dX10_rests_96 4 rfl ?_
                        refine g_iconst X dX10_rests_98 ?_
                        refine g_iast X 46 0 rfl rfl (by omega) (by decide) dX10_rests_99 (fun oftenOf_99 e99 => ?_)
                        have r_oftenOf_99 : RA (-2147483648) 2147483647 oftenOf_99 := by rw [e99]; exact RA_up r_oftenOf_86 (by omega)
                        refine g_ws (ws2 := (wX10 cI cB cJ h q v_stalls v_claimMany 0 v_place0 v_length0 v_fault v_number0 v_open v_codeMany v_waiting v_saidMany v_clauses v_newMany v_newStalls v_lines v_salesNow v_outNow v_isKept v_keptStalls v_now v_aside v_kept v_oneOf v_otherOf v_signOf v_byOf v_tape v_said v_waitsAt v_saidLetter v_saidFrom v_saidHalf v_saidTo v_codes v_clauseOf v_codeFrom v_codeHalf v_codeTo v_stack v_facts v_newOne v_newOther v_newSign v_newBy v_moreOf v_firstOf v_toldOf v_mostOf v_mostThen v_sumTo v_rowFrom v_ordersOf v_lessOf v_weightOf v_rowNow v_slowRow v_fastRow v_lineNow v_firstLine v_freeBy v_heldBy v_heightOf v_upTo v_downTo oftenOf_99 v_newUpper v_newLower)) rfl ?_
                        refine g_iinc X (lv' := [(4, vI (x4_86 + 1)), (0, .ref h), (1, vI p0), (2, vI p1), (3, vI p2)]) dX10_rests_100 4 rfl (by decide) rfl ?_
                        refine g_goto X (tgt := 86) dX10_rests_103 (by decide) ?_
                        refine g_lv [1, 2, 3, 4, 0] rfl ?_
                        exact ih86 (x4_86 + 1) oftenOf_99 r_oftenOf_99 (by first | assumption | omega) (by intro j hj; first | (exfalso; omega) | (rw [e99]; exact if hq : j = (x4_86).toNat then by (rw [hq, updZ_s]) else by (rw [updZ_n _ _ hq]; exact w86_1 j (by omega)))) (by omega)
                  refine g_lv [1, 2, 3, 4, 0] rfl ?_
                  exact L86 _ 0 v_oftenOf r_v_oftenOf (by first | assumption | omega) (by intro j hj; first | (exfalso; omega) | (rw [e99]; exact if hq : j = (x4_86).toNat then by (rw [hq, updZ_s]) else by (rw [updZ_n _ _ hq]; exact w86_1 j (by omega)))) (Nat.lt_succ_self _)
                · clear kb_74
                  replace kp0_74 := (kp0_74.resolve_left (fun h => absurd h.1 (by omega))).2
                  refine g_bipush X (z := (-3)) dX10_rests_80 (by decide) ?_
                  have hF : rsF (oct v_tape) p0 p1 p2 = -3 := rsF_bad _ (Or.inr (by omega))
                  exact hQ _ _ _ _ dX10_rests_82 ⟨0, v_oftenOf, (by omega), r_v_oftenOf, (by first | assumption | omega), (by first | assumption | omega), (by first | assumption | omega), rfl⟩
              · refine g_aload_n X dX10_rests_53 0 rfl ?_
                refine g_iload X dX10_rests_54 4 rfl ?_
                refine g_callVI0 X (c_X10_octet l D cI cB cJ h q (p0 := x4_47) r_v_tape (by first | assumption | omega) (by first | assumption | omega)) cv_X10_octet uw1641 ⟨rfl, rfl, by decide, by decide⟩ 0 rfl rfl rfl rfl rfl (Nat.le_of_ble_eq_true rfl) ⟨Nat.zero_le _, Nat.zero_le _⟩ dX10_rests_56 (fun t56 ws56 k56 => ?_)
                obtain ⟨kp0_56, kp1_56, kp2_56, rfl⟩ := k56
                refine g_iload_n X dX10_rests_59 2 rfl ?_
                refine g_icmp_lt X (tgt := 66) dX10_rests_60 (by decide) (by omega) (by omega) (fun c60 => ?_) (fun c60 => ?_)
                · refine g_iinc X (lv' := [(4, vI (x4_47 + 1)), (0, .ref h), (1, vI p0), (2, vI p1), (3, vI p2)]) dX10_rests_66 4 rfl (by decide) rfl ?_
                  refine g_goto X (tgt := 47) dX10_rests_69 (by decide) ?_
                  refine g_lv [1, 2, 3, 4, 0] rfl ?_
                  exact ih47 (x4_47 + 1) (by first | assumption | omega) (by intro j hj; first | (exfalso; omega) | (rcases (show (j : Int) < x4_47 ∨ j = x4_47.toNat by omega) with h | h; exact w47_1 j h; rw [h]; omega)) (by omega)
                · refine g_bipush X (z := (-3)) dX10_rests_63 (by decide) ?_
                  have hF : rsF (oct v_tape) p0 p1 p2 = -3 := rsF_bad _ (Or.inl (ctP_pos (P := fun j => decide (p1 ≤ oct v_tape j)) (j := (x4_47).toNat) (by omega) (decide_eq_true (by omega))))
                  exact hQ _ _ _ _ dX10_rests_65 ⟨0, v_oftenOf, (by omega), r_v_oftenOf, (by first | assumption | omega), (by first | assumption | omega), (by first | assumption | omega), rfl⟩
          refine g_lv [1, 2, 3, 4, 0] rfl ?_
          exact L47 _ 0 (by first | assumption | omega) (by intro j hj; first | (exfalso; omega) | (rcases (show (j : Int) < x4_47 ∨ j = x4_47.toNat by omega) with h | h; exact w47_1 j h; rw [h]; omega)) (Nat.lt_succ_self _)
        · refine g_iconst X dX10_rests_37 ?_
          exact hQ _ _ _ _ dX10_rests_38 ⟨v_taped, v_oftenOf, (by omega), r_v_oftenOf, (by first | assumption | omega), (by first | assumption | omega), (by first | assumption | omega), rfl⟩
set_option maxHeartbeats 4000000 in
set_option maxRecDepth 100000 in
theorem c_X10_paired (l : Launch) (D : va_G) (cI cB cJ : ClassId) (h : Nat) (q : Nat → Nat) {v_stalls v_claimMany v_taped v_place0 v_length0 v_fault v_number0 v_open v_codeMany v_waiting v_saidMany v_clauses v_newMany v_newStalls v_lines v_salesNow v_outNow v_isKept v_keptStalls : Int} {v_now v_aside v_kept v_oneOf v_otherOf v_signOf v_byOf v_tape v_said v_waitsAt v_saidLetter v_saidFrom v_saidHalf v_saidTo v_codes v_clauseOf v_codeFrom v_codeHalf v_codeTo v_stack v_facts v_newOne v_newOther v_newSign v_newBy v_moreOf v_firstOf v_toldOf v_mostOf v_mostThen v_sumTo v_rowFrom v_ordersOf v_lessOf v_weightOf v_rowNow v_slowRow v_fastRow v_lineNow v_firstLine v_freeBy v_heldBy v_heightOf v_upTo v_downTo v_oftenOf v_newUpper v_newLower : Nat → Int} {p0 p1 : Int} (kr_v_taped : 0 ≤ v_taped ∧ v_taped ≤ 260) (r_v_tape : RA (-128) 127 v_tape) (r_v_heightOf : RA 0 255 v_heightOf) (hp0 : IR p0) (hp1 : IR p1) : CtI l yX10_paired cX10_paired 6 (some .int) ⟨2, 0, 0, 44⟩ D (TY cI cB cJ) (wX10 cI cB cJ h q v_stalls v_claimMany v_taped v_place0 v_length0 v_fault v_number0 v_open v_codeMany v_waiting v_saidMany v_clauses v_newMany v_newStalls v_lines v_salesNow v_outNow v_isKept v_keptStalls v_now v_aside v_kept v_oneOf v_otherOf v_signOf v_byOf v_tape v_said v_waitsAt v_saidLetter v_saidFrom v_saidHalf v_saidTo v_codes v_clauseOf v_codeFrom v_codeHalf v_codeTo v_stack v_facts v_newOne v_newOther v_newSign v_newBy v_moreOf v_firstOf v_toldOf v_mostOf v_mostThen v_sumTo v_rowFrom v_ordersOf v_lessOf v_weightOf v_rowNow v_slowRow v_fastRow v_lineNow v_firstLine v_freeBy v_heldBy v_heightOf v_upTo v_downTo v_oftenOf v_newUpper v_newLower) [.ref h, vI p0, vI p1] (fun z ws' => ∃ n_taped : Int, ∃ n_heightOf : Nat → Int, (0 ≤ n_taped ∧ n_taped ≤ 260) ∧ (RA 0 255 n_heightOf) ∧ (IR z) ∧ ((0 ≤ p1 ∧ p1 ≤ 1 ∧ 2 ≤ p0 ∧ p0 ≤ 16 ∧ p0 % 2 = 0 ∧ p0 ≤ v_taped ∧ n_taped = 0) ∨ (¬ (0 ≤ p1 ∧ p1 ≤ 1 ∧ 2 ≤ p0 ∧ p0 ≤ 16 ∧ p0 % 2 = 0 ∧ p0 ≤ v_taped) ∧ n_taped = v_taped)) ∧ (((0 ≤ p1 ∧ p1 ≤ 1 ∧ 2 ≤ p0 ∧ p0 ≤ 16 ∧ p0 % 2 = 0 ∧ p0 ≤ v_taped) ∧ z = prF (oct v_tape) p0 p1) ∨ (¬ (0 ≤ p1 ∧ p1 ≤ 1 ∧ 2 ≤ p0 ∧ p0 ≤ 16 ∧ p0 % 2 = 0 ∧ p0 ≤ v_taped) ∧ z = -1)) ∧ (ws' = (wX10 cI cB cJ h q v_stalls v_claimMany n_taped v_place0 v_length0 v_fault v_number0 v_open v_codeMany v_waiting v_saidMany v_clauses v_newMany v_newStalls v_lines v_salesNow v_outNow v_isKept v_keptStalls v_now v_aside v_kept v_oneOf v_otherOf v_signOf v_byOf v_tape v_said v_waitsAt v_saidLetter v_saidFrom v_saidHalf v_saidTo v_codes v_clauseOf v_codeFrom v_codeHalf v_codeTo v_stack v_facts v_newOne v_newOther v_newSign v_newBy v_moreOf v_firstOf v_toldOf v_mostOf v_mostThen v_sumTo v_rowFrom v_ordersOf v_lessOf v_weightOf v_rowNow v_slowRow v_fastRow v_lineNow v_firstLine v_freeBy v_heldBy n_heightOf v_upTo v_downTo v_oftenOf v_newUpper v_newLower))) := by
  refine hdrI (own := RX10) rfl (by decide +kernel) (Nat.le_of_ble_eq_true rfl) ?_
  intro p e s m args below meth c Q A X hQ
  refine g_lvE (lv2 := [(0, .ref h), (1, vI p0), (2, vI p1)]) rfl ?_
  refine g_iload_n X dX10_paired_0 1 rfl ?_
  refine g_iconst X dX10_paired_1 ?_
  refine g_bipush X (z := 16) dX10_paired_2 (by decide) ?_
  refine g_callSIE X (c_X10_in l D cI cB cJ (p0 := p0) (p1 := 2) (p2 := 16) (by first | assumption | omega) (by first | assumption | omega) (by first | assumption | omega)) cv_X10_in uw1394 ⟨rfl, rfl, by decide, by decide⟩ rfl rfl (Nat.le_of_ble_eq_true rfl) ⟨Nat.zero_le _, Nat.zero_le _⟩ dX10_paired_4 (fun t4 ws4 k4 => ?_)
  obtain ⟨kb_4, ⟨kp0_4, rfl⟩⟩ := k4
  refine g_if_eq X (tgt := 34) dX10_paired_7 (by decide) (by omega) (fun c7 => ?_) (fun c7 => ?_)
  · clear kb_4
    replace kp0_4 := (kp0_4.resolve_left (fun h => absurd h.1 (by omega))).2
    refine g_iconst X dX10_paired_34 ?_
    exact hQ _ _ _ _ dX10_paired_35 ⟨v_taped, v_heightOf, (by omega), r_v_heightOf, (by first | assumption | omega), (by first | assumption | omega), (by first | assumption | omega), rfl⟩
  · replace kb_4 := kb_4.resolve_left (fun h => c7 h)
    replace kp0_4 := kp0_4.resolve_right (fun h => c7 h.1)
    refine g_iload_n X dX10_paired_10 1 rfl ?_
    refine g_iconst X dX10_paired_11 ?_
    refine g_irem X dX10_paired_12 (by omega) (by omega) ?_
    refine g_nm (fun t12 e12 => ?_)
    have r12 : 0 ≤ t12 ∧ ((0 : Int) < 2 → t12 < 2) := by rw [e12]; exact ⟨Int.emod_nonneg _ (by omega), fun h => Int.emod_lt_of_pos _ h⟩
    refine g_iconst X dX10_paired_13 ?_
    refine g_icmp_eq X (tgt := 34) dX10_paired_14 (by decide) (by omega) (by omega) (fun c14 => ?_) (fun c14 => ?_)
    · refine g_iconst X dX10_paired_34 ?_
      exact hQ _ _ _ _ dX10_paired_35 ⟨v_taped, v_heightOf, (by omega), r_v_heightOf, (by first | assumption | omega), (by first | assumption | omega), (by first | assumption | omega), rfl⟩
    · refine g_iload_n X dX10_paired_17 2 rfl ?_
      refine g_iconst X dX10_paired_18 ?_
      refine g_iconst X dX10_paired_19 ?_
      refine g_callSIE X (c_X10_in l D cI cB cJ (p0 := p1) (p1 := 0) (p2 := 1) (by first | assumption | omega) (by first | assumption | omega) (by first | assumption | omega)) cv_X10_in uw1394 ⟨rfl, rfl, by decide, by decide⟩ rfl rfl (Nat.le_of_ble_eq_true rfl) ⟨Nat.zero_le _, Nat.zero_le _⟩ dX10_paired_20 (fun t20 ws20 k20 => ?_)
      obtain ⟨kb_20, ⟨kp0_20, rfl⟩⟩ := k20
      refine g_if_eq X (tgt := 34) dX10_paired_23 (by decide) (by omega) (fun c23 => ?_) (fun c23 => ?_)
      · clear kb_20
        replace kp0_20 := (kp0_20.resolve_left (fun h => absurd h.1 (by omega))).2
        refine g_iconst X dX10_paired_34 ?_
        exact hQ _ _ _ _ dX10_paired_35 ⟨v_taped, v_heightOf, (by omega), r_v_heightOf, (by first | assumption | omega), (by first | assumption | omega), (by first | assumption | omega), rfl⟩
      · replace kb_20 := kb_20.resolve_left (fun h => c23 h)
        replace kp0_20 := kp0_20.resolve_right (fun h => c23 h.1)
        refine g_iload_n X dX10_paired_26 1 rfl ?_
        refine g_aload_n X dX10_paired_27 0 rfl ?_
        refine gM_get X 0 rfl 10 (by decide) uw1189 rfl dX10_paired_28 ?_
        refine g_icmp_le X (tgt := 36) dX10_paired_31 (by decide) (by omega) (by omega) (fun c31 => ?_) (fun c31 => ?_)
        · refine g_aload_n X dX10_paired_36 0 rfl ?_
          refine g_iconst X dX10_paired_37 ?_
          refine gM_put X 0 rfl 10 (by decide) uw1189 rfl rfl rfl (Nat.le_of_ble_eq_true rfl) dX10_paired_38 (ws2 := (wX10 cI cB cJ h q v_stalls v_claimMany 0 v_place0 v_length0 v_fault v_number0 v_open v_codeMany v_waiting v_saidMany v_clauses v_newMany v_newStalls v_lines v_salesNow v_outNow v_isKept v_keptStalls v_now v_aside v_kept v_oneOf v_otherOf v_signOf v_byOf v_tape v_said v_waitsAt v_saidLetter v_saidFrom v_saidHalf v_saidTo v_codes v_clauseOf v_codeFrom v_codeHalf v_codeTo v_stack v_facts v_newOne v_newOther v_newSign v_newBy v_moreOf v_firstOf v_toldOf v_mostOf v_mostThen v_sumTo v_rowFrom v_ordersOf v_lessOf v_weightOf v_rowNow v_slowRow v_fastRow v_lineNow v_firstLine v_freeBy v_heldBy v_heightOf v_upTo v_downTo v_oftenOf v_newUpper v_newLower)) rfl ?_
          refine g_aload_n X dX10_paired_41 0 rfl ?_
          refine g_iload_n X dX10_paired_42 1 rfl ?_
          refine g_callVV0 X (c_X10_laysHeights l D cI cB cJ h q (p0 := p0) r_v_tape r_v_heightOf (by first | assumption | omega) (by first | assumption | omega)) cv_X10_laysHeights uw1698 ⟨rfl, rfl, by decide, by decide⟩ 0 rfl rfl rfl rfl rfl (Nat.le_of_ble_eq_true rfl) ⟨Nat.zero_le _, Nat.zero_le _⟩ dX10_paired_43 (fun ws43 k43 => ?_)
          obtain ⟨heightOf_43, r_heightOf_43, kp0_43, rfl⟩ := k43
          refine g_iconst X dX10_paired_46 ?_
          refine g_istore_n X (lv' := [(3, vI 0), (0, .ref h), (1, vI p0), (2, vI p1)]) dX10_paired_47 (by decide) rfl ?_
          refine g_iconst X dX10_paired_48 ?_
          refine g_istore X (lv' := [(4, vI 0), (3, vI 0), (0, .ref h), (1, vI p0), (2, vI p1)]) dX10_paired_49 (by decide) rfl ?_
          refine g_iconst X dX10_paired_51 ?_
          refine g_istore X (lv' := [(5, vI 0), (4, vI 0), (3, vI 0), (0, .ref h), (1, vI p0), (2, vI p1)]) dX10_paired_52 (by decide) rfl ?_
          have h0 : prA heightOf_43 ((0 : Int) / 2).toNat = 0 := rfl
          have h1 : prM heightOf_43 ((0 : Int) / 2).toNat = 0 := rfl
          have L54 : ∀ (n : Nat) (x3_54 : Int) (x4_54 : Int) (x5_54 : Int), (0 ≤ x5_54) → (x5_54 ≤ p0) → (x5_54 % 2 = 0) → (-255 * x5_54 ≤ x3_54 ∧ x3_54 ≤ 255 * x5_54) → (-255 ≤ x4_54 ∧ x4_54 ≤ 255) → (x3_54 = prA heightOf_43 (x5_54 / 2).toNat) → (x4_54 = prM heightOf_43 (x5_54 / 2).toNat) → (p0 - x5_54).toNat < n → GG p l e ⟨2, 0, 0, 44⟩ s m args below meth c 0 0 Q D A s.heap 6 (wX10 cI cB cJ h q v_stalls v_claimMany 0 v_place0 v_length0 v_fault v_number0 v_open v_codeMany v_waiting v_saidMany v_clauses v_newMany v_newStalls v_lines v_salesNow v_outNow v_isKept v_keptStalls v_now v_aside v_kept v_oneOf v_otherOf v_signOf v_byOf v_tape v_said v_waitsAt v_saidLetter v_saidFrom v_saidHalf v_saidTo v_codes v_clauseOf v_codeFrom v_codeHalf v_codeTo v_stack v_facts v_newOne v_newOther v_newSign v_newBy v_moreOf v_firstOf v_toldOf v_mostOf v_mostThen v_sumTo v_rowFrom v_ordersOf v_lessOf v_weightOf v_rowNow v_slowRow v_fastRow v_lineNow v_firstLine v_freeBy v_heldBy heightOf_43 v_upTo v_downTo v_oftenOf v_newUpper v_newLower) 54 [(0, .ref h), (1, vI p0), (2, vI p1), (3, vI x3_54), (4, vI x4_54), (5, vI x5_54)] [] := by
            intro n
            induction n with
            | zero => intros; exfalso; omega
            | succ n ih54 =>
              intro x3_54 x4_54 x5_54 w54_0 w54_1 w54_2 w54_3 w54_4 w54_5 w54_6 wm54
              have hA := prA_s heightOf_43 (x := x5_54) (by omega) (by omega)
              have hM := prM_s heightOf_43 (x := x5_54) (by omega) (by omega)
              refine g_iload X dX10_paired_54 5 rfl ?_
              refine g_iload_n X dX10_paired_56 1 rfl ?_
              refine g_icmp_ge X (tgt := 113) dX10_paired_57 (by decide) (by omega) (by omega) (fun c57 => ?_) (fun c57 => ?_)
              · refine g_iload_n X dX10_paired_113 2 rfl ?_
                refine g_if_ne X (tgt := 121) dX10_paired_114 (by decide) (by omega) (fun c114 => ?_) (fun c114 => ?_)
                · refine g_iload X dX10_paired_121 4 rfl ?_
                  have hx : x5_54 = p0 := by omega
                  rw [hx, kp0_43] at w54_5 w54_6
                  have hF := prF_e (f := oct v_tape) (g := oct v_tape) (h := v_heightOf) p1 (n := p0) (by omega) (fun _ _ => rfl)
                  exact hQ _ _ _ _ dX10_paired_123 ⟨0, heightOf_43, (by omega), r_heightOf_43, (by first | assumption | omega), (by first | assumption | omega), (by first | assumption | omega), rfl⟩
                · refine g_iload_n X dX10_paired_117 3 rfl ?_
                  refine g_goto X (tgt := 123) dX10_paired_118 (by decide) ?_
                  have hx : x5_54 = p0 := by omega
                  rw [hx, kp0_43] at w54_5 w54_6
                  have hF := prF_e (f := oct v_tape) (g := oct v_tape) (h := v_heightOf) p1 (n := p0) (by omega) (fun _ _ => rfl)
                  exact hQ _ _ _ _ dX10_paired_123 ⟨0, heightOf_43, (by omega), r_heightOf_43, (by first | assumption | omega), (by first | assumption | omega), (by first | assumption | omega), rfl⟩
              · refine g_iload_n X dX10_paired_60 3 rfl ?_
                refine g_aload_n X dX10_paired_61 0 rfl ?_
                refine gM_get X 0 rfl 55 (by decide) uw1234 rfl dX10_paired_62 ?_
                refine g_iload X dX10_paired_65 5 rfl ?_
                refine g_iconst X dX10_paired_67 ?_
                refine g_iadd X dX10_paired_68 ?_
                refine g_iald X 43 0 rfl rfl (by omega) (by decide) dX10_paired_69 (fun t69 e69 => ?_)
                have r69 := r_heightOf_43 (x5_54 + 1 : Int).toNat; rw [← e69] at r69
                refine g_iadd X dX10_paired_70 ?_
                refine g_aload_n X dX10_paired_71 0 rfl ?_
                refine gM_get X 0 rfl 55 (by decide) uw1234 rfl dX10_paired_72 ?_
                refine g_iload X dX10_paired_75 5 rfl ?_
                refine g_iald X 43 0 rfl rfl (by omega) (by decide) dX10_paired_77 (fun t77 e77 => ?_)
                have r77 := r_heightOf_43 (x5_54 : Int).toNat; rw [← e77] at r77
                refine g_isub X dX10_paired_78 ?_
                refine g_istore_n X (lv' := [(3, vI ((x3_54 + t69) - t77)), (0, .ref h), (1, vI p0), (2, vI p1), (4, vI x4_54), (5, vI x5_54)]) dX10_paired_79 (by decide) rfl ?_
                refine g_iload X dX10_paired_80 4 rfl ?_
                refine g_aload_n X dX10_paired_82 1 rfl ?_
                refine gM_get X 0 rfl 55 (by decide) uw1234 rfl dX10_paired_83 ?_
                refine g_iload X dX10_paired_86 5 rfl ?_
                refine g_iconst X dX10_paired_88 ?_
                refine g_iadd X dX10_paired_89 ?_
                refine g_iald X 43 0 rfl rfl (by omega) (by decide) dX10_paired_90 (fun t90 e90 => ?_)
                have r90 := r_heightOf_43 (x5_54 + 1 : Int).toNat; rw [← e90] at r90
                refine g_aload_n X dX10_paired_91 1 rfl ?_
                refine gM_get X 0 rfl 55 (by decide) uw1234 rfl dX10_paired_92 ?_
                refine g_iload X dX10_paired_95 5 rfl ?_
                refine g_iald X 43 0 rfl rfl (by omega) (by decide) dX10_paired_97 (fun t97 e97 => ?_)
                have r97 := r_heightOf_43 (x5_54 : Int).toNat; rw [← e97] at r97
                refine g_isub X dX10_paired_98 ?_
                refine g_callSIE X (c_X10_max l D cI cB cJ (p0 := x4_54) (p1 := t90 - t97) (by first | assumption | omega) (by first | assumption | omega)) cv_X10_max uw1554 ⟨rfl, rfl, by decide, by decide⟩ rfl rfl (Nat.le_of_ble_eq_true rfl) ⟨Nat.zero_le _, Nat.zero_le _⟩ dX10_paired_99 (fun t99 ws99 k99 => ?_)
                obtain ⟨kp0_99, rfl⟩ := k99
                refine g_istore X (lv' := [(4, vI t99), (3, vI ((x3_54 + t69) - t77)), (0, .ref h), (1, vI p0), (2, vI p1), (5, vI x5_54)]) dX10_paired_102 (by decide) rfl ?_
                refine g_iload X dX10_paired_104 5 rfl ?_
                refine g_iconst X dX10_paired_106 ?_
                refine g_iadd X dX10_paired_107 ?_
                refine g_istore X (lv' := [(5, vI (x5_54 + 2)), (4, vI t99), (3, vI ((x3_54 + t69) - t77)), (0, .ref h), (1, vI p0), (2, vI p1)]) dX10_paired_108 (by decide) rfl ?_
                refine g_goto X (tgt := 54) dX10_paired_110 (by decide) ?_
                refine g_lv [3, 4, 5, 2, 1, 0] rfl ?_
                exact ih54 ((x3_54 + t69) - t77) t99 (x5_54 + 2) (by first | assumption | omega) (by first | assumption | omega) (by first | assumption | omega) (by first | assumption | omega) (by first | assumption | omega) (by first | assumption | omega) (by first | assumption | omega) (by omega)
          refine g_lv [3, 4, 5, 2, 1, 0] rfl ?_
          exact L54 _ 0 0 0 (by first | assumption | omega) (by first | assumption | omega) (by first | assumption | omega) (by first | assumption | omega) (by first | assumption | omega) (by first | assumption | omega) (by first | assumption | omega) (Nat.lt_succ_self _)
        · refine g_iconst X dX10_paired_34 ?_
          exact hQ _ _ _ _ dX10_paired_35 ⟨v_taped, v_heightOf, (by omega), r_v_heightOf, (by first | assumption | omega), (by first | assumption | omega), (by first | assumption | omega), rfl⟩
set_option maxHeartbeats 4000000 in
set_option maxRecDepth 100000 in
theorem c_X10_bestRise (l : Launch) (D : va_G) (cI cB cJ : ClassId) (h : Nat) (q : Nat → Nat) {v_stalls v_claimMany v_taped v_place0 v_length0 v_fault v_number0 v_open v_codeMany v_waiting v_saidMany v_clauses v_newMany v_newStalls v_lines v_salesNow v_outNow v_isKept v_keptStalls : Int} {v_now v_aside v_kept v_oneOf v_otherOf v_signOf v_byOf v_tape v_said v_waitsAt v_saidLetter v_saidFrom v_saidHalf v_saidTo v_codes v_clauseOf v_codeFrom v_codeHalf v_codeTo v_stack v_facts v_newOne v_newOther v_newSign v_newBy v_moreOf v_firstOf v_toldOf v_mostOf v_mostThen v_sumTo v_rowFrom v_ordersOf v_lessOf v_weightOf v_rowNow v_slowRow v_fastRow v_lineNow v_firstLine v_freeBy v_heldBy v_heightOf v_upTo v_downTo v_oftenOf v_newUpper v_newLower : Nat → Int} {p0 p1 : Int} (kr_v_taped : 0 ≤ v_taped ∧ v_taped ≤ 260) (r_v_tape : RA (-128) 127 v_tape) (r_v_freeBy : RA (-2147483648) 2147483647 v_freeBy) (r_v_heldBy : RA (-2147483648) 2147483647 v_heldBy) (hp0 : IR p0) (hp1 : IR p1) : CtI l yX10_bestRise cX10_bestRise 5 (some .int) ⟨1, 0, 0, 22⟩ D (TY cI cB cJ) (wX10 cI cB cJ h q v_stalls v_claimMany v_taped v_place0 v_length0 v_fault v_number0 v_open v_codeMany v_waiting v_saidMany v_clauses v_newMany v_newStalls v_lines v_salesNow v_outNow v_isKept v_keptStalls v_now v_aside v_kept v_oneOf v_otherOf v_signOf v_byOf v_tape v_said v_waitsAt v_saidLetter v_saidFrom v_saidHalf v_saidTo v_codes v_clauseOf v_codeFrom v_codeHalf v_codeTo v_stack v_facts v_newOne v_newOther v_newSign v_newBy v_moreOf v_firstOf v_toldOf v_mostOf v_mostThen v_sumTo v_rowFrom v_ordersOf v_lessOf v_weightOf v_rowNow v_slowRow v_fastRow v_lineNow v_firstLine v_freeBy v_heldBy v_heightOf v_upTo v_downTo v_oftenOf v_newUpper v_newLower) [.ref h, vI p0, vI p1] (fun z ws' => ∃ n_taped : Int, ∃ n_freeBy : Nat → Int, ∃ n_heldBy : Nat → Int, (0 ≤ n_taped ∧ n_taped ≤ 260) ∧ (RA (-2147483648) 2147483647 n_freeBy) ∧ (RA (-2147483648) 2147483647 n_heldBy) ∧ (IR z) ∧ ((1 ≤ p1 ∧ p1 ≤ 3 ∧ 1 ≤ p0 ∧ p0 ≤ 20 ∧ p0 ≤ v_taped ∧ n_taped = 0) ∨ (¬ (1 ≤ p1 ∧ p1 ≤ 3 ∧ 1 ≤ p0 ∧ p0 ≤ 20 ∧ p0 ≤ v_taped) ∧ n_taped = v_taped)) ∧ (((1 ≤ p1 ∧ p1 ≤ 3 ∧ 1 ≤ p0 ∧ p0 ≤ 20 ∧ p0 ≤ v_taped) ∧ z = brF (oct v_tape) p0.toNat p1.toNat) ∨ (¬ (1 ≤ p1 ∧ p1 ≤ 3 ∧ 1 ≤ p0 ∧ p0 ≤ 20 ∧ p0 ≤ v_taped) ∧ z = -1)) ∧ (ws' = (wX10 cI cB cJ h q v_stalls v_claimMany n_taped v_place0 v_length0 v_fault v_number0 v_open v_codeMany v_waiting v_saidMany v_clauses v_newMany v_newStalls v_lines v_salesNow v_outNow v_isKept v_keptStalls v_now v_aside v_kept v_oneOf v_otherOf v_signOf v_byOf v_tape v_said v_waitsAt v_saidLetter v_saidFrom v_saidHalf v_saidTo v_codes v_clauseOf v_codeFrom v_codeHalf v_codeTo v_stack v_facts v_newOne v_newOther v_newSign v_newBy v_moreOf v_firstOf v_toldOf v_mostOf v_mostThen v_sumTo v_rowFrom v_ordersOf v_lessOf v_weightOf v_rowNow v_slowRow v_fastRow v_lineNow v_firstLine n_freeBy n_heldBy v_heightOf v_upTo v_downTo v_oftenOf v_newUpper v_newLower))) := by
  refine hdrI (own := RX10) rfl (by decide +kernel) (Nat.le_of_ble_eq_true rfl) ?_
  intro p e s m args below meth c Q A X hQ
  refine g_lvE (lv2 := [(0, .ref h), (1, vI p0), (2, vI p1)]) rfl ?_
  refine g_iload_n X dX10_bestRise_0 1 rfl ?_
  refine g_iconst X dX10_bestRise_1 ?_
  refine g_bipush X (z := 20) dX10_bestRise_2 (by decide) ?_
  refine g_callSIE X (c_X10_in l D cI cB cJ (p0 := p0) (p1 := 1) (p2 := 20) (by first | assumption | omega) (by first | assumption | omega) (by first | assumption | omega)) cv_X10_in uw1394 ⟨rfl, rfl, by decide, by decide⟩ rfl rfl (Nat.le_of_ble_eq_true rfl) ⟨Nat.zero_le _, Nat.zero_le _⟩ dX10_bestRise_4 (fun t4 ws4 k4 => ?_)
  obtain ⟨kb_4, ⟨kp0_4, rfl⟩⟩ := k4
  refine g_if_eq X (tgt := 27) dX10_bestRise_7 (by decide) (by omega) (fun c7 => ?_) (fun c7 => ?_)
  · clear kb_4
    replace kp0_4 := (kp0_4.resolve_left (fun h => absurd h.1 (by omega))).2
    refine g_iconst X dX10_bestRise_27 ?_
    exact hQ _ _ _ _ dX10_bestRise_28 ⟨v_taped, v_freeBy, v_heldBy, (by omega), r_v_freeBy, r_v_heldBy, (by first | assumption | omega), (by first | assumption | omega), (by first | assumption | omega), rfl⟩
  · replace kb_4 := kb_4.resolve_left (fun h => c7 h)
    replace kp0_4 := kp0_4.resolve_right (fun h => c7 h.1)
    refine g_iload_n X dX10_bestRise_10 2 rfl ?_
    refine g_iconst X dX10_bestRise_11 ?_
    refine g_iconst X dX10_bestRise_12 ?_
    refine g_callSIE X (c_X10_in l D cI cB cJ (p0 := p1) (p1 := 1) (p2 := 3) (by first | assumption | omega) (by first | assumption | omega) (by first | assumption | omega)) cv_X10_in uw1394 ⟨rfl, rfl, by decide, by decide⟩ rfl rfl (Nat.le_of_ble_eq_true rfl) ⟨Nat.zero_le _, Nat.zero_le _⟩ dX10_bestRise_13 (fun t13 ws13 k13 => ?_)
    obtain ⟨kb_13, ⟨kp0_13, rfl⟩⟩ := k13
    refine g_if_eq X (tgt := 27) dX10_bestRise_16 (by decide) (by omega) (fun c16 => ?_) (fun c16 => ?_)
    · clear kb_13
      replace kp0_13 := (kp0_13.resolve_left (fun h => absurd h.1 (by omega))).2
      refine g_iconst X dX10_bestRise_27 ?_
      exact hQ _ _ _ _ dX10_bestRise_28 ⟨v_taped, v_freeBy, v_heldBy, (by omega), r_v_freeBy, r_v_heldBy, (by first | assumption | omega), (by first | assumption | omega), (by first | assumption | omega), rfl⟩
    · replace kb_13 := kb_13.resolve_left (fun h => c16 h)
      replace kp0_13 := kp0_13.resolve_right (fun h => c16 h.1)
      refine g_iload_n X dX10_bestRise_19 1 rfl ?_
      refine g_aload_n X dX10_bestRise_20 0 rfl ?_
      refine gM_get X 0 rfl 10 (by decide) uw1189 rfl dX10_bestRise_21 ?_
      refine g_icmp_le X (tgt := 29) dX10_bestRise_24 (by decide) (by omega) (by omega) (fun c24 => ?_) (fun c24 => ?_)
      · refine g_aload_n X dX10_bestRise_29 0 rfl ?_
        refine g_iconst X dX10_bestRise_30 ?_
        refine gM_put X 0 rfl 10 (by decide) uw1189 rfl rfl rfl (Nat.le_of_ble_eq_true rfl) dX10_bestRise_31 (ws2 := (wX10 cI cB cJ h q v_stalls v_claimMany 0 v_place0 v_length0 v_fault v_number0 v_open v_codeMany v_waiting v_saidMany v_clauses v_newMany v_newStalls v_lines v_salesNow v_outNow v_isKept v_keptStalls v_now v_aside v_kept v_oneOf v_otherOf v_signOf v_byOf v_tape v_said v_waitsAt v_saidLetter v_saidFrom v_saidHalf v_saidTo v_codes v_clauseOf v_codeFrom v_codeHalf v_codeTo v_stack v_facts v_newOne v_newOther v_newSign v_newBy v_moreOf v_firstOf v_toldOf v_mostOf v_mostThen v_sumTo v_rowFrom v_ordersOf v_lessOf v_weightOf v_rowNow v_slowRow v_fastRow v_lineNow v_firstLine v_freeBy v_heldBy v_heightOf v_upTo v_downTo v_oftenOf v_newUpper v_newLower)) rfl ?_
        refine g_iconst X dX10_bestRise_34 ?_
        refine g_istore_n X (lv' := [(3, vI 0), (0, .ref h), (1, vI p0), (2, vI p1)]) dX10_bestRise_35 (by decide) rfl ?_
        have L36 : ∀ (n : Nat) (x3_36 : Int) (freeBy_36 : Nat → Int) (heldBy_36 : Nat → Int), (RA (-2147483648) 2147483647 freeBy_36) → (RA (-2147483648) 2147483647 heldBy_36) → (0 ≤ x3_36 ∧ x3_36 ≤ p1 + 1) → (∀ j : Nat, (j : Int) < x3_36 → freeBy_36 j = 0) → (∀ j : Nat, (j : Int) < x3_36 → heldBy_36 j = -1000000) → (p1 + 1 - x3_36).toNat < n → GG p l e ⟨1, 0, 0, 22⟩ s m args below meth c 0 0 Q D A s.heap 5 (wX10 cI cB cJ h q v_stalls v_claimMany 0 v_place0 v_length0 v_fault v_number0 v_open v_codeMany v_waiting v_saidMany v_clauses v_newMany v_newStalls v_lines v_salesNow v_outNow v_isKept v_keptStalls v_now v_aside v_kept v_oneOf v_otherOf v_signOf v_byOf v_tape v_said v_waitsAt v_saidLetter v_saidFrom v_saidHalf v_saidTo v_codes v_clauseOf v_codeFrom v_codeHalf v_codeTo v_stack v_facts v_newOne v_newOther v_newSign v_newBy v_moreOf v_firstOf v_toldOf v_mostOf v_mostThen v_sumTo v_rowFrom v_ordersOf v_lessOf v_weightOf v_rowNow v_slowRow v_fastRow v_lineNow v_firstLine freeBy_36 heldBy_36 v_heightOf v_upTo v_downTo v_oftenOf v_newUpper v_newLower) 36 [(0, .ref h), (1, vI p0), (2, vI p1), (3, vI x3_36)] [] := by
          intro n
          induction n with
          | zero => intros; exfalso; omega
          | succ n ih36 =>
            intro x3_36 freeBy_36 heldBy_36 r_freeBy_36 r_heldBy_36 w36_0 w36_1 w36_2 wm36
            refine g_iload_n X dX10_bestRise_36 3 rfl ?_
            refine g_iload_n X dX10_bestRise_37 2 rfl ?_
            refine g_icmp_gt X (tgt := 63) dX10_bestRise_38 (by decide) (by omega) (by omega) (fun c38 => ?_) (fun c38 => ?_)
            · refine g_iconst X dX10_bestRise_63 ?_
              refine g_istore_n X (lv' := [(3, vI 0), (0, .ref h), (1, vI p0), (2, vI p1)]) dX10_bestRise_64 (by decide) rfl ?_
              have L65 : ∀ (n : Nat) (x3_65 : Int) (freeBy_65 : Nat → Int) (heldBy_65 : Nat → Int), (RA (-2147483648) 2147483647 freeBy_65) → (RA (-2147483648) 2147483647 heldBy_65) → (0 ≤ x3_65 ∧ x3_65 ≤ p0) → (∀ j : Nat, (j : Int) ≤ p1 → freeBy_65 j = brF (oct v_tape) (x3_65).toNat j) → (∀ j : Nat, (j : Int) < p1 → heldBy_65 j = brH (oct v_tape) (x3_65).toNat j) → (p0 - x3_65).toNat < n → GG p l e ⟨1, 0, 0, 22⟩ s m args below meth c 0 0 Q D A s.heap 5 (wX10 cI cB cJ h q v_stalls v_claimMany 0 v_place0 v_length0 v_fault v_number0 v_open v_codeMany v_waiting v_saidMany v_clauses v_newMany v_newStalls v_lines v_salesNow v_outNow v_isKept v_keptStalls v_now v_aside v_kept v_oneOf v_otherOf v_signOf v_byOf v_tape v_said v_waitsAt v_saidLetter v_saidFrom v_saidHalf v_saidTo v_codes v_clauseOf v_codeFrom v_codeHalf v_codeTo v_stack v_facts v_newOne v_newOther v_newSign v_newBy v_moreOf v_firstOf v_toldOf v_mostOf v_mostThen v_sumTo v_rowFrom v_ordersOf v_lessOf v_weightOf v_rowNow v_slowRow v_fastRow v_lineNow v_firstLine freeBy_65 heldBy_65 v_heightOf v_upTo v_downTo v_oftenOf v_newUpper v_newLower) 65 [(0, .ref h), (1, vI p0), (2, vI p1), (3, vI x3_65)] [] := by
                intro n
                induction n with
                | zero => intros; exfalso; omega
                | succ n ih65 =>
                  intro x3_65 freeBy_65 heldBy_65 r_freeBy_65 r_heldBy_65 w65_0 w65_1 w65_2 wm65
                  have hR := br_r (p := oct v_tape) (x3_65).toNat (fun i _ => oct_r v_tape i)
                  have hR1 := br_r (p := oct v_tape) ((x3_65).toNat + 1) (fun i _ => oct_r v_tape i)
                  refine g_iload_n X dX10_bestRise_65 3 rfl ?_
                  refine g_iload_n X dX10_bestRise_66 1 rfl ?_
                  refine g_icmp_ge X (tgt := 179) dX10_bestRise_67 (by decide) (by omega) (by omega) (fun c67 => ?_) (fun c67 => ?_)
                  · refine g_aload_n X dX10_bestRise_179 0 rfl ?_
                    refine gM_get X 0 rfl 53 (by decide) uw1232 rfl dX10_bestRise_180 ?_
                    refine g_iload_n X dX10_bestRise_183 2 rfl ?_
                    refine g_iald X 41 0 rfl rfl (by omega) (by decide) dX10_bestRise_184 (fun t184 e184 => ?_)
                    have r184 := r_freeBy_65 (p1 : Int).toNat; rw [← e184] at r184
                    have hx : x3_65 = p0 := by omega
                    have hF2 := w65_1 p1.toNat (by omega)
                    rw [hx] at hF2
                    exact hQ _ _ _ _ dX10_bestRise_185 ⟨0, freeBy_65, heldBy_65, (by omega), r_freeBy_65, r_heldBy_65, (by first | assumption | omega), (by first | assumption | omega), (by first | assumption | omega), rfl⟩
                  · refine g_iload_n X dX10_bestRise_70 2 rfl ?_
                    refine g_istore X (lv' := [(4, vI p1), (0, .ref h), (1, vI p0), (2, vI p1), (3, vI x3_65)]) dX10_bestRise_71 (by decide) rfl ?_
                    have L73 : ∀ (n : Nat) (x4_73 : Int) (freeBy_73 : Nat → Int), (RA (-2147483648) 2147483647 freeBy_73) → (0 ≤ x4_73 ∧ x4_73 ≤ p1) → (∀ j : Nat, x4_73 < (j : Int) → (j : Int) ≤ p1 → freeBy_73 j = brF (oct v_tape) ((x3_65).toNat + 1) j) → (∀ j : Nat, (j : Int) ≤ x4_73 → freeBy_73 j = brF (oct v_tape) (x3_65).toNat j) → (x4_73).toNat < n → GG p l e ⟨1, 0, 0, 22⟩ s m args below meth c 0 0 Q D A s.heap 5 (wX10 cI cB cJ h q v_stalls v_claimMany 0 v_place0 v_length0 v_fault v_number0 v_open v_codeMany v_waiting v_saidMany v_clauses v_newMany v_newStalls v_lines v_salesNow v_outNow v_isKept v_keptStalls v_now v_aside v_kept v_oneOf v_otherOf v_signOf v_byOf v_tape v_said v_waitsAt v_saidLetter v_saidFrom v_saidHalf v_saidTo v_codes v_clauseOf v_codeFrom v_codeHalf v_codeTo v_stack v_facts v_newOne v_newOther v_newSign v_newBy v_moreOf v_firstOf v_toldOf v_mostOf v_mostThen v_sumTo v_rowFrom v_ordersOf v_lessOf v_weightOf v_rowNow v_slowRow v_fastRow v_lineNow v_firstLine freeBy_73 heldBy_65 v_heightOf v_upTo v_downTo v_oftenOf v_newUpper v_newLower) 73 [(0, .ref h), (1, vI p0), (2, vI p1), (3, vI x3_65), (4, vI x4_73)] [] := by
                      intro n
                      induction n with
                      | zero => intros; exfalso; omega
                      | succ n ih73 =>
                        intro x4_73 freeBy_73 r_freeBy_73 w73_0 w73_1 w73_2 wm73
                        refine g_iload X dX10_bestRise_73 4 rfl ?_
                        refine g_if_le X (tgt := 128) dX10_bestRise_75 (by decide) (by omega) (fun c75 => ?_) (fun c75 => ?_)
                        · have hF : ∀ j : Nat, (j : Int) ≤ p1 → freeBy_73 j = brF (oct v_tape) ((x3_65).toNat + 1) j := fun j hj => by rcases (show j = 0 ∨ 0 < j by omega) with h | h; (rw [h, brF_0, w73_2 0 (by omega), brF_0]); exact w73_1 j (by omega) hj
                          refine g_iconst X dX10_bestRise_128 ?_
                          refine g_istore X (lv' := [(4, vI 0), (0, .ref h), (1, vI p0), (2, vI p1), (3, vI x3_65)]) dX10_bestRise_129 (by decide) rfl ?_
                          have L131 : ∀ (n : Nat) (x4_131 : Int) (heldBy_131 : Nat → Int), (RA (-2147483648) 2147483647 heldBy_131) → (0 ≤ x4_131 ∧ x4_131 ≤ p1) → (∀ j : Nat, (j : Int) < x4_131 → heldBy_131 j = brH (oct v_tape) ((x3_65).toNat + 1) j) → (∀ j : Nat, x4_131 ≤ (j : Int) → (j : Int) < p1 → heldBy_131 j = brH (oct v_tape) (x3_65).toNat j) → (p1 - x4_131).toNat < n → GG p l e ⟨1, 0, 0, 22⟩ s m args below meth c 0 0 Q D A s.heap 5 (wX10 cI cB cJ h q v_stalls v_claimMany 0 v_place0 v_length0 v_fault v_number0 v_open v_codeMany v_waiting v_saidMany v_clauses v_newMany v_newStalls v_lines v_salesNow v_outNow v_isKept v_keptStalls v_now v_aside v_kept v_oneOf v_otherOf v_signOf v_byOf v_tape v_said v_waitsAt v_saidLetter v_saidFrom v_saidHalf v_saidTo v_codes v_clauseOf v_codeFrom v_codeHalf v_codeTo v_stack v_facts v_newOne v_newOther v_newSign v_newBy v_moreOf v_firstOf v_toldOf v_mostOf v_mostThen v_sumTo v_rowFrom v_ordersOf v_lessOf v_weightOf v_rowNow v_slowRow v_fastRow v_lineNow v_firstLine freeBy_73 heldBy_131 v_heightOf v_upTo v_downTo v_oftenOf v_newUpper v_newLower) 131 [(0, .ref h), (1, vI p0), (2, vI p1), (3, vI x3_65), (4, vI x4_131)] [] := by
                            intro n
                            induction n with
                            | zero => intros; exfalso; omega
                            | succ n ih131 =>
                              intro x4_131 heldBy_131 r_heldBy_131 w131_0 w131_1 w131_2 wm131
                              refine g_iload X dX10_bestRise_131 4 rfl ?_
                              refine g_iload_n X dX10_bestRise_133 2 rfl ?_
                              refine g_icmp_ge X (tgt := 173) dX10_bestRise_134 (by decide) (by omega) (by omega) (fun c134 => ?_) (fun c134 => ?_)
                              · refine g_iinc X (lv' := [(3, vI (x3_65 + 1)), (0, .ref h), (1, vI p0), (2, vI p1), (4, vI x4_131)]) dX10_bestRise_173 3 rfl (by decide) rfl ?_
                                refine g_goto X (tgt := 65) dX10_bestRise_176 (by decide) ?_
                                refine g_lv [1, 2, 3, 0] rfl ?_
                                exact ih65 (x3_65 + 1) freeBy_73 heldBy_131 r_freeBy_73 r_heldBy_131 (by first | assumption | omega) (by intro j hj; first | exact w36_1 j (by omega) | (rw [show (x3_65 + 1).toNat = (x3_65).toNat + 1 by omega]; exact hF j hj)) (by intro j hj; first | exact w36_2 j (by omega) | (rw [show (x3_65 + 1).toNat = (x3_65).toNat + 1 by omega]; exact w131_1 j (by omega))) (by omega)
                              · refine g_aload_n X dX10_bestRise_137 0 rfl ?_
                                refine gM_get X 0 rfl 54 (by decide) uw1233 rfl dX10_bestRise_138 ?_
                                refine g_iload X dX10_bestRise_141 4 rfl ?_
                                refine g_aload_n X dX10_bestRise_143 0 rfl ?_
                                refine gM_get X 0 rfl 54 (by decide) uw1233 rfl dX10_bestRise_144 ?_
                                refine g_iload X dX10_bestRise_147 4 rfl ?_
                                refine g_iald X 42 0 rfl rfl (by omega) (by decide) dX10_bestRise_149 (fun t149 e149 => ?_)
                                have r149 := r_heldBy_131 (x4_131 : Int).toNat; rw [← e149] at r149
                                have b149 := w131_2 (x4_131).toNat (by omega) (by omega)
                                have g149 := hR (x4_131).toNat
                                refine g_aload_n X dX10_bestRise_150 0 rfl ?_
                                refine gM_get X 0 rfl 53 (by decide) uw1232 rfl dX10_bestRise_151 ?_
                                refine g_iload X dX10_bestRise_154 4 rfl ?_
                                refine g_iald X 41 0 rfl rfl (by omega) (by decide) dX10_bestRise_156 (fun t156 e156 => ?_)
                                have r156 := r_freeBy_73 (x4_131 : Int).toNat; rw [← e156] at r156
                                have b156 := hF (x4_131).toNat (by omega)
                                have g156 := hR1 (x4_131).toNat
                                refine g_aload_n X dX10_bestRise_157 0 rfl ?_
                                refine g_iload_n X dX10_bestRise_158 3 rfl ?_
                                refine g_callVI0 X (c_X10_octet l D cI cB cJ h q (p0 := x3_65) r_v_tape (by first | assumption | omega) (by first | assumption | omega)) cv_X10_octet uw1641 ⟨rfl, rfl, by decide, by decide⟩ 0 rfl rfl rfl rfl rfl (Nat.le_of_ble_eq_true rfl) ⟨Nat.zero_le _, Nat.zero_le _⟩ dX10_bestRise_159 (fun t159 ws159 k159 => ?_)
                                obtain ⟨kp0_159, kp1_159, kp2_159, rfl⟩ := k159
                                refine g_isub X dX10_bestRise_162 ?_
                                refine g_callSIE X (c_X10_max l D cI cB cJ (p0 := t149) (p1 := t156 - t159) (by first | assumption | omega) (by first | assumption | omega)) cv_X10_max uw1554 ⟨rfl, rfl, by decide, by decide⟩ rfl rfl (Nat.le_of_ble_eq_true rfl) ⟨Nat.zero_le _, Nat.zero_le _⟩ dX10_bestRise_163 (fun t163 ws163 k163 => ?_)
                                obtain ⟨kp0_163, rfl⟩ := k163
                                have hv : t163 = brH (oct v_tape) ((x3_65).toNat + 1) (x4_131).toNat := by rw [brH_s]; have m1 := mx_e (brH (oct v_tape) (x3_65).toNat (x4_131).toNat) (brF (oct v_tape) ((x3_65).toNat + 1) (x4_131).toNat - oct v_tape (x3_65).toNat); omega
                                refine g_iast X 42 0 rfl rfl (by omega) (by decide) dX10_bestRise_166 (fun heldBy_166 e166 => ?_)
                                have r_heldBy_166 : RA (-2147483648) 2147483647 heldBy_166 := by rw [e166]; exact RA_up r_heldBy_131 (by omega)
                                refine g_ws (ws2 := (wX10 cI cB cJ h q v_stalls v_claimMany 0 v_place0 v_length0 v_fault v_number0 v_open v_codeMany v_waiting v_saidMany v_clauses v_newMany v_newStalls v_lines v_salesNow v_outNow v_isKept v_keptStalls v_now v_aside v_kept v_oneOf v_otherOf v_signOf v_byOf v_tape v_said v_waitsAt v_saidLetter v_saidFrom v_saidHalf v_saidTo v_codes v_clauseOf v_codeFrom v_codeHalf v_codeTo v_stack v_facts v_newOne v_newOther v_newSign v_newBy v_moreOf v_firstOf v_toldOf v_mostOf v_mostThen v_sumTo v_rowFrom v_ordersOf v_lessOf v_weightOf v_rowNow v_slowRow v_fastRow v_lineNow v_firstLine freeBy_73 heldBy_166 v_heightOf v_upTo v_downTo v_oftenOf v_newUpper v_newLower)) rfl ?_
                                refine g_iinc X (lv' := [(4, vI (x4_131 + 1)), (0, .ref h), (1, vI p0), (2, vI p1), (3, vI x3_65)]) dX10_bestRise_167 4 rfl (by decide) rfl ?_
                                refine g_goto X (tgt := 131) dX10_bestRise_170 (by decide) ?_
                                refine g_lv [1, 2, 3, 4, 0] rfl ?_
                                exact ih131 (x4_131 + 1) heldBy_166 r_heldBy_166 (by first | assumption | omega) (by intro j h1; first | (exfalso; omega) | (rw [e166]; exact if hq : j = (x4_131).toNat then by (rw [hq, updZ_s]; exact hv) else by (rw [updZ_n _ _ hq]; exact w131_1 j (by omega)))) (by intro j h1 h2; first | exact w65_2 j h2 | (rw [e166, updZ_n _ _ (by omega)]; exact w131_2 j (by omega) h2)) (by omega)
                          refine g_lv [1, 2, 3, 4, 0] rfl ?_
                          exact L131 _ 0 heldBy_65 r_heldBy_65 (by first | assumption | omega) (by intro j h1; first | (exfalso; omega) | (rw [e166]; exact if hq : j = (x4_131).toNat then by (rw [hq, updZ_s]; exact hv) else by (rw [updZ_n _ _ hq]; exact w131_1 j (by omega)))) (by intro j h1 h2; first | exact w65_2 j h2 | (rw [e166, updZ_n _ _ (by omega)]; exact w131_2 j (by omega) h2)) (Nat.lt_succ_self _)
                        · refine g_aload_n X dX10_bestRise_78 0 rfl ?_
                          refine gM_get X 0 rfl 53 (by decide) uw1232 rfl dX10_bestRise_79 ?_
                          refine g_iload X dX10_bestRise_82 4 rfl ?_
                          refine g_aload_n X dX10_bestRise_84 0 rfl ?_
                          refine gM_get X 0 rfl 53 (by decide) uw1232 rfl dX10_bestRise_85 ?_
                          refine g_iload X dX10_bestRise_88 4 rfl ?_
                          refine g_iald X 41 0 rfl rfl (by omega) (by decide) dX10_bestRise_90 (fun t90 e90 => ?_)
                          have r90 := r_freeBy_73 (x4_73 : Int).toNat; rw [← e90] at r90
                          have b90 := w73_2 (x4_73).toNat (by omega)
                          have g90 := hR (x4_73).toNat
                          refine g_aload_n X dX10_bestRise_91 0 rfl ?_
                          refine gM_get X 0 rfl 53 (by decide) uw1232 rfl dX10_bestRise_92 ?_
                          refine g_iload X dX10_bestRise_95 4 rfl ?_
                          refine g_iconst X dX10_bestRise_97 ?_
                          refine g_isub X dX10_bestRise_98 ?_
                          refine g_iald X 41 0 rfl rfl (by omega) (by decide) dX10_bestRise_99 (fun t99 e99 => ?_)
                          have r99 := r_freeBy_73 (x4_73 - 1 : Int).toNat; rw [← e99] at r99
                          have b99 := w73_2 ((x4_73 - 1)).toNat (by omega)
                          have g99 := hR ((x4_73 - 1)).toNat
                          refine g_aload_n X dX10_bestRise_100 0 rfl ?_
                          refine gM_get X 0 rfl 54 (by decide) uw1233 rfl dX10_bestRise_101 ?_
                          refine g_iload X dX10_bestRise_104 4 rfl ?_
                          refine g_iconst X dX10_bestRise_106 ?_
                          refine g_isub X dX10_bestRise_107 ?_
                          refine g_iald X 42 0 rfl rfl (by omega) (by decide) dX10_bestRise_108 (fun t108 e108 => ?_)
                          have r108 := r_heldBy_65 (x4_73 - 1 : Int).toNat; rw [← e108] at r108
                          have b108 := w65_2 ((x4_73 - 1)).toNat (by omega)
                          have g108 := hR ((x4_73 - 1)).toNat
                          refine g_aload_n X dX10_bestRise_109 0 rfl ?_
                          refine g_iload_n X dX10_bestRise_110 3 rfl ?_
                          refine g_callVI0 X (c_X10_octet l D cI cB cJ h q (p0 := x3_65) r_v_tape (by first | assumption | omega) (by first | assumption | omega)) cv_X10_octet uw1641 ⟨rfl, rfl, by decide, by decide⟩ 0 rfl rfl rfl rfl rfl (Nat.le_of_ble_eq_true rfl) ⟨Nat.zero_le _, Nat.zero_le _⟩ dX10_bestRise_111 (fun t111 ws111 k111 => ?_)
                          obtain ⟨kp0_111, kp1_111, kp2_111, rfl⟩ := k111
                          refine g_iadd X dX10_bestRise_114 ?_
                          refine g_callSIE X (c_X10_max l D cI cB cJ (p0 := t99) (p1 := t108 + t111) (by first | assumption | omega) (by first | assumption | omega)) cv_X10_max uw1554 ⟨rfl, rfl, by decide, by decide⟩ rfl rfl (Nat.le_of_ble_eq_true rfl) ⟨Nat.zero_le _, Nat.zero_le _⟩ dX10_bestRise_115 (fun t115 ws115 k115 => ?_)
                          obtain ⟨kp0_115, rfl⟩ := k115
                          refine g_callSIE X (c_X10_max l D cI cB cJ (p0 := t90) (p1 := t115) (by first | assumption | omega) (by first | assumption | omega)) cv_X10_max uw1554 ⟨rfl, rfl, by decide, by decide⟩ rfl rfl (Nat.le_of_ble_eq_true rfl) ⟨Nat.zero_le _, Nat.zero_le _⟩ dX10_bestRise_118 (fun t118 ws118 k118 => ?_)
                          obtain ⟨kp0_118, rfl⟩ := k118
                          have hv : t118 = brF (oct v_tape) ((x3_65).toNat + 1) (x4_73).toNat := by rw [show (x4_73).toNat = (x4_73 - 1).toNat + 1 by omega, brF_s]; rw [show (x4_73 - 1).toNat + 1 = (x4_73).toNat by omega]; have m1 := mx_e (brF (oct v_tape) (x3_65).toNat (x4_73 - 1).toNat) (brH (oct v_tape) (x3_65).toNat (x4_73 - 1).toNat + oct v_tape (x3_65).toNat); have m2 := mx_e (brF (oct v_tape) (x3_65).toNat (x4_73).toNat) (mx (brF (oct v_tape) (x3_65).toNat (x4_73 - 1).toNat) (brH (oct v_tape) (x3_65).toNat (x4_73 - 1).toNat + oct v_tape (x3_65).toNat)); omega
                          refine g_iast X 41 0 rfl rfl (by omega) (by decide) dX10_bestRise_121 (fun freeBy_121 e121 => ?_)
                          have r_freeBy_121 : RA (-2147483648) 2147483647 freeBy_121 := by rw [e121]; exact RA_up r_freeBy_73 (by omega)
                          refine g_ws (ws2 := (wX10 cI cB cJ h q v_stalls v_claimMany 0 v_place0 v_length0 v_fault v_number0 v_open v_codeMany v_waiting v_saidMany v_clauses v_newMany v_newStalls v_lines v_salesNow v_outNow v_isKept v_keptStalls v_now v_aside v_kept v_oneOf v_otherOf v_signOf v_byOf v_tape v_said v_waitsAt v_saidLetter v_saidFrom v_saidHalf v_saidTo v_codes v_clauseOf v_codeFrom v_codeHalf v_codeTo v_stack v_facts v_newOne v_newOther v_newSign v_newBy v_moreOf v_firstOf v_toldOf v_mostOf v_mostThen v_sumTo v_rowFrom v_ordersOf v_lessOf v_weightOf v_rowNow v_slowRow v_fastRow v_lineNow v_firstLine freeBy_121 heldBy_65 v_heightOf v_upTo v_downTo v_oftenOf v_newUpper v_newLower)) rfl ?_
                          refine g_iinc X (lv' := [(4, vI (x4_73 + (-1))), (0, .ref h), (1, vI p0), (2, vI p1), (3, vI x3_65)]) dX10_bestRise_122 4 rfl (by decide) rfl ?_
                          refine g_goto X (tgt := 73) dX10_bestRise_125 (by decide) ?_
                          refine g_lv [1, 2, 3, 4, 0] rfl ?_
                          exact ih73 (x4_73 + (-1)) freeBy_121 r_freeBy_121 (by first | assumption | omega) (by intro j h1 h2; first | (exfalso; omega) | (rw [e121]; exact if hq : j = (x4_73).toNat then by (rw [hq, updZ_s]; exact hv) else by (rw [updZ_n _ _ hq]; exact w73_1 j (by omega) h2))) (by intro j h1; first | exact w65_1 j h1 | (rw [e121, updZ_n _ _ (by omega)]; exact w73_2 j (by omega))) (by omega)
                    refine g_lv [1, 2, 3, 4, 0] rfl ?_
                    exact L73 _ p1 freeBy_65 r_freeBy_65 (by first | assumption | omega) (by intro j h1 h2; first | (exfalso; omega) | (rw [e121]; exact if hq : j = (x4_73).toNat then by (rw [hq, updZ_s]; exact hv) else by (rw [updZ_n _ _ hq]; exact w73_1 j (by omega) h2))) (by intro j h1; first | exact w65_1 j h1 | (rw [e121, updZ_n _ _ (by omega)]; exact w73_2 j (by omega))) (Nat.lt_succ_self _)
              refine g_lv [1, 2, 3, 0] rfl ?_
              exact L65 _ 0 freeBy_36 heldBy_36 r_freeBy_36 r_heldBy_36 (by first | assumption | omega) (by intro j hj; first | exact w36_1 j (by omega) | (rw [show (x3_65 + 1).toNat = (x3_65).toNat + 1 by omega]; exact hF j hj)) (by intro j hj; first | exact w36_2 j (by omega) | (rw [show (x3_65 + 1).toNat = (x3_65).toNat + 1 by omega]; exact w131_1 j (by omega))) (Nat.lt_succ_self _)
            · refine g_aload_n X dX10_bestRise_41 0 rfl ?_
              refine gM_get X 0 rfl 53 (by decide) uw1232 rfl dX10_bestRise_42 ?_
              refine g_iload_n X dX10_bestRise_45 3 rfl ?_
              refine g_iconst X dX10_bestRise_46 ?_
              refine g_iast X 41 0 rfl rfl (by omega) (by decide) dX10_bestRise_47 (fun freeBy_47 e47 => ?_)
              have r_freeBy_47 : RA (-2147483648) 2147483647 freeBy_47 := by rw [e47]; exact RA_up r_freeBy_36 (by omega)
              refine g_ws (ws2 := (wX10 cI cB cJ h q v_stalls v_claimMany 0 v_place0 v_length0 v_fault v_number0 v_open v_codeMany v_waiting v_saidMany v_clauses v_newMany v_newStalls v_lines v_salesNow v_outNow v_isKept v_keptStalls v_now v_aside v_kept v_oneOf v_otherOf v_signOf v_byOf v_tape v_said v_waitsAt v_saidLetter v_saidFrom v_saidHalf v_saidTo v_codes v_clauseOf v_codeFrom v_codeHalf v_codeTo v_stack v_facts v_newOne v_newOther v_newSign v_newBy v_moreOf v_firstOf v_toldOf v_mostOf v_mostThen v_sumTo v_rowFrom v_ordersOf v_lessOf v_weightOf v_rowNow v_slowRow v_fastRow v_lineNow v_firstLine freeBy_47 heldBy_36 v_heightOf v_upTo v_downTo v_oftenOf v_newUpper v_newLower)) rfl ?_
              refine g_aload_n X dX10_bestRise_48 0 rfl ?_
              refine gM_get X 0 rfl 54 (by decide) uw1233 rfl dX10_bestRise_49 ?_
              refine g_iload_n X dX10_bestRise_52 3 rfl ?_
              refine g_ldcw X (z := (-1000000)) dX10_bestRise_53 uw1519 (by decide) ?_
              refine g_iast X 42 0 rfl rfl (by omega) (by decide) dX10_bestRise_56 (fun heldBy_56 e56 => ?_)
              have r_heldBy_56 : RA (-2147483648) 2147483647 heldBy_56 := by rw [e56]; exact RA_up r_heldBy_36 (by omega)
              refine g_ws (ws2 := (wX10 cI cB cJ h q v_stalls v_claimMany 0 v_place0 v_length0 v_fault v_number0 v_open v_codeMany v_waiting v_saidMany v_clauses v_newMany v_newStalls v_lines v_salesNow v_outNow v_isKept v_keptStalls v_now v_aside v_kept v_oneOf v_otherOf v_signOf v_byOf v_tape v_said v_waitsAt v_saidLetter v_saidFrom v_saidHalf v_saidTo v_codes v_clauseOf v_codeFrom v_codeHalf v_codeTo v_stack v_facts v_newOne v_newOther v_newSign v_newBy v_moreOf v_firstOf v_toldOf v_mostOf v_mostThen v_sumTo v_rowFrom v_ordersOf v_lessOf v_weightOf v_rowNow v_slowRow v_fastRow v_lineNow v_firstLine freeBy_47 heldBy_56 v_heightOf v_upTo v_downTo v_oftenOf v_newUpper v_newLower)) rfl ?_
              refine g_iinc X (lv' := [(3, vI (x3_36 + 1)), (0, .ref h), (1, vI p0), (2, vI p1)]) dX10_bestRise_57 3 rfl (by decide) rfl ?_
              refine g_goto X (tgt := 36) dX10_bestRise_60 (by decide) ?_
              refine g_lv [1, 2, 3, 0] rfl ?_
              exact ih36 (x3_36 + 1) freeBy_47 heldBy_56 r_freeBy_47 r_heldBy_56 (by first | assumption | omega) (by intro j hj; first | (exfalso; omega) | (rw [e47]; exact if hq : j = (x3_36).toNat then by (rw [hq, updZ_s]) else by (rw [updZ_n _ _ hq]; exact w36_1 j (by omega)))) (by intro j hj; first | (exfalso; omega) | (rw [e56]; exact if hq : j = (x3_36).toNat then by (rw [hq, updZ_s]) else by (rw [updZ_n _ _ hq]; exact w36_2 j (by omega)))) (by omega)
        refine g_lv [1, 2, 3, 0] rfl ?_
        exact L36 _ 0 v_freeBy v_heldBy r_v_freeBy r_v_heldBy (by first | assumption | omega) (by intro j hj; first | (exfalso; omega) | (rw [e47]; exact if hq : j = (x3_36).toNat then by (rw [hq, updZ_s]) else by (rw [updZ_n _ _ hq]; exact w36_1 j (by omega)))) (by intro j hj; first | (exfalso; omega) | (rw [e56]; exact if hq : j = (x3_36).toNat then by (rw [hq, updZ_s]) else by (rw [updZ_n _ _ hq]; exact w36_2 j (by omega)))) (Nat.lt_succ_self _)
      · refine g_iconst X dX10_bestRise_27 ?_
        exact hQ _ _ _ _ dX10_bestRise_28 ⟨v_taped, v_freeBy, v_heldBy, (by omega), r_v_freeBy, r_v_heldBy, (by first | assumption | omega), (by first | assumption | omega), (by first | assumption | omega), rfl⟩
