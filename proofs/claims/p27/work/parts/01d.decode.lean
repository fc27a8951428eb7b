theorem dX9_law_41 : decode cX9_law 41 = .ok (.aload_n 0, 1) := by decide +kernel
theorem dX9_law_42 : decode cX9_law 42 = .ok (.getfield 55, 3) := by decide +kernel
theorem dX9_law_45 : decode cX9_law 45 = .ok (.astore_n 3, 1) := by decide +kernel
theorem dX9_law_46 : decode cX9_law 46 = .ok (.aload_n 0, 1) := by decide +kernel
theorem dX9_law_47 : decode cX9_law 47 = .ok (.aload_n 0, 1) := by decide +kernel
theorem dX9_law_48 : decode cX9_law 48 = .ok (.getfield 59, 3) := by decide +kernel
theorem dX9_law_51 : decode cX9_law 51 = .ok (.putfield 55, 3) := by decide +kernel
theorem dX9_law_54 : decode cX9_law 54 = .ok (.aload_n 0, 1) := by decide +kernel
theorem dX9_law_55 : decode cX9_law 55 = .ok (.aload_n 3, 1) := by decide +kernel
theorem dX9_law_56 : decode cX9_law 56 = .ok (.putfield 59, 3) := by decide +kernel
theorem dX9_law_59 : decode cX9_law 59 = .ok (.iload_n 2, 1) := by decide +kernel
theorem dX9_law_60 : decode cX9_law 60 = .ok (.ireturn, 1) := by decide +kernel
theorem dX9_claims_0 : decode cX9_claims 0 = .ok (.aload_n 0, 1) := by decide +kernel
theorem dX9_claims_1 : decode cX9_claims 1 = .ok (.getfield 12, 3) := by decide +kernel
theorem dX9_claims_4 : decode cX9_claims 4 = .ok (.iload_n 1, 1) := by decide +kernel
theorem dX9_claims_5 : decode cX9_claims 5 = .ok (.iconst 1, 1) := by decide +kernel
theorem dX9_claims_6 : decode cX9_claims 6 = .ok (.sipush 250, 3) := by decide +kernel
theorem dX9_claims_9 : decode cX9_claims 9 = .ok (.invokevirtual 106, 3) := by decide +kernel
theorem dX9_claims_12 : decode cX9_claims 12 = .ok (.ifCond .ne 5, 3) := by decide +kernel
theorem dX9_claims_15 : decode cX9_claims 15 = .ok (.iconst (-1), 1) := by decide +kernel
theorem dX9_claims_16 : decode cX9_claims 16 = .ok (.ireturn, 1) := by decide +kernel
theorem dX9_claims_17 : decode cX9_claims 17 = .ok (.aload_n 0, 1) := by decide +kernel
theorem dX9_claims_18 : decode cX9_claims 18 = .ok (.getfield 23, 3) := by decide +kernel
theorem dX9_claims_21 : decode cX9_claims 21 = .ok (.aload_n 0, 1) := by decide +kernel
theorem dX9_claims_22 : decode cX9_claims 22 = .ok (.getfield 12, 3) := by decide +kernel
theorem dX9_claims_25 : decode cX9_claims 25 = .ok (.iload_n 1, 1) := by decide +kernel
theorem dX9_claims_26 : decode cX9_claims 26 = .ok (.invokevirtual 117, 3) := by decide +kernel
theorem dX9_claims_29 : decode cX9_claims 29 = .ok (.istore_n 2, 1) := by decide +kernel
theorem dX9_claims_30 : decode cX9_claims 30 = .ok (.aload_n 0, 1) := by decide +kernel
theorem dX9_claims_31 : decode cX9_claims 31 = .ok (.getfield 12, 3) := by decide +kernel
theorem dX9_claims_34 : decode cX9_claims 34 = .ok (.invokevirtual 114, 3) := by decide +kernel
theorem dX9_claims_37 : decode cX9_claims 37 = .ok (.iload_n 2, 1) := by decide +kernel
theorem dX9_claims_38 : decode cX9_claims 38 = .ok (.ifCond .lt 33, 3) := by decide +kernel
theorem dX9_claims_41 : decode cX9_claims 41 = .ok (.aload_n 0, 1) := by decide +kernel
theorem dX9_claims_42 : decode cX9_claims 42 = .ok (.getfield 19, 3) := by decide +kernel
theorem dX9_claims_45 : decode cX9_claims 45 = .ok (.astore_n 3, 1) := by decide +kernel
theorem dX9_claims_46 : decode cX9_claims 46 = .ok (.aload_n 0, 1) := by decide +kernel
theorem dX9_claims_47 : decode cX9_claims 47 = .ok (.aload_n 0, 1) := by decide +kernel
theorem dX9_claims_48 : decode cX9_claims 48 = .ok (.getfield 23, 3) := by decide +kernel
theorem dX9_claims_51 : decode cX9_claims 51 = .ok (.putfield 19, 3) := by decide +kernel
theorem dX9_claims_54 : decode cX9_claims 54 = .ok (.aload_n 0, 1) := by decide +kernel
theorem dX9_claims_55 : decode cX9_claims 55 = .ok (.aload_n 3, 1) := by decide +kernel
theorem dX9_claims_56 : decode cX9_claims 56 = .ok (.putfield 23, 3) := by decide +kernel
theorem dX9_claims_59 : decode cX9_claims 59 = .ok (.aload_n 0, 1) := by decide +kernel
theorem dX9_claims_60 : decode cX9_claims 60 = .ok (.getfield 29, 3) := by decide +kernel
theorem dX9_claims_63 : decode cX9_claims 63 = .ok (.aload_n 0, 1) := by decide +kernel
theorem dX9_claims_64 : decode cX9_claims 64 = .ok (.getfield 19, 3) := by decide +kernel
theorem dX9_claims_67 : decode cX9_claims 67 = .ok (.iconst (-1), 1) := by decide +kernel
theorem dX9_claims_68 : decode cX9_claims 68 = .ok (.invokevirtual 90, 3) := by decide +kernel
theorem dX9_claims_71 : decode cX9_claims 71 = .ok (.iload_n 2, 1) := by decide +kernel
theorem dX9_claims_72 : decode cX9_claims 72 = .ok (.ireturn, 1) := by decide +kernel
theorem dX9_stock_0 : decode cX9_stock 0 = .ok (.aload_n 0, 1) := by decide +kernel
theorem dX9_stock_1 : decode cX9_stock 1 = .ok (.getfield 12, 3) := by decide +kernel
theorem dX9_stock_4 : decode cX9_stock 4 = .ok (.iload_n 1, 1) := by decide +kernel
theorem dX9_stock_5 : decode cX9_stock 5 = .ok (.iconst 1, 1) := by decide +kernel
theorem dX9_stock_6 : decode cX9_stock 6 = .ok (.sipush 160, 3) := by decide +kernel
theorem dX9_stock_9 : decode cX9_stock 9 = .ok (.invokevirtual 106, 3) := by decide +kernel
theorem dX9_stock_12 : decode cX9_stock 12 = .ok (.ifCond .ne 5, 3) := by decide +kernel
theorem dX9_stock_15 : decode cX9_stock 15 = .ok (.iconst (-1), 1) := by decide +kernel
theorem dX9_stock_16 : decode cX9_stock 16 = .ok (.ireturn, 1) := by decide +kernel
theorem dX9_stock_17 : decode cX9_stock 17 = .ok (.aload_n 0, 1) := by decide +kernel
theorem dX9_stock_18 : decode cX9_stock 18 = .ok (.getfield 69, 3) := by decide +kernel
theorem dX9_stock_21 : decode cX9_stock 21 = .ok (.aload_n 0, 1) := by decide +kernel
theorem dX9_stock_22 : decode cX9_stock 22 = .ok (.getfield 12, 3) := by decide +kernel
theorem dX9_stock_25 : decode cX9_stock 25 = .ok (.iload_n 1, 1) := by decide +kernel
theorem dX9_stock_26 : decode cX9_stock 26 = .ok (.invokevirtual 120, 3) := by decide +kernel
theorem dX9_stock_29 : decode cX9_stock 29 = .ok (.istore_n 2, 1) := by decide +kernel
theorem dX9_stock_30 : decode cX9_stock 30 = .ok (.aload_n 0, 1) := by decide +kernel
theorem dX9_stock_31 : decode cX9_stock 31 = .ok (.getfield 12, 3) := by decide +kernel
theorem dX9_stock_34 : decode cX9_stock 34 = .ok (.invokevirtual 114, 3) := by decide +kernel
theorem dX9_stock_37 : decode cX9_stock 37 = .ok (.iload_n 2, 1) := by decide +kernel
theorem dX9_stock_38 : decode cX9_stock 38 = .ok (.ifCond .lt 14, 3) := by decide +kernel
theorem dX9_stock_41 : decode cX9_stock 41 = .ok (.aload_n 0, 1) := by decide +kernel
theorem dX9_stock_42 : decode cX9_stock 42 = .ok (.getfield 65, 3) := by decide +kernel
theorem dX9_stock_45 : decode cX9_stock 45 = .ok (.aload_n 0, 1) := by decide +kernel
theorem dX9_stock_46 : decode cX9_stock 46 = .ok (.getfield 69, 3) := by decide +kernel
theorem dX9_stock_49 : decode cX9_stock 49 = .ok (.invokevirtual 123, 3) := by decide +kernel
theorem dX9_stock_52 : decode cX9_stock 52 = .ok (.iload_n 2, 1) := by decide +kernel
theorem dX9_stock_53 : decode cX9_stock 53 = .ok (.ireturn, 1) := by decide +kernel
theorem dX9_known_0 : decode cX9_known 0 = .ok (.iload_n 1, 1) := by decide +kernel
theorem dX9_known_1 : decode cX9_known 1 = .ok (.invokestatic 127, 3) := by decide +kernel
theorem dX9_known_4 : decode cX9_known 4 = .ok (.ifCond .eq 22, 3) := by decide +kernel
theorem dX9_known_7 : decode cX9_known 7 = .ok (.iload_n 2, 1) := by decide +kernel
theorem dX9_known_8 : decode cX9_known 8 = .ok (.invokestatic 127, 3) := by decide +kernel
theorem dX9_known_11 : decode cX9_known 11 = .ok (.ifCond .eq 15, 3) := by decide +kernel
theorem dX9_known_14 : decode cX9_known 14 = .ok (.aload_n 0, 1) := by decide +kernel
theorem dX9_known_15 : decode cX9_known 15 = .ok (.getfield 19, 3) := by decide +kernel
theorem dX9_known_18 : decode cX9_known 18 = .ok (.iload_n 1, 1) := by decide +kernel
theorem dX9_known_19 : decode cX9_known 19 = .ok (.iload_n 2, 1) := by decide +kernel
theorem dX9_known_20 : decode cX9_known 20 = .ok (.invokevirtual 130, 3) := by decide +kernel
theorem dX9_known_23 : decode cX9_known 23 = .ok (.goto 5, 3) := by decide +kernel
theorem dX9_known_26 : decode cX9_known 26 = .ok (.ldc 134, 2) := by decide +kernel
theorem dX9_known_28 : decode cX9_known 28 = .ok (.ireturn, 1) := by decide +kernel
theorem dX9_groups_0 : decode cX9_groups 0 = .ok (.iload_n 1, 1) := by decide +kernel
theorem dX9_groups_1 : decode cX9_groups 1 = .ok (.bipush 100, 2) := by decide +kernel
theorem dX9_groups_3 : decode cX9_groups 3 = .ok (.if_icmp .ne 11, 3) := by decide +kernel
theorem dX9_groups_6 : decode cX9_groups 6 = .ok (.aload_n 0, 1) := by decide +kernel
theorem dX9_groups_7 : decode cX9_groups 7 = .ok (.getfield 19, 3) := by decide +kernel
theorem dX9_groups_10 : decode cX9_groups 10 = .ok (.invokevirtual 135, 3) := by decide +kernel
theorem dX9_groups_13 : decode cX9_groups 13 = .ok (.ireturn, 1) := by decide +kernel
theorem dX9_groups_14 : decode cX9_groups 14 = .ok (.iload_n 1, 1) := by decide +kernel
theorem dX9_groups_15 : decode cX9_groups 15 = .ok (.invokestatic 127, 3) := by decide +kernel
theorem dX9_groups_18 : decode cX9_groups 18 = .ok (.ifCond .eq 14, 3) := by decide +kernel
theorem dX9_groups_21 : decode cX9_groups 21 = .ok (.aload_n 0, 1) := by decide +kernel
theorem dX9_groups_22 : decode cX9_groups 22 = .ok (.getfield 19, 3) := by decide +kernel
theorem dX9_groups_25 : decode cX9_groups 25 = .ok (.iload_n 1, 1) := by decide +kernel
theorem dX9_groups_26 : decode cX9_groups 26 = .ok (.invokevirtual 139, 3) := by decide +kernel
theorem dX9_groups_29 : decode cX9_groups 29 = .ok (.goto 4, 3) := by decide +kernel
theorem dX9_groups_32 : decode cX9_groups 32 = .ok (.iconst (-1), 1) := by decide +kernel
theorem dX9_groups_33 : decode cX9_groups 33 = .ok (.ireturn, 1) := by decide +kernel
theorem dX9_bound_0 : decode cX9_bound 0 = .ok (.iload_n 1, 1) := by decide +kernel
theorem dX9_bound_1 : decode cX9_bound 1 = .ok (.invokestatic 127, 3) := by decide +kernel
theorem dX9_bound_4 : decode cX9_bound 4 = .ok (.ifCond .eq 20, 3) := by decide +kernel
theorem dX9_bound_7 : decode cX9_bound 7 = .ok (.iload_n 2, 1) := by decide +kernel
theorem dX9_bound_8 : decode cX9_bound 8 = .ok (.invokestatic 127, 3) := by decide +kernel
theorem dX9_bound_11 : decode cX9_bound 11 = .ok (.ifCond .eq 13, 3) := by decide +kernel
theorem dX9_bound_14 : decode cX9_bound 14 = .ok (.aload_n 0, 1) := by decide +kernel
theorem dX9_bound_15 : decode cX9_bound 15 = .ok (.getfield 29, 3) := by decide +kernel
theorem dX9_bound_18 : decode cX9_bound 18 = .ok (.getfield 143, 3) := by decide +kernel
theorem dX9_bound_21 : decode cX9_bound 21 = .ok (.ifCond .ne 6, 3) := by decide +kernel
theorem dX9_bound_24 : decode cX9_bound 24 = .ok (.ldc 134, 2) := by decide +kernel
theorem dX9_bound_26 : decode cX9_bound 26 = .ok (.ireturn, 1) := by decide +kernel
theorem dX9_bound_27 : decode cX9_bound 27 = .ok (.aload_n 0, 1) := by decide +kernel
theorem dX9_bound_28 : decode cX9_bound 28 = .ok (.getfield 29, 3) := by decide +kernel
theorem dX9_bound_31 : decode cX9_bound 31 = .ok (.iload_n 1, 1) := by decide +kernel
theorem dX9_bound_32 : decode cX9_bound 32 = .ok (.iload_n 2, 1) := by decide +kernel
theorem dX9_bound_33 : decode cX9_bound 33 = .ok (.invokevirtual 146, 3) := by decide +kernel
theorem dX9_bound_36 : decode cX9_bound 36 = .ok (.ireturn, 1) := by decide +kernel
theorem dX9_canBe_0 : decode cX9_canBe 0 = .ok (.iload_n 1, 1) := by decide +kernel
theorem dX9_canBe_1 : decode cX9_canBe 1 = .ok (.iconst 0, 1) := by decide +kernel
theorem dX9_canBe_2 : decode cX9_canBe 2 = .ok (.iconst 2, 1) := by decide +kernel
theorem dX9_canBe_3 : decode cX9_canBe 3 = .ok (.invokestatic 149, 3) := by decide +kernel
theorem dX9_canBe_6 : decode cX9_canBe 6 = .ok (.ifCond .ne 5, 3) := by decide +kernel
theorem dX9_canBe_9 : decode cX9_canBe 9 = .ok (.iconst (-1), 1) := by decide +kernel
theorem dX9_canBe_10 : decode cX9_canBe 10 = .ok (.ireturn, 1) := by decide +kernel
theorem dX9_canBe_11 : decode cX9_canBe 11 = .ok (.iload_n 1, 1) := by decide +kernel
theorem dX9_canBe_12 : decode cX9_canBe 12 = .ok (.ifCond .ne 19, 3) := by decide +kernel
theorem dX9_canBe_15 : decode cX9_canBe 15 = .ok (.aload_n 0, 1) := by decide +kernel
theorem dX9_canBe_16 : decode cX9_canBe 16 = .ok (.getfield 29, 3) := by decide +kernel
theorem dX9_canBe_19 : decode cX9_canBe 19 = .ok (.getfield 143, 3) := by decide +kernel
theorem dX9_canBe_22 : decode cX9_canBe 22 = .ok (.ifCond .eq 7, 3) := by decide +kernel
theorem dX9_canBe_25 : decode cX9_canBe 25 = .ok (.iconst 1, 1) := by decide +kernel
theorem dX9_canBe_26 : decode cX9_canBe 26 = .ok (.goto 4, 3) := by decide +kernel
theorem dX9_canBe_29 : decode cX9_canBe 29 = .ok (.iconst 0, 1) := by decide +kernel
theorem dX9_canBe_30 : decode cX9_canBe 30 = .ok (.ireturn, 1) := by decide +kernel
theorem dX9_canBe_31 : decode cX9_canBe 31 = .ok (.aload_n 0, 1) := by decide +kernel
theorem dX9_canBe_32 : decode cX9_canBe 32 = .ok (.getfield 29, 3) := by decide +kernel
theorem dX9_canBe_35 : decode cX9_canBe 35 = .ok (.getfield 143, 3) := by decide +kernel
theorem dX9_canBe_38 : decode cX9_canBe 38 = .ok (.ifCond .eq 6, 3) := by decide +kernel
theorem dX9_canBe_41 : decode cX9_canBe 41 = .ok (.bipush (-2), 2) := by decide +kernel
theorem dX9_canBe_43 : decode cX9_canBe 43 = .ok (.ireturn, 1) := by decide +kernel
theorem dX9_canBe_44 : decode cX9_canBe 44 = .ok (.aload_n 0, 1) := by decide +kernel
theorem dX9_canBe_45 : decode cX9_canBe 45 = .ok (.getfield 39, 3) := by decide +kernel
theorem dX9_canBe_48 : decode cX9_canBe 48 = .ok (.aload_n 0, 1) := by decide +kernel
theorem dX9_canBe_49 : decode cX9_canBe 49 = .ok (.getfield 29, 3) := by decide +kernel
theorem dX9_canBe_52 : decode cX9_canBe 52 = .ok (.getfield 152, 3) := by decide +kernel
theorem dX9_canBe_55 : decode cX9_canBe 55 = .ok (.invokevirtual 155, 3) := by decide +kernel
theorem dX9_canBe_58 : decode cX9_canBe 58 = .ok (.istore_n 2, 1) := by decide +kernel
theorem dX9_canBe_59 : decode cX9_canBe 59 = .ok (.iload_n 1, 1) := by decide +kernel
theorem dX9_canBe_60 : decode cX9_canBe 60 = .ok (.iconst 1, 1) := by decide +kernel
theorem dX9_canBe_61 : decode cX9_canBe 61 = .ok (.if_icmp .ne 7, 3) := by decide +kernel
theorem dX9_canBe_64 : decode cX9_canBe 64 = .ok (.iload_n 2, 1) := by decide +kernel
theorem dX9_canBe_65 : decode cX9_canBe 65 = .ok (.goto 18, 3) := by decide +kernel
theorem dX9_canBe_68 : decode cX9_canBe 68 = .ok (.aload_n 0, 1) := by decide +kernel
theorem dX9_canBe_69 : decode cX9_canBe 69 = .ok (.getfield 39, 3) := by decide +kernel
theorem dX9_canBe_72 : decode cX9_canBe 72 = .ok (.aload_n 0, 1) := by decide +kernel
theorem dX9_canBe_73 : decode cX9_canBe 73 = .ok (.getfield 29, 3) := by decide +kernel
theorem dX9_canBe_76 : decode cX9_canBe 76 = .ok (.getfield 152, 3) := by decide +kernel
theorem dX9_canBe_79 : decode cX9_canBe 79 = .ok (.iload_n 2, 1) := by decide +kernel
theorem dX9_canBe_80 : decode cX9_canBe 80 = .ok (.invokevirtual 159, 3) := by decide +kernel
theorem dX9_canBe_83 : decode cX9_canBe 83 = .ok (.ireturn, 1) := by decide +kernel
theorem dX9_idle_0 : decode cX9_idle 0 = .ok (.iload_n 1, 1) := by decide +kernel
theorem dX9_idle_1 : decode cX9_idle 1 = .ok (.iconst 0, 1) := by decide +kernel
theorem dX9_idle_2 : decode cX9_idle 2 = .ok (.iconst 1, 1) := by decide +kernel
theorem dX9_idle_3 : decode cX9_idle 3 = .ok (.invokestatic 149, 3) := by decide +kernel
theorem dX9_idle_6 : decode cX9_idle 6 = .ok (.ifCond .ne 5, 3) := by decide +kernel
theorem dX9_idle_9 : decode cX9_idle 9 = .ok (.iconst (-1), 1) := by decide +kernel
theorem dX9_idle_10 : decode cX9_idle 10 = .ok (.ireturn, 1) := by decide +kernel
theorem dX9_idle_11 : decode cX9_idle 11 = .ok (.aload_n 0, 1) := by decide +kernel
theorem dX9_idle_12 : decode cX9_idle 12 = .ok (.getfield 29, 3) := by decide +kernel
theorem dX9_idle_15 : decode cX9_idle 15 = .ok (.getfield 143, 3) := by decide +kernel
theorem dX9_idle_18 : decode cX9_idle 18 = .ok (.ifCond .ne 6, 3) := by decide +kernel
theorem dX9_idle_21 : decode cX9_idle 21 = .ok (.bipush (-3), 2) := by decide +kernel
theorem dX9_idle_23 : decode cX9_idle 23 = .ok (.ireturn, 1) := by decide +kernel
theorem dX9_idle_24 : decode cX9_idle 24 = .ok (.iconst 0, 1) := by decide +kernel
theorem dX9_idle_25 : decode cX9_idle 25 = .ok (.istore_n 2, 1) := by decide +kernel
theorem dX9_idle_26 : decode cX9_idle 26 = .ok (.bipush (-2), 2) := by decide +kernel
theorem dX9_idle_28 : decode cX9_idle 28 = .ok (.istore_n 3, 1) := by decide +kernel
theorem dX9_idle_29 : decode cX9_idle 29 = .ok (.iconst 0, 1) := by decide +kernel
theorem dX9_idle_30 : decode cX9_idle 30 = .ok (.istore 4, 2) := by decide +kernel
theorem dX9_idle_32 : decode cX9_idle 32 = .ok (.iload 4, 2) := by decide +kernel
theorem dX9_idle_34 : decode cX9_idle 34 = .ok (.aload_n 0, 1) := by decide +kernel
theorem dX9_idle_35 : decode cX9_idle 35 = .ok (.getfield 19, 3) := by decide +kernel
theorem dX9_idle_38 : decode cX9_idle 38 = .ok (.getfield 163, 3) := by decide +kernel
theorem dX9_idle_41 : decode cX9_idle 41 = .ok (.if_icmp .ge 50, 3) := by decide +kernel
theorem dX9_idle_44 : decode cX9_idle 44 = .ok (.aload_n 0, 1) := by decide +kernel
theorem dX9_idle_45 : decode cX9_idle 45 = .ok (.getfield 33, 3) := by decide +kernel
theorem dX9_idle_48 : decode cX9_idle 48 = .ok (.aload_n 0, 1) := by decide +kernel
theorem dX9_idle_49 : decode cX9_idle 49 = .ok (.getfield 19, 3) := by decide +kernel
theorem dX9_idle_52 : decode cX9_idle 52 = .ok (.iload 4, 2) := by decide +kernel
theorem dX9_idle_54 : decode cX9_idle 54 = .ok (.invokevirtual 90, 3) := by decide +kernel
theorem dX9_idle_57 : decode cX9_idle 57 = .ok (.aload_n 0, 1) := by decide +kernel
theorem dX9_idle_58 : decode cX9_idle 58 = .ok (.getfield 29, 3) := by decide +kernel
theorem dX9_idle_61 : decode cX9_idle 61 = .ok (.aload_n 0, 1) := by decide +kernel
theorem dX9_idle_62 : decode cX9_idle 62 = .ok (.getfield 33, 3) := by decide +kernel
theorem dX9_idle_65 : decode cX9_idle 65 = .ok (.invokevirtual 166, 3) := by decide +kernel
theorem dX9_idle_68 : decode cX9_idle 68 = .ok (.ifCond .eq 17, 3) := by decide +kernel
theorem dX9_idle_71 : decode cX9_idle 71 = .ok (.iload_n 2, 1) := by decide +kernel
theorem dX9_idle_72 : decode cX9_idle 72 = .ok (.ifCond .ne 8, 3) := by decide +kernel
theorem dX9_idle_75 : decode cX9_idle 75 = .ok (.iload 4, 2) := by decide +kernel
theorem dX9_idle_77 : decode cX9_idle 77 = .ok (.goto 4, 3) := by decide +kernel
theorem dX9_idle_80 : decode cX9_idle 80 = .ok (.iload_n 3, 1) := by decide +kernel
theorem dX9_idle_81 : decode cX9_idle 81 = .ok (.istore_n 3, 1) := by decide +kernel
theorem dX9_idle_82 : decode cX9_idle 82 = .ok (.iinc 2 1, 3) := by decide +kernel
theorem dX9_idle_85 : decode cX9_idle 85 = .ok (.iinc 4 1, 3) := by decide +kernel
theorem dX9_idle_88 : decode cX9_idle 88 = .ok (.goto (-56), 3) := by decide +kernel
theorem dX9_idle_91 : decode cX9_idle 91 = .ok (.iload_n 1, 1) := by decide +kernel
theorem dX9_idle_92 : decode cX9_idle 92 = .ok (.ifCond .ne 7, 3) := by decide +kernel
theorem dX9_idle_95 : decode cX9_idle 95 = .ok (.iload_n 2, 1) := by decide +kernel
theorem dX9_idle_96 : decode cX9_idle 96 = .ok (.goto 4, 3) := by decide +kernel
theorem dX9_idle_99 : decode cX9_idle 99 = .ok (.iload_n 3, 1) := by decide +kernel
theorem dX9_idle_100 : decode cX9_idle 100 = .ok (.ireturn, 1) := by decide +kernel
theorem dX9_surely_0 : decode cX9_surely 0 = .ok (.iload_n 1, 1) := by decide +kernel
theorem dX9_surely_1 : decode cX9_surely 1 = .ok (.invokestatic 127, 3) := by decide +kernel
theorem dX9_surely_4 : decode cX9_surely 4 = .ok (.ifCond .eq 12, 3) := by decide +kernel
theorem dX9_surely_7 : decode cX9_surely 7 = .ok (.iload_n 2, 1) := by decide +kernel
theorem dX9_surely_8 : decode cX9_surely 8 = .ok (.iconst 0, 1) := by decide +kernel
theorem dX9_surely_9 : decode cX9_surely 9 = .ok (.iconst 1, 1) := by decide +kernel
theorem dX9_surely_10 : decode cX9_surely 10 = .ok (.invokestatic 149, 3) := by decide +kernel
theorem dX9_surely_13 : decode cX9_surely 13 = .ok (.ifCond .ne 5, 3) := by decide +kernel
theorem dX9_surely_16 : decode cX9_surely 16 = .ok (.iconst (-1), 1) := by decide +kernel
theorem dX9_surely_17 : decode cX9_surely 17 = .ok (.ireturn, 1) := by decide +kernel
theorem dX9_surely_18 : decode cX9_surely 18 = .ok (.aload_n 0, 1) := by decide +kernel
theorem dX9_surely_19 : decode cX9_surely 19 = .ok (.getfield 29, 3) := by decide +kernel
theorem dX9_surely_22 : decode cX9_surely 22 = .ok (.getfield 143, 3) := by decide +kernel
theorem dX9_surely_25 : decode cX9_surely 25 = .ok (.ifCond .ne 6, 3) := by decide +kernel
theorem dX9_surely_28 : decode cX9_surely 28 = .ok (.bipush (-3), 2) := by decide +kernel
theorem dX9_surely_30 : decode cX9_surely 30 = .ok (.ireturn, 1) := by decide +kernel
theorem dX9_surely_31 : decode cX9_surely 31 = .ok (.iload_n 2, 1) := by decide +kernel
theorem dX9_surely_32 : decode cX9_surely 32 = .ok (.ifCond .ne 14, 3) := by decide +kernel
theorem dX9_surely_35 : decode cX9_surely 35 = .ok (.aload_n 0, 1) := by decide +kernel
theorem dX9_surely_36 : decode cX9_surely 36 = .ok (.getfield 29, 3) := by decide +kernel
theorem dX9_surely_39 : decode cX9_surely 39 = .ok (.iload_n 1, 1) := by decide +kernel
theorem dX9_surely_40 : decode cX9_surely 40 = .ok (.invokevirtual 170, 3) := by decide +kernel
theorem dX9_surely_43 : decode cX9_surely 43 = .ok (.goto 11, 3) := by decide +kernel
theorem dX9_surely_46 : decode cX9_surely 46 = .ok (.aload_n 0, 1) := by decide +kernel
theorem dX9_surely_47 : decode cX9_surely 47 = .ok (.getfield 29, 3) := by decide +kernel
theorem dX9_surely_50 : decode cX9_surely 50 = .ok (.iload_n 1, 1) := by decide +kernel
theorem dX9_surely_51 : decode cX9_surely 51 = .ok (.invokevirtual 173, 3) := by decide +kernel
theorem dX9_surely_54 : decode cX9_surely 54 = .ok (.ireturn, 1) := by decide +kernel
theorem dX9_lightest_0 : decode cX9_lightest 0 = .ok (.iload_n 1, 1) := by decide +kernel
theorem dX9_lightest_1 : decode cX9_lightest 1 = .ok (.invokestatic 127, 3) := by decide +kernel
theorem dX9_lightest_4 : decode cX9_lightest 4 = .ok (.ifCond .ne 5, 3) := by decide +kernel
theorem dX9_lightest_7 : decode cX9_lightest 7 = .ok (.iconst (-1), 1) := by decide +kernel
theorem dX9_lightest_8 : decode cX9_lightest 8 = .ok (.ireturn, 1) := by decide +kernel
theorem dX9_lightest_9 : decode cX9_lightest 9 = .ok (.aload_n 0, 1) := by decide +kernel
theorem dX9_lightest_10 : decode cX9_lightest 10 = .ok (.getfield 29, 3) := by decide +kernel
theorem dX9_lightest_13 : decode cX9_lightest 13 = .ok (.getfield 143, 3) := by decide +kernel
theorem dX9_lightest_16 : decode cX9_lightest 16 = .ok (.ifCond .eq 14, 3) := by decide +kernel
theorem dX9_lightest_19 : decode cX9_lightest 19 = .ok (.aload_n 0, 1) := by decide +kernel
theorem dX9_lightest_20 : decode cX9_lightest 20 = .ok (.getfield 29, 3) := by decide +kernel
theorem dX9_lightest_23 : decode cX9_lightest 23 = .ok (.iload_n 1, 1) := by decide +kernel
theorem dX9_lightest_24 : decode cX9_lightest 24 = .ok (.invokevirtual 176, 3) := by decide +kernel
theorem dX9_lightest_27 : decode cX9_lightest 27 = .ok (.goto 5, 3) := by decide +kernel
theorem dX9_lightest_30 : decode cX9_lightest 30 = .ok (.bipush (-3), 2) := by decide +kernel
theorem dX9_lightest_32 : decode cX9_lightest 32 = .ok (.ireturn, 1) := by decide +kernel
theorem dX9_slack_0 : decode cX9_slack 0 = .ok (.aload_n 0, 1) := by decide +kernel
theorem dX9_slack_1 : decode cX9_slack 1 = .ok (.getfield 19, 3) := by decide +kernel
theorem dX9_slack_4 : decode cX9_slack 4 = .ok (.iload_n 1, 1) := by decide +kernel
theorem dX9_slack_5 : decode cX9_slack 5 = .ok (.invokevirtual 179, 3) := by decide +kernel
theorem dX9_slack_8 : decode cX9_slack 8 = .ok (.ifCond .eq 13, 3) := by decide +kernel
theorem dX9_slack_11 : decode cX9_slack 11 = .ok (.aload_n 0, 1) := by decide +kernel
theorem dX9_slack_12 : decode cX9_slack 12 = .ok (.getfield 29, 3) := by decide +kernel
theorem dX9_slack_15 : decode cX9_slack 15 = .ok (.getfield 143, 3) := by decide +kernel
theorem dX9_slack_18 : decode cX9_slack 18 = .ok (.ifCond .ne 6, 3) := by decide +kernel
theorem dX9_slack_21 : decode cX9_slack 21 = .ok (.ldc 134, 2) := by decide +kernel
theorem dX9_slack_23 : decode cX9_slack 23 = .ok (.ireturn, 1) := by decide +kernel
theorem dX9_slack_24 : decode cX9_slack 24 = .ok (.aload_n 0, 1) := by decide +kernel
theorem dX9_slack_25 : decode cX9_slack 25 = .ok (.getfield 19, 3) := by decide +kernel
theorem dX9_slack_28 : decode cX9_slack 28 = .ok (.getfield 182, 3) := by decide +kernel
theorem dX9_slack_31 : decode cX9_slack 31 = .ok (.iload_n 1, 1) := by decide +kernel
theorem dX9_slack_32 : decode cX9_slack 32 = .ok (.iaload, 1) := by decide +kernel
theorem dX9_slack_33 : decode cX9_slack 33 = .ok (.istore_n 2, 1) := by decide +kernel
theorem dX9_slack_34 : decode cX9_slack 34 = .ok (.aload_n 0, 1) := by decide +kernel
theorem dX9_slack_35 : decode cX9_slack 35 = .ok (.getfield 19, 3) := by decide +kernel
theorem dX9_slack_38 : decode cX9_slack 38 = .ok (.getfield 185, 3) := by decide +kernel
theorem dX9_slack_41 : decode cX9_slack 41 = .ok (.iload_n 1, 1) := by decide +kernel
theorem dX9_slack_42 : decode cX9_slack 42 = .ok (.iaload, 1) := by decide +kernel
theorem dX9_slack_43 : decode cX9_slack 43 = .ok (.istore_n 3, 1) := by decide +kernel
theorem dX9_slack_44 : decode cX9_slack 44 = .ok (.aload_n 0, 1) := by decide +kernel
theorem dX9_slack_45 : decode cX9_slack 45 = .ok (.getfield 19, 3) := by decide +kernel
theorem dX9_slack_48 : decode cX9_slack 48 = .ok (.getfield 188, 3) := by decide +kernel
theorem dX9_slack_51 : decode cX9_slack 51 = .ok (.iload_n 1, 1) := by decide +kernel
theorem dX9_slack_52 : decode cX9_slack 52 = .ok (.iaload, 1) := by decide +kernel
theorem dX9_slack_53 : decode cX9_slack 53 = .ok (.ifCond .ne 5, 3) := by decide +kernel
theorem dX9_slack_56 : decode cX9_slack 56 = .ok (.iconst 0, 1) := by decide +kernel
theorem dX9_slack_57 : decode cX9_slack 57 = .ok (.ireturn, 1) := by decide +kernel
theorem dX9_slack_58 : decode cX9_slack 58 = .ok (.aload_n 0, 1) := by decide +kernel
theorem dX9_slack_59 : decode cX9_slack 59 = .ok (.getfield 19, 3) := by decide +kernel
theorem dX9_slack_62 : decode cX9_slack 62 = .ok (.getfield 188, 3) := by decide +kernel
theorem dX9_slack_65 : decode cX9_slack 65 = .ok (.iload_n 1, 1) := by decide +kernel
theorem dX9_slack_66 : decode cX9_slack 66 = .ok (.iaload, 1) := by decide +kernel
theorem dX9_slack_67 : decode cX9_slack 67 = .ok (.iconst 1, 1) := by decide +kernel
theorem dX9_slack_68 : decode cX9_slack 68 = .ok (.if_icmp .ne 23, 3) := by decide +kernel
theorem dX9_slack_71 : decode cX9_slack 71 = .ok (.aload_n 0, 1) := by decide +kernel
theorem dX9_slack_72 : decode cX9_slack 72 = .ok (.getfield 19, 3) := by decide +kernel
theorem dX9_slack_75 : decode cX9_slack 75 = .ok (.getfield 191, 3) := by decide +kernel
theorem dX9_slack_78 : decode cX9_slack 78 = .ok (.iload_n 1, 1) := by decide +kernel
theorem dX9_slack_79 : decode cX9_slack 79 = .ok (.iaload, 1) := by decide +kernel
theorem dX9_slack_80 : decode cX9_slack 80 = .ok (.aload_n 0, 1) := by decide +kernel
theorem dX9_slack_81 : decode cX9_slack 81 = .ok (.getfield 29, 3) := by decide +kernel
theorem dX9_slack_84 : decode cX9_slack 84 = .ok (.iload_n 2, 1) := by decide +kernel
theorem dX9_slack_85 : decode cX9_slack 85 = .ok (.iload_n 3, 1) := by decide +kernel
theorem dX9_slack_86 : decode cX9_slack 86 = .ok (.invokevirtual 146, 3) := by decide +kernel
theorem dX9_slack_89 : decode cX9_slack 89 = .ok (.isub, 1) := by decide +kernel
theorem dX9_slack_90 : decode cX9_slack 90 = .ok (.ireturn, 1) := by decide +kernel
theorem dX9_slack_91 : decode cX9_slack 91 = .ok (.aload_n 0, 1) := by decide +kernel
theorem dX9_slack_92 : decode cX9_slack 92 = .ok (.getfield 19, 3) := by decide +kernel
theorem dX9_slack_95 : decode cX9_slack 95 = .ok (.getfield 191, 3) := by decide +kernel
theorem dX9_slack_98 : decode cX9_slack 98 = .ok (.iload_n 1, 1) := by decide +kernel
theorem dX9_slack_99 : decode cX9_slack 99 = .ok (.iaload, 1) := by decide +kernel
theorem dX9_slack_100 : decode cX9_slack 100 = .ok (.ineg, 1) := by decide +kernel
theorem dX9_slack_101 : decode cX9_slack 101 = .ok (.aload_n 0, 1) := by decide +kernel
theorem dX9_slack_102 : decode cX9_slack 102 = .ok (.getfield 29, 3) := by decide +kernel
theorem dX9_slack_105 : decode cX9_slack 105 = .ok (.iload_n 3, 1) := by decide +kernel
theorem dX9_slack_106 : decode cX9_slack 106 = .ok (.iload_n 2, 1) := by decide +kernel
theorem dX9_slack_107 : decode cX9_slack 107 = .ok (.invokevirtual 146, 3) := by decide +kernel
theorem dX9_slack_110 : decode cX9_slack 110 = .ok (.isub, 1) := by decide +kernel
theorem dX9_slack_111 : decode cX9_slack 111 = .ok (.ireturn, 1) := by decide +kernel
theorem dX9_chain_0 : decode cX9_chain 0 = .ok (.iload_n 1, 1) := by decide +kernel
theorem dX9_chain_1 : decode cX9_chain 1 = .ok (.iconst 0, 1) := by decide +kernel
theorem dX9_chain_2 : decode cX9_chain 2 = .ok (.iconst 1, 1) := by decide +kernel
theorem dX9_chain_3 : decode cX9_chain 3 = .ok (.invokestatic 149, 3) := by decide +kernel
theorem dX9_chain_6 : decode cX9_chain 6 = .ok (.ifCond .ne 5, 3) := by decide +kernel
theorem dX9_chain_9 : decode cX9_chain 9 = .ok (.iconst (-1), 1) := by decide +kernel
theorem dX9_chain_10 : decode cX9_chain 10 = .ok (.ireturn, 1) := by decide +kernel
theorem dX9_chain_11 : decode cX9_chain 11 = .ok (.aload_n 0, 1) := by decide +kernel
theorem dX9_chain_12 : decode cX9_chain 12 = .ok (.getfield 29, 3) := by decide +kernel
theorem dX9_chain_15 : decode cX9_chain 15 = .ok (.getfield 143, 3) := by decide +kernel
theorem dX9_chain_18 : decode cX9_chain 18 = .ok (.ifCond .ne 6, 3) := by decide +kernel
theorem dX9_chain_21 : decode cX9_chain 21 = .ok (.bipush (-3), 2) := by decide +kernel
theorem dX9_chain_23 : decode cX9_chain 23 = .ok (.ireturn, 1) := by decide +kernel
theorem dX9_chain_24 : decode cX9_chain 24 = .ok (.aload_n 0, 1) := by decide +kernel
theorem dX9_chain_25 : decode cX9_chain 25 = .ok (.getfield 86, 3) := by decide +kernel
theorem dX9_chain_28 : decode cX9_chain 28 = .ok (.astore_n 2, 1) := by decide +kernel
theorem dX9_chain_29 : decode cX9_chain 29 = .ok (.aload_n 0, 1) := by decide +kernel
theorem dX9_chain_30 : decode cX9_chain 30 = .ok (.getfield 29, 3) := by decide +kernel
theorem dX9_chain_33 : decode cX9_chain 33 = .ok (.aload_n 2, 1) := by decide +kernel
theorem dX9_chain_34 : decode cX9_chain 34 = .ok (.invokevirtual 194, 3) := by decide +kernel
theorem dX9_chain_37 : decode cX9_chain 37 = .ok (.iconst 0, 1) := by decide +kernel
theorem dX9_chain_38 : decode cX9_chain 38 = .ok (.istore_n 3, 1) := by decide +kernel
theorem dX9_chain_39 : decode cX9_chain 39 = .ok (.iconst 1, 1) := by decide +kernel
theorem dX9_chain_40 : decode cX9_chain 40 = .ok (.istore 4, 2) := by decide +kernel
theorem dX9_chain_42 : decode cX9_chain 42 = .ok (.iload 4, 2) := by decide +kernel
theorem dX9_chain_44 : decode cX9_chain 44 = .ok (.bipush 12, 2) := by decide +kernel
theorem dX9_chain_46 : decode cX9_chain 46 = .ok (.if_icmp .ge 22, 3) := by decide +kernel
theorem dX9_chain_49 : decode cX9_chain 49 = .ok (.aload_n 2, 1) := by decide +kernel
theorem dX9_chain_50 : decode cX9_chain 50 = .ok (.iload 4, 2) := by decide +kernel
theorem dX9_chain_52 : decode cX9_chain 52 = .ok (.iaload, 1) := by decide +kernel
theorem dX9_chain_53 : decode cX9_chain 53 = .ok (.aload_n 2, 1) := by decide +kernel
theorem dX9_chain_54 : decode cX9_chain 54 = .ok (.iload_n 3, 1) := by decide +kernel
theorem dX9_chain_55 : decode cX9_chain 55 = .ok (.iaload, 1) := by decide +kernel
theorem dX9_chain_56 : decode cX9_chain 56 = .ok (.if_icmp .le 6, 3) := by decide +kernel
theorem dX9_chain_59 : decode cX9_chain 59 = .ok (.iload 4, 2) := by decide +kernel
theorem dX9_chain_61 : decode cX9_chain 61 = .ok (.istore_n 3, 1) := by decide +kernel
theorem dX9_chain_62 : decode cX9_chain 62 = .ok (.iinc 4 1, 3) := by decide +kernel
theorem dX9_chain_65 : decode cX9_chain 65 = .ok (.goto (-23), 3) := by decide +kernel
theorem dX9_chain_68 : decode cX9_chain 68 = .ok (.iload_n 1, 1) := by decide +kernel
theorem dX9_chain_69 : decode cX9_chain 69 = .ok (.ifCond .ne 9, 3) := by decide +kernel
theorem dX9_chain_72 : decode cX9_chain 72 = .ok (.aload_n 2, 1) := by decide +kernel
theorem dX9_chain_73 : decode cX9_chain 73 = .ok (.iload_n 3, 1) := by decide +kernel
theorem dX9_chain_74 : decode cX9_chain 74 = .ok (.iaload, 1) := by decide +kernel
theorem dX9_chain_75 : decode cX9_chain 75 = .ok (.goto 4, 3) := by decide +kernel
theorem dX9_chain_78 : decode cX9_chain 78 = .ok (.iload_n 3, 1) := by decide +kernel
theorem dX9_chain_79 : decode cX9_chain 79 = .ok (.ireturn, 1) := by decide +kernel
theorem dX9_orders_0 : decode cX9_orders 0 = .ok (.iload_n 1, 1) := by decide +kernel
theorem dX9_orders_1 : decode cX9_orders 1 = .ok (.iconst 0, 1) := by decide +kernel
theorem dX9_orders_2 : decode cX9_orders 2 = .ok (.sipush 4095, 3) := by decide +kernel
theorem dX9_orders_5 : decode cX9_orders 5 = .ok (.invokestatic 149, 3) := by decide +kernel
theorem dX9_orders_8 : decode cX9_orders 8 = .ok (.ifCond .ne 5, 3) := by decide +kernel
theorem dX9_orders_11 : decode cX9_orders 11 = .ok (.iconst (-1), 1) := by decide +kernel
theorem dX9_orders_12 : decode cX9_orders 12 = .ok (.ireturn, 1) := by decide +kernel
theorem dX9_orders_13 : decode cX9_orders 13 = .ok (.aload_n 0, 1) := by decide +kernel
theorem dX9_orders_14 : decode cX9_orders 14 = .ok (.getfield 29, 3) := by decide +kernel
theorem dX9_orders_17 : decode cX9_orders 17 = .ok (.getfield 143, 3) := by decide +kernel
theorem dX9_orders_20 : decode cX9_orders 20 = .ok (.ifCond .eq 18, 3) := by decide +kernel
theorem dX9_orders_23 : decode cX9_orders 23 = .ok (.aload_n 0, 1) := by decide +kernel
theorem dX9_orders_24 : decode cX9_orders 24 = .ok (.getfield 29, 3) := by decide +kernel
theorem dX9_orders_27 : decode cX9_orders 27 = .ok (.iload_n 1, 1) := by decide +kernel
theorem dX9_orders_28 : decode cX9_orders 28 = .ok (.aload_n 0, 1) := by decide +kernel
theorem dX9_orders_29 : decode cX9_orders 29 = .ok (.getfield 86, 3) := by decide +kernel
theorem dX9_orders_32 : decode cX9_orders 32 = .ok (.invokevirtual 198, 3) := by decide +kernel
theorem dX9_orders_35 : decode cX9_orders 35 = .ok (.goto 5, 3) := by decide +kernel
theorem dX9_orders_38 : decode cX9_orders 38 = .ok (.bipush (-3), 2) := by decide +kernel
theorem dX9_orders_40 : decode cX9_orders 40 = .ok (.ireturn, 1) := by decide +kernel
theorem dX9_weighings_0 : decode cX9_weighings 0 = .ok (.iload_n 1, 1) := by decide +kernel
theorem dX9_weighings_1 : decode cX9_weighings 1 = .ok (.iconst 1, 1) := by decide +kernel
theorem dX9_weighings_2 : decode cX9_weighings 2 = .ok (.sipush 4095, 3) := by decide +kernel
theorem dX9_weighings_5 : decode cX9_weighings 5 = .ok (.invokestatic 149, 3) := by decide +kernel
theorem dX9_weighings_8 : decode cX9_weighings 8 = .ok (.ifCond .eq 21, 3) := by decide +kernel
theorem dX9_weighings_11 : decode cX9_weighings 11 = .ok (.iload_n 1, 1) := by decide +kernel
theorem dX9_weighings_12 : decode cX9_weighings 12 = .ok (.invokestatic 202, 3) := by decide +kernel
theorem dX9_weighings_15 : decode cX9_weighings 15 = .ok (.iconst 4, 1) := by decide +kernel
theorem dX9_weighings_16 : decode cX9_weighings 16 = .ok (.if_icmp .gt 13, 3) := by decide +kernel
theorem dX9_weighings_19 : decode cX9_weighings 19 = .ok (.iload_n 2, 1) := by decide +kernel
theorem dX9_weighings_20 : decode cX9_weighings 20 = .ok (.iconst 0, 1) := by decide +kernel
theorem dX9_weighings_21 : decode cX9_weighings 21 = .ok (.bipush 9, 2) := by decide +kernel
theorem dX9_weighings_23 : decode cX9_weighings 23 = .ok (.invokestatic 149, 3) := by decide +kernel
theorem dX9_weighings_26 : decode cX9_weighings 26 = .ok (.ifCond .ne 5, 3) := by decide +kernel
theorem dX9_weighings_29 : decode cX9_weighings 29 = .ok (.iconst (-1), 1) := by decide +kernel
theorem dX9_weighings_30 : decode cX9_weighings 30 = .ok (.ireturn, 1) := by decide +kernel
theorem dX9_weighings_31 : decode cX9_weighings 31 = .ok (.aload_n 0, 1) := by decide +kernel
theorem dX9_weighings_32 : decode cX9_weighings 32 = .ok (.getfield 29, 3) := by decide +kernel
theorem dX9_weighings_35 : decode cX9_weighings 35 = .ok (.getfield 152, 3) := by decide +kernel
theorem dX9_weighings_38 : decode cX9_weighings 38 = .ok (.aload_n 0, 1) := by decide +kernel
theorem dX9_weighings_39 : decode cX9_weighings 39 = .ok (.getfield 86, 3) := by decide +kernel
theorem dX9_weighings_42 : decode cX9_weighings 42 = .ok (.iconst 0, 1) := by decide +kernel
theorem dX9_weighings_43 : decode cX9_weighings 43 = .ok (.iload_n 1, 1) := by decide +kernel
theorem dX9_weighings_44 : decode cX9_weighings 44 = .ok (.iload_n 2, 1) := by decide +kernel
theorem dX9_weighings_45 : decode cX9_weighings 45 = .ok (.invokestatic 207, 3) := by decide +kernel
theorem dX9_weighings_48 : decode cX9_weighings 48 = .ok (.ireturn, 1) := by decide +kernel
theorem dX9_claimIs_0 : decode cX9_claimIs 0 = .ok (.aload_n 0, 1) := by decide +kernel
theorem dX9_claimIs_1 : decode cX9_claimIs 1 = .ok (.getfield 19, 3) := by decide +kernel
theorem dX9_claimIs_4 : decode cX9_claimIs 4 = .ok (.iload_n 1, 1) := by decide +kernel
theorem dX9_claimIs_5 : decode cX9_claimIs 5 = .ok (.invokevirtual 179, 3) := by decide +kernel
theorem dX9_claimIs_8 : decode cX9_claimIs 8 = .ok (.ifCond .ne 6, 3) := by decide +kernel
theorem dX9_claimIs_11 : decode cX9_claimIs 11 = .ok (.ldc 211, 2) := by decide +kernel
theorem dX9_claimIs_13 : decode cX9_claimIs 13 = .ok (.ireturn, 1) := by decide +kernel
theorem dX9_claimIs_14 : decode cX9_claimIs 14 = .ok (.iload_n 2, 1) := by decide +kernel
theorem dX9_claimIs_15 : decode cX9_claimIs 15 = .ok (.tableswitch 69 0 3 #[29, 39, 49, 59], 29) := by decide +kernel
theorem dX9_claimIs_44 : decode cX9_claimIs 44 = .ok (.aload_n 0, 1) := by decide +kernel
theorem dX9_claimIs_45 : decode cX9_claimIs 45 = .ok (.getfield 19, 3) := by decide +kernel
theorem dX9_claimIs_48 : decode cX9_claimIs 48 = .ok (.getfield 182, 3) := by decide +kernel
theorem dX9_claimIs_51 : decode cX9_claimIs 51 = .ok (.iload_n 1, 1) := by decide +kernel
theorem dX9_claimIs_52 : decode cX9_claimIs 52 = .ok (.iaload, 1) := by decide +kernel
theorem dX9_claimIs_53 : decode cX9_claimIs 53 = .ok (.ireturn, 1) := by decide +kernel
theorem dX9_claimIs_54 : decode cX9_claimIs 54 = .ok (.aload_n 0, 1) := by decide +kernel
theorem dX9_claimIs_55 : decode cX9_claimIs 55 = .ok (.getfield 19, 3) := by decide +kernel
theorem dX9_claimIs_58 : decode cX9_claimIs 58 = .ok (.getfield 185, 3) := by decide +kernel
theorem dX9_claimIs_61 : decode cX9_claimIs 61 = .ok (.iload_n 1, 1) := by decide +kernel
theorem dX9_claimIs_62 : decode cX9_claimIs 62 = .ok (.iaload, 1) := by decide +kernel
theorem dX9_claimIs_63 : decode cX9_claimIs 63 = .ok (.ireturn, 1) := by decide +kernel
theorem dX9_claimIs_64 : decode cX9_claimIs 64 = .ok (.aload_n 0, 1) := by decide +kernel
theorem dX9_claimIs_65 : decode cX9_claimIs 65 = .ok (.getfield 19, 3) := by decide +kernel
theorem dX9_claimIs_68 : decode cX9_claimIs 68 = .ok (.getfield 188, 3) := by decide +kernel
theorem dX9_claimIs_71 : decode cX9_claimIs 71 = .ok (.iload_n 1, 1) := by decide +kernel
theorem dX9_claimIs_72 : decode cX9_claimIs 72 = .ok (.iaload, 1) := by decide +kernel
theorem dX9_claimIs_73 : decode cX9_claimIs 73 = .ok (.ireturn, 1) := by decide +kernel
theorem dX9_claimIs_74 : decode cX9_claimIs 74 = .ok (.aload_n 0, 1) := by decide +kernel
theorem dX9_claimIs_75 : decode cX9_claimIs 75 = .ok (.getfield 19, 3) := by decide +kernel
theorem dX9_claimIs_78 : decode cX9_claimIs 78 = .ok (.getfield 191, 3) := by decide +kernel
theorem dX9_claimIs_81 : decode cX9_claimIs 81 = .ok (.iload_n 1, 1) := by decide +kernel
theorem dX9_claimIs_82 : decode cX9_claimIs 82 = .ok (.iaload, 1) := by decide +kernel
theorem dX9_claimIs_83 : decode cX9_claimIs 83 = .ok (.ireturn, 1) := by decide +kernel
theorem dX9_claimIs_84 : decode cX9_claimIs 84 = .ok (.ldc 211, 2) := by decide +kernel
theorem dX9_claimIs_86 : decode cX9_claimIs 86 = .ok (.ireturn, 1) := by decide +kernel
theorem dX9_row_0 : decode cX9_row 0 = .ok (.iload_n 1, 1) := by decide +kernel
theorem dX9_row_1 : decode cX9_row 1 = .ok (.iconst 2, 1) := by decide +kernel
theorem dX9_row_2 : decode cX9_row 2 = .ok (.bipush 12, 2) := by decide +kernel
theorem dX9_row_4 : decode cX9_row 4 = .ok (.invokestatic 149, 3) := by decide +kernel
theorem dX9_row_7 : decode cX9_row 7 = .ok (.ifCond .eq 28, 3) := by decide +kernel
theorem dX9_row_10 : decode cX9_row 10 = .ok (.iload_n 2, 1) := by decide +kernel
theorem dX9_row_11 : decode cX9_row 11 = .ok (.iconst 0, 1) := by decide +kernel
theorem dX9_row_12 : decode cX9_row 12 = .ok (.iconst 1, 1) := by decide +kernel
theorem dX9_row_13 : decode cX9_row 13 = .ok (.invokestatic 149, 3) := by decide +kernel
theorem dX9_row_16 : decode cX9_row 16 = .ok (.ifCond .eq 19, 3) := by decide +kernel
theorem dX9_row_19 : decode cX9_row 19 = .ok (.aload_n 0, 1) := by decide +kernel
theorem dX9_row_20 : decode cX9_row 20 = .ok (.getfield 12, 3) := by decide +kernel
theorem dX9_row_23 : decode cX9_row 23 = .ok (.iconst 2, 1) := by decide +kernel
theorem dX9_row_24 : decode cX9_row 24 = .ok (.iload_n 1, 1) := by decide +kernel
theorem dX9_row_25 : decode cX9_row 25 = .ok (.imul, 1) := by decide +kernel
theorem dX9_row_26 : decode cX9_row 26 = .ok (.iconst 4, 1) := by decide +kernel
theorem dX9_row_27 : decode cX9_row 27 = .ok (.bipush 24, 2) := by decide +kernel
theorem dX9_row_29 : decode cX9_row 29 = .ok (.invokevirtual 106, 3) := by decide +kernel
theorem dX9_row_32 : decode cX9_row 32 = .ok (.ifCond .ne 7, 3) := by decide +kernel
theorem dX9_row_35 : decode cX9_row 35 = .ok (.ldc2_w 214, 3) := by decide +kernel
theorem dX9_row_38 : decode cX9_row 38 = .ok (.lreturn, 1) := by decide +kernel
theorem dX9_row_39 : decode cX9_row 39 = .ok (.aload_n 0, 1) := by decide +kernel
theorem dX9_row_40 : decode cX9_row 40 = .ok (.getfield 12, 3) := by decide +kernel
theorem dX9_row_43 : decode cX9_row 43 = .ok (.iload_n 1, 1) := by decide +kernel
theorem dX9_row_44 : decode cX9_row 44 = .ok (.invokevirtual 216, 3) := by decide +kernel
theorem dX9_row_47 : decode cX9_row 47 = .ok (.astore_n 3, 1) := by decide +kernel
theorem dX9_row_48 : decode cX9_row 48 = .ok (.iload_n 2, 1) := by decide +kernel
theorem dX9_row_49 : decode cX9_row 49 = .ok (.ifCond .ne 12, 3) := by decide +kernel
theorem dX9_row_52 : decode cX9_row 52 = .ok (.aload_n 3, 1) := by decide +kernel
theorem dX9_row_53 : decode cX9_row 53 = .ok (.iload_n 1, 1) := by decide +kernel
theorem dX9_row_54 : decode cX9_row 54 = .ok (.invokestatic 220, 3) := by decide +kernel
theorem dX9_row_57 : decode cX9_row 57 = .ok (.i2l, 1) := by decide +kernel
theorem dX9_row_58 : decode cX9_row 58 = .ok (.goto 8, 3) := by decide +kernel
theorem dX9_row_61 : decode cX9_row 61 = .ok (.aload_n 3, 1) := by decide +kernel
theorem dX9_row_62 : decode cX9_row 62 = .ok (.iload_n 1, 1) := by decide +kernel
theorem dX9_row_63 : decode cX9_row 63 = .ok (.invokestatic 225, 3) := by decide +kernel
theorem dX9_row_66 : decode cX9_row 66 = .ok (.lreturn, 1) := by decide +kernel
theorem dX9_walk_0 : decode cX9_walk 0 = .ok (.iload_n 2, 1) := by decide +kernel
theorem dX9_walk_1 : decode cX9_walk 1 = .ok (.iconst 0, 1) := by decide +kernel
theorem dX9_walk_2 : decode cX9_walk 2 = .ok (.iconst 3, 1) := by decide +kernel
theorem dX9_walk_3 : decode cX9_walk 3 = .ok (.invokestatic 149, 3) := by decide +kernel
theorem dX9_walk_6 : decode cX9_walk 6 = .ok (.ifCond .eq 17, 3) := by decide +kernel
theorem dX9_walk_9 : decode cX9_walk 9 = .ok (.aload_n 0, 1) := by decide +kernel
theorem dX9_walk_10 : decode cX9_walk 10 = .ok (.getfield 12, 3) := by decide +kernel
theorem dX9_walk_13 : decode cX9_walk 13 = .ok (.iload_n 1, 1) := by decide +kernel
theorem dX9_walk_14 : decode cX9_walk 14 = .ok (.iconst 1, 1) := by decide +kernel
theorem dX9_walk_15 : decode cX9_walk 15 = .ok (.bipush 20, 2) := by decide +kernel
theorem dX9_walk_17 : decode cX9_walk 17 = .ok (.invokevirtual 106, 3) := by decide +kernel
theorem dX9_walk_20 : decode cX9_walk 20 = .ok (.ifCond .ne 6, 3) := by decide +kernel
theorem dX9_walk_23 : decode cX9_walk 23 = .ok (.ldc 134, 2) := by decide +kernel
theorem dX9_walk_25 : decode cX9_walk 25 = .ok (.ireturn, 1) := by decide +kernel
theorem dX9_walk_26 : decode cX9_walk 26 = .ok (.aload_n 0, 1) := by decide +kernel
theorem dX9_walk_27 : decode cX9_walk 27 = .ok (.getfield 12, 3) := by decide +kernel
theorem dX9_walk_30 : decode cX9_walk 30 = .ok (.iload_n 1, 1) := by decide +kernel
theorem dX9_walk_31 : decode cX9_walk 31 = .ok (.invokevirtual 229, 3) := by decide +kernel
theorem dX9_walk_34 : decode cX9_walk 34 = .ok (.astore_n 3, 1) := by decide +kernel
theorem dX9_walk_35 : decode cX9_walk 35 = .ok (.iconst 0, 1) := by decide +kernel
theorem dX9_walk_36 : decode cX9_walk 36 = .ok (.istore 4, 2) := by decide +kernel
theorem dX9_walk_38 : decode cX9_walk 38 = .ok (.iload 4, 2) := by decide +kernel
theorem dX9_walk_40 : decode cX9_walk 40 = .ok (.iload_n 1, 1) := by decide +kernel
theorem dX9_walk_41 : decode cX9_walk 41 = .ok (.if_icmp .ge 37, 3) := by decide +kernel
theorem dX9_walk_44 : decode cX9_walk 44 = .ok (.aload_n 3, 1) := by decide +kernel
theorem dX9_walk_45 : decode cX9_walk 45 = .ok (.iload 4, 2) := by decide +kernel
theorem dX9_walk_47 : decode cX9_walk 47 = .ok (.aload_n 3, 1) := by decide +kernel
theorem dX9_walk_48 : decode cX9_walk 48 = .ok (.iload 4, 2) := by decide +kernel
theorem dX9_walk_50 : decode cX9_walk 50 = .ok (.iaload, 1) := by decide +kernel
theorem dX9_walk_51 : decode cX9_walk 51 = .ok (.bipush 127, 2) := by decide +kernel
theorem dX9_walk_53 : decode cX9_walk 53 = .ok (.if_icmp .le 14, 3) := by decide +kernel
theorem dX9_walk_56 : decode cX9_walk 56 = .ok (.aload_n 3, 1) := by decide +kernel
theorem dX9_walk_57 : decode cX9_walk 57 = .ok (.iload 4, 2) := by decide +kernel
theorem dX9_walk_59 : decode cX9_walk 59 = .ok (.iaload, 1) := by decide +kernel
theorem dX9_walk_60 : decode cX9_walk 60 = .ok (.sipush 256, 3) := by decide +kernel
theorem dX9_walk_63 : decode cX9_walk 63 = .ok (.isub, 1) := by decide +kernel
theorem dX9_walk_64 : decode cX9_walk 64 = .ok (.goto 7, 3) := by decide +kernel
theorem dX9_walk_67 : decode cX9_walk 67 = .ok (.aload_n 3, 1) := by decide +kernel
theorem dX9_walk_68 : decode cX9_walk 68 = .ok (.iload 4, 2) := by decide +kernel
theorem dX9_walk_70 : decode cX9_walk 70 = .ok (.iaload, 1) := by decide +kernel
theorem dX9_walk_71 : decode cX9_walk 71 = .ok (.iastore, 1) := by decide +kernel
theorem dX9_walk_72 : decode cX9_walk 72 = .ok (.iinc 4 1, 3) := by decide +kernel
theorem dX9_walk_75 : decode cX9_walk 75 = .ok (.goto (-37), 3) := by decide +kernel
theorem dX9_walk_78 : decode cX9_walk 78 = .ok (.iload_n 2, 1) := by decide +kernel
theorem dX9_walk_79 : decode cX9_walk 79 = .ok (.iconst 3, 1) := by decide +kernel
theorem dX9_walk_80 : decode cX9_walk 80 = .ok (.if_icmp .ne 11, 3) := by decide +kernel
theorem dX9_walk_83 : decode cX9_walk 83 = .ok (.aload_n 3, 1) := by decide +kernel
theorem dX9_walk_84 : decode cX9_walk 84 = .ok (.iload_n 1, 1) := by decide +kernel
theorem dX9_walk_85 : decode cX9_walk 85 = .ok (.invokestatic 232, 3) := by decide +kernel
theorem dX9_walk_88 : decode cX9_walk 88 = .ok (.goto 9, 3) := by decide +kernel
theorem dX9_walk_91 : decode cX9_walk 91 = .ok (.aload_n 3, 1) := by decide +kernel
theorem dX9_walk_92 : decode cX9_walk 92 = .ok (.iload_n 1, 1) := by decide +kernel
theorem dX9_walk_93 : decode cX9_walk 93 = .ok (.iload_n 2, 1) := by decide +kernel
theorem dX9_walk_94 : decode cX9_walk 94 = .ok (.invokestatic 235, 3) := by decide +kernel
theorem dX9_walk_97 : decode cX9_walk 97 = .ok (.ireturn, 1) := by decide +kernel
theorem dX9_round_0 : decode cX9_round 0 = .ok (.iload_n 2, 1) := by decide +kernel
theorem dX9_round_1 : decode cX9_round 1 = .ok (.iconst 0, 1) := by decide +kernel
theorem dX9_round_2 : decode cX9_round 2 = .ok (.iconst 2, 1) := by decide +kernel
theorem dX9_round_3 : decode cX9_round 3 = .ok (.invokestatic 149, 3) := by decide +kernel
theorem dX9_round_6 : decode cX9_round 6 = .ok (.ifCond .eq 17, 3) := by decide +kernel
theorem dX9_round_9 : decode cX9_round 9 = .ok (.aload_n 0, 1) := by decide +kernel
theorem dX9_round_10 : decode cX9_round 10 = .ok (.getfield 12, 3) := by decide +kernel
theorem dX9_round_13 : decode cX9_round 13 = .ok (.iload_n 1, 1) := by decide +kernel
theorem dX9_round_14 : decode cX9_round 14 = .ok (.iconst 2, 1) := by decide +kernel
theorem dX9_round_15 : decode cX9_round 15 = .ok (.bipush 8, 2) := by decide +kernel
theorem dX9_round_17 : decode cX9_round 17 = .ok (.invokevirtual 106, 3) := by decide +kernel
theorem dX9_round_20 : decode cX9_round 20 = .ok (.ifCond .ne 5, 3) := by decide +kernel
theorem dX9_round_23 : decode cX9_round 23 = .ok (.iconst (-1), 1) := by decide +kernel
theorem dX9_round_24 : decode cX9_round 24 = .ok (.ireturn, 1) := by decide +kernel
theorem dX9_round_25 : decode cX9_round 25 = .ok (.aload_n 0, 1) := by decide +kernel
theorem dX9_round_26 : decode cX9_round 26 = .ok (.getfield 12, 3) := by decide +kernel
theorem dX9_round_29 : decode cX9_round 29 = .ok (.iload_n 1, 1) := by decide +kernel
theorem dX9_round_30 : decode cX9_round 30 = .ok (.invokevirtual 229, 3) := by decide +kernel
theorem dX9_round_33 : decode cX9_round 33 = .ok (.iload_n 1, 1) := by decide +kernel
theorem dX9_round_34 : decode cX9_round 34 = .ok (.invokestatic 239, 3) := by decide +kernel
theorem dX9_round_37 : decode cX9_round 37 = .ok (.lstore_n 3, 1) := by decide +kernel
theorem dX9_round_38 : decode cX9_round 38 = .ok (.lload_n 3, 1) := by decide +kernel
theorem dX9_round_39 : decode cX9_round 39 = .ok (.iload_n 1, 1) := by decide +kernel
theorem dX9_round_40 : decode cX9_round 40 = .ok (.invokestatic 242, 3) := by decide +kernel
theorem dX9_round_43 : decode cX9_round 43 = .ok (.istore 5, 2) := by decide +kernel
theorem dX9_round_45 : decode cX9_round 45 = .ok (.lload_n 3, 1) := by decide +kernel
theorem dX9_round_46 : decode cX9_round 46 = .ok (.iload_n 1, 1) := by decide +kernel
theorem dX9_round_47 : decode cX9_round 47 = .ok (.iload 5, 2) := by decide +kernel
theorem dX9_round_49 : decode cX9_round 49 = .ok (.invokestatic 246, 3) := by decide +kernel
theorem dX9_round_52 : decode cX9_round 52 = .ok (.lstore 6, 2) := by decide +kernel
theorem dX9_round_54 : decode cX9_round 54 = .ok (.iload_n 2, 1) := by decide +kernel
theorem dX9_round_55 : decode cX9_round 55 = .ok (.ifCond .ne 18, 3) := by decide +kernel
theorem dX9_round_58 : decode cX9_round 58 = .ok (.lload 6, 2) := by decide +kernel
theorem dX9_round_60 : decode cX9_round 60 = .ok (.lconst 0, 1) := by decide +kernel
theorem dX9_round_61 : decode cX9_round 61 = .ok (.lcmp, 1) := by decide +kernel
theorem dX9_round_62 : decode cX9_round 62 = .ok (.ifCond .ne 8, 3) := by decide +kernel
theorem dX9_round_65 : decode cX9_round 65 = .ok (.iload 5, 2) := by decide +kernel
theorem dX9_round_67 : decode cX9_round 67 = .ok (.goto 5, 3) := by decide +kernel
theorem dX9_round_70 : decode cX9_round 70 = .ok (.bipush (-2), 2) := by decide +kernel
theorem dX9_round_72 : decode cX9_round 72 = .ok (.ireturn, 1) := by decide +kernel
theorem dX9_round_73 : decode cX9_round 73 = .ok (.iload_n 2, 1) := by decide +kernel
theorem dX9_round_74 : decode cX9_round 74 = .ok (.iconst 1, 1) := by decide +kernel
theorem dX9_round_75 : decode cX9_round 75 = .ok (.if_icmp .ne 12, 3) := by decide +kernel
theorem dX9_round_78 : decode cX9_round 78 = .ok (.lload 6, 2) := by decide +kernel
theorem dX9_round_80 : decode cX9_round 80 = .ok (.iload_n 1, 1) := by decide +kernel
theorem dX9_round_81 : decode cX9_round 81 = .ok (.invokestatic 250, 3) := by decide +kernel
theorem dX9_round_84 : decode cX9_round 84 = .ok (.goto 5, 3) := by decide +kernel
theorem dX9_round_87 : decode cX9_round 87 = .ok (.iload 5, 2) := by decide +kernel
theorem dX9_round_89 : decode cX9_round 89 = .ok (.ireturn, 1) := by decide +kernel
theorem dX9_triangle_0 : decode cX9_triangle 0 = .ok (.iload_n 1, 1) := by decide +kernel
theorem dX9_triangle_1 : decode cX9_triangle 1 = .ok (.iconst 1, 1) := by decide +kernel
theorem dX9_triangle_2 : decode cX9_triangle 2 = .ok (.iconst 4, 1) := by decide +kernel
theorem dX9_triangle_3 : decode cX9_triangle 3 = .ok (.invokestatic 149, 3) := by decide +kernel
theorem dX9_triangle_6 : decode cX9_triangle 6 = .ok (.ifCond .ne 5, 3) := by decide +kernel
theorem dX9_triangle_9 : decode cX9_triangle 9 = .ok (.iconst (-1), 1) := by decide +kernel
theorem dX9_triangle_10 : decode cX9_triangle 10 = .ok (.ireturn, 1) := by decide +kernel
theorem dX9_triangle_11 : decode cX9_triangle 11 = .ok (.iload_n 2, 1) := by decide +kernel
theorem dX9_triangle_12 : decode cX9_triangle 12 = .ok (.bipush 100, 2) := by decide +kernel
theorem dX9_triangle_14 : decode cX9_triangle 14 = .ok (.if_icmp .ne 19, 3) := by decide +kernel
theorem dX9_triangle_17 : decode cX9_triangle 17 = .ok (.aload_n 0, 1) := by decide +kernel
theorem dX9_triangle_18 : decode cX9_triangle 18 = .ok (.getfield 82, 3) := by decide +kernel
theorem dX9_triangle_21 : decode cX9_triangle 21 = .ok (.iload_n 1, 1) := by decide +kernel
theorem dX9_triangle_22 : decode cX9_triangle 22 = .ok (.invokevirtual 253, 3) := by decide +kernel
theorem dX9_triangle_25 : decode cX9_triangle 25 = .ok (.aload_n 0, 1) := by decide +kernel
theorem dX9_triangle_26 : decode cX9_triangle 26 = .ok (.getfield 82, 3) := by decide +kernel
theorem dX9_triangle_29 : decode cX9_triangle 29 = .ok (.getfield 256, 3) := by decide +kernel
theorem dX9_triangle_32 : decode cX9_triangle 32 = .ok (.ireturn, 1) := by decide +kernel
theorem dX9_triangle_33 : decode cX9_triangle 33 = .ok (.iload_n 2, 1) := by decide +kernel
theorem dX9_triangle_34 : decode cX9_triangle 34 = .ok (.iconst 0, 1) := by decide +kernel
theorem dX9_triangle_35 : decode cX9_triangle 35 = .ok (.iconst 3, 1) := by decide +kernel
theorem dX9_triangle_36 : decode cX9_triangle 36 = .ok (.invokestatic 149, 3) := by decide +kernel
theorem dX9_triangle_39 : decode cX9_triangle 39 = .ok (.ifCond .ne 5, 3) := by decide +kernel
theorem dX9_triangle_42 : decode cX9_triangle 42 = .ok (.iconst (-1), 1) := by decide +kernel
theorem dX9_triangle_43 : decode cX9_triangle 43 = .ok (.ireturn, 1) := by decide +kernel
theorem dX9_triangle_44 : decode cX9_triangle 44 = .ok (.iload_n 2, 1) := by decide +kernel
theorem dX9_triangle_45 : decode cX9_triangle 45 = .ok (.iload_n 1, 1) := by decide +kernel
theorem dX9_triangle_46 : decode cX9_triangle 46 = .ok (.if_icmp .lt 6, 3) := by decide +kernel
theorem dX9_triangle_49 : decode cX9_triangle 49 = .ok (.bipush (-4), 2) := by decide +kernel
theorem dX9_triangle_51 : decode cX9_triangle 51 = .ok (.ireturn, 1) := by decide +kernel
theorem dX9_triangle_52 : decode cX9_triangle 52 = .ok (.aload_n 0, 1) := by decide +kernel
theorem dX9_triangle_53 : decode cX9_triangle 53 = .ok (.getfield 82, 3) := by decide +kernel
theorem dX9_triangle_56 : decode cX9_triangle 56 = .ok (.iload_n 1, 1) := by decide +kernel
theorem dX9_triangle_57 : decode cX9_triangle 57 = .ok (.invokevirtual 253, 3) := by decide +kernel
theorem dX9_triangle_60 : decode cX9_triangle 60 = .ok (.aload_n 0, 1) := by decide +kernel
theorem dX9_triangle_61 : decode cX9_triangle 61 = .ok (.getfield 82, 3) := by decide +kernel
theorem dX9_triangle_64 : decode cX9_triangle 64 = .ok (.getfield 259, 3) := by decide +kernel
theorem dX9_triangle_67 : decode cX9_triangle 67 = .ok (.iload_n 2, 1) := by decide +kernel
theorem dX9_triangle_68 : decode cX9_triangle 68 = .ok (.iaload, 1) := by decide +kernel
theorem dX9_triangle_69 : decode cX9_triangle 69 = .ok (.ireturn, 1) := by decide +kernel
theorem dX9_bestRise_0 : decode cX9_bestRise 0 = .ok (.iload_n 2, 1) := by decide +kernel
theorem dX9_bestRise_1 : decode cX9_bestRise 1 = .ok (.iconst 1, 1) := by decide +kernel
theorem dX9_bestRise_2 : decode cX9_bestRise 2 = .ok (.iconst 3, 1) := by decide +kernel
theorem dX9_bestRise_3 : decode cX9_bestRise 3 = .ok (.invokestatic 149, 3) := by decide +kernel
theorem dX9_bestRise_6 : decode cX9_bestRise 6 = .ok (.ifCond .eq 17, 3) := by decide +kernel
theorem dX9_bestRise_9 : decode cX9_bestRise 9 = .ok (.aload_n 0, 1) := by decide +kernel
theorem dX9_bestRise_10 : decode cX9_bestRise 10 = .ok (.getfield 12, 3) := by decide +kernel
theorem dX9_bestRise_13 : decode cX9_bestRise 13 = .ok (.iload_n 1, 1) := by decide +kernel
theorem dX9_bestRise_14 : decode cX9_bestRise 14 = .ok (.iconst 1, 1) := by decide +kernel
theorem dX9_bestRise_15 : decode cX9_bestRise 15 = .ok (.bipush 20, 2) := by decide +kernel
theorem dX9_bestRise_17 : decode cX9_bestRise 17 = .ok (.invokevirtual 106, 3) := by decide +kernel
theorem dX9_bestRise_20 : decode cX9_bestRise 20 = .ok (.ifCond .ne 5, 3) := by decide +kernel
theorem dX9_bestRise_23 : decode cX9_bestRise 23 = .ok (.iconst (-1), 1) := by decide +kernel
theorem dX9_bestRise_24 : decode cX9_bestRise 24 = .ok (.ireturn, 1) := by decide +kernel
theorem dX9_bestRise_25 : decode cX9_bestRise 25 = .ok (.aload_n 0, 1) := by decide +kernel
theorem dX9_bestRise_26 : decode cX9_bestRise 26 = .ok (.getfield 12, 3) := by decide +kernel
theorem dX9_bestRise_29 : decode cX9_bestRise 29 = .ok (.iload_n 1, 1) := by decide +kernel
theorem dX9_bestRise_30 : decode cX9_bestRise 30 = .ok (.invokevirtual 229, 3) := by decide +kernel
theorem dX9_bestRise_33 : decode cX9_bestRise 33 = .ok (.iload_n 1, 1) := by decide +kernel
theorem dX9_bestRise_34 : decode cX9_bestRise 34 = .ok (.iload_n 2, 1) := by decide +kernel
theorem dX9_bestRise_35 : decode cX9_bestRise 35 = .ok (.invokestatic 262, 3) := by decide +kernel
theorem dX9_bestRise_38 : decode cX9_bestRise 38 = .ok (.ireturn, 1) := by decide +kernel
theorem dX9_narrowest_0 : decode cX9_narrowest 0 = .ok (.aload_n 0, 1) := by decide +kernel
theorem dX9_narrowest_1 : decode cX9_narrowest 1 = .ok (.getfield 12, 3) := by decide +kernel
theorem dX9_narrowest_4 : decode cX9_narrowest 4 = .ok (.iload_n 1, 1) := by decide +kernel
theorem dX9_narrowest_5 : decode cX9_narrowest 5 = .ok (.iconst 1, 1) := by decide +kernel
theorem dX9_narrowest_6 : decode cX9_narrowest 6 = .ok (.bipush 20, 2) := by decide +kernel
theorem dX9_narrowest_8 : decode cX9_narrowest 8 = .ok (.invokevirtual 106, 3) := by decide +kernel
theorem dX9_narrowest_11 : decode cX9_narrowest 11 = .ok (.ifCond .eq 14, 3) := by decide +kernel
theorem dX9_narrowest_14 : decode cX9_narrowest 14 = .ok (.iload_n 2, 1) := by decide +kernel
theorem dX9_narrowest_15 : decode cX9_narrowest 15 = .ok (.iconst 0, 1) := by decide +kernel
theorem dX9_narrowest_16 : decode cX9_narrowest 16 = .ok (.iload_n 1, 1) := by decide +kernel
theorem dX9_narrowest_17 : decode cX9_narrowest 17 = .ok (.iconst 1, 1) := by decide +kernel
theorem dX9_narrowest_18 : decode cX9_narrowest 18 = .ok (.isub, 1) := by decide +kernel
theorem dX9_narrowest_19 : decode cX9_narrowest 19 = .ok (.invokestatic 149, 3) := by decide +kernel
theorem dX9_narrowest_22 : decode cX9_narrowest 22 = .ok (.ifCond .ne 5, 3) := by decide +kernel
theorem dX9_narrowest_25 : decode cX9_narrowest 25 = .ok (.iconst (-1), 1) := by decide +kernel
theorem dX9_narrowest_26 : decode cX9_narrowest 26 = .ok (.ireturn, 1) := by decide +kernel
theorem dX9_narrowest_27 : decode cX9_narrowest 27 = .ok (.aload_n 0, 1) := by decide +kernel
theorem dX9_narrowest_28 : decode cX9_narrowest 28 = .ok (.getfield 12, 3) := by decide +kernel
theorem dX9_narrowest_31 : decode cX9_narrowest 31 = .ok (.iload_n 1, 1) := by decide +kernel
theorem dX9_narrowest_32 : decode cX9_narrowest 32 = .ok (.invokevirtual 229, 3) := by decide +kernel
theorem dX9_narrowest_35 : decode cX9_narrowest 35 = .ok (.iload_n 1, 1) := by decide +kernel
theorem dX9_narrowest_36 : decode cX9_narrowest 36 = .ok (.iload_n 1, 1) := by decide +kernel
theorem dX9_narrowest_37 : decode cX9_narrowest 37 = .ok (.iload_n 2, 1) := by decide +kernel
theorem dX9_narrowest_38 : decode cX9_narrowest 38 = .ok (.isub, 1) := by decide +kernel
theorem dX9_narrowest_39 : decode cX9_narrowest 39 = .ok (.invokestatic 265, 3) := by decide +kernel
theorem dX9_narrowest_42 : decode cX9_narrowest 42 = .ok (.ireturn, 1) := by decide +kernel
theorem dX9_twos_0 : decode cX9_twos 0 = .ok (.iload_n 2, 1) := by decide +kernel
theorem dX9_twos_1 : decode cX9_twos 1 = .ok (.iconst 0, 1) := by decide +kernel
theorem dX9_twos_2 : decode cX9_twos 2 = .ok (.sipush 255, 3) := by decide +kernel
theorem dX9_twos_5 : decode cX9_twos 5 = .ok (.invokestatic 149, 3) := by decide +kernel
theorem dX9_twos_8 : decode cX9_twos 8 = .ok (.ifCond .eq 17, 3) := by decide +kernel
theorem dX9_twos_11 : decode cX9_twos 11 = .ok (.aload_n 0, 1) := by decide +kernel
theorem dX9_twos_12 : decode cX9_twos 12 = .ok (.getfield 12, 3) := by decide +kernel
theorem dX9_twos_15 : decode cX9_twos 15 = .ok (.iload_n 1, 1) := by decide +kernel
theorem dX9_twos_16 : decode cX9_twos 16 = .ok (.iconst 1, 1) := by decide +kernel
theorem dX9_twos_17 : decode cX9_twos 17 = .ok (.bipush 20, 2) := by decide +kernel
theorem dX9_twos_19 : decode cX9_twos 19 = .ok (.invokevirtual 106, 3) := by decide +kernel
theorem dX9_twos_22 : decode cX9_twos 22 = .ok (.ifCond .ne 5, 3) := by decide +kernel
theorem dX9_twos_25 : decode cX9_twos 25 = .ok (.iconst (-1), 1) := by decide +kernel
theorem dX9_twos_26 : decode cX9_twos 26 = .ok (.ireturn, 1) := by decide +kernel
theorem dX9_twos_27 : decode cX9_twos 27 = .ok (.aload_n 0, 1) := by decide +kernel
theorem dX9_twos_28 : decode cX9_twos 28 = .ok (.getfield 12, 3) := by decide +kernel
theorem dX9_twos_31 : decode cX9_twos 31 = .ok (.iload_n 1, 1) := by decide +kernel
theorem dX9_twos_32 : decode cX9_twos 32 = .ok (.invokevirtual 229, 3) := by decide +kernel
theorem dX9_twos_35 : decode cX9_twos 35 = .ok (.iload_n 1, 1) := by decide +kernel
theorem dX9_twos_36 : decode cX9_twos 36 = .ok (.iload_n 2, 1) := by decide +kernel
theorem dX9_twos_37 : decode cX9_twos 37 = .ok (.invokestatic 268, 3) := by decide +kernel
theorem dX9_twos_40 : decode cX9_twos 40 = .ok (.ireturn, 1) := by decide +kernel
theorem dX9_paired_0 : decode cX9_paired 0 = .ok (.iload_n 2, 1) := by decide +kernel
theorem dX9_paired_1 : decode cX9_paired 1 = .ok (.iconst 0, 1) := by decide +kernel
theorem dX9_paired_2 : decode cX9_paired 2 = .ok (.iconst 1, 1) := by decide +kernel
theorem dX9_paired_3 : decode cX9_paired 3 = .ok (.invokestatic 149, 3) := by decide +kernel
theorem dX9_paired_6 : decode cX9_paired 6 = .ok (.ifCond .eq 23, 3) := by decide +kernel
theorem dX9_paired_9 : decode cX9_paired 9 = .ok (.aload_n 0, 1) := by decide +kernel
theorem dX9_paired_10 : decode cX9_paired 10 = .ok (.getfield 12, 3) := by decide +kernel
theorem dX9_paired_13 : decode cX9_paired 13 = .ok (.iload_n 1, 1) := by decide +kernel
theorem dX9_paired_14 : decode cX9_paired 14 = .ok (.iconst 2, 1) := by decide +kernel
theorem dX9_paired_15 : decode cX9_paired 15 = .ok (.bipush 16, 2) := by decide +kernel
theorem dX9_paired_17 : decode cX9_paired 17 = .ok (.invokevirtual 106, 3) := by decide +kernel
theorem dX9_paired_20 : decode cX9_paired 20 = .ok (.ifCond .eq 9, 3) := by decide +kernel
theorem dX9_paired_23 : decode cX9_paired 23 = .ok (.iload_n 1, 1) := by decide +kernel
theorem dX9_paired_24 : decode cX9_paired 24 = .ok (.iconst 1, 1) := by decide +kernel
theorem dX9_paired_25 : decode cX9_paired 25 = .ok (.iand, 1) := by decide +kernel
theorem dX9_paired_26 : decode cX9_paired 26 = .ok (.ifCond .eq 5, 3) := by decide +kernel
theorem dX9_paired_29 : decode cX9_paired 29 = .ok (.iconst (-1), 1) := by decide +kernel
theorem dX9_paired_30 : decode cX9_paired 30 = .ok (.ireturn, 1) := by decide +kernel
theorem dX9_paired_31 : decode cX9_paired 31 = .ok (.aload_n 0, 1) := by decide +kernel
theorem dX9_paired_32 : decode cX9_paired 32 = .ok (.getfield 12, 3) := by decide +kernel
theorem dX9_paired_35 : decode cX9_paired 35 = .ok (.iload_n 1, 1) := by decide +kernel
theorem dX9_paired_36 : decode cX9_paired 36 = .ok (.invokevirtual 229, 3) := by decide +kernel
theorem dX9_paired_39 : decode cX9_paired 39 = .ok (.iload_n 1, 1) := by decide +kernel
theorem dX9_paired_40 : decode cX9_paired 40 = .ok (.iload_n 2, 1) := by decide +kernel
theorem dX9_paired_41 : decode cX9_paired 41 = .ok (.iconst 1, 1) := by decide +kernel
theorem dX9_paired_42 : decode cX9_paired 42 = .ok (.if_icmp .ne 7, 3) := by decide +kernel
theorem dX9_paired_45 : decode cX9_paired 45 = .ok (.iconst 1, 1) := by decide +kernel
theorem dX9_paired_46 : decode cX9_paired 46 = .ok (.goto 4, 3) := by decide +kernel
theorem dX9_paired_49 : decode cX9_paired 49 = .ok (.iconst 0, 1) := by decide +kernel
theorem dX9_paired_50 : decode cX9_paired 50 = .ok (.invokestatic 271, 3) := by decide +kernel
theorem dX9_paired_53 : decode cX9_paired 53 = .ok (.ireturn, 1) := by decide +kernel
theorem dX9_halves_0 : decode cX9_halves 0 = .ok (.iload_n 2, 1) := by decide +kernel
theorem dX9_halves_1 : decode cX9_halves 1 = .ok (.iconst 0, 1) := by decide +kernel
theorem dX9_halves_2 : decode cX9_halves 2 = .ok (.iconst 1, 1) := by decide +kernel
theorem dX9_halves_3 : decode cX9_halves 3 = .ok (.invokestatic 149, 3) := by decide +kernel
theorem dX9_halves_6 : decode cX9_halves 6 = .ok (.ifCond .eq 17, 3) := by decide +kernel
theorem dX9_halves_9 : decode cX9_halves 9 = .ok (.aload_n 0, 1) := by decide +kernel
theorem dX9_halves_10 : decode cX9_halves 10 = .ok (.getfield 12, 3) := by decide +kernel
theorem dX9_halves_13 : decode cX9_halves 13 = .ok (.iload_n 1, 1) := by decide +kernel
theorem dX9_halves_14 : decode cX9_halves 14 = .ok (.iconst 2, 1) := by decide +kernel
theorem dX9_halves_15 : decode cX9_halves 15 = .ok (.bipush 16, 2) := by decide +kernel
theorem dX9_halves_17 : decode cX9_halves 17 = .ok (.invokevirtual 106, 3) := by decide +kernel
theorem dX9_halves_20 : decode cX9_halves 20 = .ok (.ifCond .ne 5, 3) := by decide +kernel
theorem dX9_halves_23 : decode cX9_halves 23 = .ok (.iconst (-1), 1) := by decide +kernel
theorem dX9_halves_24 : decode cX9_halves 24 = .ok (.ireturn, 1) := by decide +kernel
theorem dX9_halves_25 : decode cX9_halves 25 = .ok (.aload_n 0, 1) := by decide +kernel
theorem dX9_halves_26 : decode cX9_halves 26 = .ok (.getfield 12, 3) := by decide +kernel
theorem dX9_halves_29 : decode cX9_halves 29 = .ok (.iload_n 1, 1) := by decide +kernel
theorem dX9_halves_30 : decode cX9_halves 30 = .ok (.invokevirtual 229, 3) := by decide +kernel
theorem dX9_halves_33 : decode cX9_halves 33 = .ok (.astore_n 3, 1) := by decide +kernel
theorem dX9_halves_34 : decode cX9_halves 34 = .ok (.aload_n 3, 1) := by decide +kernel
theorem dX9_halves_35 : decode cX9_halves 35 = .ok (.iload_n 1, 1) := by decide +kernel
theorem dX9_halves_36 : decode cX9_halves 36 = .ok (.invokestatic 275, 3) := by decide +kernel
theorem dX9_halves_39 : decode cX9_halves 39 = .ok (.istore 4, 2) := by decide +kernel
theorem dX9_halves_41 : decode cX9_halves 41 = .ok (.aload_n 3, 1) := by decide +kernel
theorem dX9_halves_42 : decode cX9_halves 42 = .ok (.iload_n 1, 1) := by decide +kernel
theorem dX9_halves_43 : decode cX9_halves 43 = .ok (.aload_n 0, 1) := by decide +kernel
theorem dX9_halves_44 : decode cX9_halves 44 = .ok (.getfield 86, 3) := by decide +kernel
theorem dX9_halves_47 : decode cX9_halves 47 = .ok (.invokestatic 278, 3) := by decide +kernel
theorem dX9_halves_50 : decode cX9_halves 50 = .ok (.aload_n 0, 1) := by decide +kernel
theorem dX9_halves_51 : decode cX9_halves 51 = .ok (.getfield 86, 3) := by decide +kernel
theorem dX9_halves_54 : decode cX9_halves 54 = .ok (.iload 4, 2) := by decide +kernel
theorem dX9_halves_56 : decode cX9_halves 56 = .ok (.invokestatic 282, 3) := by decide +kernel
theorem dX9_halves_59 : decode cX9_halves 59 = .ok (.istore 5, 2) := by decide +kernel
theorem dX9_halves_61 : decode cX9_halves 61 = .ok (.iload_n 2, 1) := by decide +kernel
theorem dX9_halves_62 : decode cX9_halves 62 = .ok (.ifCond .ne 16, 3) := by decide +kernel
theorem dX9_halves_65 : decode cX9_halves 65 = .ok (.iload 4, 2) := by decide +kernel
theorem dX9_halves_67 : decode cX9_halves 67 = .ok (.iconst 2, 1) := by decide +kernel
theorem dX9_halves_68 : decode cX9_halves 68 = .ok (.iload 5, 2) := by decide +kernel
theorem dX9_halves_70 : decode cX9_halves 70 = .ok (.imul, 1) := by decide +kernel
theorem dX9_halves_71 : decode cX9_halves 71 = .ok (.isub, 1) := by decide +kernel
theorem dX9_halves_72 : decode cX9_halves 72 = .ok (.invokestatic 285, 3) := by decide +kernel
theorem dX9_halves_75 : decode cX9_halves 75 = .ok (.goto 10, 3) := by decide +kernel
theorem dX9_halves_78 : decode cX9_halves 78 = .ok (.aload_n 0, 1) := by decide +kernel
theorem dX9_halves_79 : decode cX9_halves 79 = .ok (.getfield 86, 3) := by decide +kernel
theorem dX9_halves_82 : decode cX9_halves 82 = .ok (.iload 5, 2) := by decide +kernel
theorem dX9_halves_84 : decode cX9_halves 84 = .ok (.iaload, 1) := by decide +kernel
theorem dX9_halves_85 : decode cX9_halves 85 = .ok (.ireturn, 1) := by decide +kernel
theorem dX9_steady_0 : decode cX9_steady 0 = .ok (.iload_n 2, 1) := by decide +kernel
theorem dX9_steady_1 : decode cX9_steady 1 = .ok (.iconst 0, 1) := by decide +kernel
theorem dX9_steady_2 : decode cX9_steady 2 = .ok (.iconst 1, 1) := by decide +kernel
theorem dX9_steady_3 : decode cX9_steady 3 = .ok (.invokestatic 149, 3) := by decide +kernel
theorem dX9_steady_6 : decode cX9_steady 6 = .ok (.ifCond .eq 17, 3) := by decide +kernel
theorem dX9_steady_9 : decode cX9_steady 9 = .ok (.aload_n 0, 1) := by decide +kernel
theorem dX9_steady_10 : decode cX9_steady 10 = .ok (.getfield 12, 3) := by decide +kernel
theorem dX9_steady_13 : decode cX9_steady 13 = .ok (.iload_n 1, 1) := by decide +kernel
theorem dX9_steady_14 : decode cX9_steady 14 = .ok (.iconst 1, 1) := by decide +kernel
theorem dX9_steady_15 : decode cX9_steady 15 = .ok (.bipush 20, 2) := by decide +kernel
theorem dX9_steady_17 : decode cX9_steady 17 = .ok (.invokevirtual 106, 3) := by decide +kernel
theorem dX9_steady_20 : decode cX9_steady 20 = .ok (.ifCond .ne 5, 3) := by decide +kernel
theorem dX9_steady_23 : decode cX9_steady 23 = .ok (.iconst (-1), 1) := by decide +kernel
theorem dX9_steady_24 : decode cX9_steady 24 = .ok (.ireturn, 1) := by decide +kernel
theorem dX9_steady_25 : decode cX9_steady 25 = .ok (.aload_n 0, 1) := by decide +kernel
theorem dX9_steady_26 : decode cX9_steady 26 = .ok (.getfield 12, 3) := by decide +kernel
theorem dX9_steady_29 : decode cX9_steady 29 = .ok (.iload_n 1, 1) := by decide +kernel
theorem dX9_steady_30 : decode cX9_steady 30 = .ok (.invokevirtual 229, 3) := by decide +kernel
theorem dX9_steady_33 : decode cX9_steady 33 = .ok (.astore_n 3, 1) := by decide +kernel
theorem dX9_steady_34 : decode cX9_steady 34 = .ok (.iload_n 2, 1) := by decide +kernel
theorem dX9_steady_35 : decode cX9_steady 35 = .ok (.ifCond .ne 11, 3) := by decide +kernel
theorem dX9_steady_38 : decode cX9_steady 38 = .ok (.aload_n 3, 1) := by decide +kernel
theorem dX9_steady_39 : decode cX9_steady 39 = .ok (.iload_n 1, 1) := by decide +kernel
theorem dX9_steady_40 : decode cX9_steady 40 = .ok (.invokestatic 290, 3) := by decide +kernel
theorem dX9_steady_43 : decode cX9_steady 43 = .ok (.goto 8, 3) := by decide +kernel
theorem dX9_steady_46 : decode cX9_steady 46 = .ok (.aload_n 3, 1) := by decide +kernel
theorem dX9_steady_47 : decode cX9_steady 47 = .ok (.iload_n 1, 1) := by decide +kernel
theorem dX9_steady_48 : decode cX9_steady 48 = .ok (.invokestatic 293, 3) := by decide +kernel
theorem dX9_steady_51 : decode cX9_steady 51 = .ok (.ireturn, 1) := by decide +kernel
theorem dX9_comes_0 : decode cX9_comes 0 = .ok (.iload_n 2, 1) := by decide +kernel
theorem dX9_comes_1 : decode cX9_comes 1 = .ok (.iconst 0, 1) := by decide +kernel
theorem dX9_comes_2 : decode cX9_comes 2 = .ok (.iconst 1, 1) := by decide +kernel
theorem dX9_comes_3 : decode cX9_comes 3 = .ok (.invokestatic 149, 3) := by decide +kernel
theorem dX9_comes_6 : decode cX9_comes 6 = .ok (.ifCond .eq 17, 3) := by decide +kernel
theorem dX9_comes_9 : decode cX9_comes 9 = .ok (.aload_n 0, 1) := by decide +kernel
theorem dX9_comes_10 : decode cX9_comes 10 = .ok (.getfield 12, 3) := by decide +kernel
theorem dX9_comes_13 : decode cX9_comes 13 = .ok (.iload_n 1, 1) := by decide +kernel
theorem dX9_comes_14 : decode cX9_comes 14 = .ok (.iconst 1, 1) := by decide +kernel
theorem dX9_comes_15 : decode cX9_comes 15 = .ok (.bipush 8, 2) := by decide +kernel
theorem dX9_comes_17 : decode cX9_comes 17 = .ok (.invokevirtual 106, 3) := by decide +kernel
theorem dX9_comes_20 : decode cX9_comes 20 = .ok (.ifCond .ne 5, 3) := by decide +kernel
theorem dX9_comes_23 : decode cX9_comes 23 = .ok (.iconst (-1), 1) := by decide +kernel
theorem dX9_comes_24 : decode cX9_comes 24 = .ok (.ireturn, 1) := by decide +kernel
theorem dX9_comes_25 : decode cX9_comes 25 = .ok (.aload_n 0, 1) := by decide +kernel
theorem dX9_comes_26 : decode cX9_comes 26 = .ok (.getfield 12, 3) := by decide +kernel
theorem dX9_comes_29 : decode cX9_comes 29 = .ok (.iload_n 1, 1) := by decide +kernel
theorem dX9_comes_30 : decode cX9_comes 30 = .ok (.invokevirtual 229, 3) := by decide +kernel
theorem dX9_comes_33 : decode cX9_comes 33 = .ok (.astore_n 3, 1) := by decide +kernel
theorem dX9_comes_34 : decode cX9_comes 34 = .ok (.aload_n 3, 1) := by decide +kernel
theorem dX9_comes_35 : decode cX9_comes 35 = .ok (.iload_n 1, 1) := by decide +kernel
theorem dX9_comes_36 : decode cX9_comes 36 = .ok (.invokestatic 296, 3) := by decide +kernel
theorem dX9_comes_39 : decode cX9_comes 39 = .ok (.ifCond .eq 11, 3) := by decide +kernel
theorem dX9_comes_42 : decode cX9_comes 42 = .ok (.aload_n 3, 1) := by decide +kernel
theorem dX9_comes_43 : decode cX9_comes 43 = .ok (.iload_n 1, 1) := by decide +kernel
theorem dX9_comes_44 : decode cX9_comes 44 = .ok (.invokestatic 298, 3) := by decide +kernel
theorem dX9_comes_47 : decode cX9_comes 47 = .ok (.ifCond .eq 6, 3) := by decide +kernel
theorem dX9_comes_50 : decode cX9_comes 50 = .ok (.bipush (-3), 2) := by decide +kernel
theorem dX9_comes_52 : decode cX9_comes 52 = .ok (.ireturn, 1) := by decide +kernel
theorem dX9_comes_53 : decode cX9_comes 53 = .ok (.aload_n 3, 1) := by decide +kernel
theorem dX9_comes_54 : decode cX9_comes 54 = .ok (.iload_n 1, 1) := by decide +kernel
theorem dX9_comes_55 : decode cX9_comes 55 = .ok (.invokestatic 302, 3) := by decide +kernel
theorem dX9_comes_58 : decode cX9_comes 58 = .ok (.istore 4, 2) := by decide +kernel
theorem dX9_comes_60 : decode cX9_comes 60 = .ok (.iload_n 2, 1) := by decide +kernel
theorem dX9_comes_61 : decode cX9_comes 61 = .ok (.ifCond .ne 8, 3) := by decide +kernel
theorem dX9_comes_64 : decode cX9_comes 64 = .ok (.iload 4, 2) := by decide +kernel
theorem dX9_comes_66 : decode cX9_comes 66 = .ok (.goto 7, 3) := by decide +kernel
theorem dX9_comes_69 : decode cX9_comes 69 = .ok (.iload 4, 2) := by decide +kernel
theorem dX9_comes_71 : decode cX9_comes 71 = .ok (.iconst 1, 1) := by decide +kernel
theorem dX9_comes_72 : decode cX9_comes 72 = .ok (.iand, 1) := by decide +kernel
theorem dX9_comes_73 : decode cX9_comes 73 = .ok (.ireturn, 1) := by decide +kernel
theorem dX9_rests_0 : decode cX9_rests 0 = .ok (.iload_n 2, 1) := by decide +kernel
theorem dX9_rests_1 : decode cX9_rests 1 = .ok (.iconst 2, 1) := by decide +kernel
theorem dX9_rests_2 : decode cX9_rests 2 = .ok (.bipush 60, 2) := by decide +kernel
theorem dX9_rests_4 : decode cX9_rests 4 = .ok (.invokestatic 149, 3) := by decide +kernel
theorem dX9_rests_7 : decode cX9_rests 7 = .ok (.ifCond .eq 26, 3) := by decide +kernel
theorem dX9_rests_10 : decode cX9_rests 10 = .ok (.iload_n 3, 1) := by decide +kernel
theorem dX9_rests_11 : decode cX9_rests 11 = .ok (.iconst 0, 1) := by decide +kernel
theorem dX9_rests_12 : decode cX9_rests 12 = .ok (.iconst 1, 1) := by decide +kernel
theorem dX9_rests_13 : decode cX9_rests 13 = .ok (.invokestatic 149, 3) := by decide +kernel
theorem dX9_rests_16 : decode cX9_rests 16 = .ok (.ifCond .eq 17, 3) := by decide +kernel
theorem dX9_rests_19 : decode cX9_rests 19 = .ok (.aload_n 0, 1) := by decide +kernel
theorem dX9_rests_20 : decode cX9_rests 20 = .ok (.getfield 12, 3) := by decide +kernel
theorem dX9_rests_23 : decode cX9_rests 23 = .ok (.iload_n 1, 1) := by decide +kernel
theorem dX9_rests_24 : decode cX9_rests 24 = .ok (.iconst 2, 1) := by decide +kernel
theorem dX9_rests_25 : decode cX9_rests 25 = .ok (.bipush 12, 2) := by decide +kernel
theorem dX9_rests_27 : decode cX9_rests 27 = .ok (.invokevirtual 106, 3) := by decide +kernel
theorem dX9_rests_30 : decode cX9_rests 30 = .ok (.ifCond .ne 5, 3) := by decide +kernel
theorem dX9_rests_33 : decode cX9_rests 33 = .ok (.iconst (-1), 1) := by decide +kernel
theorem dX9_rests_34 : decode cX9_rests 34 = .ok (.ireturn, 1) := by decide +kernel
theorem dX9_rests_35 : decode cX9_rests 35 = .ok (.aload_n 0, 1) := by decide +kernel
theorem dX9_rests_36 : decode cX9_rests 36 = .ok (.getfield 12, 3) := by decide +kernel
theorem dX9_rests_39 : decode cX9_rests 39 = .ok (.iload_n 1, 1) := by decide +kernel
theorem dX9_rests_40 : decode cX9_rests 40 = .ok (.invokevirtual 229, 3) := by decide +kernel
theorem dX9_rests_43 : decode cX9_rests 43 = .ok (.astore 4, 2) := by decide +kernel
theorem dX9_rests_45 : decode cX9_rests 45 = .ok (.aload 4, 2) := by decide +kernel
theorem dX9_rests_47 : decode cX9_rests 47 = .ok (.iload_n 1, 1) := by decide +kernel
theorem dX9_rests_48 : decode cX9_rests 48 = .ok (.invokestatic 305, 3) := by decide +kernel
theorem dX9_rests_51 : decode cX9_rests 51 = .ok (.iload_n 2, 1) := by decide +kernel
theorem dX9_rests_52 : decode cX9_rests 52 = .ok (.if_icmp .ge 12, 3) := by decide +kernel
theorem dX9_rests_55 : decode cX9_rests 55 = .ok (.aload 4, 2) := by decide +kernel
theorem dX9_rests_57 : decode cX9_rests 57 = .ok (.iload_n 1, 1) := by decide +kernel
theorem dX9_rests_58 : decode cX9_rests 58 = .ok (.invokestatic 298, 3) := by decide +kernel
theorem dX9_rests_61 : decode cX9_rests 61 = .ok (.ifCond .eq 6, 3) := by decide +kernel
theorem dX9_rests_64 : decode cX9_rests 64 = .ok (.bipush (-3), 2) := by decide +kernel
theorem dX9_rests_66 : decode cX9_rests 66 = .ok (.ireturn, 1) := by decide +kernel
theorem dX9_rests_67 : decode cX9_rests 67 = .ok (.aload 4, 2) := by decide +kernel
theorem dX9_rests_69 : decode cX9_rests 69 = .ok (.iload_n 1, 1) := by decide +kernel
theorem dX9_rests_70 : decode cX9_rests 70 = .ok (.iload_n 2, 1) := by decide +kernel
theorem dX9_rests_71 : decode cX9_rests 71 = .ok (.aload_n 0, 1) := by decide +kernel
theorem dX9_rests_72 : decode cX9_rests 72 = .ok (.getfield 86, 3) := by decide +kernel
theorem dX9_rests_75 : decode cX9_rests 75 = .ok (.invokestatic 308, 3) := by decide +kernel
theorem dX9_rests_78 : decode cX9_rests 78 = .ok (.iload_n 3, 1) := by decide +kernel
theorem dX9_rests_79 : decode cX9_rests 79 = .ok (.ifCond .ne 14, 3) := by decide +kernel
theorem dX9_rests_82 : decode cX9_rests 82 = .ok (.aload_n 0, 1) := by decide +kernel
theorem dX9_rests_83 : decode cX9_rests 83 = .ok (.getfield 86, 3) := by decide +kernel
theorem dX9_rests_86 : decode cX9_rests 86 = .ok (.iload_n 2, 1) := by decide +kernel
theorem dX9_rests_87 : decode cX9_rests 87 = .ok (.invokestatic 312, 3) := by decide +kernel
theorem dX9_rests_90 : decode cX9_rests 90 = .ok (.goto 11, 3) := by decide +kernel
theorem dX9_rests_93 : decode cX9_rests 93 = .ok (.aload_n 0, 1) := by decide +kernel
theorem dX9_rests_94 : decode cX9_rests 94 = .ok (.getfield 86, 3) := by decide +kernel
theorem dX9_rests_97 : decode cX9_rests 97 = .ok (.iload_n 2, 1) := by decide +kernel
theorem dX9_rests_98 : decode cX9_rests 98 = .ok (.invokestatic 315, 3) := by decide +kernel
theorem dX9_rests_101 : decode cX9_rests 101 = .ok (.ireturn, 1) := by decide +kernel
theorem dX9_days_0 : decode cX9_days 0 = .ok (.iload_n 1, 1) := by decide +kernel
theorem dX9_days_1 : decode cX9_days 1 = .ok (.iconst 1, 1) := by decide +kernel
theorem dX9_days_2 : decode cX9_days 2 = .ok (.bipush 100, 2) := by decide +kernel
theorem dX9_days_4 : decode cX9_days 4 = .ok (.invokestatic 149, 3) := by decide +kernel
theorem dX9_days_7 : decode cX9_days 7 = .ok (.ifCond .ne 5, 3) := by decide +kernel
theorem dX9_days_10 : decode cX9_days 10 = .ok (.iconst (-1), 1) := by decide +kernel
theorem dX9_days_11 : decode cX9_days 11 = .ok (.ireturn, 1) := by decide +kernel
theorem dX9_days_12 : decode cX9_days 12 = .ok (.aload_n 0, 1) := by decide +kernel
theorem dX9_days_13 : decode cX9_days 13 = .ok (.getfield 65, 3) := by decide +kernel
theorem dX9_days_16 : decode cX9_days 16 = .ok (.invokevirtual 318, 3) := by decide +kernel
theorem dX9_days_19 : decode cX9_days 19 = .ok (.iconst 0, 1) := by decide +kernel
theorem dX9_days_20 : decode cX9_days 20 = .ok (.istore_n 2, 1) := by decide +kernel
theorem dX9_days_21 : decode cX9_days 21 = .ok (.iload_n 2, 1) := by decide +kernel
theorem dX9_days_22 : decode cX9_days 22 = .ok (.iload_n 1, 1) := by decide +kernel
theorem dX9_days_23 : decode cX9_days 23 = .ok (.if_icmp .ge 21, 3) := by decide +kernel
theorem dX9_days_26 : decode cX9_days 26 = .ok (.aload_n 0, 1) := by decide +kernel
theorem dX9_days_27 : decode cX9_days 27 = .ok (.getfield 65, 3) := by decide +kernel
theorem dX9_days_30 : decode cX9_days 30 = .ok (.aload_n 0, 1) := by decide +kernel
theorem dX9_days_31 : decode cX9_days 31 = .ok (.getfield 55, 3) := by decide +kernel
theorem dX9_days_34 : decode cX9_days 34 = .ok (.invokevirtual 321, 3) := by decide +kernel
theorem dX9_days_37 : decode cX9_days 37 = .ok (.pop, 1) := by decide +kernel
theorem dX9_days_38 : decode cX9_days 38 = .ok (.iinc 2 1, 3) := by decide +kernel
theorem dX9_days_41 : decode cX9_days 41 = .ok (.goto (-20), 3) := by decide +kernel
theorem dX9_days_44 : decode cX9_days 44 = .ok (.aload_n 0, 1) := by decide +kernel
theorem dX9_days_45 : decode cX9_days 45 = .ok (.getfield 65, 3) := by decide +kernel
theorem dX9_days_48 : decode cX9_days 48 = .ok (.getfield 325, 3) := by decide +kernel
theorem dX9_days_51 : decode cX9_days 51 = .ok (.ireturn, 1) := by decide +kernel
theorem dX9_tried_0 : decode cX9_tried 0 = .ok (.iload_n 1, 1) := by decide +kernel
theorem dX9_tried_1 : decode cX9_tried 1 = .ok (.iconst 1, 1) := by decide +kernel
theorem dX9_tried_2 : decode cX9_tried 2 = .ok (.bipush 100, 2) := by decide +kernel
theorem dX9_tried_4 : decode cX9_tried 4 = .ok (.invokestatic 149, 3) := by decide +kernel
theorem dX9_tried_7 : decode cX9_tried 7 = .ok (.ifCond .eq 11, 3) := by decide +kernel
theorem dX9_tried_10 : decode cX9_tried 10 = .ok (.aload_n 0, 1) := by decide +kernel
theorem dX9_tried_11 : decode cX9_tried 11 = .ok (.iload_n 2, 1) := by decide +kernel
theorem dX9_tried_12 : decode cX9_tried 12 = .ok (.invokevirtual 328, 3) := by decide +kernel
theorem dX9_tried_15 : decode cX9_tried 15 = .ok (.ifCond .ne 5, 3) := by decide +kernel
theorem dX9_tried_18 : decode cX9_tried 18 = .ok (.iconst (-1), 1) := by decide +kernel
theorem dX9_tried_19 : decode cX9_tried 19 = .ok (.ireturn, 1) := by decide +kernel
theorem dX9_tried_20 : decode cX9_tried 20 = .ok (.aload_n 0, 1) := by decide +kernel
theorem dX9_tried_21 : decode cX9_tried 21 = .ok (.getfield 69, 3) := by decide +kernel
theorem dX9_tried_24 : decode cX9_tried 24 = .ok (.aload_n 0, 1) := by decide +kernel
theorem dX9_tried_25 : decode cX9_tried 25 = .ok (.getfield 65, 3) := by decide +kernel
theorem dX9_tried_28 : decode cX9_tried 28 = .ok (.invokevirtual 331, 3) := by decide +kernel
theorem dX9_tried_31 : decode cX9_tried 31 = .ok (.aload_n 0, 1) := by decide +kernel
theorem dX9_tried_32 : decode cX9_tried 32 = .ok (.getfield 69, 3) := by decide +kernel
theorem dX9_tried_35 : decode cX9_tried 35 = .ok (.invokevirtual 318, 3) := by decide +kernel
theorem dX9_tried_38 : decode cX9_tried 38 = .ok (.iconst 0, 1) := by decide +kernel
theorem dX9_tried_39 : decode cX9_tried 39 = .ok (.istore_n 3, 1) := by decide +kernel
theorem dX9_tried_40 : decode cX9_tried 40 = .ok (.iload_n 3, 1) := by decide +kernel
theorem dX9_tried_41 : decode cX9_tried 41 = .ok (.iload_n 1, 1) := by decide +kernel
theorem dX9_tried_42 : decode cX9_tried 42 = .ok (.if_icmp .ge 21, 3) := by decide +kernel
theorem dX9_tried_45 : decode cX9_tried 45 = .ok (.aload_n 0, 1) := by decide +kernel
theorem dX9_tried_46 : decode cX9_tried 46 = .ok (.getfield 69, 3) := by decide +kernel
theorem dX9_tried_49 : decode cX9_tried 49 = .ok (.aload_n 0, 1) := by decide +kernel
theorem dX9_tried_50 : decode cX9_tried 50 = .ok (.getfield 55, 3) := by decide +kernel
theorem dX9_tried_53 : decode cX9_tried 53 = .ok (.invokevirtual 321, 3) := by decide +kernel
theorem dX9_tried_56 : decode cX9_tried 56 = .ok (.pop, 1) := by decide +kernel
theorem dX9_tried_57 : decode cX9_tried 57 = .ok (.iinc 3 1, 3) := by decide +kernel
theorem dX9_tried_60 : decode cX9_tried 60 = .ok (.goto (-20), 3) := by decide +kernel
theorem dX9_tried_63 : decode cX9_tried 63 = .ok (.iload_n 2, 1) := by decide +kernel
theorem dX9_tried_64 : decode cX9_tried 64 = .ok (.ifCond .ne 11, 3) := by decide +kernel
theorem dX9_tried_67 : decode cX9_tried 67 = .ok (.aload_n 0, 1) := by decide +kernel
theorem dX9_tried_68 : decode cX9_tried 68 = .ok (.getfield 69, 3) := by decide +kernel
theorem dX9_tried_71 : decode cX9_tried 71 = .ok (.getfield 325, 3) := by decide +kernel
theorem dX9_tried_74 : decode cX9_tried 74 = .ok (.ireturn, 1) := by decide +kernel
theorem dX9_tried_75 : decode cX9_tried 75 = .ok (.iload_n 2, 1) := by decide +kernel
theorem dX9_tried_76 : decode cX9_tried 76 = .ok (.iconst 1, 1) := by decide +kernel
theorem dX9_tried_77 : decode cX9_tried 77 = .ok (.if_icmp .ne 11, 3) := by decide +kernel
theorem dX9_tried_80 : decode cX9_tried 80 = .ok (.aload_n 0, 1) := by decide +kernel
theorem dX9_tried_81 : decode cX9_tried 81 = .ok (.getfield 69, 3) := by decide +kernel
theorem dX9_tried_84 : decode cX9_tried 84 = .ok (.invokevirtual 334, 3) := by decide +kernel
theorem dX9_tried_87 : decode cX9_tried 87 = .ok (.ireturn, 1) := by decide +kernel
theorem dX9_tried_88 : decode cX9_tried 88 = .ok (.iload_n 2, 1) := by decide +kernel
theorem dX9_tried_89 : decode cX9_tried 89 = .ok (.iconst 2, 1) := by decide +kernel
theorem dX9_tried_90 : decode cX9_tried 90 = .ok (.if_icmp .ne 11, 3) := by decide +kernel
theorem dX9_tried_93 : decode cX9_tried 93 = .ok (.aload_n 0, 1) := by decide +kernel
theorem dX9_tried_94 : decode cX9_tried 94 = .ok (.getfield 69, 3) := by decide +kernel
theorem dX9_tried_97 : decode cX9_tried 97 = .ok (.getfield 337, 3) := by decide +kernel
theorem dX9_tried_100 : decode cX9_tried 100 = .ok (.ireturn, 1) := by decide +kernel
theorem dX9_tried_101 : decode cX9_tried 101 = .ok (.iload_n 2, 1) := by decide +kernel
theorem dX9_tried_102 : decode cX9_tried 102 = .ok (.bipush 20, 2) := by decide +kernel
theorem dX9_tried_104 : decode cX9_tried 104 = .ok (.if_icmp .ge 17, 3) := by decide +kernel
theorem dX9_tried_107 : decode cX9_tried 107 = .ok (.aload_n 0, 1) := by decide +kernel
theorem dX9_tried_108 : decode cX9_tried 108 = .ok (.getfield 69, 3) := by decide +kernel
theorem dX9_tried_111 : decode cX9_tried 111 = .ok (.iload_n 2, 1) := by decide +kernel
theorem dX9_tried_112 : decode cX9_tried 112 = .ok (.bipush 10, 2) := by decide +kernel
theorem dX9_tried_114 : decode cX9_tried 114 = .ok (.isub, 1) := by decide +kernel
theorem dX9_tried_115 : decode cX9_tried 115 = .ok (.invokevirtual 340, 3) := by decide +kernel
theorem dX9_tried_118 : decode cX9_tried 118 = .ok (.goto 15, 3) := by decide +kernel
theorem dX9_tried_121 : decode cX9_tried 121 = .ok (.aload_n 0, 1) := by decide +kernel
theorem dX9_tried_122 : decode cX9_tried 122 = .ok (.getfield 69, 3) := by decide +kernel
theorem dX9_tried_125 : decode cX9_tried 125 = .ok (.getfield 343, 3) := by decide +kernel
theorem dX9_tried_128 : decode cX9_tried 128 = .ok (.iload_n 2, 1) := by decide +kernel
theorem dX9_tried_129 : decode cX9_tried 129 = .ok (.bipush 20, 2) := by decide +kernel
theorem dX9_tried_131 : decode cX9_tried 131 = .ok (.isub, 1) := by decide +kernel
theorem dX9_tried_132 : decode cX9_tried 132 = .ok (.iaload, 1) := by decide +kernel
theorem dX9_tried_133 : decode cX9_tried 133 = .ok (.ireturn, 1) := by decide +kernel
theorem dX9_stallIs_0 : decode cX9_stallIs 0 = .ok (.aload_n 0, 1) := by decide +kernel
theorem dX9_stallIs_1 : decode cX9_stallIs 1 = .ok (.getfield 65, 3) := by decide +kernel
theorem dX9_stallIs_4 : decode cX9_stallIs 4 = .ok (.iload_n 1, 1) := by decide +kernel
theorem dX9_stallIs_5 : decode cX9_stallIs 5 = .ok (.invokevirtual 346, 3) := by decide +kernel
theorem dX9_stallIs_8 : decode cX9_stallIs 8 = .ok (.ifCond .ne 5, 3) := by decide +kernel
theorem dX9_stallIs_11 : decode cX9_stallIs 11 = .ok (.iconst (-1), 1) := by decide +kernel
theorem dX9_stallIs_12 : decode cX9_stallIs 12 = .ok (.ireturn, 1) := by decide +kernel
theorem dX9_stallIs_13 : decode cX9_stallIs 13 = .ok (.iload_n 2, 1) := by decide +kernel
theorem dX9_stallIs_14 : decode cX9_stallIs 14 = .ok (.tableswitch 70 0 3 #[30, 40, 50, 60], 30) := by decide +kernel
theorem dX9_stallIs_44 : decode cX9_stallIs 44 = .ok (.aload_n 0, 1) := by decide +kernel
theorem dX9_stallIs_45 : decode cX9_stallIs 45 = .ok (.getfield 65, 3) := by decide +kernel
theorem dX9_stallIs_48 : decode cX9_stallIs 48 = .ok (.getfield 349, 3) := by decide +kernel
theorem dX9_stallIs_51 : decode cX9_stallIs 51 = .ok (.iload_n 1, 1) := by decide +kernel
theorem dX9_stallIs_52 : decode cX9_stallIs 52 = .ok (.iaload, 1) := by decide +kernel
theorem dX9_stallIs_53 : decode cX9_stallIs 53 = .ok (.ireturn, 1) := by decide +kernel
theorem dX9_stallIs_54 : decode cX9_stallIs 54 = .ok (.aload_n 0, 1) := by decide +kernel
theorem dX9_stallIs_55 : decode cX9_stallIs 55 = .ok (.getfield 65, 3) := by decide +kernel
theorem dX9_stallIs_58 : decode cX9_stallIs 58 = .ok (.getfield 352, 3) := by decide +kernel
theorem dX9_stallIs_61 : decode cX9_stallIs 61 = .ok (.iload_n 1, 1) := by decide +kernel
theorem dX9_stallIs_62 : decode cX9_stallIs 62 = .ok (.iaload, 1) := by decide +kernel
theorem dX9_stallIs_63 : decode cX9_stallIs 63 = .ok (.ireturn, 1) := by decide +kernel
theorem dX9_stallIs_64 : decode cX9_stallIs 64 = .ok (.aload_n 0, 1) := by decide +kernel
theorem dX9_stallIs_65 : decode cX9_stallIs 65 = .ok (.getfield 65, 3) := by decide +kernel
theorem dX9_stallIs_68 : decode cX9_stallIs 68 = .ok (.getfield 343, 3) := by decide +kernel
theorem dX9_stallIs_71 : decode cX9_stallIs 71 = .ok (.iload_n 1, 1) := by decide +kernel
theorem dX9_stallIs_72 : decode cX9_stallIs 72 = .ok (.iaload, 1) := by decide +kernel
theorem dX9_stallIs_73 : decode cX9_stallIs 73 = .ok (.ireturn, 1) := by decide +kernel
theorem dX9_stallIs_74 : decode cX9_stallIs 74 = .ok (.aload_n 0, 1) := by decide +kernel
theorem dX9_stallIs_75 : decode cX9_stallIs 75 = .ok (.getfield 65, 3) := by decide +kernel
theorem dX9_stallIs_78 : decode cX9_stallIs 78 = .ok (.getfield 355, 3) := by decide +kernel
theorem dX9_stallIs_81 : decode cX9_stallIs 81 = .ok (.iload_n 1, 1) := by decide +kernel
theorem dX9_stallIs_82 : decode cX9_stallIs 82 = .ok (.iaload, 1) := by decide +kernel
theorem dX9_stallIs_83 : decode cX9_stallIs 83 = .ok (.ireturn, 1) := by decide +kernel
theorem dX9_stallIs_84 : decode cX9_stallIs 84 = .ok (.iconst (-1), 1) := by decide +kernel
theorem dX9_stallIs_85 : decode cX9_stallIs 85 = .ok (.ireturn, 1) := by decide +kernel
theorem dX9_soonest_0 : decode cX9_soonest 0 = .ok (.aload_n 0, 1) := by decide +kernel
theorem dX9_soonest_1 : decode cX9_soonest 1 = .ok (.getfield 65, 3) := by decide +kernel
theorem dX9_soonest_4 : decode cX9_soonest 4 = .ok (.iload_n 1, 1) := by decide +kernel
theorem dX9_soonest_5 : decode cX9_soonest 5 = .ok (.invokevirtual 346, 3) := by decide +kernel
theorem dX9_soonest_8 : decode cX9_soonest 8 = .ok (.ifCond .eq 13, 3) := by decide +kernel
theorem dX9_soonest_11 : decode cX9_soonest 11 = .ok (.iload_n 2, 1) := by decide +kernel
theorem dX9_soonest_12 : decode cX9_soonest 12 = .ok (.iconst 1, 1) := by decide +kernel
theorem dX9_soonest_13 : decode cX9_soonest 13 = .ok (.bipush 100, 2) := by decide +kernel
theorem dX9_soonest_15 : decode cX9_soonest 15 = .ok (.invokestatic 149, 3) := by decide +kernel
theorem dX9_soonest_18 : decode cX9_soonest 18 = .ok (.ifCond .ne 5, 3) := by decide +kernel
theorem dX9_soonest_21 : decode cX9_soonest 21 = .ok (.iconst (-1), 1) := by decide +kernel
theorem dX9_soonest_22 : decode cX9_soonest 22 = .ok (.ireturn, 1) := by decide +kernel
theorem dX9_soonest_23 : decode cX9_soonest 23 = .ok (.aload_n 0, 1) := by decide +kernel
theorem dX9_soonest_24 : decode cX9_soonest 24 = .ok (.getfield 69, 3) := by decide +kernel
theorem dX9_soonest_27 : decode cX9_soonest 27 = .ok (.aload_n 0, 1) := by decide +kernel
theorem dX9_soonest_28 : decode cX9_soonest 28 = .ok (.getfield 65, 3) := by decide +kernel
theorem dX9_soonest_31 : decode cX9_soonest 31 = .ok (.invokevirtual 331, 3) := by decide +kernel
theorem dX9_soonest_34 : decode cX9_soonest 34 = .ok (.iconst 1, 1) := by decide +kernel
theorem dX9_soonest_35 : decode cX9_soonest 35 = .ok (.istore_n 3, 1) := by decide +kernel
theorem dX9_soonest_36 : decode cX9_soonest 36 = .ok (.iload_n 3, 1) := by decide +kernel
theorem dX9_soonest_37 : decode cX9_soonest 37 = .ok (.iload_n 2, 1) := by decide +kernel
theorem dX9_soonest_38 : decode cX9_soonest 38 = .ok (.if_icmp .gt 42, 3) := by decide +kernel
theorem dX9_soonest_41 : decode cX9_soonest 41 = .ok (.aload_n 0, 1) := by decide +kernel
theorem dX9_soonest_42 : decode cX9_soonest 42 = .ok (.getfield 69, 3) := by decide +kernel
theorem dX9_soonest_45 : decode cX9_soonest 45 = .ok (.aload_n 0, 1) := by decide +kernel
theorem dX9_soonest_46 : decode cX9_soonest 46 = .ok (.getfield 55, 3) := by decide +kernel
theorem dX9_soonest_49 : decode cX9_soonest 49 = .ok (.invokevirtual 321, 3) := by decide +kernel
theorem dX9_soonest_52 : decode cX9_soonest 52 = .ok (.ifCond .ne 6, 3) := by decide +kernel
theorem dX9_soonest_55 : decode cX9_soonest 55 = .ok (.bipush (-2), 2) := by decide +kernel
theorem dX9_soonest_57 : decode cX9_soonest 57 = .ok (.ireturn, 1) := by decide +kernel
theorem dX9_soonest_58 : decode cX9_soonest 58 = .ok (.aload_n 0, 1) := by decide +kernel
theorem dX9_soonest_59 : decode cX9_soonest 59 = .ok (.getfield 69, 3) := by decide +kernel
theorem dX9_soonest_62 : decode cX9_soonest 62 = .ok (.getfield 358, 3) := by decide +kernel
theorem dX9_soonest_65 : decode cX9_soonest 65 = .ok (.iload_n 1, 1) := by decide +kernel
theorem dX9_soonest_66 : decode cX9_soonest 66 = .ok (.invokestatic 361, 3) := by decide +kernel
theorem dX9_soonest_69 : decode cX9_soonest 69 = .ok (.ifCond .eq 5, 3) := by decide +kernel
theorem dX9_soonest_72 : decode cX9_soonest 72 = .ok (.iload_n 3, 1) := by decide +kernel
theorem dX9_soonest_73 : decode cX9_soonest 73 = .ok (.ireturn, 1) := by decide +kernel
theorem dX9_soonest_74 : decode cX9_soonest 74 = .ok (.iinc 3 1, 3) := by decide +kernel
theorem dX9_soonest_77 : decode cX9_soonest 77 = .ok (.goto (-41), 3) := by decide +kernel
theorem dX9_soonest_80 : decode cX9_soonest 80 = .ok (.bipush (-2), 2) := by decide +kernel
theorem dX9_soonest_82 : decode cX9_soonest 82 = .ok (.ireturn, 1) := by decide +kernel
theorem dX9_richest_0 : decode cX9_richest 0 = .ok (.bipush (-2), 2) := by decide +kernel
theorem dX9_richest_2 : decode cX9_richest 2 = .ok (.istore_n 1, 1) := by decide +kernel
theorem dX9_richest_3 : decode cX9_richest 3 = .ok (.iconst 0, 1) := by decide +kernel
theorem dX9_richest_4 : decode cX9_richest 4 = .ok (.istore_n 2, 1) := by decide +kernel
theorem dX9_richest_5 : decode cX9_richest 5 = .ok (.iload_n 2, 1) := by decide +kernel
theorem dX9_richest_6 : decode cX9_richest 6 = .ok (.bipush 8, 2) := by decide +kernel
theorem dX9_richest_8 : decode cX9_richest 8 = .ok (.if_icmp .ge 47, 3) := by decide +kernel
theorem dX9_richest_11 : decode cX9_richest 11 = .ok (.aload_n 0, 1) := by decide +kernel
theorem dX9_richest_12 : decode cX9_richest 12 = .ok (.getfield 65, 3) := by decide +kernel
theorem dX9_richest_15 : decode cX9_richest 15 = .ok (.iload_n 2, 1) := by decide +kernel
theorem dX9_richest_16 : decode cX9_richest 16 = .ok (.invokevirtual 346, 3) := by decide +kernel
theorem dX9_richest_19 : decode cX9_richest 19 = .ok (.ifCond .eq 30, 3) := by decide +kernel
theorem dX9_richest_22 : decode cX9_richest 22 = .ok (.iload_n 1, 1) := by decide +kernel
theorem dX9_richest_23 : decode cX9_richest 23 = .ok (.ifCond .lt 24, 3) := by decide +kernel
theorem dX9_richest_26 : decode cX9_richest 26 = .ok (.aload_n 0, 1) := by decide +kernel
theorem dX9_richest_27 : decode cX9_richest 27 = .ok (.getfield 65, 3) := by decide +kernel
theorem dX9_richest_30 : decode cX9_richest 30 = .ok (.getfield 343, 3) := by decide +kernel
theorem dX9_richest_33 : decode cX9_richest 33 = .ok (.iload_n 2, 1) := by decide +kernel
theorem dX9_richest_34 : decode cX9_richest 34 = .ok (.iaload, 1) := by decide +kernel
theorem dX9_richest_35 : decode cX9_richest 35 = .ok (.aload_n 0, 1) := by decide +kernel
theorem dX9_richest_36 : decode cX9_richest 36 = .ok (.getfield 65, 3) := by decide +kernel
theorem dX9_richest_39 : decode cX9_richest 39 = .ok (.getfield 343, 3) := by decide +kernel
theorem dX9_richest_42 : decode cX9_richest 42 = .ok (.iload_n 1, 1) := by decide +kernel
theorem dX9_richest_43 : decode cX9_richest 43 = .ok (.iaload, 1) := by decide +kernel
theorem dX9_richest_44 : decode cX9_richest 44 = .ok (.if_icmp .le 5, 3) := by decide +kernel
theorem dX9_richest_47 : decode cX9_richest 47 = .ok (.iload_n 2, 1) := by decide +kernel
theorem dX9_richest_48 : decode cX9_richest 48 = .ok (.istore_n 1, 1) := by decide +kernel
theorem dX9_richest_49 : decode cX9_richest 49 = .ok (.iinc 2 1, 3) := by decide +kernel
theorem dX9_richest_52 : decode cX9_richest 52 = .ok (.goto (-47), 3) := by decide +kernel
theorem dX9_richest_55 : decode cX9_richest 55 = .ok (.iload_n 1, 1) := by decide +kernel
theorem dX9_richest_56 : decode cX9_richest 56 = .ok (.ireturn, 1) := by decide +kernel
theorem dX9_seed_0 : decode cX9_seed 0 = .ok (.iload_n 1, 1) := by decide +kernel
theorem dX9_seed_1 : decode cX9_seed 1 = .ok (.iconst 0, 1) := by decide +kernel
theorem dX9_seed_2 : decode cX9_seed 2 = .ok (.ldc_w 365, 3) := by decide +kernel
theorem dX9_seed_5 : decode cX9_seed 5 = .ok (.invokestatic 149, 3) := by decide +kernel
theorem dX9_seed_8 : decode cX9_seed 8 = .ok (.ifCond .ne 5, 3) := by decide +kernel
theorem dX9_seed_11 : decode cX9_seed 11 = .ok (.iconst 0, 1) := by decide +kernel
theorem dX9_seed_12 : decode cX9_seed 12 = .ok (.ireturn, 1) := by decide +kernel
theorem dX9_seed_13 : decode cX9_seed 13 = .ok (.aload_n 0, 1) := by decide +kernel
theorem dX9_seed_14 : decode cX9_seed 14 = .ok (.getfield 65, 3) := by decide +kernel
theorem dX9_seed_17 : decode cX9_seed 17 = .ok (.iload_n 1, 1) := by decide +kernel
theorem dX9_seed_18 : decode cX9_seed 18 = .ok (.putfield 366, 3) := by decide +kernel
theorem dX9_seed_21 : decode cX9_seed 21 = .ok (.iconst 1, 1) := by decide +kernel
theorem dX9_seed_22 : decode cX9_seed 22 = .ok (.ireturn, 1) := by decide +kernel
theorem dX9_keep_0 : decode cX9_keep 0 = .ok (.aload_n 0, 1) := by decide +kernel
theorem dX9_keep_1 : decode cX9_keep 1 = .ok (.getfield 72, 3) := by decide +kernel
theorem dX9_keep_4 : decode cX9_keep 4 = .ok (.aload_n 0, 1) := by decide +kernel
theorem dX9_keep_5 : decode cX9_keep 5 = .ok (.getfield 65, 3) := by decide +kernel
theorem dX9_keep_8 : decode cX9_keep 8 = .ok (.invokevirtual 331, 3) := by decide +kernel
theorem dX9_keep_11 : decode cX9_keep 11 = .ok (.aload_n 0, 1) := by decide +kernel
theorem dX9_keep_12 : decode cX9_keep 12 = .ok (.iconst 1, 1) := by decide +kernel
theorem dX9_keep_13 : decode cX9_keep 13 = .ok (.putfield 75, 3) := by decide +kernel
theorem dX9_keep_16 : decode cX9_keep 16 = .ok (.aload_n 0, 1) := by decide +kernel
theorem dX9_keep_17 : decode cX9_keep 17 = .ok (.getfield 65, 3) := by decide +kernel
theorem dX9_keep_20 : decode cX9_keep 20 = .ok (.getfield 369, 3) := by decide +kernel
theorem dX9_keep_23 : decode cX9_keep 23 = .ok (.ireturn, 1) := by decide +kernel
theorem dX9_undo_0 : decode cX9_undo 0 = .ok (.aload_n 0, 1) := by decide +kernel
theorem dX9_undo_1 : decode cX9_undo 1 = .ok (.getfield 75, 3) := by decide +kernel
theorem dX9_undo_4 : decode cX9_undo 4 = .ok (.ifCond .ne 5, 3) := by decide +kernel
theorem dX9_undo_7 : decode cX9_undo 7 = .ok (.iconst 0, 1) := by decide +kernel
theorem dX9_undo_8 : decode cX9_undo 8 = .ok (.ireturn, 1) := by decide +kernel
theorem dX9_undo_9 : decode cX9_undo 9 = .ok (.aload_n 0, 1) := by decide +kernel
theorem dX9_undo_10 : decode cX9_undo 10 = .ok (.getfield 65, 3) := by decide +kernel
theorem dX9_undo_13 : decode cX9_undo 13 = .ok (.aload_n 0, 1) := by decide +kernel
theorem dX9_undo_14 : decode cX9_undo 14 = .ok (.getfield 72, 3) := by decide +kernel
theorem dX9_undo_17 : decode cX9_undo 17 = .ok (.invokevirtual 372, 3) := by decide +kernel
theorem dX9_undo_20 : decode cX9_undo 20 = .ok (.iconst 1, 1) := by decide +kernel
theorem dX9_undo_21 : decode cX9_undo 21 = .ok (.ireturn, 1) := by decide +kernel
theorem dX9_check_0 : decode cX9_check 0 = .ok (.aload_n 0, 1) := by decide +kernel
theorem dX9_check_1 : decode cX9_check 1 = .ok (.getfield 12, 3) := by decide +kernel
theorem dX9_check_4 : decode cX9_check 4 = .ok (.iload_n 1, 1) := by decide +kernel
theorem dX9_check_5 : decode cX9_check 5 = .ok (.iconst 0, 1) := by decide +kernel
theorem dX9_check_6 : decode cX9_check 6 = .ok (.bipush 8, 2) := by decide +kernel
theorem dX9_check_8 : decode cX9_check 8 = .ok (.invokevirtual 106, 3) := by decide +kernel
theorem dX9_check_11 : decode cX9_check 11 = .ok (.ifCond .ne 6, 3) := by decide +kernel
theorem dX9_check_14 : decode cX9_check 14 = .ok (.bipush (-2), 2) := by decide +kernel
theorem dX9_check_16 : decode cX9_check 16 = .ok (.ireturn, 1) := by decide +kernel
theorem dX9_check_17 : decode cX9_check 17 = .ok (.aload_n 0, 1) := by decide +kernel
theorem dX9_check_18 : decode cX9_check 18 = .ok (.getfield 12, 3) := by decide +kernel
theorem dX9_check_21 : decode cX9_check 21 = .ok (.iload_n 1, 1) := by decide +kernel
theorem dX9_check_22 : decode cX9_check 22 = .ok (.invokevirtual 229, 3) := by decide +kernel
theorem dX9_check_25 : decode cX9_check 25 = .ok (.astore_n 2, 1) := by decide +kernel
theorem dX9_check_26 : decode cX9_check 26 = .ok (.iconst 0, 1) := by decide +kernel
theorem dX9_check_27 : decode cX9_check 27 = .ok (.istore_n 3, 1) := by decide +kernel
theorem dX9_check_28 : decode cX9_check 28 = .ok (.iload_n 3, 1) := by decide +kernel
theorem dX9_check_29 : decode cX9_check 29 = .ok (.iload_n 1, 1) := by decide +kernel
theorem dX9_check_30 : decode cX9_check 30 = .ok (.if_icmp .ge 50, 3) := by decide +kernel
theorem dX9_check_33 : decode cX9_check 33 = .ok (.aload_n 0, 1) := by decide +kernel
theorem dX9_check_34 : decode cX9_check 34 = .ok (.getfield 65, 3) := by decide +kernel
theorem dX9_check_37 : decode cX9_check 37 = .ok (.iload_n 3, 1) := by decide +kernel
theorem dX9_check_38 : decode cX9_check 38 = .ok (.invokevirtual 346, 3) := by decide +kernel
theorem dX9_check_41 : decode cX9_check 41 = .ok (.ifCond .eq 18, 3) := by decide +kernel
theorem dX9_check_44 : decode cX9_check 44 = .ok (.aload_n 0, 1) := by decide +kernel
theorem dX9_check_45 : decode cX9_check 45 = .ok (.getfield 65, 3) := by decide +kernel
theorem dX9_check_48 : decode cX9_check 48 = .ok (.iload_n 3, 1) := by decide +kernel
theorem dX9_check_49 : decode cX9_check 49 = .ok (.invokevirtual 340, 3) := by decide +kernel
theorem dX9_check_52 : decode cX9_check 52 = .ok (.sipush 255, 3) := by decide +kernel
theorem dX9_check_55 : decode cX9_check 55 = .ok (.iand, 1) := by decide +kernel
theorem dX9_check_56 : decode cX9_check 56 = .ok (.goto 6, 3) := by decide +kernel
theorem dX9_check_59 : decode cX9_check 59 = .ok (.sipush 255, 3) := by decide +kernel
theorem dX9_check_62 : decode cX9_check 62 = .ok (.istore 4, 2) := by decide +kernel
theorem dX9_check_64 : decode cX9_check 64 = .ok (.aload_n 2, 1) := by decide +kernel
theorem dX9_check_65 : decode cX9_check 65 = .ok (.iload_n 3, 1) := by decide +kernel
theorem dX9_check_66 : decode cX9_check 66 = .ok (.iaload, 1) := by decide +kernel
theorem dX9_check_67 : decode cX9_check 67 = .ok (.iload 4, 2) := by decide +kernel
theorem dX9_check_69 : decode cX9_check 69 = .ok (.if_icmp .eq 5, 3) := by decide +kernel
theorem dX9_check_72 : decode cX9_check 72 = .ok (.iload_n 3, 1) := by decide +kernel
theorem dX9_check_73 : decode cX9_check 73 = .ok (.ireturn, 1) := by decide +kernel
theorem dX9_check_74 : decode cX9_check 74 = .ok (.iinc 3 1, 3) := by decide +kernel
theorem dX9_check_77 : decode cX9_check 77 = .ok (.goto (-49), 3) := by decide +kernel
theorem dX9_check_80 : decode cX9_check 80 = .ok (.iconst (-1), 1) := by decide +kernel
theorem dX9_check_81 : decode cX9_check 81 = .ok (.ireturn, 1) := by decide +kernel
theorem dX9_count_0 : decode cX9_count 0 = .ok (.iload_n 1, 1) := by decide +kernel
theorem dX9_count_1 : decode cX9_count 1 = .ok (.tableswitch 123 0 8 #[51, 59, 67, 75, 83, 91, 99, 107, 115], 51) := by decide +kernel
theorem dX9_count_52 : decode cX9_count 52 = .ok (.aload_n 0, 1) := by decide +kernel
theorem dX9_count_53 : decode cX9_count 53 = .ok (.getfield 65, 3) := by decide +kernel
theorem dX9_count_56 : decode cX9_count 56 = .ok (.getfield 369, 3) := by decide +kernel
theorem dX9_count_59 : decode cX9_count 59 = .ok (.ireturn, 1) := by decide +kernel
theorem dX9_count_60 : decode cX9_count 60 = .ok (.aload_n 0, 1) := by decide +kernel
theorem dX9_count_61 : decode cX9_count 61 = .ok (.getfield 65, 3) := by decide +kernel
theorem dX9_count_64 : decode cX9_count 64 = .ok (.getfield 375, 3) := by decide +kernel
theorem dX9_count_67 : decode cX9_count 67 = .ok (.ireturn, 1) := by decide +kernel
theorem dX9_count_68 : decode cX9_count 68 = .ok (.aload_n 0, 1) := by decide +kernel
theorem dX9_count_69 : decode cX9_count 69 = .ok (.getfield 19, 3) := by decide +kernel
theorem dX9_count_72 : decode cX9_count 72 = .ok (.getfield 163, 3) := by decide +kernel
theorem dX9_count_75 : decode cX9_count 75 = .ok (.ireturn, 1) := by decide +kernel
theorem dX9_count_76 : decode cX9_count 76 = .ok (.aload_n 0, 1) := by decide +kernel
theorem dX9_count_77 : decode cX9_count 77 = .ok (.getfield 19, 3) := by decide +kernel
theorem dX9_count_80 : decode cX9_count 80 = .ok (.invokevirtual 378, 3) := by decide +kernel
theorem dX9_count_83 : decode cX9_count 83 = .ok (.ireturn, 1) := by decide +kernel
theorem dX9_count_84 : decode cX9_count 84 = .ok (.aload_n 0, 1) := by decide +kernel
theorem dX9_count_85 : decode cX9_count 85 = .ok (.getfield 55, 3) := by decide +kernel
theorem dX9_count_88 : decode cX9_count 88 = .ok (.getfield 381, 3) := by decide +kernel
theorem dX9_count_91 : decode cX9_count 91 = .ok (.ireturn, 1) := by decide +kernel
theorem dX9_count_92 : decode cX9_count 92 = .ok (.aload_n 0, 1) := by decide +kernel
theorem dX9_count_93 : decode cX9_count 93 = .ok (.getfield 12, 3) := by decide +kernel
theorem dX9_count_96 : decode cX9_count 96 = .ok (.getfield 102, 3) := by decide +kernel
theorem dX9_count_99 : decode cX9_count 99 = .ok (.ireturn, 1) := by decide +kernel
theorem dX9_count_100 : decode cX9_count 100 = .ok (.aload_n 0, 1) := by decide +kernel
theorem dX9_count_101 : decode cX9_count 101 = .ok (.getfield 65, 3) := by decide +kernel
theorem dX9_count_104 : decode cX9_count 104 = .ok (.getfield 366, 3) := by decide +kernel
theorem dX9_count_107 : decode cX9_count 107 = .ok (.ireturn, 1) := by decide +kernel
theorem dX9_count_108 : decode cX9_count 108 = .ok (.aload_n 0, 1) := by decide +kernel
theorem dX9_count_109 : decode cX9_count 109 = .ok (.getfield 65, 3) := by decide +kernel
theorem dX9_count_112 : decode cX9_count 112 = .ok (.invokevirtual 334, 3) := by decide +kernel
theorem dX9_count_115 : decode cX9_count 115 = .ok (.ireturn, 1) := by decide +kernel
theorem dX9_count_116 : decode cX9_count 116 = .ok (.aload_n 0, 1) := by decide +kernel
theorem dX9_count_117 : decode cX9_count 117 = .ok (.getfield 65, 3) := by decide +kernel
theorem dX9_count_120 : decode cX9_count 120 = .ok (.invokevirtual 382, 3) := by decide +kernel
theorem dX9_count_123 : decode cX9_count 123 = .ok (.ireturn, 1) := by decide +kernel
theorem dX9_count_124 : decode cX9_count 124 = .ok (.iconst (-1), 1) := by decide +kernel
theorem dX9_count_125 : decode cX9_count 125 = .ok (.ireturn, 1) := by decide +kernel
theorem dX9_canBeTried_0 : decode cX9_canBeTried 0 = .ok (.iload_n 1, 1) := by decide +kernel
theorem dX9_canBeTried_1 : decode cX9_canBeTried 1 = .ok (.iconst 0, 1) := by decide +kernel
theorem dX9_canBeTried_2 : decode cX9_canBeTried 2 = .ok (.iconst 2, 1) := by decide +kernel
theorem dX9_canBeTried_3 : decode cX9_canBeTried 3 = .ok (.invokestatic 149, 3) := by decide +kernel
theorem dX9_canBeTried_6 : decode cX9_canBeTried 6 = .ok (.ifCond .ne 53, 3) := by decide +kernel
theorem dX9_canBeTried_9 : decode cX9_canBeTried 9 = .ok (.iload_n 1, 1) := by decide +kernel
theorem dX9_canBeTried_10 : decode cX9_canBeTried 10 = .ok (.bipush 10, 2) := by decide +kernel
theorem dX9_canBeTried_12 : decode cX9_canBeTried 12 = .ok (.bipush 17, 2) := by decide +kernel
theorem dX9_canBeTried_14 : decode cX9_canBeTried 14 = .ok (.invokestatic 149, 3) := by decide +kernel
theorem dX9_canBeTried_17 : decode cX9_canBeTried 17 = .ok (.ifCond .eq 17, 3) := by decide +kernel
theorem dX9_canBeTried_20 : decode cX9_canBeTried 20 = .ok (.aload_n 0, 1) := by decide +kernel
theorem dX9_canBeTried_21 : decode cX9_canBeTried 21 = .ok (.getfield 65, 3) := by decide +kernel
theorem dX9_canBeTried_24 : decode cX9_canBeTried 24 = .ok (.iload_n 1, 1) := by decide +kernel
theorem dX9_canBeTried_25 : decode cX9_canBeTried 25 = .ok (.bipush 10, 2) := by decide +kernel
theorem dX9_canBeTried_27 : decode cX9_canBeTried 27 = .ok (.isub, 1) := by decide +kernel
theorem dX9_canBeTried_28 : decode cX9_canBeTried 28 = .ok (.invokevirtual 346, 3) := by decide +kernel
theorem dX9_canBeTried_31 : decode cX9_canBeTried 31 = .ok (.ifCond .ne 28, 3) := by decide +kernel
theorem dX9_canBeTried_34 : decode cX9_canBeTried 34 = .ok (.iload_n 1, 1) := by decide +kernel
theorem dX9_canBeTried_35 : decode cX9_canBeTried 35 = .ok (.bipush 20, 2) := by decide +kernel
theorem dX9_canBeTried_37 : decode cX9_canBeTried 37 = .ok (.bipush 27, 2) := by decide +kernel
theorem dX9_canBeTried_39 : decode cX9_canBeTried 39 = .ok (.invokestatic 149, 3) := by decide +kernel
theorem dX9_canBeTried_42 : decode cX9_canBeTried 42 = .ok (.ifCond .eq 21, 3) := by decide +kernel
theorem dX9_canBeTried_45 : decode cX9_canBeTried 45 = .ok (.aload_n 0, 1) := by decide +kernel
theorem dX9_canBeTried_46 : decode cX9_canBeTried 46 = .ok (.getfield 65, 3) := by decide +kernel
theorem dX9_canBeTried_49 : decode cX9_canBeTried 49 = .ok (.iload_n 1, 1) := by decide +kernel
theorem dX9_canBeTried_50 : decode cX9_canBeTried 50 = .ok (.bipush 20, 2) := by decide +kernel
theorem dX9_canBeTried_52 : decode cX9_canBeTried 52 = .ok (.isub, 1) := by decide +kernel
theorem dX9_canBeTried_53 : decode cX9_canBeTried 53 = .ok (.invokevirtual 346, 3) := by decide +kernel
theorem dX9_canBeTried_56 : decode cX9_canBeTried 56 = .ok (.ifCond .eq 7, 3) := by decide +kernel
theorem dX9_canBeTried_59 : decode cX9_canBeTried 59 = .ok (.iconst 1, 1) := by decide +kernel
theorem dX9_canBeTried_60 : decode cX9_canBeTried 60 = .ok (.goto 4, 3) := by decide +kernel
theorem dX9_canBeTried_63 : decode cX9_canBeTried 63 = .ok (.iconst 0, 1) := by decide +kernel
theorem dX9_canBeTried_64 : decode cX9_canBeTried 64 = .ok (.ireturn, 1) := by decide +kernel
theorem dX9_isThing_0 : decode cX9_isThing 0 = .ok (.iload_n 0, 1) := by decide +kernel
theorem dX9_isThing_1 : decode cX9_isThing 1 = .ok (.iconst 0, 1) := by decide +kernel
theorem dX9_isThing_2 : decode cX9_isThing 2 = .ok (.bipush 11, 2) := by decide +kernel
theorem dX9_isThing_4 : decode cX9_isThing 4 = .ok (.invokestatic 149, 3) := by decide +kernel
theorem dX9_isThing_7 : decode cX9_isThing 7 = .ok (.ireturn, 1) := by decide +kernel
theorem dX9_isFrom_0 : decode cX9_isFrom 0 = .ok (.iload_n 0, 1) := by decide +kernel
theorem dX9_isFrom_1 : decode cX9_isFrom 1 = .ok (.iload_n 1, 1) := by decide +kernel
theorem dX9_isFrom_2 : decode cX9_isFrom 2 = .ok (.if_icmp .lt 12, 3) := by decide +kernel
theorem dX9_isFrom_5 : decode cX9_isFrom 5 = .ok (.iload_n 0, 1) := by decide +kernel
theorem dX9_isFrom_6 : decode cX9_isFrom 6 = .ok (.iload_n 2, 1) := by decide +kernel
theorem dX9_isFrom_7 : decode cX9_isFrom 7 = .ok (.if_icmp .gt 7, 3) := by decide +kernel
theorem dX9_isFrom_10 : decode cX9_isFrom 10 = .ok (.iconst 1, 1) := by decide +kernel
theorem dX9_isFrom_11 : decode cX9_isFrom 11 = .ok (.goto 4, 3) := by decide +kernel
theorem dX9_isFrom_14 : decode cX9_isFrom 14 = .ok (.iconst 0, 1) := by decide +kernel
theorem dX9_isFrom_15 : decode cX9_isFrom 15 = .ok (.ireturn, 1) := by decide +kernel
theorem dX9_isIn_0 : decode cX9_isIn 0 = .ok (.iload_n 0, 1) := by decide +kernel
theorem dX9_isIn_1 : decode cX9_isIn 1 = .ok (.iload_n 1, 1) := by decide +kernel
theorem dX9_isIn_2 : decode cX9_isIn 2 = .ok (.iushr, 1) := by decide +kernel
theorem dX9_isIn_3 : decode cX9_isIn 3 = .ok (.iconst 1, 1) := by decide +kernel
theorem dX9_isIn_4 : decode cX9_isIn 4 = .ok (.iand, 1) := by decide +kernel
theorem dX9_isIn_5 : decode cX9_isIn 5 = .ok (.ifCond .eq 7, 3) := by decide +kernel
theorem dX9_isIn_8 : decode cX9_isIn 8 = .ok (.iconst 1, 1) := by decide +kernel
theorem dX9_isIn_9 : decode cX9_isIn 9 = .ok (.goto 4, 3) := by decide +kernel
theorem dX9_isIn_12 : decode cX9_isIn 12 = .ok (.iconst 0, 1) := by decide +kernel
theorem dX9_isIn_13 : decode cX9_isIn 13 = .ok (.ireturn, 1) := by decide +kernel
theorem dX9_lowestIn_0 : decode cX9_lowestIn 0 = .ok (.iconst 0, 1) := by decide +kernel
theorem dX9_lowestIn_1 : decode cX9_lowestIn 1 = .ok (.istore_n 1, 1) := by decide +kernel
theorem dX9_lowestIn_2 : decode cX9_lowestIn 2 = .ok (.iload_n 1, 1) := by decide +kernel
theorem dX9_lowestIn_3 : decode cX9_lowestIn 3 = .ok (.bipush 31, 2) := by decide +kernel
theorem dX9_lowestIn_5 : decode cX9_lowestIn 5 = .ok (.if_icmp .ge 17, 3) := by decide +kernel
theorem dX9_lowestIn_8 : decode cX9_lowestIn 8 = .ok (.iload_n 0, 1) := by decide +kernel
theorem dX9_lowestIn_9 : decode cX9_lowestIn 9 = .ok (.iload_n 1, 1) := by decide +kernel
theorem dX9_lowestIn_10 : decode cX9_lowestIn 10 = .ok (.invokestatic 361, 3) := by decide +kernel
theorem dX9_lowestIn_13 : decode cX9_lowestIn 13 = .ok (.ifCond .ne 9, 3) := by decide +kernel
theorem dX9_lowestIn_16 : decode cX9_lowestIn 16 = .ok (.iinc 1 1, 3) := by decide +kernel
theorem dX9_lowestIn_19 : decode cX9_lowestIn 19 = .ok (.goto (-17), 3) := by decide +kernel
theorem dX9_lowestIn_22 : decode cX9_lowestIn 22 = .ok (.iload_n 1, 1) := by decide +kernel
theorem dX9_lowestIn_23 : decode cX9_lowestIn 23 = .ok (.ireturn, 1) := by decide +kernel
theorem dX10_init_0 : decode cX10_init 0 = .ok (.aload_n 0, 1) := by decide +kernel
theorem dX10_init_1 : decode cX10_init 1 = .ok (.invokespecial 1, 3) := by decide +kernel
theorem dX10_init_4 : decode cX10_init 4 = .ok (.aload_n 0, 1) := by decide +kernel
theorem dX10_init_5 : decode cX10_init 5 = .ok (.bipush 34, 2) := by decide +kernel
theorem dX10_init_7 : decode cX10_init 7 = .ok (.newarray .int, 2) := by decide +kernel
theorem dX10_init_9 : decode cX10_init 9 = .ok (.putfield 7, 3) := by decide +kernel
theorem dX10_init_12 : decode cX10_init 12 = .ok (.aload_n 0, 1) := by decide +kernel
theorem dX10_init_13 : decode cX10_init 13 = .ok (.bipush 34, 2) := by decide +kernel
theorem dX10_init_15 : decode cX10_init 15 = .ok (.newarray .int, 2) := by decide +kernel
theorem dX10_init_17 : decode cX10_init 17 = .ok (.putfield 13, 3) := by decide +kernel
theorem dX10_init_20 : decode cX10_init 20 = .ok (.aload_n 0, 1) := by decide +kernel
theorem dX10_init_21 : decode cX10_init 21 = .ok (.bipush 34, 2) := by decide +kernel
theorem dX10_init_23 : decode cX10_init 23 = .ok (.newarray .int, 2) := by decide +kernel
theorem dX10_init_25 : decode cX10_init 25 = .ok (.putfield 16, 3) := by decide +kernel
theorem dX10_init_28 : decode cX10_init 28 = .ok (.aload_n 0, 1) := by decide +kernel
theorem dX10_init_29 : decode cX10_init 29 = .ok (.bipush 40, 2) := by decide +kernel
theorem dX10_init_31 : decode cX10_init 31 = .ok (.newarray .int, 2) := by decide +kernel
theorem dX10_init_33 : decode cX10_init 33 = .ok (.putfield 19, 3) := by decide +kernel
theorem dX10_init_36 : decode cX10_init 36 = .ok (.aload_n 0, 1) := by decide +kernel
theorem dX10_init_37 : decode cX10_init 37 = .ok (.bipush 40, 2) := by decide +kernel
theorem dX10_init_39 : decode cX10_init 39 = .ok (.newarray .int, 2) := by decide +kernel
theorem dX10_init_41 : decode cX10_init 41 = .ok (.putfield 22, 3) := by decide +kernel
theorem dX10_init_44 : decode cX10_init 44 = .ok (.aload_n 0, 1) := by decide +kernel
theorem dX10_init_45 : decode cX10_init 45 = .ok (.bipush 40, 2) := by decide +kernel
theorem dX10_init_47 : decode cX10_init 47 = .ok (.newarray .int, 2) := by decide +kernel
theorem dX10_init_49 : decode cX10_init 49 = .ok (.putfield 25, 3) := by decide +kernel
theorem dX10_init_52 : decode cX10_init 52 = .ok (.aload_n 0, 1) := by decide +kernel
theorem dX10_init_53 : decode cX10_init 53 = .ok (.bipush 40, 2) := by decide +kernel
theorem dX10_init_55 : decode cX10_init 55 = .ok (.newarray .int, 2) := by decide +kernel
theorem dX10_init_57 : decode cX10_init 57 = .ok (.putfield 28, 3) := by decide +kernel
theorem dX10_init_60 : decode cX10_init 60 = .ok (.aload_n 0, 1) := by decide +kernel
theorem dX10_init_61 : decode cX10_init 61 = .ok (.sipush 260, 3) := by decide +kernel
theorem dX10_init_64 : decode cX10_init 64 = .ok (.newarray .byte, 2) := by decide +kernel
theorem dX10_init_66 : decode cX10_init 66 = .ok (.putfield 31, 3) := by decide +kernel
theorem dX10_init_69 : decode cX10_init 69 = .ok (.aload_n 0, 1) := by decide +kernel
theorem dX10_init_70 : decode cX10_init 70 = .ok (.sipush 260, 3) := by decide +kernel
theorem dX10_init_73 : decode cX10_init 73 = .ok (.newarray .int, 2) := by decide +kernel
theorem dX10_init_75 : decode cX10_init 75 = .ok (.putfield 35, 3) := by decide +kernel
theorem dX10_init_78 : decode cX10_init 78 = .ok (.aload_n 0, 1) := by decide +kernel
theorem dX10_init_79 : decode cX10_init 79 = .ok (.sipush 260, 3) := by decide +kernel
theorem dX10_init_82 : decode cX10_init 82 = .ok (.newarray .int, 2) := by decide +kernel
theorem dX10_init_84 : decode cX10_init 84 = .ok (.putfield 38, 3) := by decide +kernel
theorem dX10_init_87 : decode cX10_init 87 = .ok (.aload_n 0, 1) := by decide +kernel
theorem dX10_init_88 : decode cX10_init 88 = .ok (.bipush 16, 2) := by decide +kernel
theorem dX10_init_90 : decode cX10_init 90 = .ok (.newarray .int, 2) := by decide +kernel
theorem dX10_init_92 : decode cX10_init 92 = .ok (.putfield 41, 3) := by decide +kernel
theorem dX10_init_95 : decode cX10_init 95 = .ok (.aload_n 0, 1) := by decide +kernel
theorem dX10_init_96 : decode cX10_init 96 = .ok (.bipush 16, 2) := by decide +kernel
theorem dX10_init_98 : decode cX10_init 98 = .ok (.newarray .int, 2) := by decide +kernel
theorem dX10_init_100 : decode cX10_init 100 = .ok (.putfield 44, 3) := by decide +kernel
theorem dX10_init_103 : decode cX10_init 103 = .ok (.aload_n 0, 1) := by decide +kernel
theorem dX10_init_104 : decode cX10_init 104 = .ok (.bipush 16, 2) := by decide +kernel
theorem dX10_init_106 : decode cX10_init 106 = .ok (.newarray .int, 2) := by decide +kernel
theorem dX10_init_108 : decode cX10_init 108 = .ok (.putfield 47, 3) := by decide +kernel
theorem dX10_init_111 : decode cX10_init 111 = .ok (.aload_n 0, 1) := by decide +kernel
theorem dX10_init_112 : decode cX10_init 112 = .ok (.bipush 16, 2) := by decide +kernel
theorem dX10_init_114 : decode cX10_init 114 = .ok (.newarray .int, 2) := by decide +kernel
theorem dX10_init_116 : decode cX10_init 116 = .ok (.putfield 50, 3) := by decide +kernel
theorem dX10_init_119 : decode cX10_init 119 = .ok (.aload_n 0, 1) := by decide +kernel
theorem dX10_init_120 : decode cX10_init 120 = .ok (.sipush 260, 3) := by decide +kernel
theorem dX10_init_123 : decode cX10_init 123 = .ok (.newarray .int, 2) := by decide +kernel
theorem dX10_init_125 : decode cX10_init 125 = .ok (.putfield 53, 3) := by decide +kernel
theorem dX10_init_128 : decode cX10_init 128 = .ok (.aload_n 0, 1) := by decide +kernel
theorem dX10_init_129 : decode cX10_init 129 = .ok (.bipush 16, 2) := by decide +kernel
theorem dX10_init_131 : decode cX10_init 131 = .ok (.newarray .int, 2) := by decide +kernel
theorem dX10_init_133 : decode cX10_init 133 = .ok (.putfield 56, 3) := by decide +kernel
theorem dX10_init_136 : decode cX10_init 136 = .ok (.aload_n 0, 1) := by decide +kernel
theorem dX10_init_137 : decode cX10_init 137 = .ok (.bipush 16, 2) := by decide +kernel
theorem dX10_init_139 : decode cX10_init 139 = .ok (.newarray .int, 2) := by decide +kernel
theorem dX10_init_141 : decode cX10_init 141 = .ok (.putfield 59, 3) := by decide +kernel
theorem dX10_init_144 : decode cX10_init 144 = .ok (.aload_n 0, 1) := by decide +kernel
theorem dX10_init_145 : decode cX10_init 145 = .ok (.bipush 16, 2) := by decide +kernel
theorem dX10_init_147 : decode cX10_init 147 = .ok (.newarray .int, 2) := by decide +kernel
theorem dX10_init_149 : decode cX10_init 149 = .ok (.putfield 62, 3) := by decide +kernel
theorem dX10_init_152 : decode cX10_init 152 = .ok (.aload_n 0, 1) := by decide +kernel
theorem dX10_init_153 : decode cX10_init 153 = .ok (.bipush 16, 2) := by decide +kernel
theorem dX10_init_155 : decode cX10_init 155 = .ok (.newarray .int, 2) := by decide +kernel
theorem dX10_init_157 : decode cX10_init 157 = .ok (.putfield 65, 3) := by decide +kernel
theorem dX10_init_160 : decode cX10_init 160 = .ok (.aload_n 0, 1) := by decide +kernel
theorem dX10_init_161 : decode cX10_init 161 = .ok (.sipush 260, 3) := by decide +kernel
theorem dX10_init_164 : decode cX10_init 164 = .ok (.newarray .int, 2) := by decide +kernel
theorem dX10_init_166 : decode cX10_init 166 = .ok (.putfield 68, 3) := by decide +kernel
theorem dX10_init_169 : decode cX10_init 169 = .ok (.aload_n 0, 1) := by decide +kernel
theorem dX10_init_170 : decode cX10_init 170 = .ok (.bipush 9, 2) := by decide +kernel
theorem dX10_init_172 : decode cX10_init 172 = .ok (.newarray .int, 2) := by decide +kernel
theorem dX10_init_174 : decode cX10_init 174 = .ok (.putfield 71, 3) := by decide +kernel
theorem dX10_init_177 : decode cX10_init 177 = .ok (.aload_n 0, 1) := by decide +kernel
theorem dX10_init_178 : decode cX10_init 178 = .ok (.bipush 40, 2) := by decide +kernel
theorem dX10_init_180 : decode cX10_init 180 = .ok (.newarray .int, 2) := by decide +kernel
theorem dX10_init_182 : decode cX10_init 182 = .ok (.putfield 74, 3) := by decide +kernel
theorem dX10_init_185 : decode cX10_init 185 = .ok (.aload_n 0, 1) := by decide +kernel
theorem dX10_init_186 : decode cX10_init 186 = .ok (.bipush 40, 2) := by decide +kernel
theorem dX10_init_188 : decode cX10_init 188 = .ok (.newarray .int, 2) := by decide +kernel
theorem dX10_init_190 : decode cX10_init 190 = .ok (.putfield 77, 3) := by decide +kernel
theorem dX10_init_193 : decode cX10_init 193 = .ok (.aload_n 0, 1) := by decide +kernel
theorem dX10_init_194 : decode cX10_init 194 = .ok (.bipush 40, 2) := by decide +kernel
theorem dX10_init_196 : decode cX10_init 196 = .ok (.newarray .int, 2) := by decide +kernel
theorem dX10_init_198 : decode cX10_init 198 = .ok (.putfield 80, 3) := by decide +kernel
theorem dX10_init_201 : decode cX10_init 201 = .ok (.aload_n 0, 1) := by decide +kernel
theorem dX10_init_202 : decode cX10_init 202 = .ok (.bipush 40, 2) := by decide +kernel
theorem dX10_init_204 : decode cX10_init 204 = .ok (.newarray .int, 2) := by decide +kernel
theorem dX10_init_206 : decode cX10_init 206 = .ok (.putfield 83, 3) := by decide +kernel
theorem dX10_init_209 : decode cX10_init 209 = .ok (.aload_n 0, 1) := by decide +kernel
theorem dX10_init_210 : decode cX10_init 210 = .ok (.bipush 12, 2) := by decide +kernel
theorem dX10_init_212 : decode cX10_init 212 = .ok (.newarray .int, 2) := by decide +kernel
theorem dX10_init_214 : decode cX10_init 214 = .ok (.putfield 86, 3) := by decide +kernel
theorem dX10_init_217 : decode cX10_init 217 = .ok (.aload_n 0, 1) := by decide +kernel
theorem dX10_init_218 : decode cX10_init 218 = .ok (.bipush 12, 2) := by decide +kernel
theorem dX10_init_220 : decode cX10_init 220 = .ok (.newarray .int, 2) := by decide +kernel
theorem dX10_init_222 : decode cX10_init 222 = .ok (.putfield 89, 3) := by decide +kernel
theorem dX10_init_225 : decode cX10_init 225 = .ok (.aload_n 0, 1) := by decide +kernel
theorem dX10_init_226 : decode cX10_init 226 = .ok (.sipush 144, 3) := by decide +kernel
theorem dX10_init_229 : decode cX10_init 229 = .ok (.newarray .int, 2) := by decide +kernel
theorem dX10_init_231 : decode cX10_init 231 = .ok (.putfield 92, 3) := by decide +kernel
theorem dX10_init_234 : decode cX10_init 234 = .ok (.aload_n 0, 1) := by decide +kernel
theorem dX10_init_235 : decode cX10_init 235 = .ok (.sipush 144, 3) := by decide +kernel
theorem dX10_init_238 : decode cX10_init 238 = .ok (.newarray .int, 2) := by decide +kernel
theorem dX10_init_240 : decode cX10_init 240 = .ok (.putfield 95, 3) := by decide +kernel
theorem dX10_init_243 : decode cX10_init 243 = .ok (.aload_n 0, 1) := by decide +kernel
theorem dX10_init_244 : decode cX10_init 244 = .ok (.sipush 144, 3) := by decide +kernel
theorem dX10_init_247 : decode cX10_init 247 = .ok (.newarray .int, 2) := by decide +kernel
theorem dX10_init_249 : decode cX10_init 249 = .ok (.putfield 98, 3) := by decide +kernel
theorem dX10_init_252 : decode cX10_init 252 = .ok (.aload_n 0, 1) := by decide +kernel
theorem dX10_init_253 : decode cX10_init 253 = .ok (.ldc 101, 2) := by decide +kernel
theorem dX10_init_255 : decode cX10_init 255 = .ok (.newarray .int, 2) := by decide +kernel
theorem dX10_init_257 : decode cX10_init 257 = .ok (.putfield 102, 3) := by decide +kernel
theorem dX10_init_260 : decode cX10_init 260 = .ok (.aload_n 0, 1) := by decide +kernel
theorem dX10_init_261 : decode cX10_init 261 = .ok (.bipush 12, 2) := by decide +kernel
theorem dX10_init_263 : decode cX10_init 263 = .ok (.newarray .int, 2) := by decide +kernel
theorem dX10_init_265 : decode cX10_init 265 = .ok (.putfield 105, 3) := by decide +kernel
theorem dX10_init_268 : decode cX10_init 268 = .ok (.aload_n 0, 1) := by decide +kernel
theorem dX10_init_269 : decode cX10_init 269 = .ok (.sipush 4096, 3) := by decide +kernel
theorem dX10_init_272 : decode cX10_init 272 = .ok (.newarray .int, 2) := by decide +kernel
theorem dX10_init_274 : decode cX10_init 274 = .ok (.putfield 108, 3) := by decide +kernel
theorem dX10_init_277 : decode cX10_init 277 = .ok (.aload_n 0, 1) := by decide +kernel
theorem dX10_init_278 : decode cX10_init 278 = .ok (.bipush 12, 2) := by decide +kernel
theorem dX10_init_280 : decode cX10_init 280 = .ok (.newarray .int, 2) := by decide +kernel
theorem dX10_init_282 : decode cX10_init 282 = .ok (.putfield 111, 3) := by decide +kernel
theorem dX10_init_285 : decode cX10_init 285 = .ok (.aload_n 0, 1) := by decide +kernel
theorem dX10_init_286 : decode cX10_init 286 = .ok (.bipush 12, 2) := by decide +kernel
theorem dX10_init_288 : decode cX10_init 288 = .ok (.newarray .int, 2) := by decide +kernel
theorem dX10_init_290 : decode cX10_init 290 = .ok (.putfield 114, 3) := by decide +kernel
theorem dX10_init_293 : decode cX10_init 293 = .ok (.aload_n 0, 1) := by decide +kernel
theorem dX10_init_294 : decode cX10_init 294 = .ok (.bipush 12, 2) := by decide +kernel
theorem dX10_init_296 : decode cX10_init 296 = .ok (.newarray .long, 2) := by decide +kernel
theorem dX10_init_298 : decode cX10_init 298 = .ok (.putfield 117, 3) := by decide +kernel
theorem dX10_init_301 : decode cX10_init 301 = .ok (.aload_n 0, 1) := by decide +kernel
theorem dX10_init_302 : decode cX10_init 302 = .ok (.bipush 8, 2) := by decide +kernel
theorem dX10_init_304 : decode cX10_init 304 = .ok (.newarray .int, 2) := by decide +kernel
theorem dX10_init_306 : decode cX10_init 306 = .ok (.putfield 121, 3) := by decide +kernel
theorem dX10_init_309 : decode cX10_init 309 = .ok (.aload_n 0, 1) := by decide +kernel
theorem dX10_init_310 : decode cX10_init 310 = .ok (.bipush 8, 2) := by decide +kernel
theorem dX10_init_312 : decode cX10_init 312 = .ok (.newarray .int, 2) := by decide +kernel
theorem dX10_init_314 : decode cX10_init 314 = .ok (.putfield 124, 3) := by decide +kernel
theorem dX10_init_317 : decode cX10_init 317 = .ok (.aload_n 0, 1) := by decide +kernel
theorem dX10_init_318 : decode cX10_init 318 = .ok (.iconst 4, 1) := by decide +kernel
theorem dX10_init_319 : decode cX10_init 319 = .ok (.newarray .int, 2) := by decide +kernel
theorem dX10_init_321 : decode cX10_init 321 = .ok (.putfield 127, 3) := by decide +kernel
theorem dX10_init_324 : decode cX10_init 324 = .ok (.aload_n 0, 1) := by decide +kernel
theorem dX10_init_325 : decode cX10_init 325 = .ok (.iconst 4, 1) := by decide +kernel
theorem dX10_init_326 : decode cX10_init 326 = .ok (.newarray .int, 2) := by decide +kernel
theorem dX10_init_328 : decode cX10_init 328 = .ok (.putfield 130, 3) := by decide +kernel
theorem dX10_init_331 : decode cX10_init 331 = .ok (.aload_n 0, 1) := by decide +kernel
theorem dX10_init_332 : decode cX10_init 332 = .ok (.iconst 4, 1) := by decide +kernel
theorem dX10_init_333 : decode cX10_init 333 = .ok (.newarray .int, 2) := by decide +kernel
theorem dX10_init_335 : decode cX10_init 335 = .ok (.putfield 133, 3) := by decide +kernel
theorem dX10_init_338 : decode cX10_init 338 = .ok (.aload_n 0, 1) := by decide +kernel
theorem dX10_init_339 : decode cX10_init 339 = .ok (.iconst 4, 1) := by decide +kernel
theorem dX10_init_340 : decode cX10_init 340 = .ok (.newarray .int, 2) := by decide +kernel
theorem dX10_init_342 : decode cX10_init 342 = .ok (.putfield 136, 3) := by decide +kernel
theorem dX10_init_345 : decode cX10_init 345 = .ok (.aload_n 0, 1) := by decide +kernel
theorem dX10_init_346 : decode cX10_init 346 = .ok (.bipush 20, 2) := by decide +kernel
theorem dX10_init_348 : decode cX10_init 348 = .ok (.newarray .int, 2) := by decide +kernel
theorem dX10_init_350 : decode cX10_init 350 = .ok (.putfield 139, 3) := by decide +kernel
theorem dX10_init_353 : decode cX10_init 353 = .ok (.aload_n 0, 1) := by decide +kernel
theorem dX10_init_354 : decode cX10_init 354 = .ok (.bipush 20, 2) := by decide +kernel
theorem dX10_init_356 : decode cX10_init 356 = .ok (.newarray .int, 2) := by decide +kernel
theorem dX10_init_358 : decode cX10_init 358 = .ok (.putfield 142, 3) := by decide +kernel
theorem dX10_init_361 : decode cX10_init 361 = .ok (.aload_n 0, 1) := by decide +kernel
theorem dX10_init_362 : decode cX10_init 362 = .ok (.bipush 20, 2) := by decide +kernel
theorem dX10_init_364 : decode cX10_init 364 = .ok (.newarray .int, 2) := by decide +kernel
theorem dX10_init_366 : decode cX10_init 366 = .ok (.putfield 145, 3) := by decide +kernel
theorem dX10_init_369 : decode cX10_init 369 = .ok (.aload_n 0, 1) := by decide +kernel
theorem dX10_init_370 : decode cX10_init 370 = .ok (.bipush 60, 2) := by decide +kernel
theorem dX10_init_372 : decode cX10_init 372 = .ok (.newarray .int, 2) := by decide +kernel
theorem dX10_init_374 : decode cX10_init 374 = .ok (.putfield 148, 3) := by decide +kernel
theorem dX10_init_377 : decode cX10_init 377 = .ok (.aload_n 0, 1) := by decide +kernel
theorem dX10_init_378 : decode cX10_init 378 = .ok (.bipush 8, 2) := by decide +kernel
theorem dX10_init_380 : decode cX10_init 380 = .ok (.newarray .int, 2) := by decide +kernel
theorem dX10_init_382 : decode cX10_init 382 = .ok (.putfield 151, 3) := by decide +kernel
theorem dX10_init_385 : decode cX10_init 385 = .ok (.aload_n 0, 1) := by decide +kernel
theorem dX10_init_386 : decode cX10_init 386 = .ok (.bipush 8, 2) := by decide +kernel
theorem dX10_init_388 : decode cX10_init 388 = .ok (.newarray .int, 2) := by decide +kernel
theorem dX10_init_390 : decode cX10_init 390 = .ok (.putfield 154, 3) := by decide +kernel
theorem dX10_init_393 : decode cX10_init 393 = .ok (.aload_n 0, 1) := by decide +kernel
theorem dX10_init_394 : decode cX10_init 394 = .ok (.getfield 7, 3) := by decide +kernel
theorem dX10_init_397 : decode cX10_init 397 = .ok (.bipush 33, 2) := by decide +kernel
theorem dX10_init_399 : decode cX10_init 399 = .ok (.iconst 1, 1) := by decide +kernel
theorem dX10_init_400 : decode cX10_init 400 = .ok (.iastore, 1) := by decide +kernel
theorem dX10_init_401 : decode cX10_init 401 = .ok (.return_, 1) := by decide +kernel
theorem dX10_in_0 : decode cX10_in 0 = .ok (.iload_n 0, 1) := by decide +kernel
theorem dX10_in_1 : decode cX10_in 1 = .ok (.iload_n 1, 1) := by decide +kernel
theorem dX10_in_2 : decode cX10_in 2 = .ok (.if_icmp .lt 12, 3) := by decide +kernel
theorem dX10_in_5 : decode cX10_in 5 = .ok (.iload_n 0, 1) := by decide +kernel
theorem dX10_in_6 : decode cX10_in 6 = .ok (.iload_n 2, 1) := by decide +kernel
theorem dX10_in_7 : decode cX10_in 7 = .ok (.if_icmp .gt 7, 3) := by decide +kernel
theorem dX10_in_10 : decode cX10_in 10 = .ok (.iconst 1, 1) := by decide +kernel
theorem dX10_in_11 : decode cX10_in 11 = .ok (.goto 4, 3) := by decide +kernel
theorem dX10_in_14 : decode cX10_in 14 = .ok (.iconst 0, 1) := by decide +kernel
theorem dX10_in_15 : decode cX10_in 15 = .ok (.ireturn, 1) := by decide +kernel
theorem dX10_min_0 : decode cX10_min 0 = .ok (.iload_n 0, 1) := by decide +kernel
theorem dX10_min_1 : decode cX10_min 1 = .ok (.iload_n 1, 1) := by decide +kernel
theorem dX10_min_2 : decode cX10_min 2 = .ok (.if_icmp .ge 7, 3) := by decide +kernel
theorem dX10_min_5 : decode cX10_min 5 = .ok (.iload_n 0, 1) := by decide +kernel
theorem dX10_min_6 : decode cX10_min 6 = .ok (.goto 4, 3) := by decide +kernel
theorem dX10_min_9 : decode cX10_min 9 = .ok (.iload_n 1, 1) := by decide +kernel
theorem dX10_min_10 : decode cX10_min 10 = .ok (.ireturn, 1) := by decide +kernel
theorem dX10_max_0 : decode cX10_max 0 = .ok (.iload_n 0, 1) := by decide +kernel
theorem dX10_max_1 : decode cX10_max 1 = .ok (.iload_n 1, 1) := by decide +kernel
theorem dX10_max_2 : decode cX10_max 2 = .ok (.if_icmp .le 7, 3) := by decide +kernel
theorem dX10_max_5 : decode cX10_max 5 = .ok (.iload_n 0, 1) := by decide +kernel
theorem dX10_max_6 : decode cX10_max 6 = .ok (.goto 4, 3) := by decide +kernel
theorem dX10_max_9 : decode cX10_max 9 = .ok (.iload_n 1, 1) := by decide +kernel
theorem dX10_max_10 : decode cX10_max 10 = .ok (.ireturn, 1) := by decide +kernel
theorem dX10_size_0 : decode cX10_size 0 = .ok (.iload_n 0, 1) := by decide +kernel
theorem dX10_size_1 : decode cX10_size 1 = .ok (.ifCond .ge 8, 3) := by decide +kernel
theorem dX10_size_4 : decode cX10_size 4 = .ok (.iload_n 0, 1) := by decide +kernel
theorem dX10_size_5 : decode cX10_size 5 = .ok (.ineg, 1) := by decide +kernel
theorem dX10_size_6 : decode cX10_size 6 = .ok (.goto 4, 3) := by decide +kernel
theorem dX10_size_9 : decode cX10_size 9 = .ok (.iload_n 0, 1) := by decide +kernel
theorem dX10_size_10 : decode cX10_size 10 = .ok (.ireturn, 1) := by decide +kernel
theorem dX10_gcd_0 : decode cX10_gcd 0 = .ok (.iload_n 0, 1) := by decide +kernel
theorem dX10_gcd_1 : decode cX10_gcd 1 = .ok (.istore_n 2, 1) := by decide +kernel
theorem dX10_gcd_2 : decode cX10_gcd 2 = .ok (.iload_n 1, 1) := by decide +kernel
theorem dX10_gcd_3 : decode cX10_gcd 3 = .ok (.istore_n 3, 1) := by decide +kernel
theorem dX10_gcd_4 : decode cX10_gcd 4 = .ok (.iload_n 3, 1) := by decide +kernel
theorem dX10_gcd_5 : decode cX10_gcd 5 = .ok (.ifCond .eq 16, 3) := by decide +kernel
theorem dX10_gcd_8 : decode cX10_gcd 8 = .ok (.iload_n 2, 1) := by decide +kernel
theorem dX10_gcd_9 : decode cX10_gcd 9 = .ok (.iload_n 3, 1) := by decide +kernel
theorem dX10_gcd_10 : decode cX10_gcd 10 = .ok (.irem, 1) := by decide +kernel
theorem dX10_gcd_11 : decode cX10_gcd 11 = .ok (.istore 4, 2) := by decide +kernel
theorem dX10_gcd_13 : decode cX10_gcd 13 = .ok (.iload_n 3, 1) := by decide +kernel
theorem dX10_gcd_14 : decode cX10_gcd 14 = .ok (.istore_n 2, 1) := by decide +kernel
theorem dX10_gcd_15 : decode cX10_gcd 15 = .ok (.iload 4, 2) := by decide +kernel
theorem dX10_gcd_17 : decode cX10_gcd 17 = .ok (.istore_n 3, 1) := by decide +kernel
theorem dX10_gcd_18 : decode cX10_gcd 18 = .ok (.goto (-14), 3) := by decide +kernel
theorem dX10_gcd_21 : decode cX10_gcd 21 = .ok (.iload_n 2, 1) := by decide +kernel
theorem dX10_gcd_22 : decode cX10_gcd 22 = .ok (.ireturn, 1) := by decide +kernel
theorem dX10_has_0 : decode cX10_has 0 = .ok (.iload_n 0, 1) := by decide +kernel
theorem dX10_has_1 : decode cX10_has 1 = .ok (.iload_n 1, 1) := by decide +kernel
theorem dX10_has_2 : decode cX10_has 2 = .ok (.ishr, 1) := by decide +kernel
theorem dX10_has_3 : decode cX10_has 3 = .ok (.iconst 1, 1) := by decide +kernel
theorem dX10_has_4 : decode cX10_has 4 = .ok (.iand, 1) := by decide +kernel
theorem dX10_has_5 : decode cX10_has 5 = .ok (.iconst 1, 1) := by decide +kernel
theorem dX10_has_6 : decode cX10_has 6 = .ok (.if_icmp .ne 7, 3) := by decide +kernel
theorem dX10_has_9 : decode cX10_has 9 = .ok (.iconst 1, 1) := by decide +kernel
theorem dX10_has_10 : decode cX10_has 10 = .ok (.goto 4, 3) := by decide +kernel
theorem dX10_has_13 : decode cX10_has 13 = .ok (.iconst 0, 1) := by decide +kernel
theorem dX10_has_14 : decode cX10_has 14 = .ok (.ireturn, 1) := by decide +kernel
theorem dX10_bits_0 : decode cX10_bits 0 = .ok (.iconst 0, 1) := by decide +kernel
theorem dX10_bits_1 : decode cX10_bits 1 = .ok (.istore_n 1, 1) := by decide +kernel
theorem dX10_bits_2 : decode cX10_bits 2 = .ok (.iconst 0, 1) := by decide +kernel
theorem dX10_bits_3 : decode cX10_bits 3 = .ok (.istore_n 2, 1) := by decide +kernel
theorem dX10_bits_4 : decode cX10_bits 4 = .ok (.iload_n 2, 1) := by decide +kernel
theorem dX10_bits_5 : decode cX10_bits 5 = .ok (.bipush 16, 2) := by decide +kernel
theorem dX10_bits_7 : decode cX10_bits 7 = .ok (.if_icmp .ge 17, 3) := by decide +kernel
theorem dX10_bits_10 : decode cX10_bits 10 = .ok (.iload_n 1, 1) := by decide +kernel
theorem dX10_bits_11 : decode cX10_bits 11 = .ok (.iload_n 0, 1) := by decide +kernel
theorem dX10_bits_12 : decode cX10_bits 12 = .ok (.iload_n 2, 1) := by decide +kernel
theorem dX10_bits_13 : decode cX10_bits 13 = .ok (.ishr, 1) := by decide +kernel
theorem dX10_bits_14 : decode cX10_bits 14 = .ok (.iconst 1, 1) := by decide +kernel
theorem dX10_bits_15 : decode cX10_bits 15 = .ok (.iand, 1) := by decide +kernel
theorem dX10_bits_16 : decode cX10_bits 16 = .ok (.iadd, 1) := by decide +kernel
theorem dX10_bits_17 : decode cX10_bits 17 = .ok (.istore_n 1, 1) := by decide +kernel
theorem dX10_bits_18 : decode cX10_bits 18 = .ok (.iinc 2 1, 3) := by decide +kernel
theorem dX10_bits_21 : decode cX10_bits 21 = .ok (.goto (-17), 3) := by decide +kernel
theorem dX10_bits_24 : decode cX10_bits 24 = .ok (.iload_n 1, 1) := by decide +kernel
theorem dX10_bits_25 : decode cX10_bits 25 = .ok (.ireturn, 1) := by decide +kernel
theorem dX10_lowest_0 : decode cX10_lowest 0 = .ok (.iconst 0, 1) := by decide +kernel
theorem dX10_lowest_1 : decode cX10_lowest 1 = .ok (.istore_n 1, 1) := by decide +kernel
theorem dX10_lowest_2 : decode cX10_lowest 2 = .ok (.iload_n 0, 1) := by decide +kernel
theorem dX10_lowest_3 : decode cX10_lowest 3 = .ok (.iload_n 1, 1) := by decide +kernel
theorem dX10_lowest_4 : decode cX10_lowest 4 = .ok (.invokestatic 157, 3) := by decide +kernel
theorem dX10_lowest_7 : decode cX10_lowest 7 = .ok (.ifCond .ne 10, 3) := by decide +kernel
theorem dX10_lowest_10 : decode cX10_lowest 10 = .ok (.iload_n 1, 1) := by decide +kernel
theorem dX10_lowest_11 : decode cX10_lowest 11 = .ok (.iconst 1, 1) := by decide +kernel
theorem dX10_lowest_12 : decode cX10_lowest 12 = .ok (.iadd, 1) := by decide +kernel
theorem dX10_lowest_13 : decode cX10_lowest 13 = .ok (.istore_n 1, 1) := by decide +kernel
theorem dX10_lowest_14 : decode cX10_lowest 14 = .ok (.goto (-12), 3) := by decide +kernel
theorem dX10_lowest_17 : decode cX10_lowest 17 = .ok (.iload_n 1, 1) := by decide +kernel
theorem dX10_lowest_18 : decode cX10_lowest 18 = .ok (.ireturn, 1) := by decide +kernel
theorem dX10_copies_0 : decode cX10_copies 0 = .ok (.iconst 0, 1) := by decide +kernel
theorem dX10_copies_1 : decode cX10_copies 1 = .ok (.istore_n 2, 1) := by decide +kernel
theorem dX10_copies_2 : decode cX10_copies 2 = .ok (.iload_n 2, 1) := by decide +kernel
theorem dX10_copies_3 : decode cX10_copies 3 = .ok (.bipush 34, 2) := by decide +kernel
theorem dX10_copies_5 : decode cX10_copies 5 = .ok (.if_icmp .ge 15, 3) := by decide +kernel
theorem dX10_copies_8 : decode cX10_copies 8 = .ok (.aload_n 1, 1) := by decide +kernel
theorem dX10_copies_9 : decode cX10_copies 9 = .ok (.iload_n 2, 1) := by decide +kernel
theorem dX10_copies_10 : decode cX10_copies 10 = .ok (.aload_n 0, 1) := by decide +kernel
theorem dX10_copies_11 : decode cX10_copies 11 = .ok (.iload_n 2, 1) := by decide +kernel
theorem dX10_copies_12 : decode cX10_copies 12 = .ok (.iaload, 1) := by decide +kernel
theorem dX10_copies_13 : decode cX10_copies 13 = .ok (.iastore, 1) := by decide +kernel
theorem dX10_copies_14 : decode cX10_copies 14 = .ok (.iinc 2 1, 3) := by decide +kernel
theorem dX10_copies_17 : decode cX10_copies 17 = .ok (.goto (-15), 3) := by decide +kernel
theorem dX10_copies_20 : decode cX10_copies 20 = .ok (.return_, 1) := by decide +kernel
theorem dX10_isStall_0 : decode cX10_isStall 0 = .ok (.iload_n 1, 1) := by decide +kernel
theorem dX10_isStall_1 : decode cX10_isStall 1 = .ok (.iconst 0, 1) := by decide +kernel
theorem dX10_isStall_2 : decode cX10_isStall 2 = .ok (.bipush 7, 2) := by decide +kernel
theorem dX10_isStall_4 : decode cX10_isStall 4 = .ok (.invokestatic 161, 3) := by decide +kernel
theorem dX10_isStall_7 : decode cX10_isStall 7 = .ok (.ifCond .eq 18, 3) := by decide +kernel
theorem dX10_isStall_10 : decode cX10_isStall 10 = .ok (.aload_n 0, 1) := by decide +kernel
theorem dX10_isStall_11 : decode cX10_isStall 11 = .ok (.getfield 165, 3) := by decide +kernel
theorem dX10_isStall_14 : decode cX10_isStall 14 = .ok (.iload_n 1, 1) := by decide +kernel
theorem dX10_isStall_15 : decode cX10_isStall 15 = .ok (.invokestatic 157, 3) := by decide +kernel
theorem dX10_isStall_18 : decode cX10_isStall 18 = .ok (.ifCond .eq 7, 3) := by decide +kernel
theorem dX10_isStall_21 : decode cX10_isStall 21 = .ok (.iconst 1, 1) := by decide +kernel
theorem dX10_isStall_22 : decode cX10_isStall 22 = .ok (.goto 4, 3) := by decide +kernel
theorem dX10_isStall_25 : decode cX10_isStall 25 = .ok (.iconst 0, 1) := by decide +kernel
theorem dX10_isStall_26 : decode cX10_isStall 26 = .ok (.ireturn, 1) := by decide +kernel
theorem dX10_isThing_0 : decode cX10_isThing 0 = .ok (.iload_n 0, 1) := by decide +kernel
theorem dX10_isThing_1 : decode cX10_isThing 1 = .ok (.iconst 0, 1) := by decide +kernel
theorem dX10_isThing_2 : decode cX10_isThing 2 = .ok (.bipush 11, 2) := by decide +kernel
theorem dX10_isThing_4 : decode cX10_isThing 4 = .ok (.invokestatic 161, 3) := by decide +kernel
theorem dX10_isThing_7 : decode cX10_isThing 7 = .ok (.ireturn, 1) := by decide +kernel
theorem dX10_types_0 : decode cX10_types 0 = .ok (.iconst 3, 1) := by decide +kernel
theorem dX10_types_1 : decode cX10_types 1 = .ok (.istore_n 2, 1) := by decide +kernel
theorem dX10_types_2 : decode cX10_types 2 = .ok (.iload_n 2, 1) := by decide +kernel
theorem dX10_types_3 : decode cX10_types 3 = .ok (.ifCond .lt 35, 3) := by decide +kernel
theorem dX10_types_6 : decode cX10_types 6 = .ok (.aload_n 0, 1) := by decide +kernel
theorem dX10_types_7 : decode cX10_types 7 = .ok (.getfield 31, 3) := by decide +kernel
theorem dX10_types_10 : decode cX10_types 10 = .ok (.aload_n 0, 1) := by decide +kernel
theorem dX10_types_11 : decode cX10_types 11 = .ok (.getfield 169, 3) := by decide +kernel
theorem dX10_types_14 : decode cX10_types 14 = .ok (.iload_n 1, 1) := by decide +kernel
theorem dX10_types_15 : decode cX10_types 15 = .ok (.bipush 8, 2) := by decide +kernel
theorem dX10_types_17 : decode cX10_types 17 = .ok (.iload_n 2, 1) := by decide +kernel
theorem dX10_types_18 : decode cX10_types 18 = .ok (.imul, 1) := by decide +kernel
theorem dX10_types_19 : decode cX10_types 19 = .ok (.ishr, 1) := by decide +kernel
theorem dX10_types_20 : decode cX10_types 20 = .ok (.i2b, 1) := by decide +kernel
theorem dX10_types_21 : decode cX10_types 21 = .ok (.bastore, 1) := by decide +kernel
theorem dX10_types_22 : decode cX10_types 22 = .ok (.aload_n 0, 1) := by decide +kernel
theorem dX10_types_23 : decode cX10_types 23 = .ok (.aload_n 0, 1) := by decide +kernel
theorem dX10_types_24 : decode cX10_types 24 = .ok (.getfield 169, 3) := by decide +kernel
theorem dX10_types_27 : decode cX10_types 27 = .ok (.iconst 1, 1) := by decide +kernel
theorem dX10_types_28 : decode cX10_types 28 = .ok (.iadd, 1) := by decide +kernel
theorem dX10_types_29 : decode cX10_types 29 = .ok (.putfield 169, 3) := by decide +kernel
theorem dX10_types_32 : decode cX10_types 32 = .ok (.iinc 2 (-1), 3) := by decide +kernel
theorem dX10_types_35 : decode cX10_types 35 = .ok (.goto (-33), 3) := by decide +kernel
theorem dX10_types_38 : decode cX10_types 38 = .ok (.return_, 1) := by decide +kernel
theorem dX10_feed_0 : decode cX10_feed 0 = .ok (.aload_n 0, 1) := by decide +kernel
theorem dX10_feed_1 : decode cX10_feed 1 = .ok (.getfield 169, 3) := by decide +kernel
theorem dX10_feed_4 : decode cX10_feed 4 = .ok (.bipush 20, 2) := by decide +kernel
theorem dX10_feed_6 : decode cX10_feed 6 = .ok (.iadd, 1) := by decide +kernel
theorem dX10_feed_7 : decode cX10_feed 7 = .ok (.sipush 260, 3) := by decide +kernel
theorem dX10_feed_10 : decode cX10_feed 10 = .ok (.if_icmp .le 5, 3) := by decide +kernel
theorem dX10_feed_13 : decode cX10_feed 13 = .ok (.iconst (-1), 1) := by decide +kernel
theorem dX10_feed_14 : decode cX10_feed 14 = .ok (.ireturn, 1) := by decide +kernel
theorem dX10_feed_15 : decode cX10_feed 15 = .ok (.aload_n 0, 1) := by decide +kernel
theorem dX10_feed_16 : decode cX10_feed 16 = .ok (.iload_n 1, 1) := by decide +kernel
theorem dX10_feed_17 : decode cX10_feed 17 = .ok (.invokevirtual 172, 3) := by decide +kernel
theorem dX10_feed_20 : decode cX10_feed 20 = .ok (.aload_n 0, 1) := by decide +kernel
theorem dX10_feed_21 : decode cX10_feed 21 = .ok (.iload_n 2, 1) := by decide +kernel
theorem dX10_feed_22 : decode cX10_feed 22 = .ok (.invokevirtual 172, 3) := by decide +kernel
theorem dX10_feed_25 : decode cX10_feed 25 = .ok (.aload_n 0, 1) := by decide +kernel
theorem dX10_feed_26 : decode cX10_feed 26 = .ok (.iload_n 3, 1) := by decide +kernel
theorem dX10_feed_27 : decode cX10_feed 27 = .ok (.invokevirtual 172, 3) := by decide +kernel
theorem dX10_feed_30 : decode cX10_feed 30 = .ok (.aload_n 0, 1) := by decide +kernel
theorem dX10_feed_31 : decode cX10_feed 31 = .ok (.iload 4, 2) := by decide +kernel
theorem dX10_feed_33 : decode cX10_feed 33 = .ok (.invokevirtual 172, 3) := by decide +kernel
theorem dX10_feed_36 : decode cX10_feed 36 = .ok (.aload_n 0, 1) := by decide +kernel
theorem dX10_feed_37 : decode cX10_feed 37 = .ok (.iload 5, 2) := by decide +kernel
theorem dX10_feed_39 : decode cX10_feed 39 = .ok (.invokevirtual 172, 3) := by decide +kernel
theorem dX10_feed_42 : decode cX10_feed 42 = .ok (.aload_n 0, 1) := by decide +kernel
theorem dX10_feed_43 : decode cX10_feed 43 = .ok (.getfield 169, 3) := by decide +kernel
theorem dX10_feed_46 : decode cX10_feed 46 = .ok (.ireturn, 1) := by decide +kernel
theorem dX10_octet_0 : decode cX10_octet 0 = .ok (.aload_n 0, 1) := by decide +kernel
theorem dX10_octet_1 : decode cX10_octet 1 = .ok (.getfield 31, 3) := by decide +kernel
theorem dX10_octet_4 : decode cX10_octet 4 = .ok (.iload_n 1, 1) := by decide +kernel
theorem dX10_octet_5 : decode cX10_octet 5 = .ok (.baload, 1) := by decide +kernel
theorem dX10_octet_6 : decode cX10_octet 6 = .ok (.sipush 255, 3) := by decide +kernel
theorem dX10_octet_9 : decode cX10_octet 9 = .ok (.iand, 1) := by decide +kernel
theorem dX10_octet_10 : decode cX10_octet 10 = .ok (.ireturn, 1) := by decide +kernel
theorem dX10_here_0 : decode cX10_here 0 = .ok (.aload_n 0, 1) := by decide +kernel
theorem dX10_here_1 : decode cX10_here 1 = .ok (.getfield 176, 3) := by decide +kernel
theorem dX10_here_4 : decode cX10_here 4 = .ok (.aload_n 0, 1) := by decide +kernel
theorem dX10_here_5 : decode cX10_here 5 = .ok (.getfield 179, 3) := by decide +kernel
theorem dX10_here_8 : decode cX10_here 8 = .ok (.if_icmp .ge 19, 3) := by decide +kernel
theorem dX10_here_11 : decode cX10_here 11 = .ok (.aload_n 0, 1) := by decide +kernel
theorem dX10_here_12 : decode cX10_here 12 = .ok (.getfield 31, 3) := by decide +kernel
theorem dX10_here_15 : decode cX10_here 15 = .ok (.aload_n 0, 1) := by decide +kernel
theorem dX10_here_16 : decode cX10_here 16 = .ok (.getfield 176, 3) := by decide +kernel
theorem dX10_here_19 : decode cX10_here 19 = .ok (.baload, 1) := by decide +kernel
theorem dX10_here_20 : decode cX10_here 20 = .ok (.sipush 255, 3) := by decide +kernel
theorem dX10_here_23 : decode cX10_here 23 = .ok (.iand, 1) := by decide +kernel
theorem dX10_here_24 : decode cX10_here 24 = .ok (.goto 4, 3) := by decide +kernel
theorem dX10_here_27 : decode cX10_here 27 = .ok (.iconst (-1), 1) := by decide +kernel
theorem dX10_here_28 : decode cX10_here 28 = .ok (.ireturn, 1) := by decide +kernel
theorem dX10_isDigit_0 : decode cX10_isDigit 0 = .ok (.aload_n 0, 1) := by decide +kernel
theorem dX10_isDigit_1 : decode cX10_isDigit 1 = .ok (.invokevirtual 182, 3) := by decide +kernel
theorem dX10_isDigit_4 : decode cX10_isDigit 4 = .ok (.bipush 48, 2) := by decide +kernel
theorem dX10_isDigit_6 : decode cX10_isDigit 6 = .ok (.if_icmp .lt 16, 3) := by decide +kernel
theorem dX10_isDigit_9 : decode cX10_isDigit 9 = .ok (.aload_n 0, 1) := by decide +kernel
theorem dX10_isDigit_10 : decode cX10_isDigit 10 = .ok (.invokevirtual 182, 3) := by decide +kernel
theorem dX10_isDigit_13 : decode cX10_isDigit 13 = .ok (.bipush 57, 2) := by decide +kernel
theorem dX10_isDigit_15 : decode cX10_isDigit 15 = .ok (.if_icmp .gt 7, 3) := by decide +kernel
theorem dX10_isDigit_18 : decode cX10_isDigit 18 = .ok (.iconst 1, 1) := by decide +kernel
theorem dX10_isDigit_19 : decode cX10_isDigit 19 = .ok (.goto 4, 3) := by decide +kernel
theorem dX10_isDigit_22 : decode cX10_isDigit 22 = .ok (.iconst 0, 1) := by decide +kernel
theorem dX10_isDigit_23 : decode cX10_isDigit 23 = .ok (.ireturn, 1) := by decide +kernel
theorem dX10_wrongAt_0 : decode cX10_wrongAt 0 = .ok (.aload_n 0, 1) := by decide +kernel
theorem dX10_wrongAt_1 : decode cX10_wrongAt 1 = .ok (.sipush (-1000), 3) := by decide +kernel
theorem dX10_wrongAt_4 : decode cX10_wrongAt 4 = .ok (.iload_n 1, 1) := by decide +kernel
theorem dX10_wrongAt_5 : decode cX10_wrongAt 5 = .ok (.imul, 1) := by decide +kernel
theorem dX10_wrongAt_6 : decode cX10_wrongAt 6 = .ok (.iload_n 2, 1) := by decide +kernel
theorem dX10_wrongAt_7 : decode cX10_wrongAt 7 = .ok (.isub, 1) := by decide +kernel
theorem dX10_wrongAt_8 : decode cX10_wrongAt 8 = .ok (.putfield 186, 3) := by decide +kernel
theorem dX10_wrongAt_11 : decode cX10_wrongAt 11 = .ok (.iconst 0, 1) := by decide +kernel
theorem dX10_wrongAt_12 : decode cX10_wrongAt 12 = .ok (.ireturn, 1) := by decide +kernel
theorem dX10_takes_0 : decode cX10_takes 0 = .ok (.aload_n 0, 1) := by decide +kernel
theorem dX10_takes_1 : decode cX10_takes 1 = .ok (.invokevirtual 182, 3) := by decide +kernel
theorem dX10_takes_4 : decode cX10_takes 4 = .ok (.iload_n 1, 1) := by decide +kernel
theorem dX10_takes_5 : decode cX10_takes 5 = .ok (.if_icmp .eq 13, 3) := by decide +kernel
theorem dX10_takes_8 : decode cX10_takes 8 = .ok (.aload_n 0, 1) := by decide +kernel
theorem dX10_takes_9 : decode cX10_takes 9 = .ok (.iconst 1, 1) := by decide +kernel
theorem dX10_takes_10 : decode cX10_takes 10 = .ok (.aload_n 0, 1) := by decide +kernel
theorem dX10_takes_11 : decode cX10_takes 11 = .ok (.getfield 176, 3) := by decide +kernel
theorem dX10_takes_14 : decode cX10_takes 14 = .ok (.invokevirtual 189, 3) := by decide +kernel
theorem dX10_takes_17 : decode cX10_takes 17 = .ok (.ireturn, 1) := by decide +kernel
theorem dX10_takes_18 : decode cX10_takes 18 = .ok (.aload_n 0, 1) := by decide +kernel
theorem dX10_takes_19 : decode cX10_takes 19 = .ok (.aload_n 0, 1) := by decide +kernel
theorem dX10_takes_20 : decode cX10_takes 20 = .ok (.getfield 176, 3) := by decide +kernel
theorem dX10_takes_23 : decode cX10_takes 23 = .ok (.iconst 1, 1) := by decide +kernel
theorem dX10_takes_24 : decode cX10_takes 24 = .ok (.iadd, 1) := by decide +kernel
theorem dX10_takes_25 : decode cX10_takes 25 = .ok (.putfield 176, 3) := by decide +kernel
theorem dX10_takes_28 : decode cX10_takes 28 = .ok (.iconst 1, 1) := by decide +kernel
theorem dX10_takes_29 : decode cX10_takes 29 = .ok (.ireturn, 1) := by decide +kernel
theorem dX10_readsNumber_0 : decode cX10_readsNumber 0 = .ok (.aload_n 0, 1) := by decide +kernel
theorem dX10_readsNumber_1 : decode cX10_readsNumber 1 = .ok (.getfield 176, 3) := by decide +kernel
theorem dX10_readsNumber_4 : decode cX10_readsNumber 4 = .ok (.istore_n 1, 1) := by decide +kernel
theorem dX10_readsNumber_5 : decode cX10_readsNumber 5 = .ok (.aload_n 0, 1) := by decide +kernel
theorem dX10_readsNumber_6 : decode cX10_readsNumber 6 = .ok (.iconst 0, 1) := by decide +kernel
theorem dX10_readsNumber_7 : decode cX10_readsNumber 7 = .ok (.putfield 192, 3) := by decide +kernel
theorem dX10_readsNumber_10 : decode cX10_readsNumber 10 = .ok (.aload_n 0, 1) := by decide +kernel
theorem dX10_readsNumber_11 : decode cX10_readsNumber 11 = .ok (.invokevirtual 195, 3) := by decide +kernel
theorem dX10_readsNumber_14 : decode cX10_readsNumber 14 = .ok (.ifCond .eq 55, 3) := by decide +kernel
theorem dX10_readsNumber_17 : decode cX10_readsNumber 17 = .ok (.aload_n 0, 1) := by decide +kernel
theorem dX10_readsNumber_18 : decode cX10_readsNumber 18 = .ok (.getfield 176, 3) := by decide +kernel
theorem dX10_readsNumber_21 : decode cX10_readsNumber 21 = .ok (.iload_n 1, 1) := by decide +kernel
theorem dX10_readsNumber_22 : decode cX10_readsNumber 22 = .ok (.iconst 5, 1) := by decide +kernel
theorem dX10_readsNumber_23 : decode cX10_readsNumber 23 = .ok (.iadd, 1) := by decide +kernel
theorem dX10_readsNumber_24 : decode cX10_readsNumber 24 = .ok (.if_icmp .ne 13, 3) := by decide +kernel
theorem dX10_readsNumber_27 : decode cX10_readsNumber 27 = .ok (.aload_n 0, 1) := by decide +kernel
theorem dX10_readsNumber_28 : decode cX10_readsNumber 28 = .ok (.iconst 2, 1) := by decide +kernel
theorem dX10_readsNumber_29 : decode cX10_readsNumber 29 = .ok (.aload_n 0, 1) := by decide +kernel
theorem dX10_readsNumber_30 : decode cX10_readsNumber 30 = .ok (.getfield 176, 3) := by decide +kernel
theorem dX10_readsNumber_33 : decode cX10_readsNumber 33 = .ok (.invokevirtual 189, 3) := by decide +kernel
theorem dX10_readsNumber_36 : decode cX10_readsNumber 36 = .ok (.ireturn, 1) := by decide +kernel
theorem dX10_readsNumber_37 : decode cX10_readsNumber 37 = .ok (.aload_n 0, 1) := by decide +kernel
theorem dX10_readsNumber_38 : decode cX10_readsNumber 38 = .ok (.bipush 10, 2) := by decide +kernel
theorem dX10_readsNumber_40 : decode cX10_readsNumber 40 = .ok (.aload_n 0, 1) := by decide +kernel
theorem dX10_readsNumber_41 : decode cX10_readsNumber 41 = .ok (.getfield 192, 3) := by decide +kernel
theorem dX10_readsNumber_44 : decode cX10_readsNumber 44 = .ok (.imul, 1) := by decide +kernel
theorem dX10_readsNumber_45 : decode cX10_readsNumber 45 = .ok (.aload_n 0, 1) := by decide +kernel
theorem dX10_readsNumber_46 : decode cX10_readsNumber 46 = .ok (.invokevirtual 182, 3) := by decide +kernel
theorem dX10_readsNumber_49 : decode cX10_readsNumber 49 = .ok (.iadd, 1) := by decide +kernel
theorem dX10_readsNumber_50 : decode cX10_readsNumber 50 = .ok (.bipush 48, 2) := by decide +kernel
theorem dX10_readsNumber_52 : decode cX10_readsNumber 52 = .ok (.isub, 1) := by decide +kernel
theorem dX10_readsNumber_53 : decode cX10_readsNumber 53 = .ok (.putfield 192, 3) := by decide +kernel
theorem dX10_readsNumber_56 : decode cX10_readsNumber 56 = .ok (.aload_n 0, 1) := by decide +kernel
theorem dX10_readsNumber_57 : decode cX10_readsNumber 57 = .ok (.aload_n 0, 1) := by decide +kernel
theorem dX10_readsNumber_58 : decode cX10_readsNumber 58 = .ok (.getfield 176, 3) := by decide +kernel
theorem dX10_readsNumber_61 : decode cX10_readsNumber 61 = .ok (.iconst 1, 1) := by decide +kernel
theorem dX10_readsNumber_62 : decode cX10_readsNumber 62 = .ok (.iadd, 1) := by decide +kernel
theorem dX10_readsNumber_63 : decode cX10_readsNumber 63 = .ok (.putfield 176, 3) := by decide +kernel
theorem dX10_readsNumber_66 : decode cX10_readsNumber 66 = .ok (.goto (-56), 3) := by decide +kernel
theorem dX10_readsNumber_69 : decode cX10_readsNumber 69 = .ok (.iconst 1, 1) := by decide +kernel
theorem dX10_readsNumber_70 : decode cX10_readsNumber 70 = .ok (.ireturn, 1) := by decide +kernel
theorem dX10_notes_0 : decode cX10_notes 0 = .ok (.aload_n 0, 1) := by decide +kernel
theorem dX10_notes_1 : decode cX10_notes 1 = .ok (.getfield 35, 3) := by decide +kernel
theorem dX10_notes_4 : decode cX10_notes 4 = .ok (.aload_n 0, 1) := by decide +kernel
theorem dX10_notes_5 : decode cX10_notes 5 = .ok (.getfield 199, 3) := by decide +kernel
theorem dX10_notes_8 : decode cX10_notes 8 = .ok (.ldc 202, 2) := by decide +kernel
theorem dX10_notes_10 : decode cX10_notes 10 = .ok (.iload_n 1, 1) := by decide +kernel
theorem dX10_notes_11 : decode cX10_notes 11 = .ok (.imul, 1) := by decide +kernel
theorem dX10_notes_12 : decode cX10_notes 12 = .ok (.iload_n 2, 1) := by decide +kernel
theorem dX10_notes_13 : decode cX10_notes 13 = .ok (.iadd, 1) := by decide +kernel
theorem dX10_notes_14 : decode cX10_notes 14 = .ok (.iastore, 1) := by decide +kernel
theorem dX10_notes_15 : decode cX10_notes 15 = .ok (.aload_n 0, 1) := by decide +kernel
theorem dX10_notes_16 : decode cX10_notes 16 = .ok (.aload_n 0, 1) := by decide +kernel
theorem dX10_notes_17 : decode cX10_notes 17 = .ok (.getfield 199, 3) := by decide +kernel
theorem dX10_notes_20 : decode cX10_notes 20 = .ok (.iconst 1, 1) := by decide +kernel
theorem dX10_notes_21 : decode cX10_notes 21 = .ok (.iadd, 1) := by decide +kernel
theorem dX10_notes_22 : decode cX10_notes 22 = .ok (.putfield 199, 3) := by decide +kernel
theorem dX10_notes_25 : decode cX10_notes 25 = .ok (.return_, 1) := by decide +kernel
theorem dX10_opens_0 : decode cX10_opens 0 = .ok (.aload_n 0, 1) := by decide +kernel
theorem dX10_opens_1 : decode cX10_opens 1 = .ok (.getfield 203, 3) := by decide +kernel
theorem dX10_opens_4 : decode cX10_opens 4 = .ok (.bipush 6, 2) := by decide +kernel
theorem dX10_opens_6 : decode cX10_opens 6 = .ok (.if_icmp .ne 13, 3) := by decide +kernel
theorem dX10_opens_9 : decode cX10_opens 9 = .ok (.aload_n 0, 1) := by decide +kernel
theorem dX10_opens_10 : decode cX10_opens 10 = .ok (.iconst 5, 1) := by decide +kernel
theorem dX10_opens_11 : decode cX10_opens 11 = .ok (.aload_n 0, 1) := by decide +kernel
theorem dX10_opens_12 : decode cX10_opens 12 = .ok (.getfield 176, 3) := by decide +kernel
theorem dX10_opens_15 : decode cX10_opens 15 = .ok (.invokevirtual 189, 3) := by decide +kernel
theorem dX10_opens_18 : decode cX10_opens 18 = .ok (.ireturn, 1) := by decide +kernel
theorem dX10_opens_19 : decode cX10_opens 19 = .ok (.aload_n 0, 1) := by decide +kernel
theorem dX10_opens_20 : decode cX10_opens 20 = .ok (.aload_n 0, 1) := by decide +kernel
theorem dX10_opens_21 : decode cX10_opens 21 = .ok (.getfield 203, 3) := by decide +kernel
theorem dX10_opens_24 : decode cX10_opens 24 = .ok (.iconst 1, 1) := by decide +kernel
theorem dX10_opens_25 : decode cX10_opens 25 = .ok (.iadd, 1) := by decide +kernel
theorem dX10_opens_26 : decode cX10_opens 26 = .ok (.putfield 203, 3) := by decide +kernel
theorem dX10_opens_29 : decode cX10_opens 29 = .ok (.aload_n 0, 1) := by decide +kernel
theorem dX10_opens_30 : decode cX10_opens 30 = .ok (.getfield 38, 3) := by decide +kernel
theorem dX10_opens_33 : decode cX10_opens 33 = .ok (.aload_n 0, 1) := by decide +kernel
theorem dX10_opens_34 : decode cX10_opens 34 = .ok (.getfield 206, 3) := by decide +kernel
theorem dX10_opens_37 : decode cX10_opens 37 = .ok (.ldc 202, 2) := by decide +kernel
theorem dX10_opens_39 : decode cX10_opens 39 = .ok (.iload_n 1, 1) := by decide +kernel
theorem dX10_opens_40 : decode cX10_opens 40 = .ok (.imul, 1) := by decide +kernel
theorem dX10_opens_41 : decode cX10_opens 41 = .ok (.iastore, 1) := by decide +kernel
theorem dX10_opens_42 : decode cX10_opens 42 = .ok (.aload_n 0, 1) := by decide +kernel
theorem dX10_opens_43 : decode cX10_opens 43 = .ok (.aload_n 0, 1) := by decide +kernel
theorem dX10_opens_44 : decode cX10_opens 44 = .ok (.getfield 206, 3) := by decide +kernel
theorem dX10_opens_47 : decode cX10_opens 47 = .ok (.iconst 1, 1) := by decide +kernel
theorem dX10_opens_48 : decode cX10_opens 48 = .ok (.iadd, 1) := by decide +kernel
theorem dX10_opens_49 : decode cX10_opens 49 = .ok (.putfield 206, 3) := by decide +kernel
theorem dX10_opens_52 : decode cX10_opens 52 = .ok (.aload_n 0, 1) := by decide +kernel
theorem dX10_opens_53 : decode cX10_opens 53 = .ok (.aload_n 0, 1) := by decide +kernel
theorem dX10_opens_54 : decode cX10_opens 54 = .ok (.getfield 176, 3) := by decide +kernel
theorem dX10_opens_57 : decode cX10_opens 57 = .ok (.iconst 1, 1) := by decide +kernel
theorem dX10_opens_58 : decode cX10_opens 58 = .ok (.iadd, 1) := by decide +kernel
theorem dX10_opens_59 : decode cX10_opens 59 = .ok (.putfield 176, 3) := by decide +kernel
theorem dX10_opens_62 : decode cX10_opens 62 = .ok (.iconst 1, 1) := by decide +kernel
theorem dX10_opens_63 : decode cX10_opens 63 = .ok (.ireturn, 1) := by decide +kernel
theorem dX10_waitTop_0 : decode cX10_waitTop 0 = .ok (.aload_n 0, 1) := by decide +kernel
theorem dX10_waitTop_1 : decode cX10_waitTop 1 = .ok (.getfield 206, 3) := by decide +kernel
theorem dX10_waitTop_4 : decode cX10_waitTop 4 = .ok (.ifCond .ne 7, 3) := by decide +kernel
theorem dX10_waitTop_7 : decode cX10_waitTop 7 = .ok (.iconst (-1), 1) := by decide +kernel
theorem dX10_waitTop_8 : decode cX10_waitTop 8 = .ok (.goto 17, 3) := by decide +kernel
theorem dX10_waitTop_11 : decode cX10_waitTop 11 = .ok (.aload_n 0, 1) := by decide +kernel
theorem dX10_waitTop_12 : decode cX10_waitTop 12 = .ok (.getfield 38, 3) := by decide +kernel
theorem dX10_waitTop_15 : decode cX10_waitTop 15 = .ok (.aload_n 0, 1) := by decide +kernel
theorem dX10_waitTop_16 : decode cX10_waitTop 16 = .ok (.getfield 206, 3) := by decide +kernel
theorem dX10_waitTop_19 : decode cX10_waitTop 19 = .ok (.iconst 1, 1) := by decide +kernel
theorem dX10_waitTop_20 : decode cX10_waitTop 20 = .ok (.isub, 1) := by decide +kernel
theorem dX10_waitTop_21 : decode cX10_waitTop 21 = .ok (.iaload, 1) := by decide +kernel
theorem dX10_waitTop_22 : decode cX10_waitTop 22 = .ok (.ldc 202, 2) := by decide +kernel
theorem dX10_waitTop_24 : decode cX10_waitTop 24 = .ok (.idiv, 1) := by decide +kernel
theorem dX10_waitTop_25 : decode cX10_waitTop 25 = .ok (.ireturn, 1) := by decide +kernel
theorem dX10_factOf_0 : decode cX10_factOf 0 = .ok (.iload_n 0, 1) := by decide +kernel
theorem dX10_factOf_1 : decode cX10_factOf 1 = .ok (.tableswitch 104 103 119 #[89, 104, 104, 104, 83, 87, 91, 93, 95, 104, 104, 104, 104, 98, 85, 104, 101], 83) := by decide +kernel
theorem dX10_factOf_84 : decode cX10_factOf 84 = .ok (.iconst 0, 1) := by decide +kernel
theorem dX10_factOf_85 : decode cX10_factOf 85 = .ok (.ireturn, 1) := by decide +kernel
theorem dX10_factOf_86 : decode cX10_factOf 86 = .ok (.iconst 1, 1) := by decide +kernel
theorem dX10_factOf_87 : decode cX10_factOf 87 = .ok (.ireturn, 1) := by decide +kernel
theorem dX10_factOf_88 : decode cX10_factOf 88 = .ok (.iconst 2, 1) := by decide +kernel
theorem dX10_factOf_89 : decode cX10_factOf 89 = .ok (.ireturn, 1) := by decide +kernel
theorem dX10_factOf_90 : decode cX10_factOf 90 = .ok (.iconst 3, 1) := by decide +kernel
theorem dX10_factOf_91 : decode cX10_factOf 91 = .ok (.ireturn, 1) := by decide +kernel
theorem dX10_factOf_92 : decode cX10_factOf 92 = .ok (.iconst 4, 1) := by decide +kernel
theorem dX10_factOf_93 : decode cX10_factOf 93 = .ok (.ireturn, 1) := by decide +kernel
theorem dX10_factOf_94 : decode cX10_factOf 94 = .ok (.iconst 5, 1) := by decide +kernel
theorem dX10_factOf_95 : decode cX10_factOf 95 = .ok (.ireturn, 1) := by decide +kernel
theorem dX10_factOf_96 : decode cX10_factOf 96 = .ok (.bipush 6, 2) := by decide +kernel
theorem dX10_factOf_98 : decode cX10_factOf 98 = .ok (.ireturn, 1) := by decide +kernel
theorem dX10_factOf_99 : decode cX10_factOf 99 = .ok (.bipush 7, 2) := by decide +kernel
theorem dX10_factOf_101 : decode cX10_factOf 101 = .ok (.ireturn, 1) := by decide +kernel
theorem dX10_factOf_102 : decode cX10_factOf 102 = .ok (.bipush 8, 2) := by decide +kernel
theorem dX10_factOf_104 : decode cX10_factOf 104 = .ok (.ireturn, 1) := by decide +kernel
theorem dX10_factOf_105 : decode cX10_factOf 105 = .ok (.iconst (-1), 1) := by decide +kernel
theorem dX10_factOf_106 : decode cX10_factOf 106 = .ok (.ireturn, 1) := by decide +kernel
theorem dX10_sumSign_0 : decode cX10_sumSign 0 = .ok (.iload_n 0, 1) := by decide +kernel
theorem dX10_sumSign_1 : decode cX10_sumSign 1 = .ok (.bipush 43, 2) := by decide +kernel
theorem dX10_sumSign_3 : decode cX10_sumSign 3 = .ok (.if_icmp .ne 7, 3) := by decide +kernel
theorem dX10_sumSign_6 : decode cX10_sumSign 6 = .ok (.iconst 2, 1) := by decide +kernel
theorem dX10_sumSign_7 : decode cX10_sumSign 7 = .ok (.goto 45, 3) := by decide +kernel
theorem dX10_sumSign_10 : decode cX10_sumSign 10 = .ok (.iload_n 0, 1) := by decide +kernel
theorem dX10_sumSign_11 : decode cX10_sumSign 11 = .ok (.bipush 45, 2) := by decide +kernel
theorem dX10_sumSign_13 : decode cX10_sumSign 13 = .ok (.if_icmp .ne 7, 3) := by decide +kernel
theorem dX10_sumSign_16 : decode cX10_sumSign 16 = .ok (.iconst 3, 1) := by decide +kernel
theorem dX10_sumSign_17 : decode cX10_sumSign 17 = .ok (.goto 35, 3) := by decide +kernel
theorem dX10_sumSign_20 : decode cX10_sumSign 20 = .ok (.iload_n 0, 1) := by decide +kernel
theorem dX10_sumSign_21 : decode cX10_sumSign 21 = .ok (.bipush 42, 2) := by decide +kernel
theorem dX10_sumSign_23 : decode cX10_sumSign 23 = .ok (.if_icmp .ne 7, 3) := by decide +kernel
theorem dX10_sumSign_26 : decode cX10_sumSign 26 = .ok (.iconst 4, 1) := by decide +kernel
theorem dX10_sumSign_27 : decode cX10_sumSign 27 = .ok (.goto 25, 3) := by decide +kernel
theorem dX10_sumSign_30 : decode cX10_sumSign 30 = .ok (.iload_n 0, 1) := by decide +kernel
theorem dX10_sumSign_31 : decode cX10_sumSign 31 = .ok (.bipush 47, 2) := by decide +kernel
theorem dX10_sumSign_33 : decode cX10_sumSign 33 = .ok (.if_icmp .ne 7, 3) := by decide +kernel
theorem dX10_sumSign_36 : decode cX10_sumSign 36 = .ok (.iconst 5, 1) := by decide +kernel
theorem dX10_sumSign_37 : decode cX10_sumSign 37 = .ok (.goto 15, 3) := by decide +kernel
theorem dX10_sumSign_40 : decode cX10_sumSign 40 = .ok (.iload_n 0, 1) := by decide +kernel
theorem dX10_sumSign_41 : decode cX10_sumSign 41 = .ok (.bipush 37, 2) := by decide +kernel
theorem dX10_sumSign_43 : decode cX10_sumSign 43 = .ok (.if_icmp .ne 8, 3) := by decide +kernel
theorem dX10_sumSign_46 : decode cX10_sumSign 46 = .ok (.bipush 6, 2) := by decide +kernel
theorem dX10_sumSign_48 : decode cX10_sumSign 48 = .ok (.goto 4, 3) := by decide +kernel
theorem dX10_sumSign_51 : decode cX10_sumSign 51 = .ok (.iconst (-1), 1) := by decide +kernel
theorem dX10_sumSign_52 : decode cX10_sumSign 52 = .ok (.ireturn, 1) := by decide +kernel
theorem dX10_closesSums_0 : decode cX10_closesSums 0 = .ok (.aload_n 0, 1) := by decide +kernel
theorem dX10_closesSums_1 : decode cX10_closesSums 1 = .ok (.invokevirtual 209, 3) := by decide +kernel
theorem dX10_closesSums_4 : decode cX10_closesSums 4 = .ok (.iconst 4, 1) := by decide +kernel
theorem dX10_closesSums_5 : decode cX10_closesSums 5 = .ok (.if_icmp .lt 12, 3) := by decide +kernel
theorem dX10_closesSums_8 : decode cX10_closesSums 8 = .ok (.aload_n 0, 1) := by decide +kernel
theorem dX10_closesSums_9 : decode cX10_closesSums 9 = .ok (.invokevirtual 209, 3) := by decide +kernel
theorem dX10_closesSums_12 : decode cX10_closesSums 12 = .ok (.bipush 6, 2) := by decide +kernel
theorem dX10_closesSums_14 : decode cX10_closesSums 14 = .ok (.if_icmp .le 23, 3) := by decide +kernel
theorem dX10_closesSums_17 : decode cX10_closesSums 17 = .ok (.iload_n 1, 1) := by decide +kernel
theorem dX10_closesSums_18 : decode cX10_closesSums 18 = .ok (.ifCond .eq 41, 3) := by decide +kernel
theorem dX10_closesSums_21 : decode cX10_closesSums 21 = .ok (.aload_n 0, 1) := by decide +kernel
theorem dX10_closesSums_22 : decode cX10_closesSums 22 = .ok (.invokevirtual 209, 3) := by decide +kernel
theorem dX10_closesSums_25 : decode cX10_closesSums 25 = .ok (.iconst 2, 1) := by decide +kernel
theorem dX10_closesSums_26 : decode cX10_closesSums 26 = .ok (.if_icmp .eq 11, 3) := by decide +kernel
theorem dX10_closesSums_29 : decode cX10_closesSums 29 = .ok (.aload_n 0, 1) := by decide +kernel
theorem dX10_closesSums_30 : decode cX10_closesSums 30 = .ok (.invokevirtual 209, 3) := by decide +kernel
theorem dX10_closesSums_33 : decode cX10_closesSums 33 = .ok (.iconst 3, 1) := by decide +kernel
theorem dX10_closesSums_34 : decode cX10_closesSums 34 = .ok (.if_icmp .ne 25, 3) := by decide +kernel
theorem dX10_closesSums_37 : decode cX10_closesSums 37 = .ok (.aload_n 0, 1) := by decide +kernel
theorem dX10_closesSums_38 : decode cX10_closesSums 38 = .ok (.aload_n 0, 1) := by decide +kernel
theorem dX10_closesSums_39 : decode cX10_closesSums 39 = .ok (.invokevirtual 209, 3) := by decide +kernel
theorem dX10_closesSums_42 : decode cX10_closesSums 42 = .ok (.iconst 0, 1) := by decide +kernel
theorem dX10_closesSums_43 : decode cX10_closesSums 43 = .ok (.invokevirtual 212, 3) := by decide +kernel
theorem dX10_closesSums_46 : decode cX10_closesSums 46 = .ok (.aload_n 0, 1) := by decide +kernel
theorem dX10_closesSums_47 : decode cX10_closesSums 47 = .ok (.aload_n 0, 1) := by decide +kernel
theorem dX10_closesSums_48 : decode cX10_closesSums 48 = .ok (.getfield 206, 3) := by decide +kernel
theorem dX10_closesSums_51 : decode cX10_closesSums 51 = .ok (.iconst 1, 1) := by decide +kernel
theorem dX10_closesSums_52 : decode cX10_closesSums 52 = .ok (.isub, 1) := by decide +kernel
theorem dX10_closesSums_53 : decode cX10_closesSums 53 = .ok (.putfield 206, 3) := by decide +kernel
theorem dX10_closesSums_56 : decode cX10_closesSums 56 = .ok (.goto (-56), 3) := by decide +kernel
theorem dX10_closesSums_59 : decode cX10_closesSums 59 = .ok (.return_, 1) := by decide +kernel
theorem dX10_readsFactor_0 : decode cX10_readsFactor 0 = .ok (.aload_n 0, 1) := by decide +kernel
theorem dX10_readsFactor_1 : decode cX10_readsFactor 1 = .ok (.invokevirtual 182, 3) := by decide +kernel
theorem dX10_readsFactor_4 : decode cX10_readsFactor 4 = .ok (.bipush 91, 2) := by decide +kernel
theorem dX10_readsFactor_6 : decode cX10_readsFactor 6 = .ok (.if_icmp .ne 14, 3) := by decide +kernel
theorem dX10_readsFactor_9 : decode cX10_readsFactor 9 = .ok (.aload_n 0, 1) := by decide +kernel
theorem dX10_readsFactor_10 : decode cX10_readsFactor 10 = .ok (.bipush 14, 2) := by decide +kernel
theorem dX10_readsFactor_12 : decode cX10_readsFactor 12 = .ok (.invokevirtual 216, 3) := by decide +kernel
theorem dX10_readsFactor_15 : decode cX10_readsFactor 15 = .ok (.ifCond .ne (-15), 3) := by decide +kernel
theorem dX10_readsFactor_18 : decode cX10_readsFactor 18 = .ok (.iconst 0, 1) := by decide +kernel
theorem dX10_readsFactor_19 : decode cX10_readsFactor 19 = .ok (.ireturn, 1) := by decide +kernel
theorem dX10_readsFactor_20 : decode cX10_readsFactor 20 = .ok (.aload_n 0, 1) := by decide +kernel
theorem dX10_readsFactor_21 : decode cX10_readsFactor 21 = .ok (.invokevirtual 195, 3) := by decide +kernel
theorem dX10_readsFactor_24 : decode cX10_readsFactor 24 = .ok (.ifCond .eq 23, 3) := by decide +kernel
theorem dX10_readsFactor_27 : decode cX10_readsFactor 27 = .ok (.aload_n 0, 1) := by decide +kernel
theorem dX10_readsFactor_28 : decode cX10_readsFactor 28 = .ok (.invokevirtual 220, 3) := by decide +kernel
theorem dX10_readsFactor_31 : decode cX10_readsFactor 31 = .ok (.ifCond .ne 5, 3) := by decide +kernel
theorem dX10_readsFactor_34 : decode cX10_readsFactor 34 = .ok (.iconst 0, 1) := by decide +kernel
theorem dX10_readsFactor_35 : decode cX10_readsFactor 35 = .ok (.ireturn, 1) := by decide +kernel
theorem dX10_readsFactor_36 : decode cX10_readsFactor 36 = .ok (.aload_n 0, 1) := by decide +kernel
theorem dX10_readsFactor_37 : decode cX10_readsFactor 37 = .ok (.iconst 0, 1) := by decide +kernel
theorem dX10_readsFactor_38 : decode cX10_readsFactor 38 = .ok (.aload_n 0, 1) := by decide +kernel
theorem dX10_readsFactor_39 : decode cX10_readsFactor 39 = .ok (.getfield 192, 3) := by decide +kernel
theorem dX10_readsFactor_42 : decode cX10_readsFactor 42 = .ok (.invokevirtual 212, 3) := by decide +kernel
theorem dX10_readsFactor_45 : decode cX10_readsFactor 45 = .ok (.iconst 1, 1) := by decide +kernel
theorem dX10_readsFactor_46 : decode cX10_readsFactor 46 = .ok (.ireturn, 1) := by decide +kernel
theorem dX10_readsFactor_47 : decode cX10_readsFactor 47 = .ok (.aload_n 0, 1) := by decide +kernel
theorem dX10_readsFactor_48 : decode cX10_readsFactor 48 = .ok (.invokevirtual 182, 3) := by decide +kernel
theorem dX10_readsFactor_51 : decode cX10_readsFactor 51 = .ok (.invokestatic 223, 3) := by decide +kernel
theorem dX10_readsFactor_54 : decode cX10_readsFactor 54 = .ok (.istore_n 1, 1) := by decide +kernel
theorem dX10_readsFactor_55 : decode cX10_readsFactor 55 = .ok (.iload_n 1, 1) := by decide +kernel
theorem dX10_readsFactor_56 : decode cX10_readsFactor 56 = .ok (.iconst (-1), 1) := by decide +kernel
theorem dX10_readsFactor_57 : decode cX10_readsFactor 57 = .ok (.if_icmp .ne 13, 3) := by decide +kernel
theorem dX10_readsFactor_60 : decode cX10_readsFactor 60 = .ok (.aload_n 0, 1) := by decide +kernel
theorem dX10_readsFactor_61 : decode cX10_readsFactor 61 = .ok (.iconst 1, 1) := by decide +kernel
theorem dX10_readsFactor_62 : decode cX10_readsFactor 62 = .ok (.aload_n 0, 1) := by decide +kernel
theorem dX10_readsFactor_63 : decode cX10_readsFactor 63 = .ok (.getfield 176, 3) := by decide +kernel
theorem dX10_readsFactor_66 : decode cX10_readsFactor 66 = .ok (.invokevirtual 189, 3) := by decide +kernel
theorem dX10_readsFactor_69 : decode cX10_readsFactor 69 = .ok (.ireturn, 1) := by decide +kernel
theorem dX10_readsFactor_70 : decode cX10_readsFactor 70 = .ok (.aload_n 0, 1) := by decide +kernel
theorem dX10_readsFactor_71 : decode cX10_readsFactor 71 = .ok (.iconst 1, 1) := by decide +kernel
theorem dX10_readsFactor_72 : decode cX10_readsFactor 72 = .ok (.iload_n 1, 1) := by decide +kernel
theorem dX10_readsFactor_73 : decode cX10_readsFactor 73 = .ok (.invokevirtual 212, 3) := by decide +kernel
theorem dX10_readsFactor_76 : decode cX10_readsFactor 76 = .ok (.aload_n 0, 1) := by decide +kernel
theorem dX10_readsFactor_77 : decode cX10_readsFactor 77 = .ok (.aload_n 0, 1) := by decide +kernel
theorem dX10_readsFactor_78 : decode cX10_readsFactor 78 = .ok (.getfield 176, 3) := by decide +kernel
theorem dX10_readsFactor_81 : decode cX10_readsFactor 81 = .ok (.iconst 1, 1) := by decide +kernel
theorem dX10_readsFactor_82 : decode cX10_readsFactor 82 = .ok (.iadd, 1) := by decide +kernel
theorem dX10_readsFactor_83 : decode cX10_readsFactor 83 = .ok (.putfield 176, 3) := by decide +kernel
theorem dX10_readsFactor_86 : decode cX10_readsFactor 86 = .ok (.iconst 1, 1) := by decide +kernel
theorem dX10_readsFactor_87 : decode cX10_readsFactor 87 = .ok (.ireturn, 1) := by decide +kernel
theorem dX10_hasOpenSum_0 : decode cX10_hasOpenSum 0 = .ok (.iload_n 1, 1) := by decide +kernel
theorem dX10_hasOpenSum_1 : decode cX10_hasOpenSum 1 = .ok (.istore_n 2, 1) := by decide +kernel
theorem dX10_hasOpenSum_2 : decode cX10_hasOpenSum 2 = .ok (.iload_n 2, 1) := by decide +kernel
theorem dX10_hasOpenSum_3 : decode cX10_hasOpenSum 3 = .ok (.aload_n 0, 1) := by decide +kernel
theorem dX10_hasOpenSum_4 : decode cX10_hasOpenSum 4 = .ok (.getfield 206, 3) := by decide +kernel
theorem dX10_hasOpenSum_7 : decode cX10_hasOpenSum 7 = .ok (.if_icmp .ge 25, 3) := by decide +kernel
theorem dX10_hasOpenSum_10 : decode cX10_hasOpenSum 10 = .ok (.aload_n 0, 1) := by decide +kernel
theorem dX10_hasOpenSum_11 : decode cX10_hasOpenSum 11 = .ok (.getfield 38, 3) := by decide +kernel
theorem dX10_hasOpenSum_14 : decode cX10_hasOpenSum 14 = .ok (.iload_n 2, 1) := by decide +kernel
theorem dX10_hasOpenSum_15 : decode cX10_hasOpenSum 15 = .ok (.iaload, 1) := by decide +kernel
theorem dX10_hasOpenSum_16 : decode cX10_hasOpenSum 16 = .ok (.ldc 202, 2) := by decide +kernel
theorem dX10_hasOpenSum_18 : decode cX10_hasOpenSum 18 = .ok (.idiv, 1) := by decide +kernel
theorem dX10_hasOpenSum_19 : decode cX10_hasOpenSum 19 = .ok (.bipush 14, 2) := by decide +kernel
theorem dX10_hasOpenSum_21 : decode cX10_hasOpenSum 21 = .ok (.if_icmp .ne 5, 3) := by decide +kernel
theorem dX10_hasOpenSum_24 : decode cX10_hasOpenSum 24 = .ok (.iconst 1, 1) := by decide +kernel
theorem dX10_hasOpenSum_25 : decode cX10_hasOpenSum 25 = .ok (.ireturn, 1) := by decide +kernel
theorem dX10_hasOpenSum_26 : decode cX10_hasOpenSum 26 = .ok (.iinc 2 1, 3) := by decide +kernel
theorem dX10_hasOpenSum_29 : decode cX10_hasOpenSum 29 = .ok (.goto (-27), 3) := by decide +kernel
theorem dX10_hasOpenSum_32 : decode cX10_hasOpenSum 32 = .ok (.iconst 0, 1) := by decide +kernel
theorem dX10_hasOpenSum_33 : decode cX10_hasOpenSum 33 = .ok (.ireturn, 1) := by decide +kernel
theorem dX10_readsSum_0 : decode cX10_readsSum 0 = .ok (.aload_n 0, 1) := by decide +kernel
theorem dX10_readsSum_1 : decode cX10_readsSum 1 = .ok (.getfield 206, 3) := by decide +kernel
theorem dX10_readsSum_4 : decode cX10_readsSum 4 = .ok (.istore_n 1, 1) := by decide +kernel
theorem dX10_readsSum_5 : decode cX10_readsSum 5 = .ok (.aload_n 0, 1) := by decide +kernel
theorem dX10_readsSum_6 : decode cX10_readsSum 6 = .ok (.invokevirtual 227, 3) := by decide +kernel
theorem dX10_readsSum_9 : decode cX10_readsSum 9 = .ok (.ifCond .ne 5, 3) := by decide +kernel
theorem dX10_readsSum_12 : decode cX10_readsSum 12 = .ok (.iconst 0, 1) := by decide +kernel
theorem dX10_readsSum_13 : decode cX10_readsSum 13 = .ok (.ireturn, 1) := by decide +kernel
theorem dX10_readsSum_14 : decode cX10_readsSum 14 = .ok (.aload_n 0, 1) := by decide +kernel
theorem dX10_readsSum_15 : decode cX10_readsSum 15 = .ok (.invokevirtual 182, 3) := by decide +kernel
theorem dX10_readsSum_18 : decode cX10_readsSum 18 = .ok (.invokestatic 230, 3) := by decide +kernel
theorem dX10_readsSum_21 : decode cX10_readsSum 21 = .ok (.istore_n 2, 1) := by decide +kernel
theorem dX10_readsSum_22 : decode cX10_readsSum 22 = .ok (.iload_n 2, 1) := by decide +kernel
theorem dX10_readsSum_23 : decode cX10_readsSum 23 = .ok (.iconst (-1), 1) := by decide +kernel
theorem dX10_readsSum_24 : decode cX10_readsSum 24 = .ok (.if_icmp .eq 59, 3) := by decide +kernel
theorem dX10_readsSum_27 : decode cX10_readsSum 27 = .ok (.aload_n 0, 1) := by decide +kernel
theorem dX10_readsSum_28 : decode cX10_readsSum 28 = .ok (.iload_n 2, 1) := by decide +kernel
theorem dX10_readsSum_29 : decode cX10_readsSum 29 = .ok (.iconst 4, 1) := by decide +kernel
theorem dX10_readsSum_30 : decode cX10_readsSum 30 = .ok (.if_icmp .ge 7, 3) := by decide +kernel
theorem dX10_readsSum_33 : decode cX10_readsSum 33 = .ok (.iconst 1, 1) := by decide +kernel
theorem dX10_readsSum_34 : decode cX10_readsSum 34 = .ok (.goto 4, 3) := by decide +kernel
theorem dX10_readsSum_37 : decode cX10_readsSum 37 = .ok (.iconst 0, 1) := by decide +kernel
theorem dX10_readsSum_38 : decode cX10_readsSum 38 = .ok (.invokevirtual 233, 3) := by decide +kernel
theorem dX10_readsSum_41 : decode cX10_readsSum 41 = .ok (.aload_n 0, 1) := by decide +kernel
theorem dX10_readsSum_42 : decode cX10_readsSum 42 = .ok (.getfield 38, 3) := by decide +kernel
theorem dX10_readsSum_45 : decode cX10_readsSum 45 = .ok (.aload_n 0, 1) := by decide +kernel
theorem dX10_readsSum_46 : decode cX10_readsSum 46 = .ok (.getfield 206, 3) := by decide +kernel
theorem dX10_readsSum_49 : decode cX10_readsSum 49 = .ok (.ldc 202, 2) := by decide +kernel
theorem dX10_readsSum_51 : decode cX10_readsSum 51 = .ok (.iload_n 2, 1) := by decide +kernel
theorem dX10_readsSum_52 : decode cX10_readsSum 52 = .ok (.imul, 1) := by decide +kernel
theorem dX10_readsSum_53 : decode cX10_readsSum 53 = .ok (.iastore, 1) := by decide +kernel
theorem dX10_readsSum_54 : decode cX10_readsSum 54 = .ok (.aload_n 0, 1) := by decide +kernel
theorem dX10_readsSum_55 : decode cX10_readsSum 55 = .ok (.aload_n 0, 1) := by decide +kernel
theorem dX10_readsSum_56 : decode cX10_readsSum 56 = .ok (.getfield 206, 3) := by decide +kernel
theorem dX10_readsSum_59 : decode cX10_readsSum 59 = .ok (.iconst 1, 1) := by decide +kernel
theorem dX10_readsSum_60 : decode cX10_readsSum 60 = .ok (.iadd, 1) := by decide +kernel
theorem dX10_readsSum_61 : decode cX10_readsSum 61 = .ok (.putfield 206, 3) := by decide +kernel
theorem dX10_readsSum_64 : decode cX10_readsSum 64 = .ok (.aload_n 0, 1) := by decide +kernel
theorem dX10_readsSum_65 : decode cX10_readsSum 65 = .ok (.aload_n 0, 1) := by decide +kernel
theorem dX10_readsSum_66 : decode cX10_readsSum 66 = .ok (.getfield 176, 3) := by decide +kernel
theorem dX10_readsSum_69 : decode cX10_readsSum 69 = .ok (.iconst 1, 1) := by decide +kernel
theorem dX10_readsSum_70 : decode cX10_readsSum 70 = .ok (.iadd, 1) := by decide +kernel
theorem dX10_readsSum_71 : decode cX10_readsSum 71 = .ok (.putfield 176, 3) := by decide +kernel
theorem dX10_readsSum_74 : decode cX10_readsSum 74 = .ok (.aload_n 0, 1) := by decide +kernel
theorem dX10_readsSum_75 : decode cX10_readsSum 75 = .ok (.invokevirtual 227, 3) := by decide +kernel
theorem dX10_readsSum_78 : decode cX10_readsSum 78 = .ok (.ifCond .ne 85, 3) := by decide +kernel
theorem dX10_readsSum_81 : decode cX10_readsSum 81 = .ok (.iconst 0, 1) := by decide +kernel
theorem dX10_readsSum_82 : decode cX10_readsSum 82 = .ok (.ireturn, 1) := by decide +kernel
theorem dX10_readsSum_83 : decode cX10_readsSum 83 = .ok (.aload_n 0, 1) := by decide +kernel
theorem dX10_readsSum_84 : decode cX10_readsSum 84 = .ok (.invokevirtual 182, 3) := by decide +kernel
theorem dX10_readsSum_87 : decode cX10_readsSum 87 = .ok (.bipush 93, 2) := by decide +kernel
theorem dX10_readsSum_89 : decode cX10_readsSum 89 = .ok (.if_icmp .ne 49, 3) := by decide +kernel
theorem dX10_readsSum_92 : decode cX10_readsSum 92 = .ok (.aload_n 0, 1) := by decide +kernel
theorem dX10_readsSum_93 : decode cX10_readsSum 93 = .ok (.iload_n 1, 1) := by decide +kernel
theorem dX10_readsSum_94 : decode cX10_readsSum 94 = .ok (.invokevirtual 237, 3) := by decide +kernel
theorem dX10_readsSum_97 : decode cX10_readsSum 97 = .ok (.ifCond .eq 41, 3) := by decide +kernel
theorem dX10_readsSum_100 : decode cX10_readsSum 100 = .ok (.aload_n 0, 1) := by decide +kernel
theorem dX10_readsSum_101 : decode cX10_readsSum 101 = .ok (.iconst 1, 1) := by decide +kernel
theorem dX10_readsSum_102 : decode cX10_readsSum 102 = .ok (.invokevirtual 233, 3) := by decide +kernel
theorem dX10_readsSum_105 : decode cX10_readsSum 105 = .ok (.aload_n 0, 1) := by decide +kernel
theorem dX10_readsSum_106 : decode cX10_readsSum 106 = .ok (.aload_n 0, 1) := by decide +kernel
theorem dX10_readsSum_107 : decode cX10_readsSum 107 = .ok (.getfield 206, 3) := by decide +kernel
theorem dX10_readsSum_110 : decode cX10_readsSum 110 = .ok (.iconst 1, 1) := by decide +kernel
theorem dX10_readsSum_111 : decode cX10_readsSum 111 = .ok (.isub, 1) := by decide +kernel
theorem dX10_readsSum_112 : decode cX10_readsSum 112 = .ok (.putfield 206, 3) := by decide +kernel
theorem dX10_readsSum_115 : decode cX10_readsSum 115 = .ok (.aload_n 0, 1) := by decide +kernel
theorem dX10_readsSum_116 : decode cX10_readsSum 116 = .ok (.aload_n 0, 1) := by decide +kernel
theorem dX10_readsSum_117 : decode cX10_readsSum 117 = .ok (.getfield 203, 3) := by decide +kernel
theorem dX10_readsSum_120 : decode cX10_readsSum 120 = .ok (.iconst 1, 1) := by decide +kernel
theorem dX10_readsSum_121 : decode cX10_readsSum 121 = .ok (.isub, 1) := by decide +kernel
theorem dX10_readsSum_122 : decode cX10_readsSum 122 = .ok (.putfield 203, 3) := by decide +kernel
theorem dX10_readsSum_125 : decode cX10_readsSum 125 = .ok (.aload_n 0, 1) := by decide +kernel
theorem dX10_readsSum_126 : decode cX10_readsSum 126 = .ok (.aload_n 0, 1) := by decide +kernel
theorem dX10_readsSum_127 : decode cX10_readsSum 127 = .ok (.getfield 176, 3) := by decide +kernel
theorem dX10_readsSum_130 : decode cX10_readsSum 130 = .ok (.iconst 1, 1) := by decide +kernel
theorem dX10_readsSum_131 : decode cX10_readsSum 131 = .ok (.iadd, 1) := by decide +kernel
theorem dX10_readsSum_132 : decode cX10_readsSum 132 = .ok (.putfield 176, 3) := by decide +kernel
theorem dX10_readsSum_135 : decode cX10_readsSum 135 = .ok (.goto 28, 3) := by decide +kernel
theorem dX10_readsSum_138 : decode cX10_readsSum 138 = .ok (.aload_n 0, 1) := by decide +kernel
theorem dX10_readsSum_139 : decode cX10_readsSum 139 = .ok (.iload_n 1, 1) := by decide +kernel
theorem dX10_readsSum_140 : decode cX10_readsSum 140 = .ok (.invokevirtual 237, 3) := by decide +kernel
theorem dX10_readsSum_143 : decode cX10_readsSum 143 = .ok (.ifCond .eq 13, 3) := by decide +kernel
theorem dX10_readsSum_146 : decode cX10_readsSum 146 = .ok (.aload_n 0, 1) := by decide +kernel
theorem dX10_readsSum_147 : decode cX10_readsSum 147 = .ok (.iconst 1, 1) := by decide +kernel
theorem dX10_readsSum_148 : decode cX10_readsSum 148 = .ok (.aload_n 0, 1) := by decide +kernel
theorem dX10_readsSum_149 : decode cX10_readsSum 149 = .ok (.getfield 176, 3) := by decide +kernel
theorem dX10_readsSum_152 : decode cX10_readsSum 152 = .ok (.invokevirtual 189, 3) := by decide +kernel
theorem dX10_readsSum_155 : decode cX10_readsSum 155 = .ok (.ireturn, 1) := by decide +kernel
theorem dX10_readsSum_156 : decode cX10_readsSum 156 = .ok (.aload_n 0, 1) := by decide +kernel
theorem dX10_readsSum_157 : decode cX10_readsSum 157 = .ok (.iconst 1, 1) := by decide +kernel
theorem dX10_readsSum_158 : decode cX10_readsSum 158 = .ok (.invokevirtual 233, 3) := by decide +kernel
theorem dX10_readsSum_161 : decode cX10_readsSum 161 = .ok (.iconst 1, 1) := by decide +kernel
theorem dX10_readsSum_162 : decode cX10_readsSum 162 = .ok (.ireturn, 1) := by decide +kernel
theorem dX10_readsSum_163 : decode cX10_readsSum 163 = .ok (.goto (-149), 3) := by decide +kernel
theorem dX10_endsPiece_0 : decode cX10_endsPiece 0 = .ok (.aload_n 0, 1) := by decide +kernel
theorem dX10_endsPiece_1 : decode cX10_endsPiece 1 = .ok (.invokevirtual 209, 3) := by decide +kernel
theorem dX10_endsPiece_4 : decode cX10_endsPiece 4 = .ok (.bipush 10, 2) := by decide +kernel
theorem dX10_endsPiece_6 : decode cX10_endsPiece 6 = .ok (.if_icmp .ne 33, 3) := by decide +kernel
theorem dX10_endsPiece_9 : decode cX10_endsPiece 9 = .ok (.aload_n 0, 1) := by decide +kernel
theorem dX10_endsPiece_10 : decode cX10_endsPiece 10 = .ok (.bipush 10, 2) := by decide +kernel
theorem dX10_endsPiece_12 : decode cX10_endsPiece 12 = .ok (.iconst 0, 1) := by decide +kernel
theorem dX10_endsPiece_13 : decode cX10_endsPiece 13 = .ok (.invokevirtual 212, 3) := by decide +kernel
theorem dX10_endsPiece_16 : decode cX10_endsPiece 16 = .ok (.aload_n 0, 1) := by decide +kernel
theorem dX10_endsPiece_17 : decode cX10_endsPiece 17 = .ok (.aload_n 0, 1) := by decide +kernel
theorem dX10_endsPiece_18 : decode cX10_endsPiece 18 = .ok (.getfield 206, 3) := by decide +kernel
theorem dX10_endsPiece_21 : decode cX10_endsPiece 21 = .ok (.iconst 1, 1) := by decide +kernel
theorem dX10_endsPiece_22 : decode cX10_endsPiece 22 = .ok (.isub, 1) := by decide +kernel
theorem dX10_endsPiece_23 : decode cX10_endsPiece 23 = .ok (.putfield 206, 3) := by decide +kernel
theorem dX10_endsPiece_26 : decode cX10_endsPiece 26 = .ok (.aload_n 0, 1) := by decide +kernel
theorem dX10_endsPiece_27 : decode cX10_endsPiece 27 = .ok (.aload_n 0, 1) := by decide +kernel
theorem dX10_endsPiece_28 : decode cX10_endsPiece 28 = .ok (.getfield 203, 3) := by decide +kernel
theorem dX10_endsPiece_31 : decode cX10_endsPiece 31 = .ok (.iconst 1, 1) := by decide +kernel
theorem dX10_endsPiece_32 : decode cX10_endsPiece 32 = .ok (.isub, 1) := by decide +kernel
theorem dX10_endsPiece_33 : decode cX10_endsPiece 33 = .ok (.putfield 203, 3) := by decide +kernel
theorem dX10_endsPiece_36 : decode cX10_endsPiece 36 = .ok (.goto (-36), 3) := by decide +kernel
theorem dX10_endsPiece_39 : decode cX10_endsPiece 39 = .ok (.return_, 1) := by decide +kernel
theorem dX10_lands_0 : decode cX10_lands 0 = .ok (.aload_n 0, 1) := by decide +kernel
theorem dX10_lands_1 : decode cX10_lands 1 = .ok (.invokevirtual 209, 3) := by decide +kernel
theorem dX10_lands_4 : decode cX10_lands 4 = .ok (.bipush 11, 2) := by decide +kernel
theorem dX10_lands_6 : decode cX10_lands 6 = .ok (.if_icmp .eq 16, 3) := by decide +kernel
theorem dX10_lands_9 : decode cX10_lands 9 = .ok (.iload_n 1, 1) := by decide +kernel
theorem dX10_lands_10 : decode cX10_lands 10 = .ok (.ifCond .eq 63, 3) := by decide +kernel
theorem dX10_lands_13 : decode cX10_lands 13 = .ok (.aload_n 0, 1) := by decide +kernel
theorem dX10_lands_14 : decode cX10_lands 14 = .ok (.invokevirtual 209, 3) := by decide +kernel
theorem dX10_lands_17 : decode cX10_lands 17 = .ok (.bipush 12, 2) := by decide +kernel
theorem dX10_lands_19 : decode cX10_lands 19 = .ok (.if_icmp .ne 54, 3) := by decide +kernel
theorem dX10_lands_22 : decode cX10_lands 22 = .ok (.aload_n 0, 1) := by decide +kernel
theorem dX10_lands_23 : decode cX10_lands 23 = .ok (.getfield 38, 3) := by decide +kernel
theorem dX10_lands_26 : decode cX10_lands 26 = .ok (.aload_n 0, 1) := by decide +kernel
theorem dX10_lands_27 : decode cX10_lands 27 = .ok (.getfield 206, 3) := by decide +kernel
theorem dX10_lands_30 : decode cX10_lands 30 = .ok (.iconst 1, 1) := by decide +kernel
theorem dX10_lands_31 : decode cX10_lands 31 = .ok (.isub, 1) := by decide +kernel
theorem dX10_lands_32 : decode cX10_lands 32 = .ok (.iaload, 1) := by decide +kernel
theorem dX10_lands_33 : decode cX10_lands 33 = .ok (.ldc 202, 2) := by decide +kernel
theorem dX10_lands_35 : decode cX10_lands 35 = .ok (.irem, 1) := by decide +kernel
theorem dX10_lands_36 : decode cX10_lands 36 = .ok (.istore_n 2, 1) := by decide +kernel
theorem dX10_lands_37 : decode cX10_lands 37 = .ok (.aload_n 0, 1) := by decide +kernel
theorem dX10_lands_38 : decode cX10_lands 38 = .ok (.getfield 35, 3) := by decide +kernel
theorem dX10_lands_41 : decode cX10_lands 41 = .ok (.iload_n 2, 1) := by decide +kernel
theorem dX10_lands_42 : decode cX10_lands 42 = .ok (.ldc 202, 2) := by decide +kernel
theorem dX10_lands_44 : decode cX10_lands 44 = .ok (.aload_n 0, 1) := by decide +kernel
theorem dX10_lands_45 : decode cX10_lands 45 = .ok (.getfield 35, 3) := by decide +kernel
theorem dX10_lands_48 : decode cX10_lands 48 = .ok (.iload_n 2, 1) := by decide +kernel
theorem dX10_lands_49 : decode cX10_lands 49 = .ok (.iaload, 1) := by decide +kernel
theorem dX10_lands_50 : decode cX10_lands 50 = .ok (.ldc 202, 2) := by decide +kernel
theorem dX10_lands_52 : decode cX10_lands 52 = .ok (.idiv, 1) := by decide +kernel
theorem dX10_lands_53 : decode cX10_lands 53 = .ok (.imul, 1) := by decide +kernel
theorem dX10_lands_54 : decode cX10_lands 54 = .ok (.aload_n 0, 1) := by decide +kernel
theorem dX10_lands_55 : decode cX10_lands 55 = .ok (.getfield 199, 3) := by decide +kernel
theorem dX10_lands_58 : decode cX10_lands 58 = .ok (.iadd, 1) := by decide +kernel
theorem dX10_lands_59 : decode cX10_lands 59 = .ok (.iastore, 1) := by decide +kernel
theorem dX10_lands_60 : decode cX10_lands 60 = .ok (.aload_n 0, 1) := by decide +kernel
theorem dX10_lands_61 : decode cX10_lands 61 = .ok (.aload_n 0, 1) := by decide +kernel
theorem dX10_lands_62 : decode cX10_lands 62 = .ok (.getfield 206, 3) := by decide +kernel
theorem dX10_lands_65 : decode cX10_lands 65 = .ok (.iconst 1, 1) := by decide +kernel
theorem dX10_lands_66 : decode cX10_lands 66 = .ok (.isub, 1) := by decide +kernel
theorem dX10_lands_67 : decode cX10_lands 67 = .ok (.putfield 206, 3) := by decide +kernel
theorem dX10_lands_70 : decode cX10_lands 70 = .ok (.goto (-70), 3) := by decide +kernel
theorem dX10_lands_73 : decode cX10_lands 73 = .ok (.return_, 1) := by decide +kernel
theorem dX10_jumps_0 : decode cX10_jumps 0 = .ok (.aload_n 0, 1) := by decide +kernel
theorem dX10_jumps_1 : decode cX10_jumps 1 = .ok (.getfield 38, 3) := by decide +kernel
theorem dX10_jumps_4 : decode cX10_jumps 4 = .ok (.aload_n 0, 1) := by decide +kernel
theorem dX10_jumps_5 : decode cX10_jumps 5 = .ok (.getfield 206, 3) := by decide +kernel
theorem dX10_jumps_8 : decode cX10_jumps 8 = .ok (.ldc 202, 2) := by decide +kernel
theorem dX10_jumps_10 : decode cX10_jumps 10 = .ok (.iload_n 1, 1) := by decide +kernel
theorem dX10_jumps_11 : decode cX10_jumps 11 = .ok (.imul, 1) := by decide +kernel
theorem dX10_jumps_12 : decode cX10_jumps 12 = .ok (.aload_n 0, 1) := by decide +kernel
theorem dX10_jumps_13 : decode cX10_jumps 13 = .ok (.getfield 199, 3) := by decide +kernel
theorem dX10_jumps_16 : decode cX10_jumps 16 = .ok (.iadd, 1) := by decide +kernel
theorem dX10_jumps_17 : decode cX10_jumps 17 = .ok (.iastore, 1) := by decide +kernel
theorem dX10_jumps_18 : decode cX10_jumps 18 = .ok (.aload_n 0, 1) := by decide +kernel
theorem dX10_jumps_19 : decode cX10_jumps 19 = .ok (.aload_n 0, 1) := by decide +kernel
theorem dX10_jumps_20 : decode cX10_jumps 20 = .ok (.getfield 206, 3) := by decide +kernel
theorem dX10_jumps_23 : decode cX10_jumps 23 = .ok (.iconst 1, 1) := by decide +kernel
theorem dX10_jumps_24 : decode cX10_jumps 24 = .ok (.iadd, 1) := by decide +kernel
theorem dX10_jumps_25 : decode cX10_jumps 25 = .ok (.putfield 206, 3) := by decide +kernel
theorem dX10_jumps_28 : decode cX10_jumps 28 = .ok (.aload_n 0, 1) := by decide +kernel
theorem dX10_jumps_29 : decode cX10_jumps 29 = .ok (.iload_n 1, 1) := by decide +kernel
theorem dX10_jumps_30 : decode cX10_jumps 30 = .ok (.iconst 0, 1) := by decide +kernel
theorem dX10_jumps_31 : decode cX10_jumps 31 = .ok (.invokevirtual 212, 3) := by decide +kernel
theorem dX10_jumps_34 : decode cX10_jumps 34 = .ok (.aload_n 0, 1) := by decide +kernel
theorem dX10_jumps_35 : decode cX10_jumps 35 = .ok (.aload_n 0, 1) := by decide +kernel
theorem dX10_jumps_36 : decode cX10_jumps 36 = .ok (.getfield 176, 3) := by decide +kernel
theorem dX10_jumps_39 : decode cX10_jumps 39 = .ok (.iconst 1, 1) := by decide +kernel
theorem dX10_jumps_40 : decode cX10_jumps 40 = .ok (.iadd, 1) := by decide +kernel
theorem dX10_jumps_41 : decode cX10_jumps 41 = .ok (.putfield 176, 3) := by decide +kernel
theorem dX10_jumps_44 : decode cX10_jumps 44 = .ok (.return_, 1) := by decide +kernel
theorem dX10_readsCompared_0 : decode cX10_readsCompared 0 = .ok (.aload_n 0, 1) := by decide +kernel
theorem dX10_readsCompared_1 : decode cX10_readsCompared 1 = .ok (.invokevirtual 240, 3) := by decide +kernel
theorem dX10_readsCompared_4 : decode cX10_readsCompared 4 = .ok (.ifCond .ne 5, 3) := by decide +kernel
theorem dX10_readsCompared_7 : decode cX10_readsCompared 7 = .ok (.iconst 0, 1) := by decide +kernel
theorem dX10_readsCompared_8 : decode cX10_readsCompared 8 = .ok (.ireturn, 1) := by decide +kernel
theorem dX10_readsCompared_9 : decode cX10_readsCompared 9 = .ok (.aload_n 0, 1) := by decide +kernel
theorem dX10_readsCompared_10 : decode cX10_readsCompared 10 = .ok (.invokevirtual 182, 3) := by decide +kernel
theorem dX10_readsCompared_13 : decode cX10_readsCompared 13 = .ok (.bipush 60, 2) := by decide +kernel
theorem dX10_readsCompared_15 : decode cX10_readsCompared 15 = .ok (.if_icmp .ne 8, 3) := by decide +kernel
theorem dX10_readsCompared_18 : decode cX10_readsCompared 18 = .ok (.bipush 7, 2) := by decide +kernel
theorem dX10_readsCompared_20 : decode cX10_readsCompared 20 = .ok (.goto 32, 3) := by decide +kernel
theorem dX10_readsCompared_23 : decode cX10_readsCompared 23 = .ok (.aload_n 0, 1) := by decide +kernel
theorem dX10_readsCompared_24 : decode cX10_readsCompared 24 = .ok (.invokevirtual 182, 3) := by decide +kernel
theorem dX10_readsCompared_27 : decode cX10_readsCompared 27 = .ok (.bipush 62, 2) := by decide +kernel
theorem dX10_readsCompared_29 : decode cX10_readsCompared 29 = .ok (.if_icmp .ne 8, 3) := by decide +kernel
theorem dX10_readsCompared_32 : decode cX10_readsCompared 32 = .ok (.bipush 8, 2) := by decide +kernel
theorem dX10_readsCompared_34 : decode cX10_readsCompared 34 = .ok (.goto 18, 3) := by decide +kernel
theorem dX10_readsCompared_37 : decode cX10_readsCompared 37 = .ok (.aload_n 0, 1) := by decide +kernel
theorem dX10_readsCompared_38 : decode cX10_readsCompared 38 = .ok (.invokevirtual 182, 3) := by decide +kernel
theorem dX10_readsCompared_41 : decode cX10_readsCompared 41 = .ok (.bipush 61, 2) := by decide +kernel
theorem dX10_readsCompared_43 : decode cX10_readsCompared 43 = .ok (.if_icmp .ne 8, 3) := by decide +kernel
theorem dX10_readsCompared_46 : decode cX10_readsCompared 46 = .ok (.bipush 9, 2) := by decide +kernel
theorem dX10_readsCompared_48 : decode cX10_readsCompared 48 = .ok (.goto 4, 3) := by decide +kernel
theorem dX10_readsCompared_51 : decode cX10_readsCompared 51 = .ok (.iconst (-1), 1) := by decide +kernel
theorem dX10_readsCompared_52 : decode cX10_readsCompared 52 = .ok (.istore_n 1, 1) := by decide +kernel
theorem dX10_readsCompared_53 : decode cX10_readsCompared 53 = .ok (.iload_n 1, 1) := by decide +kernel
theorem dX10_readsCompared_54 : decode cX10_readsCompared 54 = .ok (.iconst (-1), 1) := by decide +kernel
theorem dX10_readsCompared_55 : decode cX10_readsCompared 55 = .ok (.if_icmp .ne 13, 3) := by decide +kernel
theorem dX10_readsCompared_58 : decode cX10_readsCompared 58 = .ok (.aload_n 0, 1) := by decide +kernel
theorem dX10_readsCompared_59 : decode cX10_readsCompared 59 = .ok (.iconst 1, 1) := by decide +kernel
theorem dX10_readsCompared_60 : decode cX10_readsCompared 60 = .ok (.aload_n 0, 1) := by decide +kernel
theorem dX10_readsCompared_61 : decode cX10_readsCompared 61 = .ok (.getfield 176, 3) := by decide +kernel
theorem dX10_readsCompared_64 : decode cX10_readsCompared 64 = .ok (.invokevirtual 189, 3) := by decide +kernel
theorem dX10_readsCompared_67 : decode cX10_readsCompared 67 = .ok (.ireturn, 1) := by decide +kernel
theorem dX10_readsCompared_68 : decode cX10_readsCompared 68 = .ok (.aload_n 0, 1) := by decide +kernel
theorem dX10_readsCompared_69 : decode cX10_readsCompared 69 = .ok (.aload_n 0, 1) := by decide +kernel
theorem dX10_readsCompared_70 : decode cX10_readsCompared 70 = .ok (.getfield 176, 3) := by decide +kernel
theorem dX10_readsCompared_73 : decode cX10_readsCompared 73 = .ok (.iconst 1, 1) := by decide +kernel
theorem dX10_readsCompared_74 : decode cX10_readsCompared 74 = .ok (.iadd, 1) := by decide +kernel
theorem dX10_readsCompared_75 : decode cX10_readsCompared 75 = .ok (.putfield 176, 3) := by decide +kernel
theorem dX10_readsCompared_78 : decode cX10_readsCompared 78 = .ok (.aload_n 0, 1) := by decide +kernel
theorem dX10_readsCompared_79 : decode cX10_readsCompared 79 = .ok (.invokevirtual 240, 3) := by decide +kernel
theorem dX10_readsCompared_82 : decode cX10_readsCompared 82 = .ok (.ifCond .ne 5, 3) := by decide +kernel
theorem dX10_readsCompared_85 : decode cX10_readsCompared 85 = .ok (.iconst 0, 1) := by decide +kernel
theorem dX10_readsCompared_86 : decode cX10_readsCompared 86 = .ok (.ireturn, 1) := by decide +kernel
theorem dX10_readsCompared_87 : decode cX10_readsCompared 87 = .ok (.aload_n 0, 1) := by decide +kernel
theorem dX10_readsCompared_88 : decode cX10_readsCompared 88 = .ok (.iload_n 1, 1) := by decide +kernel
theorem dX10_readsCompared_89 : decode cX10_readsCompared 89 = .ok (.iconst 0, 1) := by decide +kernel
theorem dX10_readsCompared_90 : decode cX10_readsCompared 90 = .ok (.invokevirtual 212, 3) := by decide +kernel
theorem dX10_readsCompared_93 : decode cX10_readsCompared 93 = .ok (.aload_n 0, 1) := by decide +kernel
theorem dX10_readsCompared_94 : decode cX10_readsCompared 94 = .ok (.invokevirtual 243, 3) := by decide +kernel
theorem dX10_readsCompared_97 : decode cX10_readsCompared 97 = .ok (.iconst 1, 1) := by decide +kernel
theorem dX10_readsCompared_98 : decode cX10_readsCompared 98 = .ok (.ireturn, 1) := by decide +kernel
theorem dX10_readsCondition_0 : decode cX10_readsCondition 0 = .ok (.aload_n 0, 1) := by decide +kernel
theorem dX10_readsCondition_1 : decode cX10_readsCondition 1 = .ok (.invokevirtual 182, 3) := by decide +kernel
theorem dX10_readsCondition_4 : decode cX10_readsCondition 4 = .ok (.bipush 40, 2) := by decide +kernel
theorem dX10_readsCondition_6 : decode cX10_readsCondition 6 = .ok (.if_icmp .eq 13, 3) := by decide +kernel
theorem dX10_readsCondition_9 : decode cX10_readsCondition 9 = .ok (.aload_n 0, 1) := by decide +kernel
theorem dX10_readsCondition_10 : decode cX10_readsCondition 10 = .ok (.iconst 1, 1) := by decide +kernel
theorem dX10_readsCondition_11 : decode cX10_readsCondition 11 = .ok (.aload_n 0, 1) := by decide +kernel
theorem dX10_readsCondition_12 : decode cX10_readsCondition 12 = .ok (.getfield 176, 3) := by decide +kernel
theorem dX10_readsCondition_15 : decode cX10_readsCondition 15 = .ok (.invokevirtual 189, 3) := by decide +kernel
theorem dX10_readsCondition_18 : decode cX10_readsCondition 18 = .ok (.ireturn, 1) := by decide +kernel
theorem dX10_readsCondition_19 : decode cX10_readsCondition 19 = .ok (.aload_n 0, 1) := by decide +kernel
theorem dX10_readsCondition_20 : decode cX10_readsCondition 20 = .ok (.iconst 0, 1) := by decide +kernel
theorem dX10_readsCondition_21 : decode cX10_readsCondition 21 = .ok (.putfield 203, 3) := by decide +kernel
theorem dX10_readsCondition_24 : decode cX10_readsCondition 24 = .ok (.aload_n 0, 1) := by decide +kernel
theorem dX10_readsCondition_25 : decode cX10_readsCondition 25 = .ok (.iconst 0, 1) := by decide +kernel
theorem dX10_readsCondition_26 : decode cX10_readsCondition 26 = .ok (.putfield 206, 3) := by decide +kernel
theorem dX10_readsCondition_29 : decode cX10_readsCondition 29 = .ok (.aload_n 0, 1) := by decide +kernel
theorem dX10_readsCondition_30 : decode cX10_readsCondition 30 = .ok (.bipush 13, 2) := by decide +kernel
theorem dX10_readsCondition_32 : decode cX10_readsCondition 32 = .ok (.invokevirtual 216, 3) := by decide +kernel
theorem dX10_readsCondition_35 : decode cX10_readsCondition 35 = .ok (.ifCond .ne 5, 3) := by decide +kernel
theorem dX10_readsCondition_38 : decode cX10_readsCondition 38 = .ok (.iconst 0, 1) := by decide +kernel
theorem dX10_readsCondition_39 : decode cX10_readsCondition 39 = .ok (.ireturn, 1) := by decide +kernel
theorem dX10_readsCondition_40 : decode cX10_readsCondition 40 = .ok (.aload_n 0, 1) := by decide +kernel
theorem dX10_readsCondition_41 : decode cX10_readsCondition 41 = .ok (.invokevirtual 182, 3) := by decide +kernel
theorem dX10_readsCondition_44 : decode cX10_readsCondition 44 = .ok (.bipush 33, 2) := by decide +kernel
theorem dX10_readsCondition_46 : decode cX10_readsCondition 46 = .ok (.if_icmp .eq 12, 3) := by decide +kernel
theorem dX10_readsCondition_49 : decode cX10_readsCondition 49 = .ok (.aload_n 0, 1) := by decide +kernel
theorem dX10_readsCondition_50 : decode cX10_readsCondition 50 = .ok (.invokevirtual 182, 3) := by decide +kernel
theorem dX10_readsCondition_53 : decode cX10_readsCondition 53 = .ok (.bipush 40, 2) := by decide +kernel
theorem dX10_readsCondition_55 : decode cX10_readsCondition 55 = .ok (.if_icmp .ne 28, 3) := by decide +kernel
theorem dX10_readsCondition_58 : decode cX10_readsCondition 58 = .ok (.aload_n 0, 1) := by decide +kernel
theorem dX10_readsCondition_59 : decode cX10_readsCondition 59 = .ok (.aload_n 0, 1) := by decide +kernel
theorem dX10_readsCondition_60 : decode cX10_readsCondition 60 = .ok (.invokevirtual 182, 3) := by decide +kernel
theorem dX10_readsCondition_63 : decode cX10_readsCondition 63 = .ok (.bipush 33, 2) := by decide +kernel
theorem dX10_readsCondition_65 : decode cX10_readsCondition 65 = .ok (.if_icmp .ne 8, 3) := by decide +kernel
theorem dX10_readsCondition_68 : decode cX10_readsCondition 68 = .ok (.bipush 10, 2) := by decide +kernel
theorem dX10_readsCondition_70 : decode cX10_readsCondition 70 = .ok (.goto 5, 3) := by decide +kernel
theorem dX10_readsCondition_73 : decode cX10_readsCondition 73 = .ok (.bipush 13, 2) := by decide +kernel
theorem dX10_readsCondition_75 : decode cX10_readsCondition 75 = .ok (.invokevirtual 216, 3) := by decide +kernel
theorem dX10_readsCondition_78 : decode cX10_readsCondition 78 = .ok (.ifCond .ne (-38), 3) := by decide +kernel
theorem dX10_readsCondition_81 : decode cX10_readsCondition 81 = .ok (.iconst 0, 1) := by decide +kernel
theorem dX10_readsCondition_82 : decode cX10_readsCondition 82 = .ok (.ireturn, 1) := by decide +kernel
theorem dX10_readsCondition_83 : decode cX10_readsCondition 83 = .ok (.aload_n 0, 1) := by decide +kernel
theorem dX10_readsCondition_84 : decode cX10_readsCondition 84 = .ok (.invokevirtual 246, 3) := by decide +kernel
theorem dX10_readsCondition_87 : decode cX10_readsCondition 87 = .ok (.ifCond .ne 5, 3) := by decide +kernel
theorem dX10_readsCondition_90 : decode cX10_readsCondition 90 = .ok (.iconst 0, 1) := by decide +kernel
theorem dX10_readsCondition_91 : decode cX10_readsCondition 91 = .ok (.ireturn, 1) := by decide +kernel
theorem dX10_readsCondition_92 : decode cX10_readsCondition 92 = .ok (.aload_n 0, 1) := by decide +kernel
theorem dX10_readsCondition_93 : decode cX10_readsCondition 93 = .ok (.invokevirtual 182, 3) := by decide +kernel
theorem dX10_readsCondition_96 : decode cX10_readsCondition 96 = .ok (.bipush 41, 2) := by decide +kernel
theorem dX10_readsCondition_98 : decode cX10_readsCondition 98 = .ok (.if_icmp .ne 54, 3) := by decide +kernel
theorem dX10_readsCondition_101 : decode cX10_readsCondition 101 = .ok (.aload_n 0, 1) := by decide +kernel
theorem dX10_readsCondition_102 : decode cX10_readsCondition 102 = .ok (.iconst 1, 1) := by decide +kernel
theorem dX10_readsCondition_103 : decode cX10_readsCondition 103 = .ok (.invokevirtual 249, 3) := by decide +kernel
theorem dX10_readsCondition_106 : decode cX10_readsCondition 106 = .ok (.aload_n 0, 1) := by decide +kernel
theorem dX10_readsCondition_107 : decode cX10_readsCondition 107 = .ok (.aload_n 0, 1) := by decide +kernel
theorem dX10_readsCondition_108 : decode cX10_readsCondition 108 = .ok (.getfield 206, 3) := by decide +kernel
theorem dX10_readsCondition_111 : decode cX10_readsCondition 111 = .ok (.iconst 1, 1) := by decide +kernel
theorem dX10_readsCondition_112 : decode cX10_readsCondition 112 = .ok (.isub, 1) := by decide +kernel
theorem dX10_readsCondition_113 : decode cX10_readsCondition 113 = .ok (.putfield 206, 3) := by decide +kernel
theorem dX10_readsCondition_116 : decode cX10_readsCondition 116 = .ok (.aload_n 0, 1) := by decide +kernel
theorem dX10_readsCondition_117 : decode cX10_readsCondition 117 = .ok (.aload_n 0, 1) := by decide +kernel
theorem dX10_readsCondition_118 : decode cX10_readsCondition 118 = .ok (.getfield 203, 3) := by decide +kernel
theorem dX10_readsCondition_121 : decode cX10_readsCondition 121 = .ok (.iconst 1, 1) := by decide +kernel
theorem dX10_readsCondition_122 : decode cX10_readsCondition 122 = .ok (.isub, 1) := by decide +kernel
theorem dX10_readsCondition_123 : decode cX10_readsCondition 123 = .ok (.putfield 203, 3) := by decide +kernel
theorem dX10_readsCondition_126 : decode cX10_readsCondition 126 = .ok (.aload_n 0, 1) := by decide +kernel
theorem dX10_readsCondition_127 : decode cX10_readsCondition 127 = .ok (.aload_n 0, 1) := by decide +kernel
theorem dX10_readsCondition_128 : decode cX10_readsCondition 128 = .ok (.getfield 176, 3) := by decide +kernel
theorem dX10_readsCondition_131 : decode cX10_readsCondition 131 = .ok (.iconst 1, 1) := by decide +kernel
theorem dX10_readsCondition_132 : decode cX10_readsCondition 132 = .ok (.iadd, 1) := by decide +kernel
theorem dX10_readsCondition_133 : decode cX10_readsCondition 133 = .ok (.putfield 176, 3) := by decide +kernel
theorem dX10_readsCondition_136 : decode cX10_readsCondition 136 = .ok (.aload_n 0, 1) := by decide +kernel
theorem dX10_readsCondition_137 : decode cX10_readsCondition 137 = .ok (.getfield 206, 3) := by decide +kernel
theorem dX10_readsCondition_140 : decode cX10_readsCondition 140 = .ok (.ifCond .ne 5, 3) := by decide +kernel
theorem dX10_readsCondition_143 : decode cX10_readsCondition 143 = .ok (.iconst 1, 1) := by decide +kernel
theorem dX10_readsCondition_144 : decode cX10_readsCondition 144 = .ok (.ireturn, 1) := by decide +kernel
theorem dX10_readsCondition_145 : decode cX10_readsCondition 145 = .ok (.aload_n 0, 1) := by decide +kernel
theorem dX10_readsCondition_146 : decode cX10_readsCondition 146 = .ok (.invokevirtual 243, 3) := by decide +kernel
theorem dX10_readsCondition_149 : decode cX10_readsCondition 149 = .ok (.goto (-57), 3) := by decide +kernel
theorem dX10_readsCondition_152 : decode cX10_readsCondition 152 = .ok (.aload_n 0, 1) := by decide +kernel
theorem dX10_readsCondition_153 : decode cX10_readsCondition 153 = .ok (.invokevirtual 182, 3) := by decide +kernel
theorem dX10_readsCondition_156 : decode cX10_readsCondition 156 = .ok (.bipush 38, 2) := by decide +kernel
theorem dX10_readsCondition_158 : decode cX10_readsCondition 158 = .ok (.if_icmp .eq 22, 3) := by decide +kernel
theorem dX10_readsCondition_161 : decode cX10_readsCondition 161 = .ok (.aload_n 0, 1) := by decide +kernel
theorem dX10_readsCondition_162 : decode cX10_readsCondition 162 = .ok (.invokevirtual 182, 3) := by decide +kernel
theorem dX10_readsCondition_165 : decode cX10_readsCondition 165 = .ok (.bipush 124, 2) := by decide +kernel
theorem dX10_readsCondition_167 : decode cX10_readsCondition 167 = .ok (.if_icmp .eq 13, 3) := by decide +kernel
theorem dX10_readsCondition_170 : decode cX10_readsCondition 170 = .ok (.aload_n 0, 1) := by decide +kernel
theorem dX10_readsCondition_171 : decode cX10_readsCondition 171 = .ok (.iconst 1, 1) := by decide +kernel
theorem dX10_readsCondition_172 : decode cX10_readsCondition 172 = .ok (.aload_n 0, 1) := by decide +kernel
theorem dX10_readsCondition_173 : decode cX10_readsCondition 173 = .ok (.getfield 176, 3) := by decide +kernel
theorem dX10_readsCondition_176 : decode cX10_readsCondition 176 = .ok (.invokevirtual 189, 3) := by decide +kernel
theorem dX10_readsCondition_179 : decode cX10_readsCondition 179 = .ok (.ireturn, 1) := by decide +kernel
theorem dX10_readsCondition_180 : decode cX10_readsCondition 180 = .ok (.aload_n 0, 1) := by decide +kernel
theorem dX10_readsCondition_181 : decode cX10_readsCondition 181 = .ok (.aload_n 0, 1) := by decide +kernel
theorem dX10_readsCondition_182 : decode cX10_readsCondition 182 = .ok (.invokevirtual 182, 3) := by decide +kernel
theorem dX10_readsCondition_185 : decode cX10_readsCondition 185 = .ok (.bipush 124, 2) := by decide +kernel
theorem dX10_readsCondition_187 : decode cX10_readsCondition 187 = .ok (.if_icmp .ne 7, 3) := by decide +kernel
theorem dX10_readsCondition_190 : decode cX10_readsCondition 190 = .ok (.iconst 1, 1) := by decide +kernel
theorem dX10_readsCondition_191 : decode cX10_readsCondition 191 = .ok (.goto 4, 3) := by decide +kernel
theorem dX10_readsCondition_194 : decode cX10_readsCondition 194 = .ok (.iconst 0, 1) := by decide +kernel
theorem dX10_readsCondition_195 : decode cX10_readsCondition 195 = .ok (.invokevirtual 249, 3) := by decide +kernel
theorem dX10_readsCondition_198 : decode cX10_readsCondition 198 = .ok (.aload_n 0, 1) := by decide +kernel
theorem dX10_readsCondition_199 : decode cX10_readsCondition 199 = .ok (.aload_n 0, 1) := by decide +kernel
theorem dX10_readsCondition_200 : decode cX10_readsCondition 200 = .ok (.invokevirtual 182, 3) := by decide +kernel
theorem dX10_readsCondition_203 : decode cX10_readsCondition 203 = .ok (.bipush 38, 2) := by decide +kernel
theorem dX10_readsCondition_205 : decode cX10_readsCondition 205 = .ok (.if_icmp .ne 8, 3) := by decide +kernel
theorem dX10_readsCondition_208 : decode cX10_readsCondition 208 = .ok (.bipush 11, 2) := by decide +kernel
theorem dX10_readsCondition_210 : decode cX10_readsCondition 210 = .ok (.goto 5, 3) := by decide +kernel
theorem dX10_readsCondition_213 : decode cX10_readsCondition 213 = .ok (.bipush 12, 2) := by decide +kernel
theorem dX10_readsCondition_215 : decode cX10_readsCondition 215 = .ok (.invokevirtual 252, 3) := by decide +kernel
theorem dX10_readsCondition_218 : decode cX10_readsCondition 218 = .ok (.goto (-178), 3) := by decide +kernel
theorem dX10_readsRule_0 : decode cX10_readsRule 0 = .ok (.aload_n 0, 1) := by decide +kernel
theorem dX10_readsRule_1 : decode cX10_readsRule 1 = .ok (.invokevirtual 182, 3) := by decide +kernel
theorem dX10_readsRule_4 : decode cX10_readsRule 4 = .ok (.istore_n 1, 1) := by decide +kernel
theorem dX10_readsRule_5 : decode cX10_readsRule 5 = .ok (.iload_n 1, 1) := by decide +kernel
theorem dX10_readsRule_6 : decode cX10_readsRule 6 = .ok (.bipush 118, 2) := by decide +kernel
theorem dX10_readsRule_8 : decode cX10_readsRule 8 = .ok (.if_icmp .eq 31, 3) := by decide +kernel
theorem dX10_readsRule_11 : decode cX10_readsRule 11 = .ok (.iload_n 1, 1) := by decide +kernel
theorem dX10_readsRule_12 : decode cX10_readsRule 12 = .ok (.bipush 121, 2) := by decide +kernel
theorem dX10_readsRule_14 : decode cX10_readsRule 14 = .ok (.if_icmp .eq 25, 3) := by decide +kernel
theorem dX10_readsRule_17 : decode cX10_readsRule 17 = .ok (.iload_n 1, 1) := by decide +kernel
theorem dX10_readsRule_18 : decode cX10_readsRule 18 = .ok (.bipush 114, 2) := by decide +kernel
theorem dX10_readsRule_20 : decode cX10_readsRule 20 = .ok (.if_icmp .eq 19, 3) := by decide +kernel
theorem dX10_readsRule_23 : decode cX10_readsRule 23 = .ok (.iload_n 1, 1) := by decide +kernel
theorem dX10_readsRule_24 : decode cX10_readsRule 24 = .ok (.bipush 120, 2) := by decide +kernel
theorem dX10_readsRule_26 : decode cX10_readsRule 26 = .ok (.if_icmp .eq 13, 3) := by decide +kernel
theorem dX10_readsRule_29 : decode cX10_readsRule 29 = .ok (.aload_n 0, 1) := by decide +kernel
theorem dX10_readsRule_30 : decode cX10_readsRule 30 = .ok (.iconst 1, 1) := by decide +kernel
theorem dX10_readsRule_31 : decode cX10_readsRule 31 = .ok (.aload_n 0, 1) := by decide +kernel
theorem dX10_readsRule_32 : decode cX10_readsRule 32 = .ok (.getfield 176, 3) := by decide +kernel
theorem dX10_readsRule_35 : decode cX10_readsRule 35 = .ok (.invokevirtual 189, 3) := by decide +kernel
theorem dX10_readsRule_38 : decode cX10_readsRule 38 = .ok (.ireturn, 1) := by decide +kernel
theorem dX10_readsRule_39 : decode cX10_readsRule 39 = .ok (.aload_n 0, 1) := by decide +kernel
theorem dX10_readsRule_40 : decode cX10_readsRule 40 = .ok (.getfield 255, 3) := by decide +kernel
theorem dX10_readsRule_43 : decode cX10_readsRule 43 = .ok (.bipush 16, 2) := by decide +kernel
theorem dX10_readsRule_45 : decode cX10_readsRule 45 = .ok (.if_icmp .ne 13, 3) := by decide +kernel
theorem dX10_readsRule_48 : decode cX10_readsRule 48 = .ok (.aload_n 0, 1) := by decide +kernel
theorem dX10_readsRule_49 : decode cX10_readsRule 49 = .ok (.iconst 4, 1) := by decide +kernel
theorem dX10_readsRule_50 : decode cX10_readsRule 50 = .ok (.aload_n 0, 1) := by decide +kernel
theorem dX10_readsRule_51 : decode cX10_readsRule 51 = .ok (.getfield 176, 3) := by decide +kernel
theorem dX10_readsRule_54 : decode cX10_readsRule 54 = .ok (.invokevirtual 189, 3) := by decide +kernel
theorem dX10_readsRule_57 : decode cX10_readsRule 57 = .ok (.ireturn, 1) := by decide +kernel
theorem dX10_readsRule_58 : decode cX10_readsRule 58 = .ok (.aload_n 0, 1) := by decide +kernel
theorem dX10_readsRule_59 : decode cX10_readsRule 59 = .ok (.getfield 41, 3) := by decide +kernel
theorem dX10_readsRule_62 : decode cX10_readsRule 62 = .ok (.aload_n 0, 1) := by decide +kernel
theorem dX10_readsRule_63 : decode cX10_readsRule 63 = .ok (.getfield 255, 3) := by decide +kernel
theorem dX10_readsRule_66 : decode cX10_readsRule 66 = .ok (.iload_n 1, 1) := by decide +kernel
theorem dX10_readsRule_67 : decode cX10_readsRule 67 = .ok (.iastore, 1) := by decide +kernel
theorem dX10_readsRule_68 : decode cX10_readsRule 68 = .ok (.aload_n 0, 1) := by decide +kernel
theorem dX10_readsRule_69 : decode cX10_readsRule 69 = .ok (.aload_n 0, 1) := by decide +kernel
theorem dX10_readsRule_70 : decode cX10_readsRule 70 = .ok (.getfield 176, 3) := by decide +kernel
theorem dX10_readsRule_73 : decode cX10_readsRule 73 = .ok (.iconst 1, 1) := by decide +kernel
theorem dX10_readsRule_74 : decode cX10_readsRule 74 = .ok (.iadd, 1) := by decide +kernel
theorem dX10_readsRule_75 : decode cX10_readsRule 75 = .ok (.putfield 176, 3) := by decide +kernel
theorem dX10_readsRule_78 : decode cX10_readsRule 78 = .ok (.aload_n 0, 1) := by decide +kernel
theorem dX10_readsRule_79 : decode cX10_readsRule 79 = .ok (.getfield 44, 3) := by decide +kernel
theorem dX10_readsRule_82 : decode cX10_readsRule 82 = .ok (.aload_n 0, 1) := by decide +kernel
theorem dX10_readsRule_83 : decode cX10_readsRule 83 = .ok (.getfield 255, 3) := by decide +kernel
theorem dX10_readsRule_86 : decode cX10_readsRule 86 = .ok (.aload_n 0, 1) := by decide +kernel
theorem dX10_readsRule_87 : decode cX10_readsRule 87 = .ok (.getfield 199, 3) := by decide +kernel
theorem dX10_readsRule_90 : decode cX10_readsRule 90 = .ok (.iastore, 1) := by decide +kernel
theorem dX10_readsRule_91 : decode cX10_readsRule 91 = .ok (.aload_n 0, 1) := by decide +kernel
theorem dX10_readsRule_92 : decode cX10_readsRule 92 = .ok (.iconst 0, 1) := by decide +kernel
theorem dX10_readsRule_93 : decode cX10_readsRule 93 = .ok (.putfield 203, 3) := by decide +kernel
theorem dX10_readsRule_96 : decode cX10_readsRule 96 = .ok (.aload_n 0, 1) := by decide +kernel
theorem dX10_readsRule_97 : decode cX10_readsRule 97 = .ok (.iconst 0, 1) := by decide +kernel
theorem dX10_readsRule_98 : decode cX10_readsRule 98 = .ok (.putfield 206, 3) := by decide +kernel
theorem dX10_readsRule_101 : decode cX10_readsRule 101 = .ok (.iload_n 1, 1) := by decide +kernel
theorem dX10_readsRule_102 : decode cX10_readsRule 102 = .ok (.bipush 120, 2) := by decide +kernel
theorem dX10_readsRule_104 : decode cX10_readsRule 104 = .ok (.if_icmp .eq 12, 3) := by decide +kernel
theorem dX10_readsRule_107 : decode cX10_readsRule 107 = .ok (.aload_n 0, 1) := by decide +kernel
theorem dX10_readsRule_108 : decode cX10_readsRule 108 = .ok (.invokevirtual 240, 3) := by decide +kernel
theorem dX10_readsRule_111 : decode cX10_readsRule 111 = .ok (.ifCond .ne 5, 3) := by decide +kernel
theorem dX10_readsRule_114 : decode cX10_readsRule 114 = .ok (.iconst 0, 1) := by decide +kernel
theorem dX10_readsRule_115 : decode cX10_readsRule 115 = .ok (.ireturn, 1) := by decide +kernel
theorem dX10_readsRule_116 : decode cX10_readsRule 116 = .ok (.aload_n 0, 1) := by decide +kernel
theorem dX10_readsRule_117 : decode cX10_readsRule 117 = .ok (.getfield 47, 3) := by decide +kernel
theorem dX10_readsRule_120 : decode cX10_readsRule 120 = .ok (.aload_n 0, 1) := by decide +kernel
theorem dX10_readsRule_121 : decode cX10_readsRule 121 = .ok (.getfield 255, 3) := by decide +kernel
theorem dX10_readsRule_124 : decode cX10_readsRule 124 = .ok (.aload_n 0, 1) := by decide +kernel
theorem dX10_readsRule_125 : decode cX10_readsRule 125 = .ok (.getfield 199, 3) := by decide +kernel
theorem dX10_readsRule_128 : decode cX10_readsRule 128 = .ok (.iastore, 1) := by decide +kernel
theorem dX10_readsRule_129 : decode cX10_readsRule 129 = .ok (.aload_n 0, 1) := by decide +kernel
theorem dX10_readsRule_130 : decode cX10_readsRule 130 = .ok (.invokevirtual 258, 3) := by decide +kernel
theorem dX10_readsRule_133 : decode cX10_readsRule 133 = .ok (.ifCond .ne 5, 3) := by decide +kernel
theorem dX10_readsRule_136 : decode cX10_readsRule 136 = .ok (.iconst 0, 1) := by decide +kernel
theorem dX10_readsRule_137 : decode cX10_readsRule 137 = .ok (.ireturn, 1) := by decide +kernel
theorem dX10_readsRule_138 : decode cX10_readsRule 138 = .ok (.aload_n 0, 1) := by decide +kernel
theorem dX10_readsRule_139 : decode cX10_readsRule 139 = .ok (.getfield 50, 3) := by decide +kernel
theorem dX10_readsRule_142 : decode cX10_readsRule 142 = .ok (.aload_n 0, 1) := by decide +kernel
theorem dX10_readsRule_143 : decode cX10_readsRule 143 = .ok (.getfield 255, 3) := by decide +kernel
theorem dX10_readsRule_146 : decode cX10_readsRule 146 = .ok (.aload_n 0, 1) := by decide +kernel
theorem dX10_readsRule_147 : decode cX10_readsRule 147 = .ok (.getfield 199, 3) := by decide +kernel
theorem dX10_readsRule_150 : decode cX10_readsRule 150 = .ok (.iastore, 1) := by decide +kernel
theorem dX10_readsRule_151 : decode cX10_readsRule 151 = .ok (.aload_n 0, 1) := by decide +kernel
theorem dX10_readsRule_152 : decode cX10_readsRule 152 = .ok (.aload_n 0, 1) := by decide +kernel
theorem dX10_readsRule_153 : decode cX10_readsRule 153 = .ok (.getfield 255, 3) := by decide +kernel
theorem dX10_readsRule_156 : decode cX10_readsRule 156 = .ok (.iconst 1, 1) := by decide +kernel
theorem dX10_readsRule_157 : decode cX10_readsRule 157 = .ok (.iadd, 1) := by decide +kernel
theorem dX10_readsRule_158 : decode cX10_readsRule 158 = .ok (.putfield 255, 3) := by decide +kernel
theorem dX10_readsRule_161 : decode cX10_readsRule 161 = .ok (.iconst 1, 1) := by decide +kernel
theorem dX10_readsRule_162 : decode cX10_readsRule 162 = .ok (.ireturn, 1) := by decide +kernel
theorem dX10_beginsText_0 : decode cX10_beginsText 0 = .ok (.aload_n 0, 1) := by decide +kernel
theorem dX10_beginsText_1 : decode cX10_beginsText 1 = .ok (.iconst 0, 1) := by decide +kernel
theorem dX10_beginsText_2 : decode cX10_beginsText 2 = .ok (.putfield 176, 3) := by decide +kernel
theorem dX10_beginsText_5 : decode cX10_beginsText 5 = .ok (.aload_n 0, 1) := by decide +kernel
theorem dX10_beginsText_6 : decode cX10_beginsText 6 = .ok (.iload_n 1, 1) := by decide +kernel
theorem dX10_beginsText_7 : decode cX10_beginsText 7 = .ok (.putfield 179, 3) := by decide +kernel
theorem dX10_beginsText_10 : decode cX10_beginsText 10 = .ok (.aload_n 0, 1) := by decide +kernel
theorem dX10_beginsText_11 : decode cX10_beginsText 11 = .ok (.iconst 0, 1) := by decide +kernel
theorem dX10_beginsText_12 : decode cX10_beginsText 12 = .ok (.putfield 199, 3) := by decide +kernel
theorem dX10_beginsText_15 : decode cX10_beginsText 15 = .ok (.aload_n 0, 1) := by decide +kernel
theorem dX10_beginsText_16 : decode cX10_beginsText 16 = .ok (.iconst 0, 1) := by decide +kernel
theorem dX10_beginsText_17 : decode cX10_beginsText 17 = .ok (.putfield 255, 3) := by decide +kernel
theorem dX10_beginsText_20 : decode cX10_beginsText 20 = .ok (.return_, 1) := by decide +kernel
theorem dX10_law_0 : decode cX10_law 0 = .ok (.iload_n 1, 1) := by decide +kernel
theorem dX10_law_1 : decode cX10_law 1 = .ok (.iconst 1, 1) := by decide +kernel
theorem dX10_law_2 : decode cX10_law 2 = .ok (.sipush 240, 3) := by decide +kernel
theorem dX10_law_5 : decode cX10_law 5 = .ok (.invokestatic 161, 3) := by decide +kernel
theorem dX10_law_8 : decode cX10_law 8 = .ok (.ifCond .eq 11, 3) := by decide +kernel
theorem dX10_law_11 : decode cX10_law 11 = .ok (.iload_n 1, 1) := by decide +kernel
theorem dX10_law_12 : decode cX10_law 12 = .ok (.aload_n 0, 1) := by decide +kernel
theorem dX10_law_13 : decode cX10_law 13 = .ok (.getfield 169, 3) := by decide +kernel
theorem dX10_law_16 : decode cX10_law 16 = .ok (.if_icmp .le 5, 3) := by decide +kernel
theorem dX10_law_19 : decode cX10_law 19 = .ok (.iconst (-1), 1) := by decide +kernel
theorem dX10_law_20 : decode cX10_law 20 = .ok (.ireturn, 1) := by decide +kernel
theorem dX10_law_21 : decode cX10_law 21 = .ok (.aload_n 0, 1) := by decide +kernel
theorem dX10_law_22 : decode cX10_law 22 = .ok (.iload_n 1, 1) := by decide +kernel
theorem dX10_law_23 : decode cX10_law 23 = .ok (.invokevirtual 261, 3) := by decide +kernel
theorem dX10_law_26 : decode cX10_law 26 = .ok (.aload_n 0, 1) := by decide +kernel
theorem dX10_law_27 : decode cX10_law 27 = .ok (.invokevirtual 264, 3) := by decide +kernel
theorem dX10_law_30 : decode cX10_law 30 = .ok (.istore_n 2, 1) := by decide +kernel
theorem dX10_law_31 : decode cX10_law 31 = .ok (.iload_n 2, 1) := by decide +kernel
theorem dX10_law_32 : decode cX10_law 32 = .ok (.ifCond .eq 39, 3) := by decide +kernel
theorem dX10_law_35 : decode cX10_law 35 = .ok (.aload_n 0, 1) := by decide +kernel
theorem dX10_law_36 : decode cX10_law 36 = .ok (.getfield 176, 3) := by decide +kernel
theorem dX10_law_39 : decode cX10_law 39 = .ok (.aload_n 0, 1) := by decide +kernel
theorem dX10_law_40 : decode cX10_law 40 = .ok (.getfield 179, 3) := by decide +kernel
theorem dX10_law_43 : decode cX10_law 43 = .ok (.if_icmp .ge 28, 3) := by decide +kernel
theorem dX10_law_46 : decode cX10_law 46 = .ok (.aload_n 0, 1) := by decide +kernel
theorem dX10_law_47 : decode cX10_law 47 = .ok (.bipush 59, 2) := by decide +kernel
theorem dX10_law_49 : decode cX10_law 49 = .ok (.invokevirtual 267, 3) := by decide +kernel
theorem dX10_law_52 : decode cX10_law 52 = .ok (.ifCond .eq 14, 3) := by decide +kernel
theorem dX10_law_55 : decode cX10_law 55 = .ok (.aload_n 0, 1) := by decide +kernel
theorem dX10_law_56 : decode cX10_law 56 = .ok (.invokevirtual 264, 3) := by decide +kernel
theorem dX10_law_59 : decode cX10_law 59 = .ok (.ifCond .eq 7, 3) := by decide +kernel
theorem dX10_law_62 : decode cX10_law 62 = .ok (.iconst 1, 1) := by decide +kernel
theorem dX10_law_63 : decode cX10_law 63 = .ok (.goto 4, 3) := by decide +kernel
theorem dX10_law_66 : decode cX10_law 66 = .ok (.iconst 0, 1) := by decide +kernel
theorem dX10_law_67 : decode cX10_law 67 = .ok (.istore_n 2, 1) := by decide +kernel
theorem dX10_law_68 : decode cX10_law 68 = .ok (.goto (-37), 3) := by decide +kernel
theorem dX10_law_71 : decode cX10_law 71 = .ok (.aload_n 0, 1) := by decide +kernel
theorem dX10_law_72 : decode cX10_law 72 = .ok (.iconst 0, 1) := by decide +kernel
theorem dX10_law_73 : decode cX10_law 73 = .ok (.putfield 169, 3) := by decide +kernel
theorem dX10_law_76 : decode cX10_law 76 = .ok (.iload_n 2, 1) := by decide +kernel
theorem dX10_law_77 : decode cX10_law 77 = .ok (.ifCond .ne 8, 3) := by decide +kernel
theorem dX10_law_80 : decode cX10_law 80 = .ok (.aload_n 0, 1) := by decide +kernel
theorem dX10_law_81 : decode cX10_law 81 = .ok (.getfield 186, 3) := by decide +kernel
theorem dX10_law_84 : decode cX10_law 84 = .ok (.ireturn, 1) := by decide +kernel
theorem dX10_law_85 : decode cX10_law 85 = .ok (.aload_n 0, 1) := by decide +kernel
theorem dX10_law_86 : decode cX10_law 86 = .ok (.aload_n 0, 1) := by decide +kernel
theorem dX10_law_87 : decode cX10_law 87 = .ok (.getfield 255, 3) := by decide +kernel
theorem dX10_law_90 : decode cX10_law 90 = .ok (.putfield 270, 3) := by decide +kernel
theorem dX10_law_93 : decode cX10_law 93 = .ok (.iconst 0, 1) := by decide +kernel
theorem dX10_law_94 : decode cX10_law 94 = .ok (.istore_n 3, 1) := by decide +kernel
theorem dX10_law_95 : decode cX10_law 95 = .ok (.iload_n 3, 1) := by decide +kernel
theorem dX10_law_96 : decode cX10_law 96 = .ok (.aload_n 0, 1) := by decide +kernel
theorem dX10_law_97 : decode cX10_law 97 = .ok (.getfield 199, 3) := by decide +kernel
theorem dX10_law_100 : decode cX10_law 100 = .ok (.if_icmp .ge 21, 3) := by decide +kernel
theorem dX10_law_103 : decode cX10_law 103 = .ok (.aload_n 0, 1) := by decide +kernel
theorem dX10_law_104 : decode cX10_law 104 = .ok (.getfield 53, 3) := by decide +kernel
theorem dX10_law_107 : decode cX10_law 107 = .ok (.iload_n 3, 1) := by decide +kernel
theorem dX10_law_108 : decode cX10_law 108 = .ok (.aload_n 0, 1) := by decide +kernel
theorem dX10_law_109 : decode cX10_law 109 = .ok (.getfield 35, 3) := by decide +kernel
theorem dX10_law_112 : decode cX10_law 112 = .ok (.iload_n 3, 1) := by decide +kernel
theorem dX10_law_113 : decode cX10_law 113 = .ok (.iaload, 1) := by decide +kernel
theorem dX10_law_114 : decode cX10_law 114 = .ok (.iastore, 1) := by decide +kernel
theorem dX10_law_115 : decode cX10_law 115 = .ok (.iinc 3 1, 3) := by decide +kernel
theorem dX10_law_118 : decode cX10_law 118 = .ok (.goto (-23), 3) := by decide +kernel
theorem dX10_law_121 : decode cX10_law 121 = .ok (.iconst 0, 1) := by decide +kernel
theorem dX10_law_122 : decode cX10_law 122 = .ok (.istore_n 3, 1) := by decide +kernel
theorem dX10_law_123 : decode cX10_law 123 = .ok (.iload_n 3, 1) := by decide +kernel
theorem dX10_law_124 : decode cX10_law 124 = .ok (.aload_n 0, 1) := by decide +kernel
theorem dX10_law_125 : decode cX10_law 125 = .ok (.getfield 255, 3) := by decide +kernel
theorem dX10_law_128 : decode cX10_law 128 = .ok (.if_icmp .ge 57, 3) := by decide +kernel
theorem dX10_law_131 : decode cX10_law 131 = .ok (.aload_n 0, 1) := by decide +kernel
theorem dX10_law_132 : decode cX10_law 132 = .ok (.getfield 56, 3) := by decide +kernel
theorem dX10_law_135 : decode cX10_law 135 = .ok (.iload_n 3, 1) := by decide +kernel
theorem dX10_law_136 : decode cX10_law 136 = .ok (.aload_n 0, 1) := by decide +kernel
theorem dX10_law_137 : decode cX10_law 137 = .ok (.getfield 41, 3) := by decide +kernel
theorem dX10_law_140 : decode cX10_law 140 = .ok (.iload_n 3, 1) := by decide +kernel
theorem dX10_law_141 : decode cX10_law 141 = .ok (.iaload, 1) := by decide +kernel
theorem dX10_law_142 : decode cX10_law 142 = .ok (.iastore, 1) := by decide +kernel
theorem dX10_law_143 : decode cX10_law 143 = .ok (.aload_n 0, 1) := by decide +kernel
theorem dX10_law_144 : decode cX10_law 144 = .ok (.getfield 59, 3) := by decide +kernel
theorem dX10_law_147 : decode cX10_law 147 = .ok (.iload_n 3, 1) := by decide +kernel
theorem dX10_law_148 : decode cX10_law 148 = .ok (.aload_n 0, 1) := by decide +kernel
theorem dX10_law_149 : decode cX10_law 149 = .ok (.getfield 44, 3) := by decide +kernel
theorem dX10_law_152 : decode cX10_law 152 = .ok (.iload_n 3, 1) := by decide +kernel
theorem dX10_law_153 : decode cX10_law 153 = .ok (.iaload, 1) := by decide +kernel
theorem dX10_law_154 : decode cX10_law 154 = .ok (.iastore, 1) := by decide +kernel
theorem dX10_law_155 : decode cX10_law 155 = .ok (.aload_n 0, 1) := by decide +kernel
theorem dX10_law_156 : decode cX10_law 156 = .ok (.getfield 62, 3) := by decide +kernel
theorem dX10_law_159 : decode cX10_law 159 = .ok (.iload_n 3, 1) := by decide +kernel
theorem dX10_law_160 : decode cX10_law 160 = .ok (.aload_n 0, 1) := by decide +kernel
theorem dX10_law_161 : decode cX10_law 161 = .ok (.getfield 47, 3) := by decide +kernel
theorem dX10_law_164 : decode cX10_law 164 = .ok (.iload_n 3, 1) := by decide +kernel
theorem dX10_law_165 : decode cX10_law 165 = .ok (.iaload, 1) := by decide +kernel
theorem dX10_law_166 : decode cX10_law 166 = .ok (.iastore, 1) := by decide +kernel
theorem dX10_law_167 : decode cX10_law 167 = .ok (.aload_n 0, 1) := by decide +kernel
theorem dX10_law_168 : decode cX10_law 168 = .ok (.getfield 65, 3) := by decide +kernel
theorem dX10_law_171 : decode cX10_law 171 = .ok (.iload_n 3, 1) := by decide +kernel
theorem dX10_law_172 : decode cX10_law 172 = .ok (.aload_n 0, 1) := by decide +kernel
theorem dX10_law_173 : decode cX10_law 173 = .ok (.getfield 50, 3) := by decide +kernel
theorem dX10_law_176 : decode cX10_law 176 = .ok (.iload_n 3, 1) := by decide +kernel
theorem dX10_law_177 : decode cX10_law 177 = .ok (.iaload, 1) := by decide +kernel
theorem dX10_law_178 : decode cX10_law 178 = .ok (.iastore, 1) := by decide +kernel
theorem dX10_law_179 : decode cX10_law 179 = .ok (.iinc 3 1, 3) := by decide +kernel
theorem dX10_law_182 : decode cX10_law 182 = .ok (.goto (-59), 3) := by decide +kernel
theorem dX10_law_185 : decode cX10_law 185 = .ok (.aload_n 0, 1) := by decide +kernel
theorem dX10_law_186 : decode cX10_law 186 = .ok (.getfield 255, 3) := by decide +kernel
theorem dX10_law_189 : decode cX10_law 189 = .ok (.ireturn, 1) := by decide +kernel
theorem dX10_reckon_0 : decode cX10_reckon 0 = .ok (.iload_n 0, 1) := by decide +kernel
theorem dX10_reckon_1 : decode cX10_reckon 1 = .ok (.tableswitch 85 2 8 #[43, 47, 51, 55, 59, 63, 74], 43) := by decide +kernel
theorem dX10_reckon_44 : decode cX10_reckon 44 = .ok (.iload_n 1, 1) := by decide +kernel
theorem dX10_reckon_45 : decode cX10_reckon 45 = .ok (.iload_n 2, 1) := by decide +kernel
theorem dX10_reckon_46 : decode cX10_reckon 46 = .ok (.iadd, 1) := by decide +kernel
theorem dX10_reckon_47 : decode cX10_reckon 47 = .ok (.ireturn, 1) := by decide +kernel
theorem dX10_reckon_48 : decode cX10_reckon 48 = .ok (.iload_n 1, 1) := by decide +kernel
theorem dX10_reckon_49 : decode cX10_reckon 49 = .ok (.iload_n 2, 1) := by decide +kernel
theorem dX10_reckon_50 : decode cX10_reckon 50 = .ok (.isub, 1) := by decide +kernel
theorem dX10_reckon_51 : decode cX10_reckon 51 = .ok (.ireturn, 1) := by decide +kernel
theorem dX10_reckon_52 : decode cX10_reckon 52 = .ok (.iload_n 1, 1) := by decide +kernel
theorem dX10_reckon_53 : decode cX10_reckon 53 = .ok (.iload_n 2, 1) := by decide +kernel
theorem dX10_reckon_54 : decode cX10_reckon 54 = .ok (.imul, 1) := by decide +kernel
theorem dX10_reckon_55 : decode cX10_reckon 55 = .ok (.ireturn, 1) := by decide +kernel
theorem dX10_reckon_56 : decode cX10_reckon 56 = .ok (.iload_n 1, 1) := by decide +kernel
theorem dX10_reckon_57 : decode cX10_reckon 57 = .ok (.iload_n 2, 1) := by decide +kernel
theorem dX10_reckon_58 : decode cX10_reckon 58 = .ok (.idiv, 1) := by decide +kernel
theorem dX10_reckon_59 : decode cX10_reckon 59 = .ok (.ireturn, 1) := by decide +kernel
theorem dX10_reckon_60 : decode cX10_reckon 60 = .ok (.iload_n 1, 1) := by decide +kernel
theorem dX10_reckon_61 : decode cX10_reckon 61 = .ok (.iload_n 2, 1) := by decide +kernel
theorem dX10_reckon_62 : decode cX10_reckon 62 = .ok (.irem, 1) := by decide +kernel
theorem dX10_reckon_63 : decode cX10_reckon 63 = .ok (.ireturn, 1) := by decide +kernel
theorem dX10_reckon_64 : decode cX10_reckon 64 = .ok (.iload_n 1, 1) := by decide +kernel
theorem dX10_reckon_65 : decode cX10_reckon 65 = .ok (.iload_n 2, 1) := by decide +kernel
theorem dX10_reckon_66 : decode cX10_reckon 66 = .ok (.if_icmp .ge 7, 3) := by decide +kernel
theorem dX10_reckon_69 : decode cX10_reckon 69 = .ok (.iconst 1, 1) := by decide +kernel
theorem dX10_reckon_70 : decode cX10_reckon 70 = .ok (.goto 4, 3) := by decide +kernel
theorem dX10_reckon_73 : decode cX10_reckon 73 = .ok (.iconst 0, 1) := by decide +kernel
theorem dX10_reckon_74 : decode cX10_reckon 74 = .ok (.ireturn, 1) := by decide +kernel
theorem dX10_reckon_75 : decode cX10_reckon 75 = .ok (.iload_n 1, 1) := by decide +kernel
theorem dX10_reckon_76 : decode cX10_reckon 76 = .ok (.iload_n 2, 1) := by decide +kernel
theorem dX10_reckon_77 : decode cX10_reckon 77 = .ok (.if_icmp .le 7, 3) := by decide +kernel
theorem dX10_reckon_80 : decode cX10_reckon 80 = .ok (.iconst 1, 1) := by decide +kernel
theorem dX10_reckon_81 : decode cX10_reckon 81 = .ok (.goto 4, 3) := by decide +kernel
theorem dX10_reckon_84 : decode cX10_reckon 84 = .ok (.iconst 0, 1) := by decide +kernel
theorem dX10_reckon_85 : decode cX10_reckon 85 = .ok (.ireturn, 1) := by decide +kernel
theorem dX10_reckon_86 : decode cX10_reckon 86 = .ok (.iload_n 1, 1) := by decide +kernel
theorem dX10_reckon_87 : decode cX10_reckon 87 = .ok (.iload_n 2, 1) := by decide +kernel
theorem dX10_reckon_88 : decode cX10_reckon 88 = .ok (.if_icmp .ne 7, 3) := by decide +kernel
theorem dX10_reckon_91 : decode cX10_reckon 91 = .ok (.iconst 1, 1) := by decide +kernel
theorem dX10_reckon_92 : decode cX10_reckon 92 = .ok (.goto 4, 3) := by decide +kernel
theorem dX10_reckon_95 : decode cX10_reckon 95 = .ok (.iconst 0, 1) := by decide +kernel
theorem dX10_reckon_96 : decode cX10_reckon 96 = .ok (.ireturn, 1) := by decide +kernel
theorem dX10_reckonsTo_0 : decode cX10_reckonsTo 0 = .ok (.iconst 0, 1) := by decide +kernel
theorem dX10_reckonsTo_1 : decode cX10_reckonsTo 1 = .ok (.istore_n 3, 1) := by decide +kernel
theorem dX10_reckonsTo_2 : decode cX10_reckonsTo 2 = .ok (.sipush 260, 3) := by decide +kernel
theorem dX10_reckonsTo_5 : decode cX10_reckonsTo 5 = .ok (.iload_n 1, 1) := by decide +kernel
theorem dX10_reckonsTo_6 : decode cX10_reckonsTo 6 = .ok (.sipush 260, 3) := by decide +kernel
theorem dX10_reckonsTo_9 : decode cX10_reckonsTo 9 = .ok (.idiv, 1) := by decide +kernel
theorem dX10_reckonsTo_10 : decode cX10_reckonsTo 10 = .ok (.imul, 1) := by decide +kernel
theorem dX10_reckonsTo_11 : decode cX10_reckonsTo 11 = .ok (.istore 4, 2) := by decide +kernel
theorem dX10_reckonsTo_13 : decode cX10_reckonsTo 13 = .ok (.iload_n 1, 1) := by decide +kernel
theorem dX10_reckonsTo_14 : decode cX10_reckonsTo 14 = .ok (.istore 5, 2) := by decide +kernel
theorem dX10_reckonsTo_16 : decode cX10_reckonsTo 16 = .ok (.iload 5, 2) := by decide +kernel
theorem dX10_reckonsTo_18 : decode cX10_reckonsTo 18 = .ok (.iload_n 2, 1) := by decide +kernel
theorem dX10_reckonsTo_19 : decode cX10_reckonsTo 19 = .ok (.if_icmp .ge 214, 3) := by decide +kernel
theorem dX10_reckonsTo_22 : decode cX10_reckonsTo 22 = .ok (.aload_n 0, 1) := by decide +kernel
theorem dX10_reckonsTo_23 : decode cX10_reckonsTo 23 = .ok (.getfield 53, 3) := by decide +kernel
theorem dX10_reckonsTo_26 : decode cX10_reckonsTo 26 = .ok (.iload 5, 2) := by decide +kernel
theorem dX10_reckonsTo_28 : decode cX10_reckonsTo 28 = .ok (.iaload, 1) := by decide +kernel
theorem dX10_reckonsTo_29 : decode cX10_reckonsTo 29 = .ok (.ldc 202, 2) := by decide +kernel
theorem dX10_reckonsTo_31 : decode cX10_reckonsTo 31 = .ok (.idiv, 1) := by decide +kernel
theorem dX10_reckonsTo_32 : decode cX10_reckonsTo 32 = .ok (.istore 6, 2) := by decide +kernel
theorem dX10_reckonsTo_34 : decode cX10_reckonsTo 34 = .ok (.aload_n 0, 1) := by decide +kernel
theorem dX10_reckonsTo_35 : decode cX10_reckonsTo 35 = .ok (.getfield 53, 3) := by decide +kernel
theorem dX10_reckonsTo_38 : decode cX10_reckonsTo 38 = .ok (.iload 5, 2) := by decide +kernel
theorem dX10_reckonsTo_40 : decode cX10_reckonsTo 40 = .ok (.iaload, 1) := by decide +kernel
theorem dX10_reckonsTo_41 : decode cX10_reckonsTo 41 = .ok (.ldc 202, 2) := by decide +kernel
theorem dX10_reckonsTo_43 : decode cX10_reckonsTo 43 = .ok (.irem, 1) := by decide +kernel
theorem dX10_reckonsTo_44 : decode cX10_reckonsTo 44 = .ok (.istore 7, 2) := by decide +kernel
theorem dX10_reckonsTo_46 : decode cX10_reckonsTo 46 = .ok (.iload 5, 2) := by decide +kernel
theorem dX10_reckonsTo_48 : decode cX10_reckonsTo 48 = .ok (.iconst 1, 1) := by decide +kernel
theorem dX10_reckonsTo_49 : decode cX10_reckonsTo 49 = .ok (.iadd, 1) := by decide +kernel
theorem dX10_reckonsTo_50 : decode cX10_reckonsTo 50 = .ok (.istore 5, 2) := by decide +kernel
theorem dX10_reckonsTo_52 : decode cX10_reckonsTo 52 = .ok (.iload 6, 2) := by decide +kernel
theorem dX10_reckonsTo_54 : decode cX10_reckonsTo 54 = .ok (.ifCond .eq 9, 3) := by decide +kernel
theorem dX10_reckonsTo_57 : decode cX10_reckonsTo 57 = .ok (.iload 6, 2) := by decide +kernel
theorem dX10_reckonsTo_59 : decode cX10_reckonsTo 59 = .ok (.iconst 1, 1) := by decide +kernel
theorem dX10_reckonsTo_60 : decode cX10_reckonsTo 60 = .ok (.if_icmp .ne 33, 3) := by decide +kernel
theorem dX10_reckonsTo_63 : decode cX10_reckonsTo 63 = .ok (.aload_n 0, 1) := by decide +kernel
theorem dX10_reckonsTo_64 : decode cX10_reckonsTo 64 = .ok (.getfield 68, 3) := by decide +kernel
theorem dX10_reckonsTo_67 : decode cX10_reckonsTo 67 = .ok (.iload_n 3, 1) := by decide +kernel
theorem dX10_reckonsTo_68 : decode cX10_reckonsTo 68 = .ok (.iload 6, 2) := by decide +kernel
theorem dX10_reckonsTo_70 : decode cX10_reckonsTo 70 = .ok (.ifCond .ne 8, 3) := by decide +kernel
theorem dX10_reckonsTo_73 : decode cX10_reckonsTo 73 = .ok (.iload 7, 2) := by decide +kernel
theorem dX10_reckonsTo_75 : decode cX10_reckonsTo 75 = .ok (.goto 10, 3) := by decide +kernel
theorem dX10_reckonsTo_78 : decode cX10_reckonsTo 78 = .ok (.aload_n 0, 1) := by decide +kernel
theorem dX10_reckonsTo_79 : decode cX10_reckonsTo 79 = .ok (.getfield 71, 3) := by decide +kernel
theorem dX10_reckonsTo_82 : decode cX10_reckonsTo 82 = .ok (.iload 7, 2) := by decide +kernel
theorem dX10_reckonsTo_84 : decode cX10_reckonsTo 84 = .ok (.iaload, 1) := by decide +kernel
theorem dX10_reckonsTo_85 : decode cX10_reckonsTo 85 = .ok (.iastore, 1) := by decide +kernel
theorem dX10_reckonsTo_86 : decode cX10_reckonsTo 86 = .ok (.iload_n 3, 1) := by decide +kernel
theorem dX10_reckonsTo_87 : decode cX10_reckonsTo 87 = .ok (.iconst 1, 1) := by decide +kernel
theorem dX10_reckonsTo_88 : decode cX10_reckonsTo 88 = .ok (.iadd, 1) := by decide +kernel
theorem dX10_reckonsTo_89 : decode cX10_reckonsTo 89 = .ok (.istore_n 3, 1) := by decide +kernel
theorem dX10_reckonsTo_90 : decode cX10_reckonsTo 90 = .ok (.goto 140, 3) := by decide +kernel
theorem dX10_reckonsTo_93 : decode cX10_reckonsTo 93 = .ok (.iload 6, 2) := by decide +kernel
theorem dX10_reckonsTo_95 : decode cX10_reckonsTo 95 = .ok (.bipush 10, 2) := by decide +kernel
theorem dX10_reckonsTo_97 : decode cX10_reckonsTo 97 = .ok (.if_icmp .ne 24, 3) := by decide +kernel
theorem dX10_reckonsTo_100 : decode cX10_reckonsTo 100 = .ok (.aload_n 0, 1) := by decide +kernel
theorem dX10_reckonsTo_101 : decode cX10_reckonsTo 101 = .ok (.getfield 68, 3) := by decide +kernel
theorem dX10_reckonsTo_104 : decode cX10_reckonsTo 104 = .ok (.iload_n 3, 1) := by decide +kernel
theorem dX10_reckonsTo_105 : decode cX10_reckonsTo 105 = .ok (.iconst 1, 1) := by decide +kernel
theorem dX10_reckonsTo_106 : decode cX10_reckonsTo 106 = .ok (.isub, 1) := by decide +kernel
theorem dX10_reckonsTo_107 : decode cX10_reckonsTo 107 = .ok (.iconst 1, 1) := by decide +kernel
theorem dX10_reckonsTo_108 : decode cX10_reckonsTo 108 = .ok (.aload_n 0, 1) := by decide +kernel
theorem dX10_reckonsTo_109 : decode cX10_reckonsTo 109 = .ok (.getfield 68, 3) := by decide +kernel
theorem dX10_reckonsTo_112 : decode cX10_reckonsTo 112 = .ok (.iload_n 3, 1) := by decide +kernel
theorem dX10_reckonsTo_113 : decode cX10_reckonsTo 113 = .ok (.iconst 1, 1) := by decide +kernel
theorem dX10_reckonsTo_114 : decode cX10_reckonsTo 114 = .ok (.isub, 1) := by decide +kernel
theorem dX10_reckonsTo_115 : decode cX10_reckonsTo 115 = .ok (.iaload, 1) := by decide +kernel
theorem dX10_reckonsTo_116 : decode cX10_reckonsTo 116 = .ok (.isub, 1) := by decide +kernel
theorem dX10_reckonsTo_117 : decode cX10_reckonsTo 117 = .ok (.iastore, 1) := by decide +kernel
theorem dX10_reckonsTo_118 : decode cX10_reckonsTo 118 = .ok (.goto 112, 3) := by decide +kernel
theorem dX10_reckonsTo_121 : decode cX10_reckonsTo 121 = .ok (.iload 6, 2) := by decide +kernel
theorem dX10_reckonsTo_123 : decode cX10_reckonsTo 123 = .ok (.bipush 11, 2) := by decide +kernel
theorem dX10_reckonsTo_125 : decode cX10_reckonsTo 125 = .ok (.if_icmp .eq 10, 3) := by decide +kernel
theorem dX10_reckonsTo_128 : decode cX10_reckonsTo 128 = .ok (.iload 6, 2) := by decide +kernel
theorem dX10_reckonsTo_130 : decode cX10_reckonsTo 130 = .ok (.bipush 12, 2) := by decide +kernel
theorem dX10_reckonsTo_132 : decode cX10_reckonsTo 132 = .ok (.if_icmp .ne 43, 3) := by decide +kernel
theorem dX10_reckonsTo_135 : decode cX10_reckonsTo 135 = .ok (.aload_n 0, 1) := by decide +kernel
theorem dX10_reckonsTo_136 : decode cX10_reckonsTo 136 = .ok (.getfield 68, 3) := by decide +kernel
theorem dX10_reckonsTo_139 : decode cX10_reckonsTo 139 = .ok (.iload_n 3, 1) := by decide +kernel
theorem dX10_reckonsTo_140 : decode cX10_reckonsTo 140 = .ok (.iconst 1, 1) := by decide +kernel
theorem dX10_reckonsTo_141 : decode cX10_reckonsTo 141 = .ok (.isub, 1) := by decide +kernel
theorem dX10_reckonsTo_142 : decode cX10_reckonsTo 142 = .ok (.iaload, 1) := by decide +kernel
theorem dX10_reckonsTo_143 : decode cX10_reckonsTo 143 = .ok (.iload 6, 2) := by decide +kernel
theorem dX10_reckonsTo_145 : decode cX10_reckonsTo 145 = .ok (.bipush 12, 2) := by decide +kernel
theorem dX10_reckonsTo_147 : decode cX10_reckonsTo 147 = .ok (.if_icmp .ne 7, 3) := by decide +kernel
theorem dX10_reckonsTo_150 : decode cX10_reckonsTo 150 = .ok (.iconst 1, 1) := by decide +kernel
theorem dX10_reckonsTo_151 : decode cX10_reckonsTo 151 = .ok (.goto 4, 3) := by decide +kernel
theorem dX10_reckonsTo_154 : decode cX10_reckonsTo 154 = .ok (.iconst 0, 1) := by decide +kernel
theorem dX10_reckonsTo_155 : decode cX10_reckonsTo 155 = .ok (.if_icmp .ne 13, 3) := by decide +kernel
theorem dX10_reckonsTo_158 : decode cX10_reckonsTo 158 = .ok (.iload 4, 2) := by decide +kernel
theorem dX10_reckonsTo_160 : decode cX10_reckonsTo 160 = .ok (.iload 7, 2) := by decide +kernel
theorem dX10_reckonsTo_162 : decode cX10_reckonsTo 162 = .ok (.iadd, 1) := by decide +kernel
theorem dX10_reckonsTo_163 : decode cX10_reckonsTo 163 = .ok (.istore 5, 2) := by decide +kernel
theorem dX10_reckonsTo_165 : decode cX10_reckonsTo 165 = .ok (.goto 65, 3) := by decide +kernel
theorem dX10_reckonsTo_168 : decode cX10_reckonsTo 168 = .ok (.iload_n 3, 1) := by decide +kernel
theorem dX10_reckonsTo_169 : decode cX10_reckonsTo 169 = .ok (.iconst 1, 1) := by decide +kernel
theorem dX10_reckonsTo_170 : decode cX10_reckonsTo 170 = .ok (.isub, 1) := by decide +kernel
theorem dX10_reckonsTo_171 : decode cX10_reckonsTo 171 = .ok (.istore_n 3, 1) := by decide +kernel
theorem dX10_reckonsTo_172 : decode cX10_reckonsTo 172 = .ok (.goto 58, 3) := by decide +kernel
theorem dX10_reckonsTo_175 : decode cX10_reckonsTo 175 = .ok (.iload_n 3, 1) := by decide +kernel
theorem dX10_reckonsTo_176 : decode cX10_reckonsTo 176 = .ok (.iconst 1, 1) := by decide +kernel
theorem dX10_reckonsTo_177 : decode cX10_reckonsTo 177 = .ok (.isub, 1) := by decide +kernel
theorem dX10_reckonsTo_178 : decode cX10_reckonsTo 178 = .ok (.istore_n 3, 1) := by decide +kernel
theorem dX10_reckonsTo_179 : decode cX10_reckonsTo 179 = .ok (.iload 6, 2) := by decide +kernel
theorem dX10_reckonsTo_181 : decode cX10_reckonsTo 181 = .ok (.iconst 5, 1) := by decide +kernel
theorem dX10_reckonsTo_182 : decode cX10_reckonsTo 182 = .ok (.if_icmp .eq 10, 3) := by decide +kernel
theorem dX10_reckonsTo_185 : decode cX10_reckonsTo 185 = .ok (.iload 6, 2) := by decide +kernel
theorem dX10_reckonsTo_187 : decode cX10_reckonsTo 187 = .ok (.bipush 6, 2) := by decide +kernel
theorem dX10_reckonsTo_189 : decode cX10_reckonsTo 189 = .ok (.if_icmp .ne 14, 3) := by decide +kernel
theorem dX10_reckonsTo_192 : decode cX10_reckonsTo 192 = .ok (.aload_n 0, 1) := by decide +kernel
theorem dX10_reckonsTo_193 : decode cX10_reckonsTo 193 = .ok (.getfield 68, 3) := by decide +kernel
theorem dX10_reckonsTo_196 : decode cX10_reckonsTo 196 = .ok (.iload_n 3, 1) := by decide +kernel
theorem dX10_reckonsTo_197 : decode cX10_reckonsTo 197 = .ok (.iaload, 1) := by decide +kernel
theorem dX10_reckonsTo_198 : decode cX10_reckonsTo 198 = .ok (.ifCond .ne 5, 3) := by decide +kernel
theorem dX10_reckonsTo_201 : decode cX10_reckonsTo 201 = .ok (.iconst 0, 1) := by decide +kernel
theorem dX10_reckonsTo_202 : decode cX10_reckonsTo 202 = .ok (.ireturn, 1) := by decide +kernel
theorem dX10_reckonsTo_203 : decode cX10_reckonsTo 203 = .ok (.aload_n 0, 1) := by decide +kernel
theorem dX10_reckonsTo_204 : decode cX10_reckonsTo 204 = .ok (.getfield 68, 3) := by decide +kernel
theorem dX10_reckonsTo_207 : decode cX10_reckonsTo 207 = .ok (.iload_n 3, 1) := by decide +kernel
theorem dX10_reckonsTo_208 : decode cX10_reckonsTo 208 = .ok (.iconst 1, 1) := by decide +kernel
theorem dX10_reckonsTo_209 : decode cX10_reckonsTo 209 = .ok (.isub, 1) := by decide +kernel
theorem dX10_reckonsTo_210 : decode cX10_reckonsTo 210 = .ok (.iload 6, 2) := by decide +kernel
theorem dX10_reckonsTo_212 : decode cX10_reckonsTo 212 = .ok (.aload_n 0, 1) := by decide +kernel
theorem dX10_reckonsTo_213 : decode cX10_reckonsTo 213 = .ok (.getfield 68, 3) := by decide +kernel
theorem dX10_reckonsTo_216 : decode cX10_reckonsTo 216 = .ok (.iload_n 3, 1) := by decide +kernel
theorem dX10_reckonsTo_217 : decode cX10_reckonsTo 217 = .ok (.iconst 1, 1) := by decide +kernel
theorem dX10_reckonsTo_218 : decode cX10_reckonsTo 218 = .ok (.isub, 1) := by decide +kernel
theorem dX10_reckonsTo_219 : decode cX10_reckonsTo 219 = .ok (.iaload, 1) := by decide +kernel
theorem dX10_reckonsTo_220 : decode cX10_reckonsTo 220 = .ok (.aload_n 0, 1) := by decide +kernel
theorem dX10_reckonsTo_221 : decode cX10_reckonsTo 221 = .ok (.getfield 68, 3) := by decide +kernel
theorem dX10_reckonsTo_224 : decode cX10_reckonsTo 224 = .ok (.iload_n 3, 1) := by decide +kernel
theorem dX10_reckonsTo_225 : decode cX10_reckonsTo 225 = .ok (.iaload, 1) := by decide +kernel
theorem dX10_reckonsTo_226 : decode cX10_reckonsTo 226 = .ok (.invokestatic 273, 3) := by decide +kernel
theorem dX10_reckonsTo_229 : decode cX10_reckonsTo 229 = .ok (.iastore, 1) := by decide +kernel
theorem dX10_reckonsTo_230 : decode cX10_reckonsTo 230 = .ok (.goto (-214), 3) := by decide +kernel
theorem dX10_reckonsTo_233 : decode cX10_reckonsTo 233 = .ok (.aload_n 0, 1) := by decide +kernel
theorem dX10_reckonsTo_234 : decode cX10_reckonsTo 234 = .ok (.getfield 68, 3) := by decide +kernel
theorem dX10_reckonsTo_237 : decode cX10_reckonsTo 237 = .ok (.iconst 0, 1) := by decide +kernel
theorem dX10_reckonsTo_238 : decode cX10_reckonsTo 238 = .ok (.iaload, 1) := by decide +kernel
theorem dX10_reckonsTo_239 : decode cX10_reckonsTo 239 = .ok (.ireturn, 1) := by decide +kernel
theorem dX10_byLaw_0 : decode cX10_byLaw 0 = .ok (.iconst 0, 1) := by decide +kernel
theorem dX10_byLaw_1 : decode cX10_byLaw 1 = .ok (.istore 4, 2) := by decide +kernel
theorem dX10_byLaw_3 : decode cX10_byLaw 3 = .ok (.iload 4, 2) := by decide +kernel
theorem dX10_byLaw_5 : decode cX10_byLaw 5 = .ok (.aload_n 0, 1) := by decide +kernel
theorem dX10_byLaw_6 : decode cX10_byLaw 6 = .ok (.getfield 270, 3) := by decide +kernel
theorem dX10_byLaw_9 : decode cX10_byLaw 9 = .ok (.if_icmp .ge 87, 3) := by decide +kernel
theorem dX10_byLaw_12 : decode cX10_byLaw 12 = .ok (.aload_n 0, 1) := by decide +kernel
theorem dX10_byLaw_13 : decode cX10_byLaw 13 = .ok (.getfield 56, 3) := by decide +kernel
theorem dX10_byLaw_16 : decode cX10_byLaw 16 = .ok (.iload 4, 2) := by decide +kernel
theorem dX10_byLaw_18 : decode cX10_byLaw 18 = .ok (.iaload, 1) := by decide +kernel
theorem dX10_byLaw_19 : decode cX10_byLaw 19 = .ok (.iload_n 1, 1) := by decide +kernel
theorem dX10_byLaw_20 : decode cX10_byLaw 20 = .ok (.if_icmp .ne 70, 3) := by decide +kernel
theorem dX10_byLaw_23 : decode cX10_byLaw 23 = .ok (.aload_n 0, 1) := by decide +kernel
theorem dX10_byLaw_24 : decode cX10_byLaw 24 = .ok (.aload_n 0, 1) := by decide +kernel
theorem dX10_byLaw_25 : decode cX10_byLaw 25 = .ok (.getfield 62, 3) := by decide +kernel
theorem dX10_byLaw_28 : decode cX10_byLaw 28 = .ok (.iload 4, 2) := by decide +kernel
theorem dX10_byLaw_30 : decode cX10_byLaw 30 = .ok (.iaload, 1) := by decide +kernel
theorem dX10_byLaw_31 : decode cX10_byLaw 31 = .ok (.aload_n 0, 1) := by decide +kernel
theorem dX10_byLaw_32 : decode cX10_byLaw 32 = .ok (.getfield 65, 3) := by decide +kernel
theorem dX10_byLaw_35 : decode cX10_byLaw 35 = .ok (.iload 4, 2) := by decide +kernel
theorem dX10_byLaw_37 : decode cX10_byLaw 37 = .ok (.iaload, 1) := by decide +kernel
theorem dX10_byLaw_38 : decode cX10_byLaw 38 = .ok (.invokevirtual 277, 3) := by decide +kernel
theorem dX10_byLaw_41 : decode cX10_byLaw 41 = .ok (.iconst 1, 1) := by decide +kernel
theorem dX10_byLaw_42 : decode cX10_byLaw 42 = .ok (.if_icmp .eq 6, 3) := by decide +kernel
theorem dX10_byLaw_45 : decode cX10_byLaw 45 = .ok (.goto 45, 3) := by decide +kernel
theorem dX10_byLaw_48 : decode cX10_byLaw 48 = .ok (.aload_n 0, 1) := by decide +kernel
theorem dX10_byLaw_49 : decode cX10_byLaw 49 = .ok (.aload_n 0, 1) := by decide +kernel
theorem dX10_byLaw_50 : decode cX10_byLaw 50 = .ok (.getfield 59, 3) := by decide +kernel
theorem dX10_byLaw_53 : decode cX10_byLaw 53 = .ok (.iload 4, 2) := by decide +kernel
theorem dX10_byLaw_55 : decode cX10_byLaw 55 = .ok (.iaload, 1) := by decide +kernel
theorem dX10_byLaw_56 : decode cX10_byLaw 56 = .ok (.aload_n 0, 1) := by decide +kernel
theorem dX10_byLaw_57 : decode cX10_byLaw 57 = .ok (.getfield 62, 3) := by decide +kernel
theorem dX10_byLaw_60 : decode cX10_byLaw 60 = .ok (.iload 4, 2) := by decide +kernel
theorem dX10_byLaw_62 : decode cX10_byLaw 62 = .ok (.iaload, 1) := by decide +kernel
theorem dX10_byLaw_63 : decode cX10_byLaw 63 = .ok (.invokevirtual 277, 3) := by decide +kernel
theorem dX10_byLaw_66 : decode cX10_byLaw 66 = .ok (.istore 5, 2) := by decide +kernel
theorem dX10_byLaw_68 : decode cX10_byLaw 68 = .ok (.iload 5, 2) := by decide +kernel
theorem dX10_byLaw_70 : decode cX10_byLaw 70 = .ok (.ifCond .ge 7, 3) := by decide +kernel
theorem dX10_byLaw_73 : decode cX10_byLaw 73 = .ok (.iconst 0, 1) := by decide +kernel
theorem dX10_byLaw_74 : decode cX10_byLaw 74 = .ok (.goto 15, 3) := by decide +kernel
theorem dX10_byLaw_77 : decode cX10_byLaw 77 = .ok (.iload 5, 2) := by decide +kernel
theorem dX10_byLaw_79 : decode cX10_byLaw 79 = .ok (.iload_n 2, 1) := by decide +kernel
theorem dX10_byLaw_80 : decode cX10_byLaw 80 = .ok (.if_icmp .le 7, 3) := by decide +kernel
theorem dX10_byLaw_83 : decode cX10_byLaw 83 = .ok (.iload_n 2, 1) := by decide +kernel
theorem dX10_byLaw_84 : decode cX10_byLaw 84 = .ok (.goto 5, 3) := by decide +kernel
theorem dX10_byLaw_87 : decode cX10_byLaw 87 = .ok (.iload 5, 2) := by decide +kernel
theorem dX10_byLaw_89 : decode cX10_byLaw 89 = .ok (.ireturn, 1) := by decide +kernel
theorem dX10_byLaw_90 : decode cX10_byLaw 90 = .ok (.iinc 4 1, 3) := by decide +kernel
theorem dX10_byLaw_93 : decode cX10_byLaw 93 = .ok (.goto (-90), 3) := by decide +kernel
theorem dX10_byLaw_96 : decode cX10_byLaw 96 = .ok (.iload_n 3, 1) := by decide +kernel
theorem dX10_byLaw_97 : decode cX10_byLaw 97 = .ok (.ireturn, 1) := by decide +kernel
theorem dX10_holdsAny_0 : decode cX10_holdsAny 0 = .ok (.iconst 0, 1) := by decide +kernel
theorem dX10_holdsAny_1 : decode cX10_holdsAny 1 = .ok (.istore_n 2, 1) := by decide +kernel
theorem dX10_holdsAny_2 : decode cX10_holdsAny 2 = .ok (.iload_n 2, 1) := by decide +kernel
theorem dX10_holdsAny_3 : decode cX10_holdsAny 3 = .ok (.aload_n 0, 1) := by decide +kernel
theorem dX10_holdsAny_4 : decode cX10_holdsAny 4 = .ok (.getfield 270, 3) := by decide +kernel
theorem dX10_holdsAny_7 : decode cX10_holdsAny 7 = .ok (.if_icmp .ge 41, 3) := by decide +kernel
theorem dX10_holdsAny_10 : decode cX10_holdsAny 10 = .ok (.aload_n 0, 1) := by decide +kernel
theorem dX10_holdsAny_11 : decode cX10_holdsAny 11 = .ok (.getfield 56, 3) := by decide +kernel
theorem dX10_holdsAny_14 : decode cX10_holdsAny 14 = .ok (.iload_n 2, 1) := by decide +kernel
theorem dX10_holdsAny_15 : decode cX10_holdsAny 15 = .ok (.iaload, 1) := by decide +kernel
theorem dX10_holdsAny_16 : decode cX10_holdsAny 16 = .ok (.iload_n 1, 1) := by decide +kernel
theorem dX10_holdsAny_17 : decode cX10_holdsAny 17 = .ok (.if_icmp .ne 25, 3) := by decide +kernel
theorem dX10_holdsAny_20 : decode cX10_holdsAny 20 = .ok (.aload_n 0, 1) := by decide +kernel
theorem dX10_holdsAny_21 : decode cX10_holdsAny 21 = .ok (.aload_n 0, 1) := by decide +kernel
theorem dX10_holdsAny_22 : decode cX10_holdsAny 22 = .ok (.getfield 62, 3) := by decide +kernel
theorem dX10_holdsAny_25 : decode cX10_holdsAny 25 = .ok (.iload_n 2, 1) := by decide +kernel
theorem dX10_holdsAny_26 : decode cX10_holdsAny 26 = .ok (.iaload, 1) := by decide +kernel
theorem dX10_holdsAny_27 : decode cX10_holdsAny 27 = .ok (.aload_n 0, 1) := by decide +kernel
theorem dX10_holdsAny_28 : decode cX10_holdsAny 28 = .ok (.getfield 65, 3) := by decide +kernel
theorem dX10_holdsAny_31 : decode cX10_holdsAny 31 = .ok (.iload_n 2, 1) := by decide +kernel
theorem dX10_holdsAny_32 : decode cX10_holdsAny 32 = .ok (.iaload, 1) := by decide +kernel
theorem dX10_holdsAny_33 : decode cX10_holdsAny 33 = .ok (.invokevirtual 277, 3) := by decide +kernel
theorem dX10_holdsAny_36 : decode cX10_holdsAny 36 = .ok (.iconst 1, 1) := by decide +kernel
theorem dX10_holdsAny_37 : decode cX10_holdsAny 37 = .ok (.if_icmp .ne 5, 3) := by decide +kernel
theorem dX10_holdsAny_40 : decode cX10_holdsAny 40 = .ok (.iconst 1, 1) := by decide +kernel
theorem dX10_holdsAny_41 : decode cX10_holdsAny 41 = .ok (.ireturn, 1) := by decide +kernel
theorem dX10_holdsAny_42 : decode cX10_holdsAny 42 = .ok (.iinc 2 1, 3) := by decide +kernel
theorem dX10_holdsAny_45 : decode cX10_holdsAny 45 = .ok (.goto (-43), 3) := by decide +kernel
theorem dX10_holdsAny_48 : decode cX10_holdsAny 48 = .ok (.iconst 0, 1) := by decide +kernel
theorem dX10_holdsAny_49 : decode cX10_holdsAny 49 = .ok (.ireturn, 1) := by decide +kernel
theorem dX10_readsAmount_0 : decode cX10_readsAmount 0 = .ok (.aload_n 0, 1) := by decide +kernel
theorem dX10_readsAmount_1 : decode cX10_readsAmount 1 = .ok (.getfield 176, 3) := by decide +kernel
theorem dX10_readsAmount_4 : decode cX10_readsAmount 4 = .ok (.istore_n 1, 1) := by decide +kernel
theorem dX10_readsAmount_5 : decode cX10_readsAmount 5 = .ok (.aload_n 0, 1) := by decide +kernel
theorem dX10_readsAmount_6 : decode cX10_readsAmount 6 = .ok (.invokevirtual 195, 3) := by decide +kernel
theorem dX10_readsAmount_9 : decode cX10_readsAmount 9 = .ok (.ifCond .ne 13, 3) := by decide +kernel
theorem dX10_readsAmount_12 : decode cX10_readsAmount 12 = .ok (.aload_n 0, 1) := by decide +kernel
theorem dX10_readsAmount_13 : decode cX10_readsAmount 13 = .ok (.iconst 1, 1) := by decide +kernel
theorem dX10_readsAmount_14 : decode cX10_readsAmount 14 = .ok (.aload_n 0, 1) := by decide +kernel
theorem dX10_readsAmount_15 : decode cX10_readsAmount 15 = .ok (.getfield 176, 3) := by decide +kernel
theorem dX10_readsAmount_18 : decode cX10_readsAmount 18 = .ok (.invokevirtual 189, 3) := by decide +kernel
theorem dX10_readsAmount_21 : decode cX10_readsAmount 21 = .ok (.ireturn, 1) := by decide +kernel
theorem dX10_readsAmount_22 : decode cX10_readsAmount 22 = .ok (.aload_n 0, 1) := by decide +kernel
theorem dX10_readsAmount_23 : decode cX10_readsAmount 23 = .ok (.iconst 0, 1) := by decide +kernel
theorem dX10_readsAmount_24 : decode cX10_readsAmount 24 = .ok (.putfield 192, 3) := by decide +kernel
theorem dX10_readsAmount_27 : decode cX10_readsAmount 27 = .ok (.aload_n 0, 1) := by decide +kernel
theorem dX10_readsAmount_28 : decode cX10_readsAmount 28 = .ok (.invokevirtual 195, 3) := by decide +kernel
theorem dX10_readsAmount_31 : decode cX10_readsAmount 31 = .ok (.ifCond .eq 55, 3) := by decide +kernel
theorem dX10_readsAmount_34 : decode cX10_readsAmount 34 = .ok (.aload_n 0, 1) := by decide +kernel
theorem dX10_readsAmount_35 : decode cX10_readsAmount 35 = .ok (.getfield 176, 3) := by decide +kernel
theorem dX10_readsAmount_38 : decode cX10_readsAmount 38 = .ok (.iload_n 1, 1) := by decide +kernel
theorem dX10_readsAmount_39 : decode cX10_readsAmount 39 = .ok (.iconst 4, 1) := by decide +kernel
theorem dX10_readsAmount_40 : decode cX10_readsAmount 40 = .ok (.iadd, 1) := by decide +kernel
theorem dX10_readsAmount_41 : decode cX10_readsAmount 41 = .ok (.if_icmp .ne 13, 3) := by decide +kernel
theorem dX10_readsAmount_44 : decode cX10_readsAmount 44 = .ok (.aload_n 0, 1) := by decide +kernel
theorem dX10_readsAmount_45 : decode cX10_readsAmount 45 = .ok (.iconst 2, 1) := by decide +kernel
theorem dX10_readsAmount_46 : decode cX10_readsAmount 46 = .ok (.aload_n 0, 1) := by decide +kernel
theorem dX10_readsAmount_47 : decode cX10_readsAmount 47 = .ok (.getfield 176, 3) := by decide +kernel
theorem dX10_readsAmount_50 : decode cX10_readsAmount 50 = .ok (.invokevirtual 189, 3) := by decide +kernel
theorem dX10_readsAmount_53 : decode cX10_readsAmount 53 = .ok (.ireturn, 1) := by decide +kernel
theorem dX10_readsAmount_54 : decode cX10_readsAmount 54 = .ok (.aload_n 0, 1) := by decide +kernel
theorem dX10_readsAmount_55 : decode cX10_readsAmount 55 = .ok (.bipush 10, 2) := by decide +kernel
theorem dX10_readsAmount_57 : decode cX10_readsAmount 57 = .ok (.aload_n 0, 1) := by decide +kernel
theorem dX10_readsAmount_58 : decode cX10_readsAmount 58 = .ok (.getfield 192, 3) := by decide +kernel
theorem dX10_readsAmount_61 : decode cX10_readsAmount 61 = .ok (.imul, 1) := by decide +kernel
theorem dX10_readsAmount_62 : decode cX10_readsAmount 62 = .ok (.aload_n 0, 1) := by decide +kernel
theorem dX10_readsAmount_63 : decode cX10_readsAmount 63 = .ok (.invokevirtual 182, 3) := by decide +kernel
theorem dX10_readsAmount_66 : decode cX10_readsAmount 66 = .ok (.iadd, 1) := by decide +kernel
theorem dX10_readsAmount_67 : decode cX10_readsAmount 67 = .ok (.bipush 48, 2) := by decide +kernel
theorem dX10_readsAmount_69 : decode cX10_readsAmount 69 = .ok (.isub, 1) := by decide +kernel
theorem dX10_readsAmount_70 : decode cX10_readsAmount 70 = .ok (.putfield 192, 3) := by decide +kernel
theorem dX10_readsAmount_73 : decode cX10_readsAmount 73 = .ok (.aload_n 0, 1) := by decide +kernel
theorem dX10_readsAmount_74 : decode cX10_readsAmount 74 = .ok (.aload_n 0, 1) := by decide +kernel
theorem dX10_readsAmount_75 : decode cX10_readsAmount 75 = .ok (.getfield 176, 3) := by decide +kernel
theorem dX10_readsAmount_78 : decode cX10_readsAmount 78 = .ok (.iconst 1, 1) := by decide +kernel
theorem dX10_readsAmount_79 : decode cX10_readsAmount 79 = .ok (.iadd, 1) := by decide +kernel
theorem dX10_readsAmount_80 : decode cX10_readsAmount 80 = .ok (.putfield 176, 3) := by decide +kernel
theorem dX10_readsAmount_83 : decode cX10_readsAmount 83 = .ok (.goto (-56), 3) := by decide +kernel
theorem dX10_readsAmount_86 : decode cX10_readsAmount 86 = .ok (.iconst 1, 1) := by decide +kernel
theorem dX10_readsAmount_87 : decode cX10_readsAmount 87 = .ok (.ireturn, 1) := by decide +kernel
theorem dX10_signBy_0 : decode cX10_signBy 0 = .ok (.iload_n 0, 1) := by decide +kernel
theorem dX10_signBy_1 : decode cX10_signBy 1 = .ok (.bipush 61, 2) := by decide +kernel
theorem dX10_signBy_3 : decode cX10_signBy 3 = .ok (.if_icmp .ne 7, 3) := by decide +kernel
theorem dX10_signBy_6 : decode cX10_signBy 6 = .ok (.iconst 0, 1) := by decide +kernel
theorem dX10_signBy_7 : decode cX10_signBy 7 = .ok (.goto 24, 3) := by decide +kernel
theorem dX10_signBy_10 : decode cX10_signBy 10 = .ok (.iload_n 0, 1) := by decide +kernel
theorem dX10_signBy_11 : decode cX10_signBy 11 = .ok (.bipush 60, 2) := by decide +kernel
theorem dX10_signBy_13 : decode cX10_signBy 13 = .ok (.if_icmp .ne 7, 3) := by decide +kernel
theorem dX10_signBy_16 : decode cX10_signBy 16 = .ok (.iconst 1, 1) := by decide +kernel
theorem dX10_signBy_17 : decode cX10_signBy 17 = .ok (.goto 14, 3) := by decide +kernel
theorem dX10_signBy_20 : decode cX10_signBy 20 = .ok (.iload_n 0, 1) := by decide +kernel
theorem dX10_signBy_21 : decode cX10_signBy 21 = .ok (.bipush 62, 2) := by decide +kernel
theorem dX10_signBy_23 : decode cX10_signBy 23 = .ok (.if_icmp .ne 7, 3) := by decide +kernel
theorem dX10_signBy_26 : decode cX10_signBy 26 = .ok (.iconst 2, 1) := by decide +kernel
theorem dX10_signBy_27 : decode cX10_signBy 27 = .ok (.goto 4, 3) := by decide +kernel
theorem dX10_signBy_30 : decode cX10_signBy 30 = .ok (.iconst (-1), 1) := by decide +kernel
theorem dX10_signBy_31 : decode cX10_signBy 31 = .ok (.ireturn, 1) := by decide +kernel
theorem dX10_readsClaim_0 : decode cX10_readsClaim 0 = .ok (.aload_n 0, 1) := by decide +kernel
theorem dX10_readsClaim_1 : decode cX10_readsClaim 1 = .ok (.getfield 176, 3) := by decide +kernel
theorem dX10_readsClaim_4 : decode cX10_readsClaim 4 = .ok (.istore_n 1, 1) := by decide +kernel
theorem dX10_readsClaim_5 : decode cX10_readsClaim 5 = .ok (.aload_n 0, 1) := by decide +kernel
theorem dX10_readsClaim_6 : decode cX10_readsClaim 6 = .ok (.invokevirtual 182, 3) := by decide +kernel
theorem dX10_readsClaim_9 : decode cX10_readsClaim 9 = .ok (.bipush 97, 2) := by decide +kernel
theorem dX10_readsClaim_11 : decode cX10_readsClaim 11 = .ok (.isub, 1) := by decide +kernel
theorem dX10_readsClaim_12 : decode cX10_readsClaim 12 = .ok (.istore_n 2, 1) := by decide +kernel
theorem dX10_readsClaim_13 : decode cX10_readsClaim 13 = .ok (.iload_n 2, 1) := by decide +kernel
theorem dX10_readsClaim_14 : decode cX10_readsClaim 14 = .ok (.invokestatic 281, 3) := by decide +kernel
theorem dX10_readsClaim_17 : decode cX10_readsClaim 17 = .ok (.ifCond .ne 13, 3) := by decide +kernel
theorem dX10_readsClaim_20 : decode cX10_readsClaim 20 = .ok (.aload_n 0, 1) := by decide +kernel
theorem dX10_readsClaim_21 : decode cX10_readsClaim 21 = .ok (.iconst 1, 1) := by decide +kernel
theorem dX10_readsClaim_22 : decode cX10_readsClaim 22 = .ok (.aload_n 0, 1) := by decide +kernel
theorem dX10_readsClaim_23 : decode cX10_readsClaim 23 = .ok (.getfield 176, 3) := by decide +kernel
theorem dX10_readsClaim_26 : decode cX10_readsClaim 26 = .ok (.invokevirtual 189, 3) := by decide +kernel
theorem dX10_readsClaim_29 : decode cX10_readsClaim 29 = .ok (.ireturn, 1) := by decide +kernel
theorem dX10_readsClaim_30 : decode cX10_readsClaim 30 = .ok (.aload_n 0, 1) := by decide +kernel
theorem dX10_readsClaim_31 : decode cX10_readsClaim 31 = .ok (.getfield 284, 3) := by decide +kernel
theorem dX10_readsClaim_34 : decode cX10_readsClaim 34 = .ok (.bipush 40, 2) := by decide +kernel
theorem dX10_readsClaim_36 : decode cX10_readsClaim 36 = .ok (.if_icmp .ne 13, 3) := by decide +kernel
theorem dX10_readsClaim_39 : decode cX10_readsClaim 39 = .ok (.aload_n 0, 1) := by decide +kernel
theorem dX10_readsClaim_40 : decode cX10_readsClaim 40 = .ok (.iconst 4, 1) := by decide +kernel
theorem dX10_readsClaim_41 : decode cX10_readsClaim 41 = .ok (.aload_n 0, 1) := by decide +kernel
theorem dX10_readsClaim_42 : decode cX10_readsClaim 42 = .ok (.getfield 176, 3) := by decide +kernel
theorem dX10_readsClaim_45 : decode cX10_readsClaim 45 = .ok (.invokevirtual 189, 3) := by decide +kernel
theorem dX10_readsClaim_48 : decode cX10_readsClaim 48 = .ok (.ireturn, 1) := by decide +kernel
theorem dX10_readsClaim_49 : decode cX10_readsClaim 49 = .ok (.aload_n 0, 1) := by decide +kernel
theorem dX10_readsClaim_50 : decode cX10_readsClaim 50 = .ok (.aload_n 0, 1) := by decide +kernel
theorem dX10_readsClaim_51 : decode cX10_readsClaim 51 = .ok (.getfield 176, 3) := by decide +kernel
theorem dX10_readsClaim_54 : decode cX10_readsClaim 54 = .ok (.iconst 1, 1) := by decide +kernel
theorem dX10_readsClaim_55 : decode cX10_readsClaim 55 = .ok (.iadd, 1) := by decide +kernel
theorem dX10_readsClaim_56 : decode cX10_readsClaim 56 = .ok (.putfield 176, 3) := by decide +kernel
theorem dX10_readsClaim_59 : decode cX10_readsClaim 59 = .ok (.aload_n 0, 1) := by decide +kernel
theorem dX10_readsClaim_60 : decode cX10_readsClaim 60 = .ok (.bipush 45, 2) := by decide +kernel
theorem dX10_readsClaim_62 : decode cX10_readsClaim 62 = .ok (.invokevirtual 267, 3) := by decide +kernel
theorem dX10_readsClaim_65 : decode cX10_readsClaim 65 = .ok (.ifCond .ne 5, 3) := by decide +kernel
theorem dX10_readsClaim_68 : decode cX10_readsClaim 68 = .ok (.iconst 0, 1) := by decide +kernel
theorem dX10_readsClaim_69 : decode cX10_readsClaim 69 = .ok (.ireturn, 1) := by decide +kernel
theorem dX10_readsClaim_70 : decode cX10_readsClaim 70 = .ok (.aload_n 0, 1) := by decide +kernel
theorem dX10_readsClaim_71 : decode cX10_readsClaim 71 = .ok (.invokevirtual 182, 3) := by decide +kernel
theorem dX10_readsClaim_74 : decode cX10_readsClaim 74 = .ok (.bipush 97, 2) := by decide +kernel
theorem dX10_readsClaim_76 : decode cX10_readsClaim 76 = .ok (.isub, 1) := by decide +kernel
theorem dX10_readsClaim_77 : decode cX10_readsClaim 77 = .ok (.istore_n 3, 1) := by decide +kernel
theorem dX10_readsClaim_78 : decode cX10_readsClaim 78 = .ok (.iload_n 3, 1) := by decide +kernel
theorem dX10_readsClaim_79 : decode cX10_readsClaim 79 = .ok (.invokestatic 281, 3) := by decide +kernel
theorem dX10_readsClaim_82 : decode cX10_readsClaim 82 = .ok (.ifCond .ne 13, 3) := by decide +kernel
theorem dX10_readsClaim_85 : decode cX10_readsClaim 85 = .ok (.aload_n 0, 1) := by decide +kernel
theorem dX10_readsClaim_86 : decode cX10_readsClaim 86 = .ok (.iconst 1, 1) := by decide +kernel
theorem dX10_readsClaim_87 : decode cX10_readsClaim 87 = .ok (.aload_n 0, 1) := by decide +kernel
theorem dX10_readsClaim_88 : decode cX10_readsClaim 88 = .ok (.getfield 176, 3) := by decide +kernel
theorem dX10_readsClaim_91 : decode cX10_readsClaim 91 = .ok (.invokevirtual 189, 3) := by decide +kernel
theorem dX10_readsClaim_94 : decode cX10_readsClaim 94 = .ok (.ireturn, 1) := by decide +kernel
theorem dX10_readsClaim_95 : decode cX10_readsClaim 95 = .ok (.iload_n 3, 1) := by decide +kernel
theorem dX10_readsClaim_96 : decode cX10_readsClaim 96 = .ok (.iload_n 2, 1) := by decide +kernel
theorem dX10_readsClaim_97 : decode cX10_readsClaim 97 = .ok (.if_icmp .ne 14, 3) := by decide +kernel
theorem dX10_readsClaim_100 : decode cX10_readsClaim 100 = .ok (.aload_n 0, 1) := by decide +kernel
theorem dX10_readsClaim_101 : decode cX10_readsClaim 101 = .ok (.bipush 6, 2) := by decide +kernel
theorem dX10_readsClaim_103 : decode cX10_readsClaim 103 = .ok (.aload_n 0, 1) := by decide +kernel
theorem dX10_readsClaim_104 : decode cX10_readsClaim 104 = .ok (.getfield 176, 3) := by decide +kernel
theorem dX10_readsClaim_107 : decode cX10_readsClaim 107 = .ok (.invokevirtual 189, 3) := by decide +kernel
theorem dX10_readsClaim_110 : decode cX10_readsClaim 110 = .ok (.ireturn, 1) := by decide +kernel
theorem dX10_readsClaim_111 : decode cX10_readsClaim 111 = .ok (.aload_n 0, 1) := by decide +kernel
theorem dX10_readsClaim_112 : decode cX10_readsClaim 112 = .ok (.aload_n 0, 1) := by decide +kernel
theorem dX10_readsClaim_113 : decode cX10_readsClaim 113 = .ok (.getfield 176, 3) := by decide +kernel
theorem dX10_readsClaim_116 : decode cX10_readsClaim 116 = .ok (.iconst 1, 1) := by decide +kernel
theorem dX10_readsClaim_117 : decode cX10_readsClaim 117 = .ok (.iadd, 1) := by decide +kernel
theorem dX10_readsClaim_118 : decode cX10_readsClaim 118 = .ok (.putfield 176, 3) := by decide +kernel
theorem dX10_readsClaim_121 : decode cX10_readsClaim 121 = .ok (.aload_n 0, 1) := by decide +kernel
theorem dX10_readsClaim_122 : decode cX10_readsClaim 122 = .ok (.invokevirtual 182, 3) := by decide +kernel
theorem dX10_readsClaim_125 : decode cX10_readsClaim 125 = .ok (.invokestatic 287, 3) := by decide +kernel
theorem dX10_readsClaim_128 : decode cX10_readsClaim 128 = .ok (.istore 4, 2) := by decide +kernel
theorem dX10_readsClaim_130 : decode cX10_readsClaim 130 = .ok (.iload 4, 2) := by decide +kernel
theorem dX10_readsClaim_132 : decode cX10_readsClaim 132 = .ok (.iconst (-1), 1) := by decide +kernel
theorem dX10_readsClaim_133 : decode cX10_readsClaim 133 = .ok (.if_icmp .ne 13, 3) := by decide +kernel
theorem dX10_readsClaim_136 : decode cX10_readsClaim 136 = .ok (.aload_n 0, 1) := by decide +kernel
theorem dX10_readsClaim_137 : decode cX10_readsClaim 137 = .ok (.iconst 1, 1) := by decide +kernel
theorem dX10_readsClaim_138 : decode cX10_readsClaim 138 = .ok (.aload_n 0, 1) := by decide +kernel
theorem dX10_readsClaim_139 : decode cX10_readsClaim 139 = .ok (.getfield 176, 3) := by decide +kernel
theorem dX10_readsClaim_142 : decode cX10_readsClaim 142 = .ok (.invokevirtual 189, 3) := by decide +kernel
theorem dX10_readsClaim_145 : decode cX10_readsClaim 145 = .ok (.ireturn, 1) := by decide +kernel
theorem dX10_readsClaim_146 : decode cX10_readsClaim 146 = .ok (.aload_n 0, 1) := by decide +kernel
theorem dX10_readsClaim_147 : decode cX10_readsClaim 147 = .ok (.aload_n 0, 1) := by decide +kernel
theorem dX10_readsClaim_148 : decode cX10_readsClaim 148 = .ok (.getfield 176, 3) := by decide +kernel
theorem dX10_readsClaim_151 : decode cX10_readsClaim 151 = .ok (.iconst 1, 1) := by decide +kernel
theorem dX10_readsClaim_152 : decode cX10_readsClaim 152 = .ok (.iadd, 1) := by decide +kernel
theorem dX10_readsClaim_153 : decode cX10_readsClaim 153 = .ok (.putfield 176, 3) := by decide +kernel
theorem dX10_readsClaim_156 : decode cX10_readsClaim 156 = .ok (.aload_n 0, 1) := by decide +kernel
theorem dX10_readsClaim_157 : decode cX10_readsClaim 157 = .ok (.invokevirtual 182, 3) := by decide +kernel
theorem dX10_readsClaim_160 : decode cX10_readsClaim 160 = .ok (.bipush 45, 2) := by decide +kernel
theorem dX10_readsClaim_162 : decode cX10_readsClaim 162 = .ok (.if_icmp .ne 7, 3) := by decide +kernel
theorem dX10_readsClaim_165 : decode cX10_readsClaim 165 = .ok (.iconst 1, 1) := by decide +kernel
theorem dX10_readsClaim_166 : decode cX10_readsClaim 166 = .ok (.goto 4, 3) := by decide +kernel
theorem dX10_readsClaim_169 : decode cX10_readsClaim 169 = .ok (.iconst 0, 1) := by decide +kernel
theorem dX10_readsClaim_170 : decode cX10_readsClaim 170 = .ok (.istore 5, 2) := by decide +kernel
theorem dX10_readsClaim_172 : decode cX10_readsClaim 172 = .ok (.iload 5, 2) := by decide +kernel
theorem dX10_readsClaim_174 : decode cX10_readsClaim 174 = .ok (.ifCond .eq 13, 3) := by decide +kernel
theorem dX10_readsClaim_177 : decode cX10_readsClaim 177 = .ok (.aload_n 0, 1) := by decide +kernel
theorem dX10_readsClaim_178 : decode cX10_readsClaim 178 = .ok (.aload_n 0, 1) := by decide +kernel
theorem dX10_readsClaim_179 : decode cX10_readsClaim 179 = .ok (.getfield 176, 3) := by decide +kernel
theorem dX10_readsClaim_182 : decode cX10_readsClaim 182 = .ok (.iconst 1, 1) := by decide +kernel
theorem dX10_readsClaim_183 : decode cX10_readsClaim 183 = .ok (.iadd, 1) := by decide +kernel
theorem dX10_readsClaim_184 : decode cX10_readsClaim 184 = .ok (.putfield 176, 3) := by decide +kernel
theorem dX10_readsClaim_187 : decode cX10_readsClaim 187 = .ok (.aload_n 0, 1) := by decide +kernel
theorem dX10_readsClaim_188 : decode cX10_readsClaim 188 = .ok (.invokevirtual 290, 3) := by decide +kernel
theorem dX10_readsClaim_191 : decode cX10_readsClaim 191 = .ok (.ifCond .ne 5, 3) := by decide +kernel
theorem dX10_readsClaim_194 : decode cX10_readsClaim 194 = .ok (.iconst 0, 1) := by decide +kernel
theorem dX10_readsClaim_195 : decode cX10_readsClaim 195 = .ok (.ireturn, 1) := by decide +kernel
theorem dX10_readsClaim_196 : decode cX10_readsClaim 196 = .ok (.aload_n 0, 1) := by decide +kernel
theorem dX10_readsClaim_197 : decode cX10_readsClaim 197 = .ok (.getfield 74, 3) := by decide +kernel
theorem dX10_readsClaim_200 : decode cX10_readsClaim 200 = .ok (.aload_n 0, 1) := by decide +kernel
theorem dX10_readsClaim_201 : decode cX10_readsClaim 201 = .ok (.getfield 284, 3) := by decide +kernel
theorem dX10_readsClaim_204 : decode cX10_readsClaim 204 = .ok (.iload_n 2, 1) := by decide +kernel
theorem dX10_readsClaim_205 : decode cX10_readsClaim 205 = .ok (.iastore, 1) := by decide +kernel
theorem dX10_readsClaim_206 : decode cX10_readsClaim 206 = .ok (.aload_n 0, 1) := by decide +kernel
theorem dX10_readsClaim_207 : decode cX10_readsClaim 207 = .ok (.getfield 77, 3) := by decide +kernel
theorem dX10_readsClaim_210 : decode cX10_readsClaim 210 = .ok (.aload_n 0, 1) := by decide +kernel
theorem dX10_readsClaim_211 : decode cX10_readsClaim 211 = .ok (.getfield 284, 3) := by decide +kernel
theorem dX10_readsClaim_214 : decode cX10_readsClaim 214 = .ok (.iload_n 3, 1) := by decide +kernel
theorem dX10_readsClaim_215 : decode cX10_readsClaim 215 = .ok (.iastore, 1) := by decide +kernel
theorem dX10_readsClaim_216 : decode cX10_readsClaim 216 = .ok (.aload_n 0, 1) := by decide +kernel
theorem dX10_readsClaim_217 : decode cX10_readsClaim 217 = .ok (.getfield 80, 3) := by decide +kernel
theorem dX10_readsClaim_220 : decode cX10_readsClaim 220 = .ok (.aload_n 0, 1) := by decide +kernel
theorem dX10_readsClaim_221 : decode cX10_readsClaim 221 = .ok (.getfield 284, 3) := by decide +kernel
theorem dX10_readsClaim_224 : decode cX10_readsClaim 224 = .ok (.iload 4, 2) := by decide +kernel
theorem dX10_readsClaim_226 : decode cX10_readsClaim 226 = .ok (.iastore, 1) := by decide +kernel
theorem dX10_readsClaim_227 : decode cX10_readsClaim 227 = .ok (.aload_n 0, 1) := by decide +kernel
theorem dX10_readsClaim_228 : decode cX10_readsClaim 228 = .ok (.getfield 83, 3) := by decide +kernel
theorem dX10_readsClaim_231 : decode cX10_readsClaim 231 = .ok (.aload_n 0, 1) := by decide +kernel
theorem dX10_readsClaim_232 : decode cX10_readsClaim 232 = .ok (.getfield 284, 3) := by decide +kernel
theorem dX10_readsClaim_235 : decode cX10_readsClaim 235 = .ok (.iload 5, 2) := by decide +kernel
theorem dX10_readsClaim_237 : decode cX10_readsClaim 237 = .ok (.ifCond .eq 11, 3) := by decide +kernel
theorem dX10_readsClaim_240 : decode cX10_readsClaim 240 = .ok (.aload_n 0, 1) := by decide +kernel
theorem dX10_readsClaim_241 : decode cX10_readsClaim 241 = .ok (.getfield 192, 3) := by decide +kernel
theorem dX10_readsClaim_244 : decode cX10_readsClaim 244 = .ok (.ineg, 1) := by decide +kernel
theorem dX10_readsClaim_245 : decode cX10_readsClaim 245 = .ok (.goto 7, 3) := by decide +kernel
theorem dX10_readsClaim_248 : decode cX10_readsClaim 248 = .ok (.aload_n 0, 1) := by decide +kernel
theorem dX10_readsClaim_249 : decode cX10_readsClaim 249 = .ok (.getfield 192, 3) := by decide +kernel
theorem dX10_readsClaim_252 : decode cX10_readsClaim 252 = .ok (.iastore, 1) := by decide +kernel
theorem dX10_readsClaim_253 : decode cX10_readsClaim 253 = .ok (.iload 4, 2) := by decide +kernel
theorem dX10_readsClaim_255 : decode cX10_readsClaim 255 = .ok (.ifCond .ne 22, 3) := by decide +kernel
theorem dX10_readsClaim_258 : decode cX10_readsClaim 258 = .ok (.aload_n 0, 1) := by decide +kernel
theorem dX10_readsClaim_259 : decode cX10_readsClaim 259 = .ok (.aload_n 0, 1) := by decide +kernel
theorem dX10_readsClaim_260 : decode cX10_readsClaim 260 = .ok (.getfield 284, 3) := by decide +kernel
theorem dX10_readsClaim_263 : decode cX10_readsClaim 263 = .ok (.invokevirtual 293, 3) := by decide +kernel
theorem dX10_readsClaim_266 : decode cX10_readsClaim 266 = .ok (.ifCond .ne 11, 3) := by decide +kernel
theorem dX10_readsClaim_269 : decode cX10_readsClaim 269 = .ok (.aload_n 0, 1) := by decide +kernel
theorem dX10_readsClaim_270 : decode cX10_readsClaim 270 = .ok (.bipush 8, 2) := by decide +kernel
theorem dX10_readsClaim_272 : decode cX10_readsClaim 272 = .ok (.iload_n 1, 1) := by decide +kernel
theorem dX10_readsClaim_273 : decode cX10_readsClaim 273 = .ok (.invokevirtual 189, 3) := by decide +kernel
theorem dX10_readsClaim_276 : decode cX10_readsClaim 276 = .ok (.ireturn, 1) := by decide +kernel
theorem dX10_readsClaim_277 : decode cX10_readsClaim 277 = .ok (.aload_n 0, 1) := by decide +kernel
theorem dX10_readsClaim_278 : decode cX10_readsClaim 278 = .ok (.aload_n 0, 1) := by decide +kernel
theorem dX10_readsClaim_279 : decode cX10_readsClaim 279 = .ok (.getfield 284, 3) := by decide +kernel
theorem dX10_readsClaim_282 : decode cX10_readsClaim 282 = .ok (.iconst 1, 1) := by decide +kernel
theorem dX10_readsClaim_283 : decode cX10_readsClaim 283 = .ok (.iadd, 1) := by decide +kernel
theorem dX10_readsClaim_284 : decode cX10_readsClaim 284 = .ok (.putfield 284, 3) := by decide +kernel
theorem dX10_readsClaim_287 : decode cX10_readsClaim 287 = .ok (.iconst 1, 1) := by decide +kernel
theorem dX10_readsClaim_288 : decode cX10_readsClaim 288 = .ok (.ireturn, 1) := by decide +kernel
theorem dX10_laysKnown_0 : decode cX10_laysKnown 0 = .ok (.iconst 0, 1) := by decide +kernel
theorem dX10_laysKnown_1 : decode cX10_laysKnown 1 = .ok (.istore 6, 2) := by decide +kernel
theorem dX10_laysKnown_3 : decode cX10_laysKnown 3 = .ok (.iload 6, 2) := by decide +kernel
theorem dX10_laysKnown_5 : decode cX10_laysKnown 5 = .ok (.bipush 12, 2) := by decide +kernel
theorem dX10_laysKnown_7 : decode cX10_laysKnown 7 = .ok (.if_icmp .ge 26, 3) := by decide +kernel
theorem dX10_laysKnown_10 : decode cX10_laysKnown 10 = .ok (.aload_n 0, 1) := by decide +kernel
theorem dX10_laysKnown_11 : decode cX10_laysKnown 11 = .ok (.getfield 86, 3) := by decide +kernel
theorem dX10_laysKnown_14 : decode cX10_laysKnown 14 = .ok (.iload 6, 2) := by decide +kernel
theorem dX10_laysKnown_16 : decode cX10_laysKnown 16 = .ok (.iconst 0, 1) := by decide +kernel
theorem dX10_laysKnown_17 : decode cX10_laysKnown 17 = .ok (.iastore, 1) := by decide +kernel
theorem dX10_laysKnown_18 : decode cX10_laysKnown 18 = .ok (.aload_n 0, 1) := by decide +kernel
theorem dX10_laysKnown_19 : decode cX10_laysKnown 19 = .ok (.getfield 89, 3) := by decide +kernel
theorem dX10_laysKnown_22 : decode cX10_laysKnown 22 = .ok (.iload 6, 2) := by decide +kernel
theorem dX10_laysKnown_24 : decode cX10_laysKnown 24 = .ok (.iload 6, 2) := by decide +kernel
theorem dX10_laysKnown_26 : decode cX10_laysKnown 26 = .ok (.iastore, 1) := by decide +kernel
theorem dX10_laysKnown_27 : decode cX10_laysKnown 27 = .ok (.iinc 6 1, 3) := by decide +kernel
theorem dX10_laysKnown_30 : decode cX10_laysKnown 30 = .ok (.goto (-27), 3) := by decide +kernel
theorem dX10_laysKnown_33 : decode cX10_laysKnown 33 = .ok (.iconst 0, 1) := by decide +kernel
theorem dX10_laysKnown_34 : decode cX10_laysKnown 34 = .ok (.istore 6, 2) := by decide +kernel
theorem dX10_laysKnown_36 : decode cX10_laysKnown 36 = .ok (.iload 6, 2) := by decide +kernel
theorem dX10_laysKnown_38 : decode cX10_laysKnown 38 = .ok (.iload 5, 2) := by decide +kernel
theorem dX10_laysKnown_40 : decode cX10_laysKnown 40 = .ok (.if_icmp .ge 54, 3) := by decide +kernel
theorem dX10_laysKnown_43 : decode cX10_laysKnown 43 = .ok (.aload_n 3, 1) := by decide +kernel
theorem dX10_laysKnown_44 : decode cX10_laysKnown 44 = .ok (.iload 6, 2) := by decide +kernel
theorem dX10_laysKnown_46 : decode cX10_laysKnown 46 = .ok (.iaload, 1) := by decide +kernel
theorem dX10_laysKnown_47 : decode cX10_laysKnown 47 = .ok (.ifCond .ne 41, 3) := by decide +kernel
theorem dX10_laysKnown_50 : decode cX10_laysKnown 50 = .ok (.aload_n 0, 1) := by decide +kernel
theorem dX10_laysKnown_51 : decode cX10_laysKnown 51 = .ok (.getfield 89, 3) := by decide +kernel
theorem dX10_laysKnown_54 : decode cX10_laysKnown 54 = .ok (.aload_n 1, 1) := by decide +kernel
theorem dX10_laysKnown_55 : decode cX10_laysKnown 55 = .ok (.iload 6, 2) := by decide +kernel
theorem dX10_laysKnown_57 : decode cX10_laysKnown 57 = .ok (.iaload, 1) := by decide +kernel
theorem dX10_laysKnown_58 : decode cX10_laysKnown 58 = .ok (.iaload, 1) := by decide +kernel
theorem dX10_laysKnown_59 : decode cX10_laysKnown 59 = .ok (.aload_n 0, 1) := by decide +kernel
theorem dX10_laysKnown_60 : decode cX10_laysKnown 60 = .ok (.getfield 89, 3) := by decide +kernel
theorem dX10_laysKnown_63 : decode cX10_laysKnown 63 = .ok (.aload_n 2, 1) := by decide +kernel
theorem dX10_laysKnown_64 : decode cX10_laysKnown 64 = .ok (.iload 6, 2) := by decide +kernel
theorem dX10_laysKnown_66 : decode cX10_laysKnown 66 = .ok (.iaload, 1) := by decide +kernel
theorem dX10_laysKnown_67 : decode cX10_laysKnown 67 = .ok (.iaload, 1) := by decide +kernel
theorem dX10_laysKnown_68 : decode cX10_laysKnown 68 = .ok (.if_icmp .eq 20, 3) := by decide +kernel
theorem dX10_laysKnown_71 : decode cX10_laysKnown 71 = .ok (.aload_n 0, 1) := by decide +kernel
theorem dX10_laysKnown_72 : decode cX10_laysKnown 72 = .ok (.aload_n 1, 1) := by decide +kernel
theorem dX10_laysKnown_73 : decode cX10_laysKnown 73 = .ok (.iload 6, 2) := by decide +kernel
theorem dX10_laysKnown_75 : decode cX10_laysKnown 75 = .ok (.iaload, 1) := by decide +kernel
theorem dX10_laysKnown_76 : decode cX10_laysKnown 76 = .ok (.aload_n 2, 1) := by decide +kernel
theorem dX10_laysKnown_77 : decode cX10_laysKnown 77 = .ok (.iload 6, 2) := by decide +kernel
theorem dX10_laysKnown_79 : decode cX10_laysKnown 79 = .ok (.iaload, 1) := by decide +kernel
theorem dX10_laysKnown_80 : decode cX10_laysKnown 80 = .ok (.aload 4, 2) := by decide +kernel
theorem dX10_laysKnown_82 : decode cX10_laysKnown 82 = .ok (.iload 6, 2) := by decide +kernel
theorem dX10_laysKnown_84 : decode cX10_laysKnown 84 = .ok (.iaload, 1) := by decide +kernel
theorem dX10_laysKnown_85 : decode cX10_laysKnown 85 = .ok (.invokevirtual 296, 3) := by decide +kernel
theorem dX10_laysKnown_88 : decode cX10_laysKnown 88 = .ok (.iinc 6 1, 3) := by decide +kernel
theorem dX10_laysKnown_91 : decode cX10_laysKnown 91 = .ok (.goto (-55), 3) := by decide +kernel
theorem dX10_laysKnown_94 : decode cX10_laysKnown 94 = .ok (.return_, 1) := by decide +kernel
theorem dX10_joins_0 : decode cX10_joins 0 = .ok (.aload_n 0, 1) := by decide +kernel
theorem dX10_joins_1 : decode cX10_joins 1 = .ok (.getfield 89, 3) := by decide +kernel
theorem dX10_joins_4 : decode cX10_joins 4 = .ok (.iload_n 1, 1) := by decide +kernel
theorem dX10_joins_5 : decode cX10_joins 5 = .ok (.iaload, 1) := by decide +kernel
theorem dX10_joins_6 : decode cX10_joins 6 = .ok (.istore 4, 2) := by decide +kernel
theorem dX10_joins_8 : decode cX10_joins 8 = .ok (.aload_n 0, 1) := by decide +kernel
theorem dX10_joins_9 : decode cX10_joins 9 = .ok (.getfield 86, 3) := by decide +kernel
theorem dX10_joins_12 : decode cX10_joins 12 = .ok (.iload_n 2, 1) := by decide +kernel
theorem dX10_joins_13 : decode cX10_joins 13 = .ok (.iaload, 1) := by decide +kernel
theorem dX10_joins_14 : decode cX10_joins 14 = .ok (.iload_n 3, 1) := by decide +kernel
theorem dX10_joins_15 : decode cX10_joins 15 = .ok (.iadd, 1) := by decide +kernel
theorem dX10_joins_16 : decode cX10_joins 16 = .ok (.aload_n 0, 1) := by decide +kernel
theorem dX10_joins_17 : decode cX10_joins 17 = .ok (.getfield 86, 3) := by decide +kernel
theorem dX10_joins_20 : decode cX10_joins 20 = .ok (.iload_n 1, 1) := by decide +kernel
theorem dX10_joins_21 : decode cX10_joins 21 = .ok (.iaload, 1) := by decide +kernel
theorem dX10_joins_22 : decode cX10_joins 22 = .ok (.isub, 1) := by decide +kernel
theorem dX10_joins_23 : decode cX10_joins 23 = .ok (.istore 5, 2) := by decide +kernel
theorem dX10_joins_25 : decode cX10_joins 25 = .ok (.iconst 0, 1) := by decide +kernel
theorem dX10_joins_26 : decode cX10_joins 26 = .ok (.istore 6, 2) := by decide +kernel
theorem dX10_joins_28 : decode cX10_joins 28 = .ok (.iload 6, 2) := by decide +kernel
theorem dX10_joins_30 : decode cX10_joins 30 = .ok (.bipush 12, 2) := by decide +kernel
theorem dX10_joins_32 : decode cX10_joins 32 = .ok (.if_icmp .ge 54, 3) := by decide +kernel
theorem dX10_joins_35 : decode cX10_joins 35 = .ok (.aload_n 0, 1) := by decide +kernel
theorem dX10_joins_36 : decode cX10_joins 36 = .ok (.getfield 89, 3) := by decide +kernel
theorem dX10_joins_39 : decode cX10_joins 39 = .ok (.iload 6, 2) := by decide +kernel
theorem dX10_joins_41 : decode cX10_joins 41 = .ok (.iaload, 1) := by decide +kernel
theorem dX10_joins_42 : decode cX10_joins 42 = .ok (.iload 4, 2) := by decide +kernel
theorem dX10_joins_44 : decode cX10_joins 44 = .ok (.if_icmp .eq 6, 3) := by decide +kernel
theorem dX10_joins_47 : decode cX10_joins 47 = .ok (.goto 33, 3) := by decide +kernel
theorem dX10_joins_50 : decode cX10_joins 50 = .ok (.aload_n 0, 1) := by decide +kernel
theorem dX10_joins_51 : decode cX10_joins 51 = .ok (.getfield 89, 3) := by decide +kernel
theorem dX10_joins_54 : decode cX10_joins 54 = .ok (.iload 6, 2) := by decide +kernel
theorem dX10_joins_56 : decode cX10_joins 56 = .ok (.aload_n 0, 1) := by decide +kernel
theorem dX10_joins_57 : decode cX10_joins 57 = .ok (.getfield 89, 3) := by decide +kernel
theorem dX10_joins_60 : decode cX10_joins 60 = .ok (.iload_n 2, 1) := by decide +kernel
theorem dX10_joins_61 : decode cX10_joins 61 = .ok (.iaload, 1) := by decide +kernel
theorem dX10_joins_62 : decode cX10_joins 62 = .ok (.iastore, 1) := by decide +kernel
theorem dX10_joins_63 : decode cX10_joins 63 = .ok (.aload_n 0, 1) := by decide +kernel
theorem dX10_joins_64 : decode cX10_joins 64 = .ok (.getfield 86, 3) := by decide +kernel
theorem dX10_joins_67 : decode cX10_joins 67 = .ok (.iload 6, 2) := by decide +kernel
theorem dX10_joins_69 : decode cX10_joins 69 = .ok (.aload_n 0, 1) := by decide +kernel
theorem dX10_joins_70 : decode cX10_joins 70 = .ok (.getfield 86, 3) := by decide +kernel
theorem dX10_joins_73 : decode cX10_joins 73 = .ok (.iload 6, 2) := by decide +kernel
theorem dX10_joins_75 : decode cX10_joins 75 = .ok (.iaload, 1) := by decide +kernel
theorem dX10_joins_76 : decode cX10_joins 76 = .ok (.iload 5, 2) := by decide +kernel
theorem dX10_joins_78 : decode cX10_joins 78 = .ok (.iadd, 1) := by decide +kernel
theorem dX10_joins_79 : decode cX10_joins 79 = .ok (.iastore, 1) := by decide +kernel
theorem dX10_joins_80 : decode cX10_joins 80 = .ok (.iinc 6 1, 3) := by decide +kernel
theorem dX10_joins_83 : decode cX10_joins 83 = .ok (.goto (-55), 3) := by decide +kernel
theorem dX10_joins_86 : decode cX10_joins 86 = .ok (.return_, 1) := by decide +kernel
theorem dX10_canBeToo_0 : decode cX10_canBeToo 0 = .ok (.aload_n 0, 1) := by decide +kernel
theorem dX10_canBeToo_1 : decode cX10_canBeToo 1 = .ok (.aload_n 0, 1) := by decide +kernel
theorem dX10_canBeToo_2 : decode cX10_canBeToo 2 = .ok (.getfield 74, 3) := by decide +kernel
theorem dX10_canBeToo_5 : decode cX10_canBeToo 5 = .ok (.aload_n 0, 1) := by decide +kernel
theorem dX10_canBeToo_6 : decode cX10_canBeToo 6 = .ok (.getfield 77, 3) := by decide +kernel
theorem dX10_canBeToo_9 : decode cX10_canBeToo 9 = .ok (.aload_n 0, 1) := by decide +kernel
theorem dX10_canBeToo_10 : decode cX10_canBeToo 10 = .ok (.getfield 80, 3) := by decide +kernel
theorem dX10_canBeToo_13 : decode cX10_canBeToo 13 = .ok (.aload_n 0, 1) := by decide +kernel
theorem dX10_canBeToo_14 : decode cX10_canBeToo 14 = .ok (.getfield 83, 3) := by decide +kernel
theorem dX10_canBeToo_17 : decode cX10_canBeToo 17 = .ok (.iload_n 1, 1) := by decide +kernel
theorem dX10_canBeToo_18 : decode cX10_canBeToo 18 = .ok (.invokevirtual 300, 3) := by decide +kernel
theorem dX10_canBeToo_21 : decode cX10_canBeToo 21 = .ok (.aload_n 0, 1) := by decide +kernel
theorem dX10_canBeToo_22 : decode cX10_canBeToo 22 = .ok (.getfield 89, 3) := by decide +kernel
theorem dX10_canBeToo_25 : decode cX10_canBeToo 25 = .ok (.aload_n 0, 1) := by decide +kernel
theorem dX10_canBeToo_26 : decode cX10_canBeToo 26 = .ok (.getfield 74, 3) := by decide +kernel
theorem dX10_canBeToo_29 : decode cX10_canBeToo 29 = .ok (.iload_n 1, 1) := by decide +kernel
theorem dX10_canBeToo_30 : decode cX10_canBeToo 30 = .ok (.iaload, 1) := by decide +kernel
theorem dX10_canBeToo_31 : decode cX10_canBeToo 31 = .ok (.iaload, 1) := by decide +kernel
theorem dX10_canBeToo_32 : decode cX10_canBeToo 32 = .ok (.aload_n 0, 1) := by decide +kernel
theorem dX10_canBeToo_33 : decode cX10_canBeToo 33 = .ok (.getfield 89, 3) := by decide +kernel
theorem dX10_canBeToo_36 : decode cX10_canBeToo 36 = .ok (.aload_n 0, 1) := by decide +kernel
theorem dX10_canBeToo_37 : decode cX10_canBeToo 37 = .ok (.getfield 77, 3) := by decide +kernel
theorem dX10_canBeToo_40 : decode cX10_canBeToo 40 = .ok (.iload_n 1, 1) := by decide +kernel
theorem dX10_canBeToo_41 : decode cX10_canBeToo 41 = .ok (.iaload, 1) := by decide +kernel
theorem dX10_canBeToo_42 : decode cX10_canBeToo 42 = .ok (.iaload, 1) := by decide +kernel
theorem dX10_canBeToo_43 : decode cX10_canBeToo 43 = .ok (.if_icmp .ne 35, 3) := by decide +kernel
theorem dX10_canBeToo_46 : decode cX10_canBeToo 46 = .ok (.aload_n 0, 1) := by decide +kernel
theorem dX10_canBeToo_47 : decode cX10_canBeToo 47 = .ok (.getfield 86, 3) := by decide +kernel
theorem dX10_canBeToo_50 : decode cX10_canBeToo 50 = .ok (.aload_n 0, 1) := by decide +kernel
theorem dX10_canBeToo_51 : decode cX10_canBeToo 51 = .ok (.getfield 74, 3) := by decide +kernel
theorem dX10_canBeToo_54 : decode cX10_canBeToo 54 = .ok (.iload_n 1, 1) := by decide +kernel
theorem dX10_canBeToo_55 : decode cX10_canBeToo 55 = .ok (.iaload, 1) := by decide +kernel
theorem dX10_canBeToo_56 : decode cX10_canBeToo 56 = .ok (.iaload, 1) := by decide +kernel
theorem dX10_canBeToo_57 : decode cX10_canBeToo 57 = .ok (.aload_n 0, 1) := by decide +kernel
theorem dX10_canBeToo_58 : decode cX10_canBeToo 58 = .ok (.getfield 86, 3) := by decide +kernel
theorem dX10_canBeToo_61 : decode cX10_canBeToo 61 = .ok (.aload_n 0, 1) := by decide +kernel
theorem dX10_canBeToo_62 : decode cX10_canBeToo 62 = .ok (.getfield 77, 3) := by decide +kernel
theorem dX10_canBeToo_65 : decode cX10_canBeToo 65 = .ok (.iload_n 1, 1) := by decide +kernel
theorem dX10_canBeToo_66 : decode cX10_canBeToo 66 = .ok (.iaload, 1) := by decide +kernel
theorem dX10_canBeToo_67 : decode cX10_canBeToo 67 = .ok (.iaload, 1) := by decide +kernel
theorem dX10_canBeToo_68 : decode cX10_canBeToo 68 = .ok (.isub, 1) := by decide +kernel
theorem dX10_canBeToo_69 : decode cX10_canBeToo 69 = .ok (.aload_n 0, 1) := by decide +kernel
theorem dX10_canBeToo_70 : decode cX10_canBeToo 70 = .ok (.getfield 83, 3) := by decide +kernel
theorem dX10_canBeToo_73 : decode cX10_canBeToo 73 = .ok (.iload_n 1, 1) := by decide +kernel
theorem dX10_canBeToo_74 : decode cX10_canBeToo 74 = .ok (.iaload, 1) := by decide +kernel
theorem dX10_canBeToo_75 : decode cX10_canBeToo 75 = .ok (.if_icmp .ne 7, 3) := by decide +kernel
theorem dX10_canBeToo_78 : decode cX10_canBeToo 78 = .ok (.iconst 1, 1) := by decide +kernel
theorem dX10_canBeToo_79 : decode cX10_canBeToo 79 = .ok (.goto 4, 3) := by decide +kernel
theorem dX10_canBeToo_82 : decode cX10_canBeToo 82 = .ok (.iconst 0, 1) := by decide +kernel
theorem dX10_canBeToo_83 : decode cX10_canBeToo 83 = .ok (.ireturn, 1) := by decide +kernel
theorem dX10_claims_0 : decode cX10_claims 0 = .ok (.iload_n 1, 1) := by decide +kernel
theorem dX10_claims_1 : decode cX10_claims 1 = .ok (.iconst 1, 1) := by decide +kernel
theorem dX10_claims_2 : decode cX10_claims 2 = .ok (.sipush 250, 3) := by decide +kernel
theorem dX10_claims_5 : decode cX10_claims 5 = .ok (.invokestatic 161, 3) := by decide +kernel
theorem dX10_claims_8 : decode cX10_claims 8 = .ok (.ifCond .eq 11, 3) := by decide +kernel
theorem dX10_claims_11 : decode cX10_claims 11 = .ok (.iload_n 1, 1) := by decide +kernel
theorem dX10_claims_12 : decode cX10_claims 12 = .ok (.aload_n 0, 1) := by decide +kernel
theorem dX10_claims_13 : decode cX10_claims 13 = .ok (.getfield 169, 3) := by decide +kernel
theorem dX10_claims_16 : decode cX10_claims 16 = .ok (.if_icmp .le 5, 3) := by decide +kernel
theorem dX10_claims_19 : decode cX10_claims 19 = .ok (.iconst (-1), 1) := by decide +kernel
theorem dX10_claims_20 : decode cX10_claims 20 = .ok (.ireturn, 1) := by decide +kernel
theorem dX10_claims_21 : decode cX10_claims 21 = .ok (.aload_n 0, 1) := by decide +kernel
theorem dX10_claims_22 : decode cX10_claims 22 = .ok (.iload_n 1, 1) := by decide +kernel
theorem dX10_claims_23 : decode cX10_claims 23 = .ok (.invokevirtual 261, 3) := by decide +kernel
theorem dX10_claims_26 : decode cX10_claims 26 = .ok (.aload_n 0, 1) := by decide +kernel
theorem dX10_claims_27 : decode cX10_claims 27 = .ok (.iconst 0, 1) := by decide +kernel
theorem dX10_claims_28 : decode cX10_claims 28 = .ok (.putfield 284, 3) := by decide +kernel
theorem dX10_claims_31 : decode cX10_claims 31 = .ok (.aload_n 0, 1) := by decide +kernel
theorem dX10_claims_32 : decode cX10_claims 32 = .ok (.invokevirtual 304, 3) := by decide +kernel
theorem dX10_claims_35 : decode cX10_claims 35 = .ok (.istore_n 2, 1) := by decide +kernel
theorem dX10_claims_36 : decode cX10_claims 36 = .ok (.iload_n 2, 1) := by decide +kernel
theorem dX10_claims_37 : decode cX10_claims 37 = .ok (.ifCond .eq 39, 3) := by decide +kernel
theorem dX10_claims_40 : decode cX10_claims 40 = .ok (.aload_n 0, 1) := by decide +kernel
theorem dX10_claims_41 : decode cX10_claims 41 = .ok (.getfield 176, 3) := by decide +kernel
theorem dX10_claims_44 : decode cX10_claims 44 = .ok (.aload_n 0, 1) := by decide +kernel
theorem dX10_claims_45 : decode cX10_claims 45 = .ok (.getfield 179, 3) := by decide +kernel
theorem dX10_claims_48 : decode cX10_claims 48 = .ok (.if_icmp .ge 28, 3) := by decide +kernel
theorem dX10_claims_51 : decode cX10_claims 51 = .ok (.aload_n 0, 1) := by decide +kernel
theorem dX10_claims_52 : decode cX10_claims 52 = .ok (.bipush 59, 2) := by decide +kernel
theorem dX10_claims_54 : decode cX10_claims 54 = .ok (.invokevirtual 267, 3) := by decide +kernel
theorem dX10_claims_57 : decode cX10_claims 57 = .ok (.ifCond .eq 14, 3) := by decide +kernel
theorem dX10_claims_60 : decode cX10_claims 60 = .ok (.aload_n 0, 1) := by decide +kernel
theorem dX10_claims_61 : decode cX10_claims 61 = .ok (.invokevirtual 304, 3) := by decide +kernel
theorem dX10_claims_64 : decode cX10_claims 64 = .ok (.ifCond .eq 7, 3) := by decide +kernel
theorem dX10_claims_67 : decode cX10_claims 67 = .ok (.iconst 1, 1) := by decide +kernel
theorem dX10_claims_68 : decode cX10_claims 68 = .ok (.goto 4, 3) := by decide +kernel
theorem dX10_claims_71 : decode cX10_claims 71 = .ok (.iconst 0, 1) := by decide +kernel
theorem dX10_claims_72 : decode cX10_claims 72 = .ok (.istore_n 2, 1) := by decide +kernel
theorem dX10_claims_73 : decode cX10_claims 73 = .ok (.goto (-37), 3) := by decide +kernel
theorem dX10_claims_76 : decode cX10_claims 76 = .ok (.aload_n 0, 1) := by decide +kernel
theorem dX10_claims_77 : decode cX10_claims 77 = .ok (.iconst 0, 1) := by decide +kernel
theorem dX10_claims_78 : decode cX10_claims 78 = .ok (.putfield 169, 3) := by decide +kernel
theorem dX10_claims_81 : decode cX10_claims 81 = .ok (.iload_n 2, 1) := by decide +kernel
theorem dX10_claims_82 : decode cX10_claims 82 = .ok (.ifCond .ne 8, 3) := by decide +kernel
theorem dX10_claims_85 : decode cX10_claims 85 = .ok (.aload_n 0, 1) := by decide +kernel
theorem dX10_claims_86 : decode cX10_claims 86 = .ok (.getfield 186, 3) := by decide +kernel
theorem dX10_claims_89 : decode cX10_claims 89 = .ok (.ireturn, 1) := by decide +kernel
theorem dX10_claims_90 : decode cX10_claims 90 = .ok (.aload_n 0, 1) := by decide +kernel
theorem dX10_claims_91 : decode cX10_claims 91 = .ok (.aload_n 0, 1) := by decide +kernel
theorem dX10_claims_92 : decode cX10_claims 92 = .ok (.getfield 284, 3) := by decide +kernel
theorem dX10_claims_95 : decode cX10_claims 95 = .ok (.putfield 307, 3) := by decide +kernel
theorem dX10_claims_98 : decode cX10_claims 98 = .ok (.iconst 0, 1) := by decide +kernel
theorem dX10_claims_99 : decode cX10_claims 99 = .ok (.istore_n 3, 1) := by decide +kernel
theorem dX10_claims_100 : decode cX10_claims 100 = .ok (.iload_n 3, 1) := by decide +kernel
theorem dX10_claims_101 : decode cX10_claims 101 = .ok (.aload_n 0, 1) := by decide +kernel
theorem dX10_claims_102 : decode cX10_claims 102 = .ok (.getfield 307, 3) := by decide +kernel
theorem dX10_claims_105 : decode cX10_claims 105 = .ok (.if_icmp .ge 57, 3) := by decide +kernel
theorem dX10_claims_108 : decode cX10_claims 108 = .ok (.aload_n 0, 1) := by decide +kernel
theorem dX10_claims_109 : decode cX10_claims 109 = .ok (.getfield 19, 3) := by decide +kernel
theorem dX10_claims_112 : decode cX10_claims 112 = .ok (.iload_n 3, 1) := by decide +kernel
theorem dX10_claims_113 : decode cX10_claims 113 = .ok (.aload_n 0, 1) := by decide +kernel
theorem dX10_claims_114 : decode cX10_claims 114 = .ok (.getfield 74, 3) := by decide +kernel
theorem dX10_claims_117 : decode cX10_claims 117 = .ok (.iload_n 3, 1) := by decide +kernel
theorem dX10_claims_118 : decode cX10_claims 118 = .ok (.iaload, 1) := by decide +kernel
theorem dX10_claims_119 : decode cX10_claims 119 = .ok (.iastore, 1) := by decide +kernel
theorem dX10_claims_120 : decode cX10_claims 120 = .ok (.aload_n 0, 1) := by decide +kernel
theorem dX10_claims_121 : decode cX10_claims 121 = .ok (.getfield 22, 3) := by decide +kernel
theorem dX10_claims_124 : decode cX10_claims 124 = .ok (.iload_n 3, 1) := by decide +kernel
theorem dX10_claims_125 : decode cX10_claims 125 = .ok (.aload_n 0, 1) := by decide +kernel
theorem dX10_claims_126 : decode cX10_claims 126 = .ok (.getfield 77, 3) := by decide +kernel
theorem dX10_claims_129 : decode cX10_claims 129 = .ok (.iload_n 3, 1) := by decide +kernel
theorem dX10_claims_130 : decode cX10_claims 130 = .ok (.iaload, 1) := by decide +kernel
theorem dX10_claims_131 : decode cX10_claims 131 = .ok (.iastore, 1) := by decide +kernel
theorem dX10_claims_132 : decode cX10_claims 132 = .ok (.aload_n 0, 1) := by decide +kernel
theorem dX10_claims_133 : decode cX10_claims 133 = .ok (.getfield 25, 3) := by decide +kernel
theorem dX10_claims_136 : decode cX10_claims 136 = .ok (.iload_n 3, 1) := by decide +kernel
theorem dX10_claims_137 : decode cX10_claims 137 = .ok (.aload_n 0, 1) := by decide +kernel
theorem dX10_claims_138 : decode cX10_claims 138 = .ok (.getfield 80, 3) := by decide +kernel
theorem dX10_claims_141 : decode cX10_claims 141 = .ok (.iload_n 3, 1) := by decide +kernel
theorem dX10_claims_142 : decode cX10_claims 142 = .ok (.iaload, 1) := by decide +kernel
theorem dX10_claims_143 : decode cX10_claims 143 = .ok (.iastore, 1) := by decide +kernel
theorem dX10_claims_144 : decode cX10_claims 144 = .ok (.aload_n 0, 1) := by decide +kernel
theorem dX10_claims_145 : decode cX10_claims 145 = .ok (.getfield 28, 3) := by decide +kernel
theorem dX10_claims_148 : decode cX10_claims 148 = .ok (.iload_n 3, 1) := by decide +kernel
theorem dX10_claims_149 : decode cX10_claims 149 = .ok (.aload_n 0, 1) := by decide +kernel
theorem dX10_claims_150 : decode cX10_claims 150 = .ok (.getfield 83, 3) := by decide +kernel
theorem dX10_claims_153 : decode cX10_claims 153 = .ok (.iload_n 3, 1) := by decide +kernel
theorem dX10_claims_154 : decode cX10_claims 154 = .ok (.iaload, 1) := by decide +kernel
theorem dX10_claims_155 : decode cX10_claims 155 = .ok (.iastore, 1) := by decide +kernel
theorem dX10_claims_156 : decode cX10_claims 156 = .ok (.iinc 3 1, 3) := by decide +kernel
theorem dX10_claims_159 : decode cX10_claims 159 = .ok (.goto (-59), 3) := by decide +kernel
theorem dX10_claims_162 : decode cX10_claims 162 = .ok (.aload_n 0, 1) := by decide +kernel
theorem dX10_claims_163 : decode cX10_claims 163 = .ok (.getfield 307, 3) := by decide +kernel
theorem dX10_claims_166 : decode cX10_claims 166 = .ok (.ireturn, 1) := by decide +kernel
theorem dX10_claimIs_0 : decode cX10_claimIs 0 = .ok (.iload_n 1, 1) := by decide +kernel
theorem dX10_claimIs_1 : decode cX10_claimIs 1 = .ok (.iconst 0, 1) := by decide +kernel
theorem dX10_claimIs_2 : decode cX10_claimIs 2 = .ok (.aload_n 0, 1) := by decide +kernel
theorem dX10_claimIs_3 : decode cX10_claimIs 3 = .ok (.getfield 307, 3) := by decide +kernel
theorem dX10_claimIs_6 : decode cX10_claimIs 6 = .ok (.iconst 1, 1) := by decide +kernel
theorem dX10_claimIs_7 : decode cX10_claimIs 7 = .ok (.isub, 1) := by decide +kernel
theorem dX10_claimIs_8 : decode cX10_claimIs 8 = .ok (.invokestatic 161, 3) := by decide +kernel
theorem dX10_claimIs_11 : decode cX10_claimIs 11 = .ok (.ifCond .ne 7, 3) := by decide +kernel
theorem dX10_claimIs_14 : decode cX10_claimIs 14 = .ok (.ldc_w 310, 3) := by decide +kernel
theorem dX10_claimIs_17 : decode cX10_claimIs 17 = .ok (.ireturn, 1) := by decide +kernel
theorem dX10_claimIs_18 : decode cX10_claimIs 18 = .ok (.iload_n 2, 1) := by decide +kernel
theorem dX10_claimIs_19 : decode cX10_claimIs 19 = .ok (.tableswitch 57 0 3 #[29, 36, 43, 50], 29) := by decide +kernel
theorem dX10_claimIs_48 : decode cX10_claimIs 48 = .ok (.aload_n 0, 1) := by decide +kernel
theorem dX10_claimIs_49 : decode cX10_claimIs 49 = .ok (.getfield 19, 3) := by decide +kernel
theorem dX10_claimIs_52 : decode cX10_claimIs 52 = .ok (.iload_n 1, 1) := by decide +kernel
theorem dX10_claimIs_53 : decode cX10_claimIs 53 = .ok (.iaload, 1) := by decide +kernel
theorem dX10_claimIs_54 : decode cX10_claimIs 54 = .ok (.ireturn, 1) := by decide +kernel
theorem dX10_claimIs_55 : decode cX10_claimIs 55 = .ok (.aload_n 0, 1) := by decide +kernel
theorem dX10_claimIs_56 : decode cX10_claimIs 56 = .ok (.getfield 22, 3) := by decide +kernel
theorem dX10_claimIs_59 : decode cX10_claimIs 59 = .ok (.iload_n 1, 1) := by decide +kernel
theorem dX10_claimIs_60 : decode cX10_claimIs 60 = .ok (.iaload, 1) := by decide +kernel
theorem dX10_claimIs_61 : decode cX10_claimIs 61 = .ok (.ireturn, 1) := by decide +kernel
theorem dX10_claimIs_62 : decode cX10_claimIs 62 = .ok (.aload_n 0, 1) := by decide +kernel
theorem dX10_claimIs_63 : decode cX10_claimIs 63 = .ok (.getfield 25, 3) := by decide +kernel
theorem dX10_claimIs_66 : decode cX10_claimIs 66 = .ok (.iload_n 1, 1) := by decide +kernel
theorem dX10_claimIs_67 : decode cX10_claimIs 67 = .ok (.iaload, 1) := by decide +kernel
theorem dX10_claimIs_68 : decode cX10_claimIs 68 = .ok (.ireturn, 1) := by decide +kernel
theorem dX10_claimIs_69 : decode cX10_claimIs 69 = .ok (.aload_n 0, 1) := by decide +kernel
theorem dX10_claimIs_70 : decode cX10_claimIs 70 = .ok (.getfield 28, 3) := by decide +kernel
theorem dX10_claimIs_73 : decode cX10_claimIs 73 = .ok (.iload_n 1, 1) := by decide +kernel
theorem dX10_claimIs_74 : decode cX10_claimIs 74 = .ok (.iaload, 1) := by decide +kernel
theorem dX10_claimIs_75 : decode cX10_claimIs 75 = .ok (.ireturn, 1) := by decide +kernel
theorem dX10_claimIs_76 : decode cX10_claimIs 76 = .ok (.ldc_w 310, 3) := by decide +kernel
theorem dX10_claimIs_79 : decode cX10_claimIs 79 = .ok (.ireturn, 1) := by decide +kernel
theorem dX10_known_0 : decode cX10_known 0 = .ok (.iload_n 1, 1) := by decide +kernel
theorem dX10_known_1 : decode cX10_known 1 = .ok (.invokestatic 281, 3) := by decide +kernel
theorem dX10_known_4 : decode cX10_known 4 = .ok (.ifCond .eq 10, 3) := by decide +kernel
theorem dX10_known_7 : decode cX10_known 7 = .ok (.iload_n 2, 1) := by decide +kernel
theorem dX10_known_8 : decode cX10_known 8 = .ok (.invokestatic 281, 3) := by decide +kernel
theorem dX10_known_11 : decode cX10_known 11 = .ok (.ifCond .ne 7, 3) := by decide +kernel
theorem dX10_known_14 : decode cX10_known 14 = .ok (.ldc_w 311, 3) := by decide +kernel
theorem dX10_known_17 : decode cX10_known 17 = .ok (.ireturn, 1) := by decide +kernel
theorem dX10_known_18 : decode cX10_known 18 = .ok (.aload_n 0, 1) := by decide +kernel
theorem dX10_known_19 : decode cX10_known 19 = .ok (.aload_n 0, 1) := by decide +kernel
theorem dX10_known_20 : decode cX10_known 20 = .ok (.getfield 19, 3) := by decide +kernel
theorem dX10_known_23 : decode cX10_known 23 = .ok (.aload_n 0, 1) := by decide +kernel
theorem dX10_known_24 : decode cX10_known 24 = .ok (.getfield 22, 3) := by decide +kernel
theorem dX10_known_27 : decode cX10_known 27 = .ok (.aload_n 0, 1) := by decide +kernel
theorem dX10_known_28 : decode cX10_known 28 = .ok (.getfield 25, 3) := by decide +kernel
theorem dX10_known_31 : decode cX10_known 31 = .ok (.aload_n 0, 1) := by decide +kernel
theorem dX10_known_32 : decode cX10_known 32 = .ok (.getfield 28, 3) := by decide +kernel
theorem dX10_known_35 : decode cX10_known 35 = .ok (.aload_n 0, 1) := by decide +kernel
theorem dX10_known_36 : decode cX10_known 36 = .ok (.getfield 307, 3) := by decide +kernel
theorem dX10_known_39 : decode cX10_known 39 = .ok (.invokevirtual 300, 3) := by decide +kernel
theorem dX10_known_42 : decode cX10_known 42 = .ok (.aload_n 0, 1) := by decide +kernel
theorem dX10_known_43 : decode cX10_known 43 = .ok (.getfield 89, 3) := by decide +kernel
theorem dX10_known_46 : decode cX10_known 46 = .ok (.iload_n 1, 1) := by decide +kernel
theorem dX10_known_47 : decode cX10_known 47 = .ok (.iaload, 1) := by decide +kernel
theorem dX10_known_48 : decode cX10_known 48 = .ok (.aload_n 0, 1) := by decide +kernel
theorem dX10_known_49 : decode cX10_known 49 = .ok (.getfield 89, 3) := by decide +kernel
theorem dX10_known_52 : decode cX10_known 52 = .ok (.iload_n 2, 1) := by decide +kernel
theorem dX10_known_53 : decode cX10_known 53 = .ok (.iaload, 1) := by decide +kernel
theorem dX10_known_54 : decode cX10_known 54 = .ok (.if_icmp .ne 19, 3) := by decide +kernel
theorem dX10_known_57 : decode cX10_known 57 = .ok (.aload_n 0, 1) := by decide +kernel
theorem dX10_known_58 : decode cX10_known 58 = .ok (.getfield 86, 3) := by decide +kernel
theorem dX10_known_61 : decode cX10_known 61 = .ok (.iload_n 1, 1) := by decide +kernel
theorem dX10_known_62 : decode cX10_known 62 = .ok (.iaload, 1) := by decide +kernel
theorem dX10_known_63 : decode cX10_known 63 = .ok (.aload_n 0, 1) := by decide +kernel
theorem dX10_known_64 : decode cX10_known 64 = .ok (.getfield 86, 3) := by decide +kernel
theorem dX10_known_67 : decode cX10_known 67 = .ok (.iload_n 2, 1) := by decide +kernel
theorem dX10_known_68 : decode cX10_known 68 = .ok (.iaload, 1) := by decide +kernel
theorem dX10_known_69 : decode cX10_known 69 = .ok (.isub, 1) := by decide +kernel
theorem dX10_known_70 : decode cX10_known 70 = .ok (.goto 6, 3) := by decide +kernel
theorem dX10_known_73 : decode cX10_known 73 = .ok (.ldc_w 311, 3) := by decide +kernel
theorem dX10_known_76 : decode cX10_known 76 = .ok (.ireturn, 1) := by decide +kernel
theorem dX10_groupOf_0 : decode cX10_groupOf 0 = .ok (.iconst 0, 1) := by decide +kernel
theorem dX10_groupOf_1 : decode cX10_groupOf 1 = .ok (.istore_n 2, 1) := by decide +kernel
theorem dX10_groupOf_2 : decode cX10_groupOf 2 = .ok (.iconst 0, 1) := by decide +kernel
theorem dX10_groupOf_3 : decode cX10_groupOf 3 = .ok (.istore_n 3, 1) := by decide +kernel
theorem dX10_groupOf_4 : decode cX10_groupOf 4 = .ok (.iload_n 3, 1) := by decide +kernel
theorem dX10_groupOf_5 : decode cX10_groupOf 5 = .ok (.bipush 12, 2) := by decide +kernel
theorem dX10_groupOf_7 : decode cX10_groupOf 7 = .ok (.if_icmp .ge 30, 3) := by decide +kernel
theorem dX10_groupOf_10 : decode cX10_groupOf 10 = .ok (.aload_n 0, 1) := by decide +kernel
theorem dX10_groupOf_11 : decode cX10_groupOf 11 = .ok (.getfield 89, 3) := by decide +kernel
theorem dX10_groupOf_14 : decode cX10_groupOf 14 = .ok (.iload_n 3, 1) := by decide +kernel
theorem dX10_groupOf_15 : decode cX10_groupOf 15 = .ok (.iaload, 1) := by decide +kernel
theorem dX10_groupOf_16 : decode cX10_groupOf 16 = .ok (.aload_n 0, 1) := by decide +kernel
theorem dX10_groupOf_17 : decode cX10_groupOf 17 = .ok (.getfield 89, 3) := by decide +kernel
theorem dX10_groupOf_20 : decode cX10_groupOf 20 = .ok (.iload_n 1, 1) := by decide +kernel
theorem dX10_groupOf_21 : decode cX10_groupOf 21 = .ok (.iaload, 1) := by decide +kernel
theorem dX10_groupOf_22 : decode cX10_groupOf 22 = .ok (.if_icmp .ne 9, 3) := by decide +kernel
theorem dX10_groupOf_25 : decode cX10_groupOf 25 = .ok (.iload_n 2, 1) := by decide +kernel
theorem dX10_groupOf_26 : decode cX10_groupOf 26 = .ok (.iconst 1, 1) := by decide +kernel
theorem dX10_groupOf_27 : decode cX10_groupOf 27 = .ok (.iload_n 3, 1) := by decide +kernel
theorem dX10_groupOf_28 : decode cX10_groupOf 28 = .ok (.ishl, 1) := by decide +kernel
theorem dX10_groupOf_29 : decode cX10_groupOf 29 = .ok (.ior, 1) := by decide +kernel
theorem dX10_groupOf_30 : decode cX10_groupOf 30 = .ok (.istore_n 2, 1) := by decide +kernel
theorem dX10_groupOf_31 : decode cX10_groupOf 31 = .ok (.iinc 3 1, 3) := by decide +kernel
theorem dX10_groupOf_34 : decode cX10_groupOf 34 = .ok (.goto (-30), 3) := by decide +kernel
theorem dX10_groupOf_37 : decode cX10_groupOf 37 = .ok (.iload_n 2, 1) := by decide +kernel
theorem dX10_groupOf_38 : decode cX10_groupOf 38 = .ok (.ireturn, 1) := by decide +kernel
theorem dX10_groups_0 : decode cX10_groups 0 = .ok (.iload_n 1, 1) := by decide +kernel
theorem dX10_groups_1 : decode cX10_groups 1 = .ok (.bipush 100, 2) := by decide +kernel
theorem dX10_groups_3 : decode cX10_groups 3 = .ok (.if_icmp .eq 12, 3) := by decide +kernel
theorem dX10_groups_6 : decode cX10_groups 6 = .ok (.iload_n 1, 1) := by decide +kernel
theorem dX10_groups_7 : decode cX10_groups 7 = .ok (.invokestatic 281, 3) := by decide +kernel
theorem dX10_groups_10 : decode cX10_groups 10 = .ok (.ifCond .ne 5, 3) := by decide +kernel
theorem dX10_groups_13 : decode cX10_groups 13 = .ok (.iconst (-1), 1) := by decide +kernel
theorem dX10_groups_14 : decode cX10_groups 14 = .ok (.ireturn, 1) := by decide +kernel
theorem dX10_groups_15 : decode cX10_groups 15 = .ok (.aload_n 0, 1) := by decide +kernel
theorem dX10_groups_16 : decode cX10_groups 16 = .ok (.aload_n 0, 1) := by decide +kernel
theorem dX10_groups_17 : decode cX10_groups 17 = .ok (.getfield 19, 3) := by decide +kernel
theorem dX10_groups_20 : decode cX10_groups 20 = .ok (.aload_n 0, 1) := by decide +kernel
theorem dX10_groups_21 : decode cX10_groups 21 = .ok (.getfield 22, 3) := by decide +kernel
theorem dX10_groups_24 : decode cX10_groups 24 = .ok (.aload_n 0, 1) := by decide +kernel
theorem dX10_groups_25 : decode cX10_groups 25 = .ok (.getfield 25, 3) := by decide +kernel
theorem dX10_groups_28 : decode cX10_groups 28 = .ok (.aload_n 0, 1) := by decide +kernel
theorem dX10_groups_29 : decode cX10_groups 29 = .ok (.getfield 28, 3) := by decide +kernel
theorem dX10_groups_32 : decode cX10_groups 32 = .ok (.aload_n 0, 1) := by decide +kernel
theorem dX10_groups_33 : decode cX10_groups 33 = .ok (.getfield 307, 3) := by decide +kernel
theorem dX10_groups_36 : decode cX10_groups 36 = .ok (.invokevirtual 300, 3) := by decide +kernel
theorem dX10_groups_39 : decode cX10_groups 39 = .ok (.iload_n 1, 1) := by decide +kernel
theorem dX10_groups_40 : decode cX10_groups 40 = .ok (.bipush 100, 2) := by decide +kernel
theorem dX10_groups_42 : decode cX10_groups 42 = .ok (.if_icmp .eq 9, 3) := by decide +kernel
theorem dX10_groups_45 : decode cX10_groups 45 = .ok (.aload_n 0, 1) := by decide +kernel
theorem dX10_groups_46 : decode cX10_groups 46 = .ok (.iload_n 1, 1) := by decide +kernel
theorem dX10_groups_47 : decode cX10_groups 47 = .ok (.invokevirtual 312, 3) := by decide +kernel
theorem dX10_groups_50 : decode cX10_groups 50 = .ok (.ireturn, 1) := by decide +kernel
theorem dX10_groups_51 : decode cX10_groups 51 = .ok (.iconst 0, 1) := by decide +kernel
theorem dX10_groups_52 : decode cX10_groups 52 = .ok (.istore_n 2, 1) := by decide +kernel
theorem dX10_groups_53 : decode cX10_groups 53 = .ok (.iconst 0, 1) := by decide +kernel
theorem dX10_groups_54 : decode cX10_groups 54 = .ok (.istore_n 3, 1) := by decide +kernel
theorem dX10_groups_55 : decode cX10_groups 55 = .ok (.iload_n 3, 1) := by decide +kernel
theorem dX10_groups_56 : decode cX10_groups 56 = .ok (.bipush 12, 2) := by decide +kernel
theorem dX10_groups_58 : decode cX10_groups 58 = .ok (.if_icmp .ge 25, 3) := by decide +kernel
theorem dX10_groups_61 : decode cX10_groups 61 = .ok (.aload_n 0, 1) := by decide +kernel
theorem dX10_groups_62 : decode cX10_groups 62 = .ok (.iload_n 3, 1) := by decide +kernel
theorem dX10_groups_63 : decode cX10_groups 63 = .ok (.invokevirtual 312, 3) := by decide +kernel
theorem dX10_groups_66 : decode cX10_groups 66 = .ok (.invokestatic 315, 3) := by decide +kernel
theorem dX10_groups_69 : decode cX10_groups 69 = .ok (.iload_n 3, 1) := by decide +kernel
theorem dX10_groups_70 : decode cX10_groups 70 = .ok (.if_icmp .ne 7, 3) := by decide +kernel
theorem dX10_groups_73 : decode cX10_groups 73 = .ok (.iload_n 2, 1) := by decide +kernel
theorem dX10_groups_74 : decode cX10_groups 74 = .ok (.iconst 1, 1) := by decide +kernel
theorem dX10_groups_75 : decode cX10_groups 75 = .ok (.iadd, 1) := by decide +kernel
theorem dX10_groups_76 : decode cX10_groups 76 = .ok (.istore_n 2, 1) := by decide +kernel
theorem dX10_groups_77 : decode cX10_groups 77 = .ok (.iinc 3 1, 3) := by decide +kernel
theorem dX10_groups_80 : decode cX10_groups 80 = .ok (.goto (-25), 3) := by decide +kernel
theorem dX10_groups_83 : decode cX10_groups 83 = .ok (.iload_n 2, 1) := by decide +kernel
theorem dX10_groups_84 : decode cX10_groups 84 = .ok (.ireturn, 1) := by decide +kernel
theorem dX10_tells_0 : decode cX10_tells 0 = .ok (.aload_n 0, 1) := by decide +kernel
theorem dX10_tells_1 : decode cX10_tells 1 = .ok (.getfield 92, 3) := by decide +kernel
theorem dX10_tells_4 : decode cX10_tells 4 = .ok (.bipush 12, 2) := by decide +kernel
theorem dX10_tells_6 : decode cX10_tells 6 = .ok (.iload_n 1, 1) := by decide +kernel
theorem dX10_tells_7 : decode cX10_tells 7 = .ok (.imul, 1) := by decide +kernel
theorem dX10_tells_8 : decode cX10_tells 8 = .ok (.iload_n 2, 1) := by decide +kernel
theorem dX10_tells_9 : decode cX10_tells 9 = .ok (.iadd, 1) := by decide +kernel
theorem dX10_tells_10 : decode cX10_tells 10 = .ok (.aload_n 0, 1) := by decide +kernel
theorem dX10_tells_11 : decode cX10_tells 11 = .ok (.getfield 92, 3) := by decide +kernel
theorem dX10_tells_14 : decode cX10_tells 14 = .ok (.bipush 12, 2) := by decide +kernel
theorem dX10_tells_16 : decode cX10_tells 16 = .ok (.iload_n 1, 1) := by decide +kernel
theorem dX10_tells_17 : decode cX10_tells 17 = .ok (.imul, 1) := by decide +kernel
theorem dX10_tells_18 : decode cX10_tells 18 = .ok (.iload_n 2, 1) := by decide +kernel
theorem dX10_tells_19 : decode cX10_tells 19 = .ok (.iadd, 1) := by decide +kernel
theorem dX10_tells_20 : decode cX10_tells 20 = .ok (.iaload, 1) := by decide +kernel
theorem dX10_tells_21 : decode cX10_tells 21 = .ok (.iload_n 3, 1) := by decide +kernel
theorem dX10_tells_22 : decode cX10_tells 22 = .ok (.invokestatic 318, 3) := by decide +kernel
theorem dX10_tells_25 : decode cX10_tells 25 = .ok (.iastore, 1) := by decide +kernel
theorem dX10_tells_26 : decode cX10_tells 26 = .ok (.return_, 1) := by decide +kernel
theorem dX10_laysTold_0 : decode cX10_laysTold 0 = .ok (.iconst 0, 1) := by decide +kernel
theorem dX10_laysTold_1 : decode cX10_laysTold 1 = .ok (.istore_n 2, 1) := by decide +kernel
theorem dX10_laysTold_2 : decode cX10_laysTold 2 = .ok (.iload_n 2, 1) := by decide +kernel
theorem dX10_laysTold_3 : decode cX10_laysTold 3 = .ok (.sipush 144, 3) := by decide +kernel
theorem dX10_laysTold_6 : decode cX10_laysTold 6 = .ok (.if_icmp .ge 33, 3) := by decide +kernel
theorem dX10_laysTold_9 : decode cX10_laysTold 9 = .ok (.aload_n 0, 1) := by decide +kernel
theorem dX10_laysTold_10 : decode cX10_laysTold 10 = .ok (.getfield 92, 3) := by decide +kernel
theorem dX10_laysTold_13 : decode cX10_laysTold 13 = .ok (.iload_n 2, 1) := by decide +kernel
theorem dX10_laysTold_14 : decode cX10_laysTold 14 = .ok (.iload_n 2, 1) := by decide +kernel
theorem dX10_laysTold_15 : decode cX10_laysTold 15 = .ok (.bipush 12, 2) := by decide +kernel
theorem dX10_laysTold_17 : decode cX10_laysTold 17 = .ok (.idiv, 1) := by decide +kernel
theorem dX10_laysTold_18 : decode cX10_laysTold 18 = .ok (.iload_n 2, 1) := by decide +kernel
theorem dX10_laysTold_19 : decode cX10_laysTold 19 = .ok (.bipush 12, 2) := by decide +kernel
theorem dX10_laysTold_21 : decode cX10_laysTold 21 = .ok (.irem, 1) := by decide +kernel
theorem dX10_laysTold_22 : decode cX10_laysTold 22 = .ok (.if_icmp .ne 7, 3) := by decide +kernel
theorem dX10_laysTold_25 : decode cX10_laysTold 25 = .ok (.iconst 0, 1) := by decide +kernel
theorem dX10_laysTold_26 : decode cX10_laysTold 26 = .ok (.goto 6, 3) := by decide +kernel
theorem dX10_laysTold_29 : decode cX10_laysTold 29 = .ok (.ldc_w 321, 3) := by decide +kernel
theorem dX10_laysTold_32 : decode cX10_laysTold 32 = .ok (.iastore, 1) := by decide +kernel
theorem dX10_laysTold_33 : decode cX10_laysTold 33 = .ok (.iinc 2 1, 3) := by decide +kernel
theorem dX10_laysTold_36 : decode cX10_laysTold 36 = .ok (.goto (-34), 3) := by decide +kernel
theorem dX10_laysTold_39 : decode cX10_laysTold 39 = .ok (.iconst 0, 1) := by decide +kernel
theorem dX10_laysTold_40 : decode cX10_laysTold 40 = .ok (.istore_n 2, 1) := by decide +kernel
theorem dX10_laysTold_41 : decode cX10_laysTold 41 = .ok (.iload_n 2, 1) := by decide +kernel
theorem dX10_laysTold_42 : decode cX10_laysTold 42 = .ok (.aload_n 0, 1) := by decide +kernel
theorem dX10_laysTold_43 : decode cX10_laysTold 43 = .ok (.getfield 307, 3) := by decide +kernel
theorem dX10_laysTold_46 : decode cX10_laysTold 46 = .ok (.if_icmp .ge 82, 3) := by decide +kernel
theorem dX10_laysTold_49 : decode cX10_laysTold 49 = .ok (.iload_n 2, 1) := by decide +kernel
theorem dX10_laysTold_50 : decode cX10_laysTold 50 = .ok (.iload_n 1, 1) := by decide +kernel
theorem dX10_laysTold_51 : decode cX10_laysTold 51 = .ok (.if_icmp .ne 6, 3) := by decide +kernel
theorem dX10_laysTold_54 : decode cX10_laysTold 54 = .ok (.goto 68, 3) := by decide +kernel
theorem dX10_laysTold_57 : decode cX10_laysTold 57 = .ok (.aload_n 0, 1) := by decide +kernel
theorem dX10_laysTold_58 : decode cX10_laysTold 58 = .ok (.getfield 25, 3) := by decide +kernel
theorem dX10_laysTold_61 : decode cX10_laysTold 61 = .ok (.iload_n 2, 1) := by decide +kernel
theorem dX10_laysTold_62 : decode cX10_laysTold 62 = .ok (.iaload, 1) := by decide +kernel
theorem dX10_laysTold_63 : decode cX10_laysTold 63 = .ok (.iconst 2, 1) := by decide +kernel
theorem dX10_laysTold_64 : decode cX10_laysTold 64 = .ok (.if_icmp .eq 25, 3) := by decide +kernel
theorem dX10_laysTold_67 : decode cX10_laysTold 67 = .ok (.aload_n 0, 1) := by decide +kernel
theorem dX10_laysTold_68 : decode cX10_laysTold 68 = .ok (.aload_n 0, 1) := by decide +kernel
theorem dX10_laysTold_69 : decode cX10_laysTold 69 = .ok (.getfield 19, 3) := by decide +kernel
theorem dX10_laysTold_72 : decode cX10_laysTold 72 = .ok (.iload_n 2, 1) := by decide +kernel
theorem dX10_laysTold_73 : decode cX10_laysTold 73 = .ok (.iaload, 1) := by decide +kernel
theorem dX10_laysTold_74 : decode cX10_laysTold 74 = .ok (.aload_n 0, 1) := by decide +kernel
theorem dX10_laysTold_75 : decode cX10_laysTold 75 = .ok (.getfield 22, 3) := by decide +kernel
theorem dX10_laysTold_78 : decode cX10_laysTold 78 = .ok (.iload_n 2, 1) := by decide +kernel
theorem dX10_laysTold_79 : decode cX10_laysTold 79 = .ok (.iaload, 1) := by decide +kernel
theorem dX10_laysTold_80 : decode cX10_laysTold 80 = .ok (.aload_n 0, 1) := by decide +kernel
theorem dX10_laysTold_81 : decode cX10_laysTold 81 = .ok (.getfield 28, 3) := by decide +kernel
theorem dX10_laysTold_84 : decode cX10_laysTold 84 = .ok (.iload_n 2, 1) := by decide +kernel
theorem dX10_laysTold_85 : decode cX10_laysTold 85 = .ok (.iaload, 1) := by decide +kernel
theorem dX10_laysTold_86 : decode cX10_laysTold 86 = .ok (.invokevirtual 322, 3) := by decide +kernel
theorem dX10_laysTold_89 : decode cX10_laysTold 89 = .ok (.aload_n 0, 1) := by decide +kernel
theorem dX10_laysTold_90 : decode cX10_laysTold 90 = .ok (.getfield 25, 3) := by decide +kernel
theorem dX10_laysTold_93 : decode cX10_laysTold 93 = .ok (.iload_n 2, 1) := by decide +kernel
theorem dX10_laysTold_94 : decode cX10_laysTold 94 = .ok (.iaload, 1) := by decide +kernel
theorem dX10_laysTold_95 : decode cX10_laysTold 95 = .ok (.iconst 1, 1) := by decide +kernel
theorem dX10_laysTold_96 : decode cX10_laysTold 96 = .ok (.if_icmp .eq 26, 3) := by decide +kernel
theorem dX10_laysTold_99 : decode cX10_laysTold 99 = .ok (.aload_n 0, 1) := by decide +kernel
theorem dX10_laysTold_100 : decode cX10_laysTold 100 = .ok (.aload_n 0, 1) := by decide +kernel
theorem dX10_laysTold_101 : decode cX10_laysTold 101 = .ok (.getfield 22, 3) := by decide +kernel
theorem dX10_laysTold_104 : decode cX10_laysTold 104 = .ok (.iload_n 2, 1) := by decide +kernel
theorem dX10_laysTold_105 : decode cX10_laysTold 105 = .ok (.iaload, 1) := by decide +kernel
theorem dX10_laysTold_106 : decode cX10_laysTold 106 = .ok (.aload_n 0, 1) := by decide +kernel
theorem dX10_laysTold_107 : decode cX10_laysTold 107 = .ok (.getfield 19, 3) := by decide +kernel
theorem dX10_laysTold_110 : decode cX10_laysTold 110 = .ok (.iload_n 2, 1) := by decide +kernel
theorem dX10_laysTold_111 : decode cX10_laysTold 111 = .ok (.iaload, 1) := by decide +kernel
theorem dX10_laysTold_112 : decode cX10_laysTold 112 = .ok (.aload_n 0, 1) := by decide +kernel
theorem dX10_laysTold_113 : decode cX10_laysTold 113 = .ok (.getfield 28, 3) := by decide +kernel
theorem dX10_laysTold_116 : decode cX10_laysTold 116 = .ok (.iload_n 2, 1) := by decide +kernel
theorem dX10_laysTold_117 : decode cX10_laysTold 117 = .ok (.iaload, 1) := by decide +kernel
theorem dX10_laysTold_118 : decode cX10_laysTold 118 = .ok (.ineg, 1) := by decide +kernel
theorem dX10_laysTold_119 : decode cX10_laysTold 119 = .ok (.invokevirtual 322, 3) := by decide +kernel
theorem dX10_laysTold_122 : decode cX10_laysTold 122 = .ok (.iinc 2 1, 3) := by decide +kernel
theorem dX10_laysTold_125 : decode cX10_laysTold 125 = .ok (.goto (-84), 3) := by decide +kernel
theorem dX10_laysTold_128 : decode cX10_laysTold 128 = .ok (.return_, 1) := by decide +kernel
theorem dX10_laysMost_0 : decode cX10_laysMost 0 = .ok (.aload_n 0, 1) := by decide +kernel
theorem dX10_laysMost_1 : decode cX10_laysMost 1 = .ok (.iload_n 1, 1) := by decide +kernel
theorem dX10_laysMost_2 : decode cX10_laysMost 2 = .ok (.invokevirtual 325, 3) := by decide +kernel
theorem dX10_laysMost_5 : decode cX10_laysMost 5 = .ok (.iconst 0, 1) := by decide +kernel
theorem dX10_laysMost_6 : decode cX10_laysMost 6 = .ok (.istore_n 2, 1) := by decide +kernel
theorem dX10_laysMost_7 : decode cX10_laysMost 7 = .ok (.iload_n 2, 1) := by decide +kernel
theorem dX10_laysMost_8 : decode cX10_laysMost 8 = .ok (.sipush 144, 3) := by decide +kernel
theorem dX10_laysMost_11 : decode cX10_laysMost 11 = .ok (.if_icmp .ge 21, 3) := by decide +kernel
theorem dX10_laysMost_14 : decode cX10_laysMost 14 = .ok (.aload_n 0, 1) := by decide +kernel
theorem dX10_laysMost_15 : decode cX10_laysMost 15 = .ok (.getfield 95, 3) := by decide +kernel
theorem dX10_laysMost_18 : decode cX10_laysMost 18 = .ok (.iload_n 2, 1) := by decide +kernel
theorem dX10_laysMost_19 : decode cX10_laysMost 19 = .ok (.aload_n 0, 1) := by decide +kernel
theorem dX10_laysMost_20 : decode cX10_laysMost 20 = .ok (.getfield 92, 3) := by decide +kernel
theorem dX10_laysMost_23 : decode cX10_laysMost 23 = .ok (.iload_n 2, 1) := by decide +kernel
theorem dX10_laysMost_24 : decode cX10_laysMost 24 = .ok (.iaload, 1) := by decide +kernel
theorem dX10_laysMost_25 : decode cX10_laysMost 25 = .ok (.iastore, 1) := by decide +kernel
theorem dX10_laysMost_26 : decode cX10_laysMost 26 = .ok (.iinc 2 1, 3) := by decide +kernel
theorem dX10_laysMost_29 : decode cX10_laysMost 29 = .ok (.goto (-22), 3) := by decide +kernel
theorem dX10_laysMost_32 : decode cX10_laysMost 32 = .ok (.iconst 0, 1) := by decide +kernel
theorem dX10_laysMost_33 : decode cX10_laysMost 33 = .ok (.istore_n 2, 1) := by decide +kernel
theorem dX10_laysMost_34 : decode cX10_laysMost 34 = .ok (.iload_n 2, 1) := by decide +kernel
theorem dX10_laysMost_35 : decode cX10_laysMost 35 = .ok (.bipush 12, 2) := by decide +kernel
theorem dX10_laysMost_37 : decode cX10_laysMost 37 = .ok (.if_icmp .ge 98, 3) := by decide +kernel
theorem dX10_laysMost_40 : decode cX10_laysMost 40 = .ok (.iconst 0, 1) := by decide +kernel
theorem dX10_laysMost_41 : decode cX10_laysMost 41 = .ok (.istore_n 3, 1) := by decide +kernel
theorem dX10_laysMost_42 : decode cX10_laysMost 42 = .ok (.iload_n 3, 1) := by decide +kernel
theorem dX10_laysMost_43 : decode cX10_laysMost 43 = .ok (.sipush 144, 3) := by decide +kernel
theorem dX10_laysMost_46 : decode cX10_laysMost 46 = .ok (.if_icmp .ge 83, 3) := by decide +kernel
theorem dX10_laysMost_49 : decode cX10_laysMost 49 = .ok (.aload_n 0, 1) := by decide +kernel
theorem dX10_laysMost_50 : decode cX10_laysMost 50 = .ok (.getfield 95, 3) := by decide +kernel
theorem dX10_laysMost_53 : decode cX10_laysMost 53 = .ok (.iload_n 3, 1) := by decide +kernel
theorem dX10_laysMost_54 : decode cX10_laysMost 54 = .ok (.bipush 12, 2) := by decide +kernel
theorem dX10_laysMost_56 : decode cX10_laysMost 56 = .ok (.idiv, 1) := by decide +kernel
theorem dX10_laysMost_57 : decode cX10_laysMost 57 = .ok (.bipush 12, 2) := by decide +kernel
theorem dX10_laysMost_59 : decode cX10_laysMost 59 = .ok (.imul, 1) := by decide +kernel
theorem dX10_laysMost_60 : decode cX10_laysMost 60 = .ok (.iload_n 2, 1) := by decide +kernel
theorem dX10_laysMost_61 : decode cX10_laysMost 61 = .ok (.iadd, 1) := by decide +kernel
theorem dX10_laysMost_62 : decode cX10_laysMost 62 = .ok (.iaload, 1) := by decide +kernel
theorem dX10_laysMost_63 : decode cX10_laysMost 63 = .ok (.istore 4, 2) := by decide +kernel
theorem dX10_laysMost_65 : decode cX10_laysMost 65 = .ok (.aload_n 0, 1) := by decide +kernel
theorem dX10_laysMost_66 : decode cX10_laysMost 66 = .ok (.getfield 95, 3) := by decide +kernel
theorem dX10_laysMost_69 : decode cX10_laysMost 69 = .ok (.bipush 12, 2) := by decide +kernel
theorem dX10_laysMost_71 : decode cX10_laysMost 71 = .ok (.iload_n 2, 1) := by decide +kernel
theorem dX10_laysMost_72 : decode cX10_laysMost 72 = .ok (.imul, 1) := by decide +kernel
theorem dX10_laysMost_73 : decode cX10_laysMost 73 = .ok (.iload_n 3, 1) := by decide +kernel
theorem dX10_laysMost_74 : decode cX10_laysMost 74 = .ok (.bipush 12, 2) := by decide +kernel
theorem dX10_laysMost_76 : decode cX10_laysMost 76 = .ok (.irem, 1) := by decide +kernel
theorem dX10_laysMost_77 : decode cX10_laysMost 77 = .ok (.iadd, 1) := by decide +kernel
theorem dX10_laysMost_78 : decode cX10_laysMost 78 = .ok (.iaload, 1) := by decide +kernel
theorem dX10_laysMost_79 : decode cX10_laysMost 79 = .ok (.istore 5, 2) := by decide +kernel
theorem dX10_laysMost_81 : decode cX10_laysMost 81 = .ok (.iload 4, 2) := by decide +kernel
theorem dX10_laysMost_83 : decode cX10_laysMost 83 = .ok (.ldc_w 321, 3) := by decide +kernel
theorem dX10_laysMost_86 : decode cX10_laysMost 86 = .ok (.if_icmp .ge 37, 3) := by decide +kernel
theorem dX10_laysMost_89 : decode cX10_laysMost 89 = .ok (.iload 5, 2) := by decide +kernel
theorem dX10_laysMost_91 : decode cX10_laysMost 91 = .ok (.ldc_w 321, 3) := by decide +kernel
theorem dX10_laysMost_94 : decode cX10_laysMost 94 = .ok (.if_icmp .ge 29, 3) := by decide +kernel
theorem dX10_laysMost_97 : decode cX10_laysMost 97 = .ok (.aload_n 0, 1) := by decide +kernel
theorem dX10_laysMost_98 : decode cX10_laysMost 98 = .ok (.getfield 95, 3) := by decide +kernel
theorem dX10_laysMost_101 : decode cX10_laysMost 101 = .ok (.iload_n 3, 1) := by decide +kernel
theorem dX10_laysMost_102 : decode cX10_laysMost 102 = .ok (.ldc_w 311, 3) := by decide +kernel
theorem dX10_laysMost_105 : decode cX10_laysMost 105 = .ok (.aload_n 0, 1) := by decide +kernel
theorem dX10_laysMost_106 : decode cX10_laysMost 106 = .ok (.getfield 95, 3) := by decide +kernel
theorem dX10_laysMost_109 : decode cX10_laysMost 109 = .ok (.iload_n 3, 1) := by decide +kernel
theorem dX10_laysMost_110 : decode cX10_laysMost 110 = .ok (.iaload, 1) := by decide +kernel
theorem dX10_laysMost_111 : decode cX10_laysMost 111 = .ok (.iload 4, 2) := by decide +kernel
theorem dX10_laysMost_113 : decode cX10_laysMost 113 = .ok (.iload 5, 2) := by decide +kernel
theorem dX10_laysMost_115 : decode cX10_laysMost 115 = .ok (.iadd, 1) := by decide +kernel
theorem dX10_laysMost_116 : decode cX10_laysMost 116 = .ok (.invokestatic 318, 3) := by decide +kernel
theorem dX10_laysMost_119 : decode cX10_laysMost 119 = .ok (.invokestatic 328, 3) := by decide +kernel
theorem dX10_laysMost_122 : decode cX10_laysMost 122 = .ok (.iastore, 1) := by decide +kernel
theorem dX10_laysMost_123 : decode cX10_laysMost 123 = .ok (.iinc 3 1, 3) := by decide +kernel
theorem dX10_laysMost_126 : decode cX10_laysMost 126 = .ok (.goto (-84), 3) := by decide +kernel
theorem dX10_laysMost_129 : decode cX10_laysMost 129 = .ok (.iinc 2 1, 3) := by decide +kernel
theorem dX10_laysMost_132 : decode cX10_laysMost 132 = .ok (.goto (-98), 3) := by decide +kernel
theorem dX10_laysMost_135 : decode cX10_laysMost 135 = .ok (.return_, 1) := by decide +kernel
theorem dX10_canBeSo_0 : decode cX10_canBeSo 0 = .ok (.iconst 0, 1) := by decide +kernel
theorem dX10_canBeSo_1 : decode cX10_canBeSo 1 = .ok (.istore_n 1, 1) := by decide +kernel
theorem dX10_canBeSo_2 : decode cX10_canBeSo 2 = .ok (.iload_n 1, 1) := by decide +kernel
theorem dX10_canBeSo_3 : decode cX10_canBeSo 3 = .ok (.bipush 12, 2) := by decide +kernel
theorem dX10_canBeSo_5 : decode cX10_canBeSo 5 = .ok (.if_icmp .ge 25, 3) := by decide +kernel
theorem dX10_canBeSo_8 : decode cX10_canBeSo 8 = .ok (.aload_n 0, 1) := by decide +kernel
theorem dX10_canBeSo_9 : decode cX10_canBeSo 9 = .ok (.getfield 95, 3) := by decide +kernel
theorem dX10_canBeSo_12 : decode cX10_canBeSo 12 = .ok (.bipush 12, 2) := by decide +kernel
theorem dX10_canBeSo_14 : decode cX10_canBeSo 14 = .ok (.iload_n 1, 1) := by decide +kernel
theorem dX10_canBeSo_15 : decode cX10_canBeSo 15 = .ok (.imul, 1) := by decide +kernel
theorem dX10_canBeSo_16 : decode cX10_canBeSo 16 = .ok (.iload_n 1, 1) := by decide +kernel
theorem dX10_canBeSo_17 : decode cX10_canBeSo 17 = .ok (.iadd, 1) := by decide +kernel
theorem dX10_canBeSo_18 : decode cX10_canBeSo 18 = .ok (.iaload, 1) := by decide +kernel
theorem dX10_canBeSo_19 : decode cX10_canBeSo 19 = .ok (.ifCond .ge 5, 3) := by decide +kernel
theorem dX10_canBeSo_22 : decode cX10_canBeSo 22 = .ok (.iconst 0, 1) := by decide +kernel
theorem dX10_canBeSo_23 : decode cX10_canBeSo 23 = .ok (.ireturn, 1) := by decide +kernel
theorem dX10_canBeSo_24 : decode cX10_canBeSo 24 = .ok (.iinc 1 1, 3) := by decide +kernel
theorem dX10_canBeSo_27 : decode cX10_canBeSo 27 = .ok (.goto (-25), 3) := by decide +kernel
theorem dX10_canBeSo_30 : decode cX10_canBeSo 30 = .ok (.iconst 1, 1) := by decide +kernel
theorem dX10_canBeSo_31 : decode cX10_canBeSo 31 = .ok (.ireturn, 1) := by decide +kernel
theorem dX10_most_0 : decode cX10_most 0 = .ok (.aload_n 0, 1) := by decide +kernel
theorem dX10_most_1 : decode cX10_most 1 = .ok (.getfield 95, 3) := by decide +kernel
theorem dX10_most_4 : decode cX10_most 4 = .ok (.bipush 12, 2) := by decide +kernel
theorem dX10_most_6 : decode cX10_most 6 = .ok (.iload_n 1, 1) := by decide +kernel
theorem dX10_most_7 : decode cX10_most 7 = .ok (.imul, 1) := by decide +kernel
theorem dX10_most_8 : decode cX10_most 8 = .ok (.iload_n 2, 1) := by decide +kernel
theorem dX10_most_9 : decode cX10_most 9 = .ok (.iadd, 1) := by decide +kernel
theorem dX10_most_10 : decode cX10_most 10 = .ok (.iaload, 1) := by decide +kernel
theorem dX10_most_11 : decode cX10_most 11 = .ok (.ireturn, 1) := by decide +kernel
theorem dX10_bound_0 : decode cX10_bound 0 = .ok (.iload_n 1, 1) := by decide +kernel
theorem dX10_bound_1 : decode cX10_bound 1 = .ok (.invokestatic 281, 3) := by decide +kernel
theorem dX10_bound_4 : decode cX10_bound 4 = .ok (.ifCond .eq 10, 3) := by decide +kernel
theorem dX10_bound_7 : decode cX10_bound 7 = .ok (.iload_n 2, 1) := by decide +kernel
theorem dX10_bound_8 : decode cX10_bound 8 = .ok (.invokestatic 281, 3) := by decide +kernel
theorem dX10_bound_11 : decode cX10_bound 11 = .ok (.ifCond .ne 7, 3) := by decide +kernel
theorem dX10_bound_14 : decode cX10_bound 14 = .ok (.ldc_w 311, 3) := by decide +kernel
theorem dX10_bound_17 : decode cX10_bound 17 = .ok (.ireturn, 1) := by decide +kernel
theorem dX10_bound_18 : decode cX10_bound 18 = .ok (.aload_n 0, 1) := by decide +kernel
theorem dX10_bound_19 : decode cX10_bound 19 = .ok (.iconst (-1), 1) := by decide +kernel
theorem dX10_bound_20 : decode cX10_bound 20 = .ok (.invokevirtual 331, 3) := by decide +kernel
theorem dX10_bound_23 : decode cX10_bound 23 = .ok (.aload_n 0, 1) := by decide +kernel
theorem dX10_bound_24 : decode cX10_bound 24 = .ok (.invokevirtual 334, 3) := by decide +kernel
theorem dX10_bound_27 : decode cX10_bound 27 = .ok (.ifCond .eq 12, 3) := by decide +kernel
theorem dX10_bound_30 : decode cX10_bound 30 = .ok (.aload_n 0, 1) := by decide +kernel
theorem dX10_bound_31 : decode cX10_bound 31 = .ok (.iload_n 1, 1) := by decide +kernel
theorem dX10_bound_32 : decode cX10_bound 32 = .ok (.iload_n 2, 1) := by decide +kernel
theorem dX10_bound_33 : decode cX10_bound 33 = .ok (.invokevirtual 337, 3) := by decide +kernel
theorem dX10_bound_36 : decode cX10_bound 36 = .ok (.goto 6, 3) := by decide +kernel
theorem dX10_bound_39 : decode cX10_bound 39 = .ok (.ldc_w 311, 3) := by decide +kernel
theorem dX10_bound_42 : decode cX10_bound 42 = .ok (.ireturn, 1) := by decide +kernel
theorem dX10_told_0 : decode cX10_told 0 = .ok (.aload_n 0, 1) := by decide +kernel
theorem dX10_told_1 : decode cX10_told 1 = .ok (.getfield 92, 3) := by decide +kernel
theorem dX10_told_4 : decode cX10_told 4 = .ok (.bipush 12, 2) := by decide +kernel
theorem dX10_told_6 : decode cX10_told 6 = .ok (.iload_n 1, 1) := by decide +kernel
theorem dX10_told_7 : decode cX10_told 7 = .ok (.imul, 1) := by decide +kernel
theorem dX10_told_8 : decode cX10_told 8 = .ok (.iload_n 2, 1) := by decide +kernel
theorem dX10_told_9 : decode cX10_told 9 = .ok (.iadd, 1) := by decide +kernel
theorem dX10_told_10 : decode cX10_told 10 = .ok (.iaload, 1) := by decide +kernel
theorem dX10_told_11 : decode cX10_told 11 = .ok (.ireturn, 1) := by decide +kernel
theorem dX10_laysRings_0 : decode cX10_laysRings 0 = .ok (.iconst 1, 1) := by decide +kernel
theorem dX10_laysRings_1 : decode cX10_laysRings 1 = .ok (.istore_n 1, 1) := by decide +kernel
theorem dX10_laysRings_2 : decode cX10_laysRings 2 = .ok (.iload_n 1, 1) := by decide +kernel
theorem dX10_laysRings_3 : decode cX10_laysRings 3 = .ok (.sipush 4096, 3) := by decide +kernel
theorem dX10_laysRings_6 : decode cX10_laysRings 6 = .ok (.if_icmp .ge 54, 3) := by decide +kernel
theorem dX10_laysRings_9 : decode cX10_laysRings 9 = .ok (.iconst 0, 1) := by decide +kernel
theorem dX10_laysRings_10 : decode cX10_laysRings 10 = .ok (.istore_n 2, 1) := by decide +kernel
theorem dX10_laysRings_11 : decode cX10_laysRings 11 = .ok (.iload_n 2, 1) := by decide +kernel
theorem dX10_laysRings_12 : decode cX10_laysRings 12 = .ok (.bipush 12, 2) := by decide +kernel
theorem dX10_laysRings_14 : decode cX10_laysRings 14 = .ok (.if_icmp .ge 40, 3) := by decide +kernel
theorem dX10_laysRings_17 : decode cX10_laysRings 17 = .ok (.aload_n 0, 1) := by decide +kernel
theorem dX10_laysRings_18 : decode cX10_laysRings 18 = .ok (.getfield 102, 3) := by decide +kernel
theorem dX10_laysRings_21 : decode cX10_laysRings 21 = .ok (.bipush 12, 2) := by decide +kernel
theorem dX10_laysRings_23 : decode cX10_laysRings 23 = .ok (.iload_n 1, 1) := by decide +kernel
theorem dX10_laysRings_24 : decode cX10_laysRings 24 = .ok (.imul, 1) := by decide +kernel
theorem dX10_laysRings_25 : decode cX10_laysRings 25 = .ok (.iload_n 2, 1) := by decide +kernel
theorem dX10_laysRings_26 : decode cX10_laysRings 26 = .ok (.iadd, 1) := by decide +kernel
theorem dX10_laysRings_27 : decode cX10_laysRings 27 = .ok (.iload_n 1, 1) := by decide +kernel
theorem dX10_laysRings_28 : decode cX10_laysRings 28 = .ok (.iload_n 2, 1) := by decide +kernel
theorem dX10_laysRings_29 : decode cX10_laysRings 29 = .ok (.invokestatic 157, 3) := by decide +kernel
theorem dX10_laysRings_32 : decode cX10_laysRings 32 = .ok (.ifCond .eq 12, 3) := by decide +kernel
theorem dX10_laysRings_35 : decode cX10_laysRings 35 = .ok (.aload_n 0, 1) := by decide +kernel
theorem dX10_laysRings_36 : decode cX10_laysRings 36 = .ok (.iload_n 1, 1) := by decide +kernel
theorem dX10_laysRings_37 : decode cX10_laysRings 37 = .ok (.iload_n 2, 1) := by decide +kernel
theorem dX10_laysRings_38 : decode cX10_laysRings 38 = .ok (.invokevirtual 340, 3) := by decide +kernel
theorem dX10_laysRings_41 : decode cX10_laysRings 41 = .ok (.goto 6, 3) := by decide +kernel
theorem dX10_laysRings_44 : decode cX10_laysRings 44 = .ok (.ldc_w 321, 3) := by decide +kernel
theorem dX10_laysRings_47 : decode cX10_laysRings 47 = .ok (.iastore, 1) := by decide +kernel
theorem dX10_laysRings_48 : decode cX10_laysRings 48 = .ok (.iinc 2 1, 3) := by decide +kernel
theorem dX10_laysRings_51 : decode cX10_laysRings 51 = .ok (.goto (-40), 3) := by decide +kernel
theorem dX10_laysRings_54 : decode cX10_laysRings 54 = .ok (.iinc 1 1, 3) := by decide +kernel
theorem dX10_laysRings_57 : decode cX10_laysRings 57 = .ok (.goto (-55), 3) := by decide +kernel
theorem dX10_laysRings_60 : decode cX10_laysRings 60 = .ok (.return_, 1) := by decide +kernel
theorem dX10_sumBy_0 : decode cX10_sumBy 0 = .ok (.iload_n 1, 1) := by decide +kernel
theorem dX10_sumBy_1 : decode cX10_sumBy 1 = .ok (.iconst 1, 1) := by decide +kernel
theorem dX10_sumBy_2 : decode cX10_sumBy 2 = .ok (.iload_n 2, 1) := by decide +kernel
theorem dX10_sumBy_3 : decode cX10_sumBy 3 = .ok (.ishl, 1) := by decide +kernel
theorem dX10_sumBy_4 : decode cX10_sumBy 4 = .ok (.iconst (-1), 1) := by decide +kernel
theorem dX10_sumBy_5 : decode cX10_sumBy 5 = .ok (.ixor, 1) := by decide +kernel
theorem dX10_sumBy_6 : decode cX10_sumBy 6 = .ok (.iand, 1) := by decide +kernel
theorem dX10_sumBy_7 : decode cX10_sumBy 7 = .ok (.istore_n 3, 1) := by decide +kernel
theorem dX10_sumBy_8 : decode cX10_sumBy 8 = .ok (.iload_n 3, 1) := by decide +kernel
theorem dX10_sumBy_9 : decode cX10_sumBy 9 = .ok (.ifCond .ne 5, 3) := by decide +kernel
theorem dX10_sumBy_12 : decode cX10_sumBy 12 = .ok (.iconst 0, 1) := by decide +kernel
theorem dX10_sumBy_13 : decode cX10_sumBy 13 = .ok (.ireturn, 1) := by decide +kernel
theorem dX10_sumBy_14 : decode cX10_sumBy 14 = .ok (.iload_n 2, 1) := by decide +kernel
theorem dX10_sumBy_15 : decode cX10_sumBy 15 = .ok (.iload_n 1, 1) := by decide +kernel
theorem dX10_sumBy_16 : decode cX10_sumBy 16 = .ok (.invokestatic 315, 3) := by decide +kernel
theorem dX10_sumBy_19 : decode cX10_sumBy 19 = .ok (.if_icmp .ne 7, 3) := by decide +kernel
theorem dX10_sumBy_22 : decode cX10_sumBy 22 = .ok (.ldc_w 321, 3) := by decide +kernel
theorem dX10_sumBy_25 : decode cX10_sumBy 25 = .ok (.ireturn, 1) := by decide +kernel
theorem dX10_sumBy_26 : decode cX10_sumBy 26 = .ok (.ldc_w 321, 3) := by decide +kernel
theorem dX10_sumBy_29 : decode cX10_sumBy 29 = .ok (.istore 4, 2) := by decide +kernel
theorem dX10_sumBy_31 : decode cX10_sumBy 31 = .ok (.iconst 0, 1) := by decide +kernel
theorem dX10_sumBy_32 : decode cX10_sumBy 32 = .ok (.istore 5, 2) := by decide +kernel
theorem dX10_sumBy_34 : decode cX10_sumBy 34 = .ok (.iload 5, 2) := by decide +kernel
theorem dX10_sumBy_36 : decode cX10_sumBy 36 = .ok (.bipush 12, 2) := by decide +kernel
theorem dX10_sumBy_38 : decode cX10_sumBy 38 = .ok (.if_icmp .ge 76, 3) := by decide +kernel
theorem dX10_sumBy_41 : decode cX10_sumBy 41 = .ok (.iload_n 3, 1) := by decide +kernel
theorem dX10_sumBy_42 : decode cX10_sumBy 42 = .ok (.iload 5, 2) := by decide +kernel
theorem dX10_sumBy_44 : decode cX10_sumBy 44 = .ok (.invokestatic 157, 3) := by decide +kernel
theorem dX10_sumBy_47 : decode cX10_sumBy 47 = .ok (.ifCond .eq 61, 3) := by decide +kernel
theorem dX10_sumBy_50 : decode cX10_sumBy 50 = .ok (.aload_n 0, 1) := by decide +kernel
theorem dX10_sumBy_51 : decode cX10_sumBy 51 = .ok (.getfield 102, 3) := by decide +kernel
theorem dX10_sumBy_54 : decode cX10_sumBy 54 = .ok (.bipush 12, 2) := by decide +kernel
theorem dX10_sumBy_56 : decode cX10_sumBy 56 = .ok (.iload_n 3, 1) := by decide +kernel
theorem dX10_sumBy_57 : decode cX10_sumBy 57 = .ok (.imul, 1) := by decide +kernel
theorem dX10_sumBy_58 : decode cX10_sumBy 58 = .ok (.iload 5, 2) := by decide +kernel
theorem dX10_sumBy_60 : decode cX10_sumBy 60 = .ok (.iadd, 1) := by decide +kernel
theorem dX10_sumBy_61 : decode cX10_sumBy 61 = .ok (.iaload, 1) := by decide +kernel
theorem dX10_sumBy_62 : decode cX10_sumBy 62 = .ok (.ldc_w 321, 3) := by decide +kernel
theorem dX10_sumBy_65 : decode cX10_sumBy 65 = .ok (.if_icmp .ge 43, 3) := by decide +kernel
theorem dX10_sumBy_68 : decode cX10_sumBy 68 = .ok (.aload_n 0, 1) := by decide +kernel
theorem dX10_sumBy_69 : decode cX10_sumBy 69 = .ok (.iload 5, 2) := by decide +kernel
theorem dX10_sumBy_71 : decode cX10_sumBy 71 = .ok (.iload_n 2, 1) := by decide +kernel
theorem dX10_sumBy_72 : decode cX10_sumBy 72 = .ok (.invokevirtual 343, 3) := by decide +kernel
theorem dX10_sumBy_75 : decode cX10_sumBy 75 = .ok (.ldc_w 321, 3) := by decide +kernel
theorem dX10_sumBy_78 : decode cX10_sumBy 78 = .ok (.if_icmp .ge 30, 3) := by decide +kernel
theorem dX10_sumBy_81 : decode cX10_sumBy 81 = .ok (.iload 4, 2) := by decide +kernel
theorem dX10_sumBy_83 : decode cX10_sumBy 83 = .ok (.aload_n 0, 1) := by decide +kernel
theorem dX10_sumBy_84 : decode cX10_sumBy 84 = .ok (.getfield 102, 3) := by decide +kernel
theorem dX10_sumBy_87 : decode cX10_sumBy 87 = .ok (.bipush 12, 2) := by decide +kernel
theorem dX10_sumBy_89 : decode cX10_sumBy 89 = .ok (.iload_n 3, 1) := by decide +kernel
theorem dX10_sumBy_90 : decode cX10_sumBy 90 = .ok (.imul, 1) := by decide +kernel
theorem dX10_sumBy_91 : decode cX10_sumBy 91 = .ok (.iload 5, 2) := by decide +kernel
theorem dX10_sumBy_93 : decode cX10_sumBy 93 = .ok (.iadd, 1) := by decide +kernel
theorem dX10_sumBy_94 : decode cX10_sumBy 94 = .ok (.iaload, 1) := by decide +kernel
theorem dX10_sumBy_95 : decode cX10_sumBy 95 = .ok (.aload_n 0, 1) := by decide +kernel
theorem dX10_sumBy_96 : decode cX10_sumBy 96 = .ok (.iload 5, 2) := by decide +kernel
theorem dX10_sumBy_98 : decode cX10_sumBy 98 = .ok (.iload_n 2, 1) := by decide +kernel
theorem dX10_sumBy_99 : decode cX10_sumBy 99 = .ok (.invokevirtual 343, 3) := by decide +kernel
theorem dX10_sumBy_102 : decode cX10_sumBy 102 = .ok (.iadd, 1) := by decide +kernel
theorem dX10_sumBy_103 : decode cX10_sumBy 103 = .ok (.invokestatic 318, 3) := by decide +kernel
theorem dX10_sumBy_106 : decode cX10_sumBy 106 = .ok (.istore 4, 2) := by decide +kernel
theorem dX10_sumBy_108 : decode cX10_sumBy 108 = .ok (.iinc 5 1, 3) := by decide +kernel
theorem dX10_sumBy_111 : decode cX10_sumBy 111 = .ok (.goto (-77), 3) := by decide +kernel
theorem dX10_sumBy_114 : decode cX10_sumBy 114 = .ok (.iload 4, 2) := by decide +kernel
theorem dX10_sumBy_116 : decode cX10_sumBy 116 = .ok (.ireturn, 1) := by decide +kernel
theorem dX10_isRing_0 : decode cX10_isRing 0 = .ok (.iload_n 1, 1) := by decide +kernel
theorem dX10_isRing_1 : decode cX10_isRing 1 = .ok (.invokestatic 315, 3) := by decide +kernel
theorem dX10_isRing_4 : decode cX10_isRing 4 = .ok (.istore_n 2, 1) := by decide +kernel
theorem dX10_isRing_5 : decode cX10_isRing 5 = .ok (.iconst 0, 1) := by decide +kernel
theorem dX10_isRing_6 : decode cX10_isRing 6 = .ok (.istore_n 3, 1) := by decide +kernel
theorem dX10_isRing_7 : decode cX10_isRing 7 = .ok (.iload_n 3, 1) := by decide +kernel
theorem dX10_isRing_8 : decode cX10_isRing 8 = .ok (.bipush 12, 2) := by decide +kernel
theorem dX10_isRing_10 : decode cX10_isRing 10 = .ok (.if_icmp .ge 66, 3) := by decide +kernel
theorem dX10_isRing_13 : decode cX10_isRing 13 = .ok (.iload_n 3, 1) := by decide +kernel
theorem dX10_isRing_14 : decode cX10_isRing 14 = .ok (.iload_n 2, 1) := by decide +kernel
theorem dX10_isRing_15 : decode cX10_isRing 15 = .ok (.if_icmp .eq 55, 3) := by decide +kernel
theorem dX10_isRing_18 : decode cX10_isRing 18 = .ok (.aload_n 0, 1) := by decide +kernel
theorem dX10_isRing_19 : decode cX10_isRing 19 = .ok (.getfield 102, 3) := by decide +kernel
theorem dX10_isRing_22 : decode cX10_isRing 22 = .ok (.bipush 12, 2) := by decide +kernel
theorem dX10_isRing_24 : decode cX10_isRing 24 = .ok (.iload_n 1, 1) := by decide +kernel
theorem dX10_isRing_25 : decode cX10_isRing 25 = .ok (.imul, 1) := by decide +kernel
theorem dX10_isRing_26 : decode cX10_isRing 26 = .ok (.iload_n 3, 1) := by decide +kernel
theorem dX10_isRing_27 : decode cX10_isRing 27 = .ok (.iadd, 1) := by decide +kernel
theorem dX10_isRing_28 : decode cX10_isRing 28 = .ok (.iaload, 1) := by decide +kernel
theorem dX10_isRing_29 : decode cX10_isRing 29 = .ok (.ldc_w 321, 3) := by decide +kernel
theorem dX10_isRing_32 : decode cX10_isRing 32 = .ok (.if_icmp .ge 38, 3) := by decide +kernel
theorem dX10_isRing_35 : decode cX10_isRing 35 = .ok (.aload_n 0, 1) := by decide +kernel
theorem dX10_isRing_36 : decode cX10_isRing 36 = .ok (.iload_n 3, 1) := by decide +kernel
theorem dX10_isRing_37 : decode cX10_isRing 37 = .ok (.iload_n 2, 1) := by decide +kernel
theorem dX10_isRing_38 : decode cX10_isRing 38 = .ok (.invokevirtual 343, 3) := by decide +kernel
theorem dX10_isRing_41 : decode cX10_isRing 41 = .ok (.ldc_w 321, 3) := by decide +kernel
theorem dX10_isRing_44 : decode cX10_isRing 44 = .ok (.if_icmp .ge 26, 3) := by decide +kernel
theorem dX10_isRing_47 : decode cX10_isRing 47 = .ok (.aload_n 0, 1) := by decide +kernel
theorem dX10_isRing_48 : decode cX10_isRing 48 = .ok (.getfield 102, 3) := by decide +kernel
theorem dX10_isRing_51 : decode cX10_isRing 51 = .ok (.bipush 12, 2) := by decide +kernel
theorem dX10_isRing_53 : decode cX10_isRing 53 = .ok (.iload_n 1, 1) := by decide +kernel
theorem dX10_isRing_54 : decode cX10_isRing 54 = .ok (.imul, 1) := by decide +kernel
theorem dX10_isRing_55 : decode cX10_isRing 55 = .ok (.iload_n 3, 1) := by decide +kernel
theorem dX10_isRing_56 : decode cX10_isRing 56 = .ok (.iadd, 1) := by decide +kernel
theorem dX10_isRing_57 : decode cX10_isRing 57 = .ok (.iaload, 1) := by decide +kernel
theorem dX10_isRing_58 : decode cX10_isRing 58 = .ok (.aload_n 0, 1) := by decide +kernel
theorem dX10_isRing_59 : decode cX10_isRing 59 = .ok (.iload_n 3, 1) := by decide +kernel
theorem dX10_isRing_60 : decode cX10_isRing 60 = .ok (.iload_n 2, 1) := by decide +kernel
theorem dX10_isRing_61 : decode cX10_isRing 61 = .ok (.invokevirtual 343, 3) := by decide +kernel
theorem dX10_isRing_64 : decode cX10_isRing 64 = .ok (.iadd, 1) := by decide +kernel
theorem dX10_isRing_65 : decode cX10_isRing 65 = .ok (.ifCond .ge 5, 3) := by decide +kernel
theorem dX10_isRing_68 : decode cX10_isRing 68 = .ok (.iconst 1, 1) := by decide +kernel
theorem dX10_isRing_69 : decode cX10_isRing 69 = .ok (.ireturn, 1) := by decide +kernel
theorem dX10_isRing_70 : decode cX10_isRing 70 = .ok (.iinc 3 1, 3) := by decide +kernel
theorem dX10_isRing_73 : decode cX10_isRing 73 = .ok (.goto (-66), 3) := by decide +kernel
theorem dX10_isRing_76 : decode cX10_isRing 76 = .ok (.iconst 0, 1) := by decide +kernel
theorem dX10_isRing_77 : decode cX10_isRing 77 = .ok (.ireturn, 1) := by decide +kernel
theorem dX10_leastRing_0 : decode cX10_leastRing 0 = .ok (.sipush 4095, 3) := by decide +kernel
theorem dX10_leastRing_3 : decode cX10_leastRing 3 = .ok (.istore_n 1, 1) := by decide +kernel
theorem dX10_leastRing_4 : decode cX10_leastRing 4 = .ok (.aload_n 0, 1) := by decide +kernel
theorem dX10_leastRing_5 : decode cX10_leastRing 5 = .ok (.iconst (-1), 1) := by decide +kernel
theorem dX10_leastRing_6 : decode cX10_leastRing 6 = .ok (.invokevirtual 325, 3) := by decide +kernel
theorem dX10_leastRing_9 : decode cX10_leastRing 9 = .ok (.aload_n 0, 1) := by decide +kernel
theorem dX10_leastRing_10 : decode cX10_leastRing 10 = .ok (.invokevirtual 346, 3) := by decide +kernel
theorem dX10_leastRing_13 : decode cX10_leastRing 13 = .ok (.sipush 4095, 3) := by decide +kernel
theorem dX10_leastRing_16 : decode cX10_leastRing 16 = .ok (.istore_n 2, 1) := by decide +kernel
theorem dX10_leastRing_17 : decode cX10_leastRing 17 = .ok (.iload_n 2, 1) := by decide +kernel
theorem dX10_leastRing_18 : decode cX10_leastRing 18 = .ok (.ifCond .le 38, 3) := by decide +kernel
theorem dX10_leastRing_21 : decode cX10_leastRing 21 = .ok (.iload_n 2, 1) := by decide +kernel
theorem dX10_leastRing_22 : decode cX10_leastRing 22 = .ok (.invokestatic 349, 3) := by decide +kernel
theorem dX10_leastRing_25 : decode cX10_leastRing 25 = .ok (.iload_n 1, 1) := by decide +kernel
theorem dX10_leastRing_26 : decode cX10_leastRing 26 = .ok (.invokestatic 349, 3) := by decide +kernel
theorem dX10_leastRing_29 : decode cX10_leastRing 29 = .ok (.if_icmp .gt 21, 3) := by decide +kernel
theorem dX10_leastRing_32 : decode cX10_leastRing 32 = .ok (.iload_n 2, 1) := by decide +kernel
theorem dX10_leastRing_33 : decode cX10_leastRing 33 = .ok (.invokestatic 349, 3) := by decide +kernel
theorem dX10_leastRing_36 : decode cX10_leastRing 36 = .ok (.iconst 1, 1) := by decide +kernel
theorem dX10_leastRing_37 : decode cX10_leastRing 37 = .ok (.if_icmp .le 13, 3) := by decide +kernel
theorem dX10_leastRing_40 : decode cX10_leastRing 40 = .ok (.aload_n 0, 1) := by decide +kernel
theorem dX10_leastRing_41 : decode cX10_leastRing 41 = .ok (.iload_n 2, 1) := by decide +kernel
theorem dX10_leastRing_42 : decode cX10_leastRing 42 = .ok (.invokevirtual 352, 3) := by decide +kernel
theorem dX10_leastRing_45 : decode cX10_leastRing 45 = .ok (.ifCond .eq 5, 3) := by decide +kernel
theorem dX10_leastRing_48 : decode cX10_leastRing 48 = .ok (.iload_n 2, 1) := by decide +kernel
theorem dX10_leastRing_49 : decode cX10_leastRing 49 = .ok (.istore_n 1, 1) := by decide +kernel
theorem dX10_leastRing_50 : decode cX10_leastRing 50 = .ok (.iinc 2 (-1), 3) := by decide +kernel
theorem dX10_leastRing_53 : decode cX10_leastRing 53 = .ok (.goto (-36), 3) := by decide +kernel
theorem dX10_leastRing_56 : decode cX10_leastRing 56 = .ok (.iload_n 1, 1) := by decide +kernel
theorem dX10_leastRing_57 : decode cX10_leastRing 57 = .ok (.ireturn, 1) := by decide +kernel
theorem dX10_canBe_0 : decode cX10_canBe 0 = .ok (.iload_n 1, 1) := by decide +kernel
theorem dX10_canBe_1 : decode cX10_canBe 1 = .ok (.iconst 0, 1) := by decide +kernel
theorem dX10_canBe_2 : decode cX10_canBe 2 = .ok (.iconst 2, 1) := by decide +kernel
theorem dX10_canBe_3 : decode cX10_canBe 3 = .ok (.invokestatic 161, 3) := by decide +kernel
theorem dX10_canBe_6 : decode cX10_canBe 6 = .ok (.ifCond .ne 5, 3) := by decide +kernel
theorem dX10_canBe_9 : decode cX10_canBe 9 = .ok (.iconst (-1), 1) := by decide +kernel
theorem dX10_canBe_10 : decode cX10_canBe 10 = .ok (.ireturn, 1) := by decide +kernel
theorem dX10_canBe_11 : decode cX10_canBe 11 = .ok (.aload_n 0, 1) := by decide +kernel
theorem dX10_canBe_12 : decode cX10_canBe 12 = .ok (.iconst (-1), 1) := by decide +kernel
theorem dX10_canBe_13 : decode cX10_canBe 13 = .ok (.invokevirtual 331, 3) := by decide +kernel
theorem dX10_canBe_16 : decode cX10_canBe 16 = .ok (.aload_n 0, 1) := by decide +kernel
theorem dX10_canBe_17 : decode cX10_canBe 17 = .ok (.invokevirtual 334, 3) := by decide +kernel
theorem dX10_canBe_20 : decode cX10_canBe 20 = .ok (.istore_n 2, 1) := by decide +kernel
theorem dX10_canBe_21 : decode cX10_canBe 21 = .ok (.iload_n 1, 1) := by decide +kernel
theorem dX10_canBe_22 : decode cX10_canBe 22 = .ok (.ifCond .ne 13, 3) := by decide +kernel
theorem dX10_canBe_25 : decode cX10_canBe 25 = .ok (.iload_n 2, 1) := by decide +kernel
theorem dX10_canBe_26 : decode cX10_canBe 26 = .ok (.ifCond .eq 7, 3) := by decide +kernel
theorem dX10_canBe_29 : decode cX10_canBe 29 = .ok (.iconst 1, 1) := by decide +kernel
theorem dX10_canBe_30 : decode cX10_canBe 30 = .ok (.goto 4, 3) := by decide +kernel
theorem dX10_canBe_33 : decode cX10_canBe 33 = .ok (.iconst 0, 1) := by decide +kernel
theorem dX10_canBe_34 : decode cX10_canBe 34 = .ok (.ireturn, 1) := by decide +kernel
theorem dX10_canBe_35 : decode cX10_canBe 35 = .ok (.iload_n 2, 1) := by decide +kernel
theorem dX10_canBe_36 : decode cX10_canBe 36 = .ok (.ifCond .eq 6, 3) := by decide +kernel
theorem dX10_canBe_39 : decode cX10_canBe 39 = .ok (.bipush (-2), 2) := by decide +kernel
theorem dX10_canBe_41 : decode cX10_canBe 41 = .ok (.ireturn, 1) := by decide +kernel
theorem dX10_canBe_42 : decode cX10_canBe 42 = .ok (.aload_n 0, 1) := by decide +kernel
theorem dX10_canBe_43 : decode cX10_canBe 43 = .ok (.invokevirtual 355, 3) := by decide +kernel
theorem dX10_canBe_46 : decode cX10_canBe 46 = .ok (.istore_n 3, 1) := by decide +kernel
theorem dX10_canBe_47 : decode cX10_canBe 47 = .ok (.iload_n 1, 1) := by decide +kernel
theorem dX10_canBe_48 : decode cX10_canBe 48 = .ok (.iconst 1, 1) := by decide +kernel
theorem dX10_canBe_49 : decode cX10_canBe 49 = .ok (.if_icmp .ne 10, 3) := by decide +kernel
theorem dX10_canBe_52 : decode cX10_canBe 52 = .ok (.iload_n 3, 1) := by decide +kernel
theorem dX10_canBe_53 : decode cX10_canBe 53 = .ok (.invokestatic 349, 3) := by decide +kernel
theorem dX10_canBe_56 : decode cX10_canBe 56 = .ok (.goto 4, 3) := by decide +kernel
theorem dX10_canBe_59 : decode cX10_canBe 59 = .ok (.iload_n 3, 1) := by decide +kernel
theorem dX10_canBe_60 : decode cX10_canBe 60 = .ok (.ireturn, 1) := by decide +kernel
theorem dX10_isIdle_0 : decode cX10_isIdle 0 = .ok (.iconst 0, 1) := by decide +kernel
theorem dX10_isIdle_1 : decode cX10_isIdle 1 = .ok (.istore_n 2, 1) := by decide +kernel
theorem dX10_isIdle_2 : decode cX10_isIdle 2 = .ok (.iload_n 2, 1) := by decide +kernel
theorem dX10_isIdle_3 : decode cX10_isIdle 3 = .ok (.sipush 144, 3) := by decide +kernel
theorem dX10_isIdle_6 : decode cX10_isIdle 6 = .ok (.if_icmp .ge 21, 3) := by decide +kernel
theorem dX10_isIdle_9 : decode cX10_isIdle 9 = .ok (.aload_n 0, 1) := by decide +kernel
theorem dX10_isIdle_10 : decode cX10_isIdle 10 = .ok (.getfield 98, 3) := by decide +kernel
theorem dX10_isIdle_13 : decode cX10_isIdle 13 = .ok (.iload_n 2, 1) := by decide +kernel
theorem dX10_isIdle_14 : decode cX10_isIdle 14 = .ok (.aload_n 0, 1) := by decide +kernel
theorem dX10_isIdle_15 : decode cX10_isIdle 15 = .ok (.getfield 95, 3) := by decide +kernel
theorem dX10_isIdle_18 : decode cX10_isIdle 18 = .ok (.iload_n 2, 1) := by decide +kernel
theorem dX10_isIdle_19 : decode cX10_isIdle 19 = .ok (.iaload, 1) := by decide +kernel
theorem dX10_isIdle_20 : decode cX10_isIdle 20 = .ok (.iastore, 1) := by decide +kernel
theorem dX10_isIdle_21 : decode cX10_isIdle 21 = .ok (.iinc 2 1, 3) := by decide +kernel
theorem dX10_isIdle_24 : decode cX10_isIdle 24 = .ok (.goto (-22), 3) := by decide +kernel
theorem dX10_isIdle_27 : decode cX10_isIdle 27 = .ok (.aload_n 0, 1) := by decide +kernel
theorem dX10_isIdle_28 : decode cX10_isIdle 28 = .ok (.iload_n 1, 1) := by decide +kernel
theorem dX10_isIdle_29 : decode cX10_isIdle 29 = .ok (.invokevirtual 331, 3) := by decide +kernel
theorem dX10_isIdle_32 : decode cX10_isIdle 32 = .ok (.iconst 1, 1) := by decide +kernel
theorem dX10_isIdle_33 : decode cX10_isIdle 33 = .ok (.istore_n 2, 1) := by decide +kernel
theorem dX10_isIdle_34 : decode cX10_isIdle 34 = .ok (.iconst 0, 1) := by decide +kernel
theorem dX10_isIdle_35 : decode cX10_isIdle 35 = .ok (.istore_n 3, 1) := by decide +kernel
theorem dX10_isIdle_36 : decode cX10_isIdle 36 = .ok (.iload_n 3, 1) := by decide +kernel
theorem dX10_isIdle_37 : decode cX10_isIdle 37 = .ok (.sipush 144, 3) := by decide +kernel
theorem dX10_isIdle_40 : decode cX10_isIdle 40 = .ok (.if_icmp .ge 34, 3) := by decide +kernel
theorem dX10_isIdle_43 : decode cX10_isIdle 43 = .ok (.iload_n 2, 1) := by decide +kernel
theorem dX10_isIdle_44 : decode cX10_isIdle 44 = .ok (.ifCond .eq 22, 3) := by decide +kernel
theorem dX10_isIdle_47 : decode cX10_isIdle 47 = .ok (.aload_n 0, 1) := by decide +kernel
theorem dX10_isIdle_48 : decode cX10_isIdle 48 = .ok (.getfield 95, 3) := by decide +kernel
theorem dX10_isIdle_51 : decode cX10_isIdle 51 = .ok (.iload_n 3, 1) := by decide +kernel
theorem dX10_isIdle_52 : decode cX10_isIdle 52 = .ok (.iaload, 1) := by decide +kernel
theorem dX10_isIdle_53 : decode cX10_isIdle 53 = .ok (.aload_n 0, 1) := by decide +kernel
theorem dX10_isIdle_54 : decode cX10_isIdle 54 = .ok (.getfield 98, 3) := by decide +kernel
theorem dX10_isIdle_57 : decode cX10_isIdle 57 = .ok (.iload_n 3, 1) := by decide +kernel
theorem dX10_isIdle_58 : decode cX10_isIdle 58 = .ok (.iaload, 1) := by decide +kernel
theorem dX10_isIdle_59 : decode cX10_isIdle 59 = .ok (.if_icmp .ne 7, 3) := by decide +kernel
theorem dX10_isIdle_62 : decode cX10_isIdle 62 = .ok (.iconst 1, 1) := by decide +kernel
theorem dX10_isIdle_63 : decode cX10_isIdle 63 = .ok (.goto 4, 3) := by decide +kernel
theorem dX10_isIdle_66 : decode cX10_isIdle 66 = .ok (.iconst 0, 1) := by decide +kernel
theorem dX10_isIdle_67 : decode cX10_isIdle 67 = .ok (.istore_n 2, 1) := by decide +kernel
theorem dX10_isIdle_68 : decode cX10_isIdle 68 = .ok (.iinc 3 1, 3) := by decide +kernel
theorem dX10_isIdle_71 : decode cX10_isIdle 71 = .ok (.goto (-35), 3) := by decide +kernel
theorem dX10_isIdle_74 : decode cX10_isIdle 74 = .ok (.aload_n 0, 1) := by decide +kernel
theorem dX10_isIdle_75 : decode cX10_isIdle 75 = .ok (.iconst (-1), 1) := by decide +kernel
theorem dX10_isIdle_76 : decode cX10_isIdle 76 = .ok (.invokevirtual 331, 3) := by decide +kernel
theorem dX10_isIdle_79 : decode cX10_isIdle 79 = .ok (.iload_n 2, 1) := by decide +kernel
theorem dX10_isIdle_80 : decode cX10_isIdle 80 = .ok (.ireturn, 1) := by decide +kernel
theorem dX10_idle_0 : decode cX10_idle 0 = .ok (.iload_n 1, 1) := by decide +kernel
theorem dX10_idle_1 : decode cX10_idle 1 = .ok (.iconst 0, 1) := by decide +kernel
theorem dX10_idle_2 : decode cX10_idle 2 = .ok (.iconst 1, 1) := by decide +kernel
theorem dX10_idle_3 : decode cX10_idle 3 = .ok (.invokestatic 161, 3) := by decide +kernel
theorem dX10_idle_6 : decode cX10_idle 6 = .ok (.ifCond .ne 5, 3) := by decide +kernel
theorem dX10_idle_9 : decode cX10_idle 9 = .ok (.iconst (-1), 1) := by decide +kernel
theorem dX10_idle_10 : decode cX10_idle 10 = .ok (.ireturn, 1) := by decide +kernel
theorem dX10_idle_11 : decode cX10_idle 11 = .ok (.aload_n 0, 1) := by decide +kernel
theorem dX10_idle_12 : decode cX10_idle 12 = .ok (.iconst (-1), 1) := by decide +kernel
theorem dX10_idle_13 : decode cX10_idle 13 = .ok (.invokevirtual 331, 3) := by decide +kernel
theorem dX10_idle_16 : decode cX10_idle 16 = .ok (.aload_n 0, 1) := by decide +kernel
theorem dX10_idle_17 : decode cX10_idle 17 = .ok (.invokevirtual 334, 3) := by decide +kernel
theorem dX10_idle_20 : decode cX10_idle 20 = .ok (.ifCond .ne 6, 3) := by decide +kernel
theorem dX10_idle_23 : decode cX10_idle 23 = .ok (.bipush (-3), 2) := by decide +kernel
theorem dX10_idle_25 : decode cX10_idle 25 = .ok (.ireturn, 1) := by decide +kernel
theorem dX10_idle_26 : decode cX10_idle 26 = .ok (.iconst 0, 1) := by decide +kernel
theorem dX10_idle_27 : decode cX10_idle 27 = .ok (.istore_n 2, 1) := by decide +kernel
theorem dX10_idle_28 : decode cX10_idle 28 = .ok (.bipush (-2), 2) := by decide +kernel
theorem dX10_idle_30 : decode cX10_idle 30 = .ok (.istore_n 3, 1) := by decide +kernel
theorem dX10_idle_31 : decode cX10_idle 31 = .ok (.aload_n 0, 1) := by decide +kernel
theorem dX10_idle_32 : decode cX10_idle 32 = .ok (.getfield 307, 3) := by decide +kernel
theorem dX10_idle_35 : decode cX10_idle 35 = .ok (.iconst 1, 1) := by decide +kernel
theorem dX10_idle_36 : decode cX10_idle 36 = .ok (.isub, 1) := by decide +kernel
theorem dX10_idle_37 : decode cX10_idle 37 = .ok (.istore 4, 2) := by decide +kernel
theorem dX10_idle_39 : decode cX10_idle 39 = .ok (.iload 4, 2) := by decide +kernel
theorem dX10_idle_41 : decode cX10_idle 41 = .ok (.ifCond .lt 28, 3) := by decide +kernel
theorem dX10_idle_44 : decode cX10_idle 44 = .ok (.aload_n 0, 1) := by decide +kernel
theorem dX10_idle_45 : decode cX10_idle 45 = .ok (.iload 4, 2) := by decide +kernel
theorem dX10_idle_47 : decode cX10_idle 47 = .ok (.invokevirtual 358, 3) := by decide +kernel
theorem dX10_idle_50 : decode cX10_idle 50 = .ok (.ifCond .ne 6, 3) := by decide +kernel
theorem dX10_idle_53 : decode cX10_idle 53 = .ok (.goto 10, 3) := by decide +kernel
theorem dX10_idle_56 : decode cX10_idle 56 = .ok (.iload_n 2, 1) := by decide +kernel
theorem dX10_idle_57 : decode cX10_idle 57 = .ok (.iconst 1, 1) := by decide +kernel
theorem dX10_idle_58 : decode cX10_idle 58 = .ok (.iadd, 1) := by decide +kernel
theorem dX10_idle_59 : decode cX10_idle 59 = .ok (.istore_n 2, 1) := by decide +kernel
theorem dX10_idle_60 : decode cX10_idle 60 = .ok (.iload 4, 2) := by decide +kernel
theorem dX10_idle_62 : decode cX10_idle 62 = .ok (.istore_n 3, 1) := by decide +kernel
theorem dX10_idle_63 : decode cX10_idle 63 = .ok (.iinc 4 (-1), 3) := by decide +kernel
theorem dX10_idle_66 : decode cX10_idle 66 = .ok (.goto (-27), 3) := by decide +kernel
theorem dX10_idle_69 : decode cX10_idle 69 = .ok (.iload_n 1, 1) := by decide +kernel
theorem dX10_idle_70 : decode cX10_idle 70 = .ok (.ifCond .ne 7, 3) := by decide +kernel
theorem dX10_idle_73 : decode cX10_idle 73 = .ok (.iload_n 2, 1) := by decide +kernel
theorem dX10_idle_74 : decode cX10_idle 74 = .ok (.goto 4, 3) := by decide +kernel
theorem dX10_idle_77 : decode cX10_idle 77 = .ok (.iload_n 3, 1) := by decide +kernel
theorem dX10_idle_78 : decode cX10_idle 78 = .ok (.ireturn, 1) := by decide +kernel
theorem dX10_moreThan_0 : decode cX10_moreThan 0 = .ok (.iconst 0, 1) := by decide +kernel
theorem dX10_moreThan_1 : decode cX10_moreThan 1 = .ok (.istore_n 2, 1) := by decide +kernel
theorem dX10_moreThan_2 : decode cX10_moreThan 2 = .ok (.iconst 0, 1) := by decide +kernel
theorem dX10_moreThan_3 : decode cX10_moreThan 3 = .ok (.istore_n 3, 1) := by decide +kernel
theorem dX10_moreThan_4 : decode cX10_moreThan 4 = .ok (.iload_n 3, 1) := by decide +kernel
theorem dX10_moreThan_5 : decode cX10_moreThan 5 = .ok (.bipush 12, 2) := by decide +kernel
theorem dX10_moreThan_7 : decode cX10_moreThan 7 = .ok (.if_icmp .ge 24, 3) := by decide +kernel
theorem dX10_moreThan_10 : decode cX10_moreThan 10 = .ok (.aload_n 0, 1) := by decide +kernel
theorem dX10_moreThan_11 : decode cX10_moreThan 11 = .ok (.iload_n 1, 1) := by decide +kernel
theorem dX10_moreThan_12 : decode cX10_moreThan 12 = .ok (.iload_n 3, 1) := by decide +kernel
theorem dX10_moreThan_13 : decode cX10_moreThan 13 = .ok (.invokevirtual 337, 3) := by decide +kernel
theorem dX10_moreThan_16 : decode cX10_moreThan 16 = .ok (.ifCond .ge 9, 3) := by decide +kernel
theorem dX10_moreThan_19 : decode cX10_moreThan 19 = .ok (.iload_n 2, 1) := by decide +kernel
theorem dX10_moreThan_20 : decode cX10_moreThan 20 = .ok (.iconst 1, 1) := by decide +kernel
theorem dX10_moreThan_21 : decode cX10_moreThan 21 = .ok (.iload_n 3, 1) := by decide +kernel
theorem dX10_moreThan_22 : decode cX10_moreThan 22 = .ok (.ishl, 1) := by decide +kernel
theorem dX10_moreThan_23 : decode cX10_moreThan 23 = .ok (.ior, 1) := by decide +kernel
theorem dX10_moreThan_24 : decode cX10_moreThan 24 = .ok (.istore_n 2, 1) := by decide +kernel
theorem dX10_moreThan_25 : decode cX10_moreThan 25 = .ok (.iinc 3 1, 3) := by decide +kernel
theorem dX10_moreThan_28 : decode cX10_moreThan 28 = .ok (.goto (-24), 3) := by decide +kernel
theorem dX10_moreThan_31 : decode cX10_moreThan 31 = .ok (.iload_n 2, 1) := by decide +kernel
theorem dX10_moreThan_32 : decode cX10_moreThan 32 = .ok (.ireturn, 1) := by decide +kernel
theorem dX10_lessThan_0 : decode cX10_lessThan 0 = .ok (.iconst 0, 1) := by decide +kernel
theorem dX10_lessThan_1 : decode cX10_lessThan 1 = .ok (.istore_n 2, 1) := by decide +kernel
theorem dX10_lessThan_2 : decode cX10_lessThan 2 = .ok (.iconst 0, 1) := by decide +kernel
theorem dX10_lessThan_3 : decode cX10_lessThan 3 = .ok (.istore_n 3, 1) := by decide +kernel
theorem dX10_lessThan_4 : decode cX10_lessThan 4 = .ok (.iload_n 3, 1) := by decide +kernel
theorem dX10_lessThan_5 : decode cX10_lessThan 5 = .ok (.bipush 12, 2) := by decide +kernel
theorem dX10_lessThan_7 : decode cX10_lessThan 7 = .ok (.if_icmp .ge 24, 3) := by decide +kernel
theorem dX10_lessThan_10 : decode cX10_lessThan 10 = .ok (.aload_n 0, 1) := by decide +kernel
theorem dX10_lessThan_11 : decode cX10_lessThan 11 = .ok (.iload_n 3, 1) := by decide +kernel
theorem dX10_lessThan_12 : decode cX10_lessThan 12 = .ok (.iload_n 1, 1) := by decide +kernel
