theorem dX0_init_0 : decode cX0_init 0 = .ok (.aload_n 0, 1) := by decide +kernel
theorem dX0_init_1 : decode cX0_init 1 = .ok (.invokespecial 3, 3) := by decide +kernel
theorem dX0_init_4 : decode cX0_init 4 = .ok (.aload_n 0, 1) := by decide +kernel
theorem dX0_init_5 : decode cX0_init 5 = .ok (.sipush 144, 3) := by decide +kernel
theorem dX0_init_8 : decode cX0_init 8 = .ok (.newarray .int, 2) := by decide +kernel
theorem dX0_init_10 : decode cX0_init 10 = .ok (.putfield 9, 3) := by decide +kernel
theorem dX0_init_13 : decode cX0_init 13 = .ok (.aload_n 0, 1) := by decide +kernel
theorem dX0_init_14 : decode cX0_init 14 = .ok (.sipush 144, 3) := by decide +kernel
theorem dX0_init_17 : decode cX0_init 17 = .ok (.newarray .int, 2) := by decide +kernel
theorem dX0_init_19 : decode cX0_init 19 = .ok (.putfield 15, 3) := by decide +kernel
theorem dX0_init_22 : decode cX0_init 22 = .ok (.aload_n 0, 1) := by decide +kernel
theorem dX0_init_23 : decode cX0_init 23 = .ok (.bipush 12, 2) := by decide +kernel
theorem dX0_init_25 : decode cX0_init 25 = .ok (.newarray .int, 2) := by decide +kernel
theorem dX0_init_27 : decode cX0_init 27 = .ok (.putfield 18, 3) := by decide +kernel
theorem dX0_init_30 : decode cX0_init 30 = .ok (.aload_n 0, 1) := by decide +kernel
theorem dX0_init_31 : decode cX0_init 31 = .ok (.iconst 1, 1) := by decide +kernel
theorem dX0_init_32 : decode cX0_init 32 = .ok (.putfield 21, 3) := by decide +kernel
theorem dX0_init_35 : decode cX0_init 35 = .ok (.return_, 1) := by decide +kernel
theorem dX0_follow_0 : decode cX0_follow 0 = .ok (.aload_n 0, 1) := by decide +kernel
theorem dX0_follow_1 : decode cX0_follow 1 = .ok (.aload_n 1, 1) := by decide +kernel
theorem dX0_follow_2 : decode cX0_follow 2 = .ok (.iload_n 2, 1) := by decide +kernel
theorem dX0_follow_3 : decode cX0_follow 3 = .ok (.invokevirtual 25, 3) := by decide +kernel
theorem dX0_follow_6 : decode cX0_follow 6 = .ok (.aload_n 0, 1) := by decide +kernel
theorem dX0_follow_7 : decode cX0_follow 7 = .ok (.getfield 9, 3) := by decide +kernel
theorem dX0_follow_10 : decode cX0_follow 10 = .ok (.iconst 0, 1) := by decide +kernel
theorem dX0_follow_11 : decode cX0_follow 11 = .ok (.aload_n 0, 1) := by decide +kernel
theorem dX0_follow_12 : decode cX0_follow 12 = .ok (.getfield 15, 3) := by decide +kernel
theorem dX0_follow_15 : decode cX0_follow 15 = .ok (.iconst 0, 1) := by decide +kernel
theorem dX0_follow_16 : decode cX0_follow 16 = .ok (.aload_n 0, 1) := by decide +kernel
theorem dX0_follow_17 : decode cX0_follow 17 = .ok (.getfield 15, 3) := by decide +kernel
theorem dX0_follow_20 : decode cX0_follow 20 = .ok (.arraylength, 1) := by decide +kernel
theorem dX0_follow_21 : decode cX0_follow 21 = .ok (.invokestatic 29, 3) := by decide +kernel
theorem dX0_follow_24 : decode cX0_follow 24 = .ok (.aload_n 0, 1) := by decide +kernel
theorem dX0_follow_25 : decode cX0_follow 25 = .ok (.iconst 1, 1) := by decide +kernel
theorem dX0_follow_26 : decode cX0_follow 26 = .ok (.putfield 21, 3) := by decide +kernel
theorem dX0_follow_29 : decode cX0_follow 29 = .ok (.iconst 0, 1) := by decide +kernel
theorem dX0_follow_30 : decode cX0_follow 30 = .ok (.istore_n 3, 1) := by decide +kernel
theorem dX0_follow_31 : decode cX0_follow 31 = .ok (.iload_n 3, 1) := by decide +kernel
theorem dX0_follow_32 : decode cX0_follow 32 = .ok (.bipush 12, 2) := by decide +kernel
theorem dX0_follow_34 : decode cX0_follow 34 = .ok (.if_icmp .ge 29, 3) := by decide +kernel
theorem dX0_follow_37 : decode cX0_follow 37 = .ok (.aload_n 0, 1) := by decide +kernel
theorem dX0_follow_38 : decode cX0_follow 38 = .ok (.getfield 21, 3) := by decide +kernel
theorem dX0_follow_41 : decode cX0_follow 41 = .ok (.ifCond .eq 22, 3) := by decide +kernel
theorem dX0_follow_44 : decode cX0_follow 44 = .ok (.aload_n 0, 1) := by decide +kernel
theorem dX0_follow_45 : decode cX0_follow 45 = .ok (.iload_n 3, 1) := by decide +kernel
theorem dX0_follow_46 : decode cX0_follow 46 = .ok (.invokevirtual 35, 3) := by decide +kernel
theorem dX0_follow_49 : decode cX0_follow 49 = .ok (.aload_n 0, 1) := by decide +kernel
theorem dX0_follow_50 : decode cX0_follow 50 = .ok (.aload_n 0, 1) := by decide +kernel
theorem dX0_follow_51 : decode cX0_follow 51 = .ok (.invokevirtual 39, 3) := by decide +kernel
theorem dX0_follow_54 : decode cX0_follow 54 = .ok (.putfield 21, 3) := by decide +kernel
theorem dX0_follow_57 : decode cX0_follow 57 = .ok (.iinc 3 1, 3) := by decide +kernel
theorem dX0_follow_60 : decode cX0_follow 60 = .ok (.goto (-29), 3) := by decide +kernel
theorem dX0_follow_63 : decode cX0_follow 63 = .ok (.return_, 1) := by decide +kernel
theorem dX0_tellAll_0 : decode cX0_tellAll 0 = .ok (.aload_n 0, 1) := by decide +kernel
theorem dX0_tellAll_1 : decode cX0_tellAll 1 = .ok (.getfield 9, 3) := by decide +kernel
theorem dX0_tellAll_4 : decode cX0_tellAll 4 = .ok (.ldc 43, 2) := by decide +kernel
theorem dX0_tellAll_6 : decode cX0_tellAll 6 = .ok (.invokestatic 44, 3) := by decide +kernel
theorem dX0_tellAll_9 : decode cX0_tellAll 9 = .ok (.iconst 0, 1) := by decide +kernel
theorem dX0_tellAll_10 : decode cX0_tellAll 10 = .ok (.istore_n 3, 1) := by decide +kernel
theorem dX0_tellAll_11 : decode cX0_tellAll 11 = .ok (.iload_n 3, 1) := by decide +kernel
theorem dX0_tellAll_12 : decode cX0_tellAll 12 = .ok (.bipush 12, 2) := by decide +kernel
theorem dX0_tellAll_14 : decode cX0_tellAll 14 = .ok (.if_icmp .ge 21, 3) := by decide +kernel
theorem dX0_tellAll_17 : decode cX0_tellAll 17 = .ok (.aload_n 0, 1) := by decide +kernel
theorem dX0_tellAll_18 : decode cX0_tellAll 18 = .ok (.getfield 9, 3) := by decide +kernel
theorem dX0_tellAll_21 : decode cX0_tellAll 21 = .ok (.iload_n 3, 1) := by decide +kernel
theorem dX0_tellAll_22 : decode cX0_tellAll 22 = .ok (.bipush 12, 2) := by decide +kernel
theorem dX0_tellAll_24 : decode cX0_tellAll 24 = .ok (.imul, 1) := by decide +kernel
theorem dX0_tellAll_25 : decode cX0_tellAll 25 = .ok (.iload_n 3, 1) := by decide +kernel
theorem dX0_tellAll_26 : decode cX0_tellAll 26 = .ok (.iadd, 1) := by decide +kernel
theorem dX0_tellAll_27 : decode cX0_tellAll 27 = .ok (.iconst 0, 1) := by decide +kernel
theorem dX0_tellAll_28 : decode cX0_tellAll 28 = .ok (.iastore, 1) := by decide +kernel
theorem dX0_tellAll_29 : decode cX0_tellAll 29 = .ok (.iinc 3 1, 3) := by decide +kernel
theorem dX0_tellAll_32 : decode cX0_tellAll 32 = .ok (.goto (-21), 3) := by decide +kernel
theorem dX0_tellAll_35 : decode cX0_tellAll 35 = .ok (.iconst 0, 1) := by decide +kernel
theorem dX0_tellAll_36 : decode cX0_tellAll 36 = .ok (.istore_n 3, 1) := by decide +kernel
theorem dX0_tellAll_37 : decode cX0_tellAll 37 = .ok (.iload_n 3, 1) := by decide +kernel
theorem dX0_tellAll_38 : decode cX0_tellAll 38 = .ok (.aload_n 1, 1) := by decide +kernel
theorem dX0_tellAll_39 : decode cX0_tellAll 39 = .ok (.getfield 50, 3) := by decide +kernel
theorem dX0_tellAll_42 : decode cX0_tellAll 42 = .ok (.if_icmp .ge 20, 3) := by decide +kernel
theorem dX0_tellAll_45 : decode cX0_tellAll 45 = .ok (.iload_n 3, 1) := by decide +kernel
theorem dX0_tellAll_46 : decode cX0_tellAll 46 = .ok (.iload_n 2, 1) := by decide +kernel
theorem dX0_tellAll_47 : decode cX0_tellAll 47 = .ok (.if_icmp .eq 9, 3) := by decide +kernel
theorem dX0_tellAll_50 : decode cX0_tellAll 50 = .ok (.aload_n 0, 1) := by decide +kernel
theorem dX0_tellAll_51 : decode cX0_tellAll 51 = .ok (.aload_n 1, 1) := by decide +kernel
theorem dX0_tellAll_52 : decode cX0_tellAll 52 = .ok (.iload_n 3, 1) := by decide +kernel
theorem dX0_tellAll_53 : decode cX0_tellAll 53 = .ok (.invokevirtual 56, 3) := by decide +kernel
theorem dX0_tellAll_56 : decode cX0_tellAll 56 = .ok (.iinc 3 1, 3) := by decide +kernel
theorem dX0_tellAll_59 : decode cX0_tellAll 59 = .ok (.goto (-22), 3) := by decide +kernel
theorem dX0_tellAll_62 : decode cX0_tellAll 62 = .ok (.return_, 1) := by decide +kernel
theorem dX0_tellBothSides_0 : decode cX0_tellBothSides 0 = .ok (.aload_n 1, 1) := by decide +kernel
theorem dX0_tellBothSides_1 : decode cX0_tellBothSides 1 = .ok (.getfield 59, 3) := by decide +kernel
theorem dX0_tellBothSides_4 : decode cX0_tellBothSides 4 = .ok (.iload_n 2, 1) := by decide +kernel
theorem dX0_tellBothSides_5 : decode cX0_tellBothSides 5 = .ok (.iaload, 1) := by decide +kernel
theorem dX0_tellBothSides_6 : decode cX0_tellBothSides 6 = .ok (.iconst 2, 1) := by decide +kernel
theorem dX0_tellBothSides_7 : decode cX0_tellBothSides 7 = .ok (.if_icmp .eq 25, 3) := by decide +kernel
theorem dX0_tellBothSides_10 : decode cX0_tellBothSides 10 = .ok (.aload_n 0, 1) := by decide +kernel
theorem dX0_tellBothSides_11 : decode cX0_tellBothSides 11 = .ok (.aload_n 1, 1) := by decide +kernel
theorem dX0_tellBothSides_12 : decode cX0_tellBothSides 12 = .ok (.getfield 62, 3) := by decide +kernel
theorem dX0_tellBothSides_15 : decode cX0_tellBothSides 15 = .ok (.iload_n 2, 1) := by decide +kernel
theorem dX0_tellBothSides_16 : decode cX0_tellBothSides 16 = .ok (.iaload, 1) := by decide +kernel
theorem dX0_tellBothSides_17 : decode cX0_tellBothSides 17 = .ok (.aload_n 1, 1) := by decide +kernel
theorem dX0_tellBothSides_18 : decode cX0_tellBothSides 18 = .ok (.getfield 65, 3) := by decide +kernel
theorem dX0_tellBothSides_21 : decode cX0_tellBothSides 21 = .ok (.iload_n 2, 1) := by decide +kernel
theorem dX0_tellBothSides_22 : decode cX0_tellBothSides 22 = .ok (.iaload, 1) := by decide +kernel
theorem dX0_tellBothSides_23 : decode cX0_tellBothSides 23 = .ok (.aload_n 1, 1) := by decide +kernel
theorem dX0_tellBothSides_24 : decode cX0_tellBothSides 24 = .ok (.getfield 68, 3) := by decide +kernel
theorem dX0_tellBothSides_27 : decode cX0_tellBothSides 27 = .ok (.iload_n 2, 1) := by decide +kernel
theorem dX0_tellBothSides_28 : decode cX0_tellBothSides 28 = .ok (.iaload, 1) := by decide +kernel
theorem dX0_tellBothSides_29 : decode cX0_tellBothSides 29 = .ok (.invokevirtual 71, 3) := by decide +kernel
theorem dX0_tellBothSides_32 : decode cX0_tellBothSides 32 = .ok (.aload_n 1, 1) := by decide +kernel
theorem dX0_tellBothSides_33 : decode cX0_tellBothSides 33 = .ok (.getfield 59, 3) := by decide +kernel
theorem dX0_tellBothSides_36 : decode cX0_tellBothSides 36 = .ok (.iload_n 2, 1) := by decide +kernel
theorem dX0_tellBothSides_37 : decode cX0_tellBothSides 37 = .ok (.iaload, 1) := by decide +kernel
theorem dX0_tellBothSides_38 : decode cX0_tellBothSides 38 = .ok (.iconst 1, 1) := by decide +kernel
theorem dX0_tellBothSides_39 : decode cX0_tellBothSides 39 = .ok (.if_icmp .eq 26, 3) := by decide +kernel
theorem dX0_tellBothSides_42 : decode cX0_tellBothSides 42 = .ok (.aload_n 0, 1) := by decide +kernel
theorem dX0_tellBothSides_43 : decode cX0_tellBothSides 43 = .ok (.aload_n 1, 1) := by decide +kernel
theorem dX0_tellBothSides_44 : decode cX0_tellBothSides 44 = .ok (.getfield 65, 3) := by decide +kernel
theorem dX0_tellBothSides_47 : decode cX0_tellBothSides 47 = .ok (.iload_n 2, 1) := by decide +kernel
theorem dX0_tellBothSides_48 : decode cX0_tellBothSides 48 = .ok (.iaload, 1) := by decide +kernel
theorem dX0_tellBothSides_49 : decode cX0_tellBothSides 49 = .ok (.aload_n 1, 1) := by decide +kernel
theorem dX0_tellBothSides_50 : decode cX0_tellBothSides 50 = .ok (.getfield 62, 3) := by decide +kernel
theorem dX0_tellBothSides_53 : decode cX0_tellBothSides 53 = .ok (.iload_n 2, 1) := by decide +kernel
theorem dX0_tellBothSides_54 : decode cX0_tellBothSides 54 = .ok (.iaload, 1) := by decide +kernel
theorem dX0_tellBothSides_55 : decode cX0_tellBothSides 55 = .ok (.aload_n 1, 1) := by decide +kernel
theorem dX0_tellBothSides_56 : decode cX0_tellBothSides 56 = .ok (.getfield 68, 3) := by decide +kernel
theorem dX0_tellBothSides_59 : decode cX0_tellBothSides 59 = .ok (.iload_n 2, 1) := by decide +kernel
theorem dX0_tellBothSides_60 : decode cX0_tellBothSides 60 = .ok (.iaload, 1) := by decide +kernel
theorem dX0_tellBothSides_61 : decode cX0_tellBothSides 61 = .ok (.ineg, 1) := by decide +kernel
theorem dX0_tellBothSides_62 : decode cX0_tellBothSides 62 = .ok (.invokevirtual 71, 3) := by decide +kernel
theorem dX0_tellBothSides_65 : decode cX0_tellBothSides 65 = .ok (.return_, 1) := by decide +kernel
theorem dX0_tell_0 : decode cX0_tell 0 = .ok (.iload_n 1, 1) := by decide +kernel
theorem dX0_tell_1 : decode cX0_tell 1 = .ok (.bipush 12, 2) := by decide +kernel
theorem dX0_tell_3 : decode cX0_tell 3 = .ok (.imul, 1) := by decide +kernel
theorem dX0_tell_4 : decode cX0_tell 4 = .ok (.iload_n 2, 1) := by decide +kernel
theorem dX0_tell_5 : decode cX0_tell 5 = .ok (.iadd, 1) := by decide +kernel
theorem dX0_tell_6 : decode cX0_tell 6 = .ok (.istore 4, 2) := by decide +kernel
theorem dX0_tell_8 : decode cX0_tell 8 = .ok (.aload_n 0, 1) := by decide +kernel
theorem dX0_tell_9 : decode cX0_tell 9 = .ok (.getfield 9, 3) := by decide +kernel
theorem dX0_tell_12 : decode cX0_tell 12 = .ok (.iload 4, 2) := by decide +kernel
theorem dX0_tell_14 : decode cX0_tell 14 = .ok (.aload_n 0, 1) := by decide +kernel
theorem dX0_tell_15 : decode cX0_tell 15 = .ok (.getfield 9, 3) := by decide +kernel
theorem dX0_tell_18 : decode cX0_tell 18 = .ok (.iload 4, 2) := by decide +kernel
theorem dX0_tell_20 : decode cX0_tell 20 = .ok (.iaload, 1) := by decide +kernel
theorem dX0_tell_21 : decode cX0_tell 21 = .ok (.iload_n 3, 1) := by decide +kernel
theorem dX0_tell_22 : decode cX0_tell 22 = .ok (.invokestatic 75, 3) := by decide +kernel
theorem dX0_tell_25 : decode cX0_tell 25 = .ok (.iastore, 1) := by decide +kernel
theorem dX0_tell_26 : decode cX0_tell 26 = .ok (.return_, 1) := by decide +kernel
theorem dX0_goBy_0 : decode cX0_goBy 0 = .ok (.iconst 0, 1) := by decide +kernel
theorem dX0_goBy_1 : decode cX0_goBy 1 = .ok (.istore_n 2, 1) := by decide +kernel
theorem dX0_goBy_2 : decode cX0_goBy 2 = .ok (.iload_n 2, 1) := by decide +kernel
theorem dX0_goBy_3 : decode cX0_goBy 3 = .ok (.bipush 12, 2) := by decide +kernel
theorem dX0_goBy_5 : decode cX0_goBy 5 = .ok (.if_icmp .ge 94, 3) := by decide +kernel
theorem dX0_goBy_8 : decode cX0_goBy 8 = .ok (.aload_n 0, 1) := by decide +kernel
theorem dX0_goBy_9 : decode cX0_goBy 9 = .ok (.getfield 15, 3) := by decide +kernel
theorem dX0_goBy_12 : decode cX0_goBy 12 = .ok (.iload_n 2, 1) := by decide +kernel
theorem dX0_goBy_13 : decode cX0_goBy 13 = .ok (.bipush 12, 2) := by decide +kernel
theorem dX0_goBy_15 : decode cX0_goBy 15 = .ok (.imul, 1) := by decide +kernel
theorem dX0_goBy_16 : decode cX0_goBy 16 = .ok (.iload_n 1, 1) := by decide +kernel
theorem dX0_goBy_17 : decode cX0_goBy 17 = .ok (.iadd, 1) := by decide +kernel
theorem dX0_goBy_18 : decode cX0_goBy 18 = .ok (.iaload, 1) := by decide +kernel
theorem dX0_goBy_19 : decode cX0_goBy 19 = .ok (.istore_n 3, 1) := by decide +kernel
theorem dX0_goBy_20 : decode cX0_goBy 20 = .ok (.iconst 0, 1) := by decide +kernel
theorem dX0_goBy_21 : decode cX0_goBy 21 = .ok (.istore 4, 2) := by decide +kernel
theorem dX0_goBy_23 : decode cX0_goBy 23 = .ok (.iload 4, 2) := by decide +kernel
theorem dX0_goBy_25 : decode cX0_goBy 25 = .ok (.bipush 12, 2) := by decide +kernel
theorem dX0_goBy_27 : decode cX0_goBy 27 = .ok (.if_icmp .ge 66, 3) := by decide +kernel
theorem dX0_goBy_30 : decode cX0_goBy 30 = .ok (.iload_n 3, 1) := by decide +kernel
theorem dX0_goBy_31 : decode cX0_goBy 31 = .ok (.ldc 43, 2) := by decide +kernel
theorem dX0_goBy_33 : decode cX0_goBy 33 = .ok (.if_icmp .eq 60, 3) := by decide +kernel
theorem dX0_goBy_36 : decode cX0_goBy 36 = .ok (.aload_n 0, 1) := by decide +kernel
theorem dX0_goBy_37 : decode cX0_goBy 37 = .ok (.getfield 15, 3) := by decide +kernel
theorem dX0_goBy_40 : decode cX0_goBy 40 = .ok (.iload_n 1, 1) := by decide +kernel
theorem dX0_goBy_41 : decode cX0_goBy 41 = .ok (.bipush 12, 2) := by decide +kernel
theorem dX0_goBy_43 : decode cX0_goBy 43 = .ok (.imul, 1) := by decide +kernel
theorem dX0_goBy_44 : decode cX0_goBy 44 = .ok (.iload 4, 2) := by decide +kernel
theorem dX0_goBy_46 : decode cX0_goBy 46 = .ok (.iadd, 1) := by decide +kernel
theorem dX0_goBy_47 : decode cX0_goBy 47 = .ok (.iaload, 1) := by decide +kernel
theorem dX0_goBy_48 : decode cX0_goBy 48 = .ok (.istore 5, 2) := by decide +kernel
theorem dX0_goBy_50 : decode cX0_goBy 50 = .ok (.iload 5, 2) := by decide +kernel
theorem dX0_goBy_52 : decode cX0_goBy 52 = .ok (.ldc 43, 2) := by decide +kernel
theorem dX0_goBy_54 : decode cX0_goBy 54 = .ok (.if_icmp .eq 33, 3) := by decide +kernel
theorem dX0_goBy_57 : decode cX0_goBy 57 = .ok (.iload_n 2, 1) := by decide +kernel
theorem dX0_goBy_58 : decode cX0_goBy 58 = .ok (.bipush 12, 2) := by decide +kernel
theorem dX0_goBy_60 : decode cX0_goBy 60 = .ok (.imul, 1) := by decide +kernel
theorem dX0_goBy_61 : decode cX0_goBy 61 = .ok (.iload 4, 2) := by decide +kernel
theorem dX0_goBy_63 : decode cX0_goBy 63 = .ok (.iadd, 1) := by decide +kernel
theorem dX0_goBy_64 : decode cX0_goBy 64 = .ok (.istore 6, 2) := by decide +kernel
theorem dX0_goBy_66 : decode cX0_goBy 66 = .ok (.aload_n 0, 1) := by decide +kernel
theorem dX0_goBy_67 : decode cX0_goBy 67 = .ok (.getfield 15, 3) := by decide +kernel
theorem dX0_goBy_70 : decode cX0_goBy 70 = .ok (.iload 6, 2) := by decide +kernel
theorem dX0_goBy_72 : decode cX0_goBy 72 = .ok (.aload_n 0, 1) := by decide +kernel
theorem dX0_goBy_73 : decode cX0_goBy 73 = .ok (.getfield 15, 3) := by decide +kernel
theorem dX0_goBy_76 : decode cX0_goBy 76 = .ok (.iload 6, 2) := by decide +kernel
theorem dX0_goBy_78 : decode cX0_goBy 78 = .ok (.iaload, 1) := by decide +kernel
theorem dX0_goBy_79 : decode cX0_goBy 79 = .ok (.iload_n 3, 1) := by decide +kernel
theorem dX0_goBy_80 : decode cX0_goBy 80 = .ok (.iload 5, 2) := by decide +kernel
theorem dX0_goBy_82 : decode cX0_goBy 82 = .ok (.iadd, 1) := by decide +kernel
theorem dX0_goBy_83 : decode cX0_goBy 83 = .ok (.invokestatic 75, 3) := by decide +kernel
theorem dX0_goBy_86 : decode cX0_goBy 86 = .ok (.iastore, 1) := by decide +kernel
theorem dX0_goBy_87 : decode cX0_goBy 87 = .ok (.iinc 4 1, 3) := by decide +kernel
theorem dX0_goBy_90 : decode cX0_goBy 90 = .ok (.goto (-67), 3) := by decide +kernel
theorem dX0_goBy_93 : decode cX0_goBy 93 = .ok (.iinc 2 1, 3) := by decide +kernel
theorem dX0_goBy_96 : decode cX0_goBy 96 = .ok (.goto (-94), 3) := by decide +kernel
theorem dX0_goBy_99 : decode cX0_goBy 99 = .ok (.return_, 1) := by decide +kernel
theorem dX0_isNoneBelowItself_0 : decode cX0_isNoneBelowItself 0 = .ok (.iconst 0, 1) := by decide +kernel
theorem dX0_isNoneBelowItself_1 : decode cX0_isNoneBelowItself 1 = .ok (.istore_n 1, 1) := by decide +kernel
theorem dX0_isNoneBelowItself_2 : decode cX0_isNoneBelowItself 2 = .ok (.iload_n 1, 1) := by decide +kernel
theorem dX0_isNoneBelowItself_3 : decode cX0_isNoneBelowItself 3 = .ok (.bipush 12, 2) := by decide +kernel
theorem dX0_isNoneBelowItself_5 : decode cX0_isNoneBelowItself 5 = .ok (.if_icmp .ge 25, 3) := by decide +kernel
theorem dX0_isNoneBelowItself_8 : decode cX0_isNoneBelowItself 8 = .ok (.aload_n 0, 1) := by decide +kernel
theorem dX0_isNoneBelowItself_9 : decode cX0_isNoneBelowItself 9 = .ok (.getfield 15, 3) := by decide +kernel
theorem dX0_isNoneBelowItself_12 : decode cX0_isNoneBelowItself 12 = .ok (.iload_n 1, 1) := by decide +kernel
theorem dX0_isNoneBelowItself_13 : decode cX0_isNoneBelowItself 13 = .ok (.bipush 12, 2) := by decide +kernel
theorem dX0_isNoneBelowItself_15 : decode cX0_isNoneBelowItself 15 = .ok (.imul, 1) := by decide +kernel
theorem dX0_isNoneBelowItself_16 : decode cX0_isNoneBelowItself 16 = .ok (.iload_n 1, 1) := by decide +kernel
theorem dX0_isNoneBelowItself_17 : decode cX0_isNoneBelowItself 17 = .ok (.iadd, 1) := by decide +kernel
theorem dX0_isNoneBelowItself_18 : decode cX0_isNoneBelowItself 18 = .ok (.iaload, 1) := by decide +kernel
theorem dX0_isNoneBelowItself_19 : decode cX0_isNoneBelowItself 19 = .ok (.ifCond .ge 5, 3) := by decide +kernel
theorem dX0_isNoneBelowItself_22 : decode cX0_isNoneBelowItself 22 = .ok (.iconst 0, 1) := by decide +kernel
theorem dX0_isNoneBelowItself_23 : decode cX0_isNoneBelowItself 23 = .ok (.ireturn, 1) := by decide +kernel
theorem dX0_isNoneBelowItself_24 : decode cX0_isNoneBelowItself 24 = .ok (.iinc 1 1, 3) := by decide +kernel
theorem dX0_isNoneBelowItself_27 : decode cX0_isNoneBelowItself 27 = .ok (.goto (-25), 3) := by decide +kernel
theorem dX0_isNoneBelowItself_30 : decode cX0_isNoneBelowItself 30 = .ok (.iconst 1, 1) := by decide +kernel
theorem dX0_isNoneBelowItself_31 : decode cX0_isNoneBelowItself 31 = .ok (.ireturn, 1) := by decide +kernel
theorem dX0_most_0 : decode cX0_most 0 = .ok (.aload_n 0, 1) := by decide +kernel
theorem dX0_most_1 : decode cX0_most 1 = .ok (.getfield 15, 3) := by decide +kernel
theorem dX0_most_4 : decode cX0_most 4 = .ok (.iload_n 1, 1) := by decide +kernel
theorem dX0_most_5 : decode cX0_most 5 = .ok (.bipush 12, 2) := by decide +kernel
theorem dX0_most_7 : decode cX0_most 7 = .ok (.imul, 1) := by decide +kernel
theorem dX0_most_8 : decode cX0_most 8 = .ok (.iload_n 2, 1) := by decide +kernel
theorem dX0_most_9 : decode cX0_most 9 = .ok (.iadd, 1) := by decide +kernel
theorem dX0_most_10 : decode cX0_most 10 = .ok (.iaload, 1) := by decide +kernel
theorem dX0_most_11 : decode cX0_most 11 = .ok (.ireturn, 1) := by decide +kernel
theorem dX0_isLike_0 : decode cX0_isLike 0 = .ok (.iconst 0, 1) := by decide +kernel
theorem dX0_isLike_1 : decode cX0_isLike 1 = .ok (.istore_n 2, 1) := by decide +kernel
theorem dX0_isLike_2 : decode cX0_isLike 2 = .ok (.iload_n 2, 1) := by decide +kernel
theorem dX0_isLike_3 : decode cX0_isLike 3 = .ok (.aload_n 0, 1) := by decide +kernel
theorem dX0_isLike_4 : decode cX0_isLike 4 = .ok (.getfield 15, 3) := by decide +kernel
theorem dX0_isLike_7 : decode cX0_isLike 7 = .ok (.arraylength, 1) := by decide +kernel
theorem dX0_isLike_8 : decode cX0_isLike 8 = .ok (.if_icmp .ge 26, 3) := by decide +kernel
theorem dX0_isLike_11 : decode cX0_isLike 11 = .ok (.aload_n 0, 1) := by decide +kernel
theorem dX0_isLike_12 : decode cX0_isLike 12 = .ok (.getfield 15, 3) := by decide +kernel
theorem dX0_isLike_15 : decode cX0_isLike 15 = .ok (.iload_n 2, 1) := by decide +kernel
theorem dX0_isLike_16 : decode cX0_isLike 16 = .ok (.iaload, 1) := by decide +kernel
theorem dX0_isLike_17 : decode cX0_isLike 17 = .ok (.aload_n 1, 1) := by decide +kernel
theorem dX0_isLike_18 : decode cX0_isLike 18 = .ok (.getfield 15, 3) := by decide +kernel
theorem dX0_isLike_21 : decode cX0_isLike 21 = .ok (.iload_n 2, 1) := by decide +kernel
theorem dX0_isLike_22 : decode cX0_isLike 22 = .ok (.iaload, 1) := by decide +kernel
theorem dX0_isLike_23 : decode cX0_isLike 23 = .ok (.if_icmp .eq 5, 3) := by decide +kernel
theorem dX0_isLike_26 : decode cX0_isLike 26 = .ok (.iconst 0, 1) := by decide +kernel
theorem dX0_isLike_27 : decode cX0_isLike 27 = .ok (.ireturn, 1) := by decide +kernel
theorem dX0_isLike_28 : decode cX0_isLike 28 = .ok (.iinc 2 1, 3) := by decide +kernel
theorem dX0_isLike_31 : decode cX0_isLike 31 = .ok (.goto (-29), 3) := by decide +kernel
theorem dX0_isLike_34 : decode cX0_isLike 34 = .ok (.iconst 1, 1) := by decide +kernel
theorem dX0_isLike_35 : decode cX0_isLike 35 = .ok (.ireturn, 1) := by decide +kernel
theorem dX0_moreThan_0 : decode cX0_moreThan 0 = .ok (.iconst 0, 1) := by decide +kernel
theorem dX0_moreThan_1 : decode cX0_moreThan 1 = .ok (.istore_n 2, 1) := by decide +kernel
theorem dX0_moreThan_2 : decode cX0_moreThan 2 = .ok (.iconst 0, 1) := by decide +kernel
theorem dX0_moreThan_3 : decode cX0_moreThan 3 = .ok (.istore_n 3, 1) := by decide +kernel
theorem dX0_moreThan_4 : decode cX0_moreThan 4 = .ok (.iload_n 3, 1) := by decide +kernel
theorem dX0_moreThan_5 : decode cX0_moreThan 5 = .ok (.bipush 12, 2) := by decide +kernel
theorem dX0_moreThan_7 : decode cX0_moreThan 7 = .ok (.if_icmp .ge 24, 3) := by decide +kernel
theorem dX0_moreThan_10 : decode cX0_moreThan 10 = .ok (.aload_n 0, 1) := by decide +kernel
theorem dX0_moreThan_11 : decode cX0_moreThan 11 = .ok (.iload_n 1, 1) := by decide +kernel
theorem dX0_moreThan_12 : decode cX0_moreThan 12 = .ok (.iload_n 3, 1) := by decide +kernel
theorem dX0_moreThan_13 : decode cX0_moreThan 13 = .ok (.invokevirtual 81, 3) := by decide +kernel
theorem dX0_moreThan_16 : decode cX0_moreThan 16 = .ok (.ifCond .ge 9, 3) := by decide +kernel
theorem dX0_moreThan_19 : decode cX0_moreThan 19 = .ok (.iload_n 2, 1) := by decide +kernel
theorem dX0_moreThan_20 : decode cX0_moreThan 20 = .ok (.iconst 1, 1) := by decide +kernel
theorem dX0_moreThan_21 : decode cX0_moreThan 21 = .ok (.iload_n 3, 1) := by decide +kernel
theorem dX0_moreThan_22 : decode cX0_moreThan 22 = .ok (.ishl, 1) := by decide +kernel
theorem dX0_moreThan_23 : decode cX0_moreThan 23 = .ok (.ior, 1) := by decide +kernel
theorem dX0_moreThan_24 : decode cX0_moreThan 24 = .ok (.istore_n 2, 1) := by decide +kernel
theorem dX0_moreThan_25 : decode cX0_moreThan 25 = .ok (.iinc 3 1, 3) := by decide +kernel
theorem dX0_moreThan_28 : decode cX0_moreThan 28 = .ok (.goto (-24), 3) := by decide +kernel
theorem dX0_moreThan_31 : decode cX0_moreThan 31 = .ok (.iload_n 2, 1) := by decide +kernel
theorem dX0_moreThan_32 : decode cX0_moreThan 32 = .ok (.ireturn, 1) := by decide +kernel
theorem dX0_lessThan_0 : decode cX0_lessThan 0 = .ok (.iconst 0, 1) := by decide +kernel
theorem dX0_lessThan_1 : decode cX0_lessThan 1 = .ok (.istore_n 2, 1) := by decide +kernel
theorem dX0_lessThan_2 : decode cX0_lessThan 2 = .ok (.iconst 0, 1) := by decide +kernel
theorem dX0_lessThan_3 : decode cX0_lessThan 3 = .ok (.istore_n 3, 1) := by decide +kernel
theorem dX0_lessThan_4 : decode cX0_lessThan 4 = .ok (.iload_n 3, 1) := by decide +kernel
theorem dX0_lessThan_5 : decode cX0_lessThan 5 = .ok (.bipush 12, 2) := by decide +kernel
theorem dX0_lessThan_7 : decode cX0_lessThan 7 = .ok (.if_icmp .ge 24, 3) := by decide +kernel
theorem dX0_lessThan_10 : decode cX0_lessThan 10 = .ok (.aload_n 0, 1) := by decide +kernel
theorem dX0_lessThan_11 : decode cX0_lessThan 11 = .ok (.iload_n 3, 1) := by decide +kernel
theorem dX0_lessThan_12 : decode cX0_lessThan 12 = .ok (.iload_n 1, 1) := by decide +kernel
theorem dX0_lessThan_13 : decode cX0_lessThan 13 = .ok (.invokevirtual 81, 3) := by decide +kernel
theorem dX0_lessThan_16 : decode cX0_lessThan 16 = .ok (.ifCond .ge 9, 3) := by decide +kernel
theorem dX0_lessThan_19 : decode cX0_lessThan 19 = .ok (.iload_n 2, 1) := by decide +kernel
theorem dX0_lessThan_20 : decode cX0_lessThan 20 = .ok (.iconst 1, 1) := by decide +kernel
theorem dX0_lessThan_21 : decode cX0_lessThan 21 = .ok (.iload_n 3, 1) := by decide +kernel
theorem dX0_lessThan_22 : decode cX0_lessThan 22 = .ok (.ishl, 1) := by decide +kernel
theorem dX0_lessThan_23 : decode cX0_lessThan 23 = .ok (.ior, 1) := by decide +kernel
theorem dX0_lessThan_24 : decode cX0_lessThan 24 = .ok (.istore_n 2, 1) := by decide +kernel
theorem dX0_lessThan_25 : decode cX0_lessThan 25 = .ok (.iinc 3 1, 3) := by decide +kernel
theorem dX0_lessThan_28 : decode cX0_lessThan 28 = .ok (.goto (-24), 3) := by decide +kernel
theorem dX0_lessThan_31 : decode cX0_lessThan 31 = .ok (.iload_n 2, 1) := by decide +kernel
theorem dX0_lessThan_32 : decode cX0_lessThan 32 = .ok (.ireturn, 1) := by decide +kernel
theorem dX0_leastWeight_0 : decode cX0_leastWeight 0 = .ok (.iconst 0, 1) := by decide +kernel
theorem dX0_leastWeight_1 : decode cX0_leastWeight 1 = .ok (.istore_n 2, 1) := by decide +kernel
theorem dX0_leastWeight_2 : decode cX0_leastWeight 2 = .ok (.iconst 0, 1) := by decide +kernel
theorem dX0_leastWeight_3 : decode cX0_leastWeight 3 = .ok (.istore_n 3, 1) := by decide +kernel
theorem dX0_leastWeight_4 : decode cX0_leastWeight 4 = .ok (.iload_n 3, 1) := by decide +kernel
theorem dX0_leastWeight_5 : decode cX0_leastWeight 5 = .ok (.bipush 12, 2) := by decide +kernel
theorem dX0_leastWeight_7 : decode cX0_leastWeight 7 = .ok (.if_icmp .ge 21, 3) := by decide +kernel
theorem dX0_leastWeight_10 : decode cX0_leastWeight 10 = .ok (.iload_n 2, 1) := by decide +kernel
theorem dX0_leastWeight_11 : decode cX0_leastWeight 11 = .ok (.aload_n 0, 1) := by decide +kernel
theorem dX0_leastWeight_12 : decode cX0_leastWeight 12 = .ok (.iload_n 3, 1) := by decide +kernel
theorem dX0_leastWeight_13 : decode cX0_leastWeight 13 = .ok (.iload_n 1, 1) := by decide +kernel
theorem dX0_leastWeight_14 : decode cX0_leastWeight 14 = .ok (.invokevirtual 81, 3) := by decide +kernel
theorem dX0_leastWeight_17 : decode cX0_leastWeight 17 = .ok (.ineg, 1) := by decide +kernel
theorem dX0_leastWeight_18 : decode cX0_leastWeight 18 = .ok (.invokestatic 84, 3) := by decide +kernel
theorem dX0_leastWeight_21 : decode cX0_leastWeight 21 = .ok (.istore_n 2, 1) := by decide +kernel
theorem dX0_leastWeight_22 : decode cX0_leastWeight 22 = .ok (.iinc 3 1, 3) := by decide +kernel
theorem dX0_leastWeight_25 : decode cX0_leastWeight 25 = .ok (.goto (-21), 3) := by decide +kernel
theorem dX0_leastWeight_28 : decode cX0_leastWeight 28 = .ok (.iload_n 2, 1) := by decide +kernel
theorem dX0_leastWeight_29 : decode cX0_leastWeight 29 = .ok (.ireturn, 1) := by decide +kernel
theorem dX0_chainsFrom_0 : decode cX0_chainsFrom 0 = .ok (.aload_n 1, 1) := by decide +kernel
theorem dX0_chainsFrom_1 : decode cX0_chainsFrom 1 = .ok (.iconst 0, 1) := by decide +kernel
theorem dX0_chainsFrom_2 : decode cX0_chainsFrom 2 = .ok (.bipush 12, 2) := by decide +kernel
theorem dX0_chainsFrom_4 : decode cX0_chainsFrom 4 = .ok (.iconst 1, 1) := by decide +kernel
theorem dX0_chainsFrom_5 : decode cX0_chainsFrom 5 = .ok (.invokestatic 87, 3) := by decide +kernel
theorem dX0_chainsFrom_8 : decode cX0_chainsFrom 8 = .ok (.iconst 1, 1) := by decide +kernel
theorem dX0_chainsFrom_9 : decode cX0_chainsFrom 9 = .ok (.istore_n 2, 1) := by decide +kernel
theorem dX0_chainsFrom_10 : decode cX0_chainsFrom 10 = .ok (.iload_n 2, 1) := by decide +kernel
theorem dX0_chainsFrom_11 : decode cX0_chainsFrom 11 = .ok (.bipush 12, 2) := by decide +kernel
theorem dX0_chainsFrom_13 : decode cX0_chainsFrom 13 = .ok (.if_icmp .ge 64, 3) := by decide +kernel
theorem dX0_chainsFrom_16 : decode cX0_chainsFrom 16 = .ok (.iconst 0, 1) := by decide +kernel
theorem dX0_chainsFrom_17 : decode cX0_chainsFrom 17 = .ok (.istore_n 3, 1) := by decide +kernel
theorem dX0_chainsFrom_18 : decode cX0_chainsFrom 18 = .ok (.iload_n 3, 1) := by decide +kernel
theorem dX0_chainsFrom_19 : decode cX0_chainsFrom 19 = .ok (.bipush 12, 2) := by decide +kernel
theorem dX0_chainsFrom_21 : decode cX0_chainsFrom 21 = .ok (.if_icmp .ge 50, 3) := by decide +kernel
theorem dX0_chainsFrom_24 : decode cX0_chainsFrom 24 = .ok (.iconst 0, 1) := by decide +kernel
theorem dX0_chainsFrom_25 : decode cX0_chainsFrom 25 = .ok (.istore 4, 2) := by decide +kernel
theorem dX0_chainsFrom_27 : decode cX0_chainsFrom 27 = .ok (.iload 4, 2) := by decide +kernel
theorem dX0_chainsFrom_29 : decode cX0_chainsFrom 29 = .ok (.bipush 12, 2) := by decide +kernel
theorem dX0_chainsFrom_31 : decode cX0_chainsFrom 31 = .ok (.if_icmp .ge 34, 3) := by decide +kernel
theorem dX0_chainsFrom_34 : decode cX0_chainsFrom 34 = .ok (.aload_n 0, 1) := by decide +kernel
theorem dX0_chainsFrom_35 : decode cX0_chainsFrom 35 = .ok (.iload_n 3, 1) := by decide +kernel
theorem dX0_chainsFrom_36 : decode cX0_chainsFrom 36 = .ok (.iload 4, 2) := by decide +kernel
theorem dX0_chainsFrom_38 : decode cX0_chainsFrom 38 = .ok (.invokevirtual 81, 3) := by decide +kernel
theorem dX0_chainsFrom_41 : decode cX0_chainsFrom 41 = .ok (.ifCond .ge 18, 3) := by decide +kernel
theorem dX0_chainsFrom_44 : decode cX0_chainsFrom 44 = .ok (.aload_n 1, 1) := by decide +kernel
theorem dX0_chainsFrom_45 : decode cX0_chainsFrom 45 = .ok (.iload_n 3, 1) := by decide +kernel
theorem dX0_chainsFrom_46 : decode cX0_chainsFrom 46 = .ok (.aload_n 1, 1) := by decide +kernel
theorem dX0_chainsFrom_47 : decode cX0_chainsFrom 47 = .ok (.iload_n 3, 1) := by decide +kernel
theorem dX0_chainsFrom_48 : decode cX0_chainsFrom 48 = .ok (.iaload, 1) := by decide +kernel
theorem dX0_chainsFrom_49 : decode cX0_chainsFrom 49 = .ok (.aload_n 1, 1) := by decide +kernel
theorem dX0_chainsFrom_50 : decode cX0_chainsFrom 50 = .ok (.iload 4, 2) := by decide +kernel
theorem dX0_chainsFrom_52 : decode cX0_chainsFrom 52 = .ok (.iaload, 1) := by decide +kernel
theorem dX0_chainsFrom_53 : decode cX0_chainsFrom 53 = .ok (.iconst 1, 1) := by decide +kernel
theorem dX0_chainsFrom_54 : decode cX0_chainsFrom 54 = .ok (.iadd, 1) := by decide +kernel
theorem dX0_chainsFrom_55 : decode cX0_chainsFrom 55 = .ok (.invokestatic 84, 3) := by decide +kernel
theorem dX0_chainsFrom_58 : decode cX0_chainsFrom 58 = .ok (.iastore, 1) := by decide +kernel
theorem dX0_chainsFrom_59 : decode cX0_chainsFrom 59 = .ok (.iinc 4 1, 3) := by decide +kernel
theorem dX0_chainsFrom_62 : decode cX0_chainsFrom 62 = .ok (.goto (-35), 3) := by decide +kernel
theorem dX0_chainsFrom_65 : decode cX0_chainsFrom 65 = .ok (.iinc 3 1, 3) := by decide +kernel
theorem dX0_chainsFrom_68 : decode cX0_chainsFrom 68 = .ok (.goto (-50), 3) := by decide +kernel
theorem dX0_chainsFrom_71 : decode cX0_chainsFrom 71 = .ok (.iinc 2 1, 3) := by decide +kernel
theorem dX0_chainsFrom_74 : decode cX0_chainsFrom 74 = .ok (.goto (-64), 3) := by decide +kernel
theorem dX0_chainsFrom_77 : decode cX0_chainsFrom 77 = .ok (.return_, 1) := by decide +kernel
theorem dX0_ordersOf_0 : decode cX0_ordersOf 0 = .ok (.iconst 0, 1) := by decide +kernel
theorem dX0_ordersOf_1 : decode cX0_ordersOf 1 = .ok (.istore_n 3, 1) := by decide +kernel
theorem dX0_ordersOf_2 : decode cX0_ordersOf 2 = .ok (.iload_n 3, 1) := by decide +kernel
theorem dX0_ordersOf_3 : decode cX0_ordersOf 3 = .ok (.bipush 12, 2) := by decide +kernel
theorem dX0_ordersOf_5 : decode cX0_ordersOf 5 = .ok (.if_icmp .ge 20, 3) := by decide +kernel
theorem dX0_ordersOf_8 : decode cX0_ordersOf 8 = .ok (.aload_n 0, 1) := by decide +kernel
theorem dX0_ordersOf_9 : decode cX0_ordersOf 9 = .ok (.getfield 18, 3) := by decide +kernel
theorem dX0_ordersOf_12 : decode cX0_ordersOf 12 = .ok (.iload_n 3, 1) := by decide +kernel
theorem dX0_ordersOf_13 : decode cX0_ordersOf 13 = .ok (.aload_n 0, 1) := by decide +kernel
theorem dX0_ordersOf_14 : decode cX0_ordersOf 14 = .ok (.iload_n 3, 1) := by decide +kernel
theorem dX0_ordersOf_15 : decode cX0_ordersOf 15 = .ok (.invokevirtual 90, 3) := by decide +kernel
theorem dX0_ordersOf_18 : decode cX0_ordersOf 18 = .ok (.iastore, 1) := by decide +kernel
theorem dX0_ordersOf_19 : decode cX0_ordersOf 19 = .ok (.iinc 3 1, 3) := by decide +kernel
theorem dX0_ordersOf_22 : decode cX0_ordersOf 22 = .ok (.goto (-20), 3) := by decide +kernel
theorem dX0_ordersOf_25 : decode cX0_ordersOf 25 = .ok (.aload_n 2, 1) := by decide +kernel
theorem dX0_ordersOf_26 : decode cX0_ordersOf 26 = .ok (.iconst 0, 1) := by decide +kernel
theorem dX0_ordersOf_27 : decode cX0_ordersOf 27 = .ok (.iconst 1, 1) := by decide +kernel
theorem dX0_ordersOf_28 : decode cX0_ordersOf 28 = .ok (.iastore, 1) := by decide +kernel
theorem dX0_ordersOf_29 : decode cX0_ordersOf 29 = .ok (.iconst 1, 1) := by decide +kernel
theorem dX0_ordersOf_30 : decode cX0_ordersOf 30 = .ok (.istore_n 3, 1) := by decide +kernel
theorem dX0_ordersOf_31 : decode cX0_ordersOf 31 = .ok (.iload_n 3, 1) := by decide +kernel
theorem dX0_ordersOf_32 : decode cX0_ordersOf 32 = .ok (.iload_n 1, 1) := by decide +kernel
theorem dX0_ordersOf_33 : decode cX0_ordersOf 33 = .ok (.if_icmp .gt 30, 3) := by decide +kernel
theorem dX0_ordersOf_36 : decode cX0_ordersOf 36 = .ok (.aload_n 2, 1) := by decide +kernel
theorem dX0_ordersOf_37 : decode cX0_ordersOf 37 = .ok (.iload_n 3, 1) := by decide +kernel
theorem dX0_ordersOf_38 : decode cX0_ordersOf 38 = .ok (.iload_n 3, 1) := by decide +kernel
theorem dX0_ordersOf_39 : decode cX0_ordersOf 39 = .ok (.iload_n 1, 1) := by decide +kernel
theorem dX0_ordersOf_40 : decode cX0_ordersOf 40 = .ok (.iconst (-1), 1) := by decide +kernel
theorem dX0_ordersOf_41 : decode cX0_ordersOf 41 = .ok (.ixor, 1) := by decide +kernel
theorem dX0_ordersOf_42 : decode cX0_ordersOf 42 = .ok (.iand, 1) := by decide +kernel
theorem dX0_ordersOf_43 : decode cX0_ordersOf 43 = .ok (.ifCond .ne 12, 3) := by decide +kernel
theorem dX0_ordersOf_46 : decode cX0_ordersOf 46 = .ok (.aload_n 0, 1) := by decide +kernel
theorem dX0_ordersOf_47 : decode cX0_ordersOf 47 = .ok (.iload_n 3, 1) := by decide +kernel
theorem dX0_ordersOf_48 : decode cX0_ordersOf 48 = .ok (.aload_n 2, 1) := by decide +kernel
theorem dX0_ordersOf_49 : decode cX0_ordersOf 49 = .ok (.invokevirtual 94, 3) := by decide +kernel
theorem dX0_ordersOf_52 : decode cX0_ordersOf 52 = .ok (.goto 4, 3) := by decide +kernel
theorem dX0_ordersOf_55 : decode cX0_ordersOf 55 = .ok (.iconst 0, 1) := by decide +kernel
theorem dX0_ordersOf_56 : decode cX0_ordersOf 56 = .ok (.iastore, 1) := by decide +kernel
theorem dX0_ordersOf_57 : decode cX0_ordersOf 57 = .ok (.iinc 3 1, 3) := by decide +kernel
theorem dX0_ordersOf_60 : decode cX0_ordersOf 60 = .ok (.goto (-29), 3) := by decide +kernel
theorem dX0_ordersOf_63 : decode cX0_ordersOf 63 = .ok (.aload_n 2, 1) := by decide +kernel
theorem dX0_ordersOf_64 : decode cX0_ordersOf 64 = .ok (.iload_n 1, 1) := by decide +kernel
theorem dX0_ordersOf_65 : decode cX0_ordersOf 65 = .ok (.iaload, 1) := by decide +kernel
theorem dX0_ordersOf_66 : decode cX0_ordersOf 66 = .ok (.ireturn, 1) := by decide +kernel
theorem dX0_ordersByLast_0 : decode cX0_ordersByLast 0 = .ok (.iconst 0, 1) := by decide +kernel
theorem dX0_ordersByLast_1 : decode cX0_ordersByLast 1 = .ok (.istore_n 3, 1) := by decide +kernel
theorem dX0_ordersByLast_2 : decode cX0_ordersByLast 2 = .ok (.iconst 0, 1) := by decide +kernel
theorem dX0_ordersByLast_3 : decode cX0_ordersByLast 3 = .ok (.istore 4, 2) := by decide +kernel
theorem dX0_ordersByLast_5 : decode cX0_ordersByLast 5 = .ok (.iload 4, 2) := by decide +kernel
theorem dX0_ordersByLast_7 : decode cX0_ordersByLast 7 = .ok (.bipush 12, 2) := by decide +kernel
theorem dX0_ordersByLast_9 : decode cX0_ordersByLast 9 = .ok (.if_icmp .ge 43, 3) := by decide +kernel
theorem dX0_ordersByLast_12 : decode cX0_ordersByLast 12 = .ok (.iload_n 1, 1) := by decide +kernel
theorem dX0_ordersByLast_13 : decode cX0_ordersByLast 13 = .ok (.iload 4, 2) := by decide +kernel
theorem dX0_ordersByLast_15 : decode cX0_ordersByLast 15 = .ok (.invokestatic 98, 3) := by decide +kernel
theorem dX0_ordersByLast_18 : decode cX0_ordersByLast 18 = .ok (.ifCond .eq 28, 3) := by decide +kernel
theorem dX0_ordersByLast_21 : decode cX0_ordersByLast 21 = .ok (.aload_n 0, 1) := by decide +kernel
theorem dX0_ordersByLast_22 : decode cX0_ordersByLast 22 = .ok (.getfield 18, 3) := by decide +kernel
theorem dX0_ordersByLast_25 : decode cX0_ordersByLast 25 = .ok (.iload 4, 2) := by decide +kernel
theorem dX0_ordersByLast_27 : decode cX0_ordersByLast 27 = .ok (.iaload, 1) := by decide +kernel
theorem dX0_ordersByLast_28 : decode cX0_ordersByLast 28 = .ok (.iload_n 1, 1) := by decide +kernel
theorem dX0_ordersByLast_29 : decode cX0_ordersByLast 29 = .ok (.iand, 1) := by decide +kernel
theorem dX0_ordersByLast_30 : decode cX0_ordersByLast 30 = .ok (.ifCond .ne 16, 3) := by decide +kernel
theorem dX0_ordersByLast_33 : decode cX0_ordersByLast 33 = .ok (.iload_n 3, 1) := by decide +kernel
theorem dX0_ordersByLast_34 : decode cX0_ordersByLast 34 = .ok (.aload_n 2, 1) := by decide +kernel
theorem dX0_ordersByLast_35 : decode cX0_ordersByLast 35 = .ok (.iload_n 1, 1) := by decide +kernel
theorem dX0_ordersByLast_36 : decode cX0_ordersByLast 36 = .ok (.iconst 1, 1) := by decide +kernel
theorem dX0_ordersByLast_37 : decode cX0_ordersByLast 37 = .ok (.iload 4, 2) := by decide +kernel
theorem dX0_ordersByLast_39 : decode cX0_ordersByLast 39 = .ok (.ishl, 1) := by decide +kernel
theorem dX0_ordersByLast_40 : decode cX0_ordersByLast 40 = .ok (.iconst (-1), 1) := by decide +kernel
theorem dX0_ordersByLast_41 : decode cX0_ordersByLast 41 = .ok (.ixor, 1) := by decide +kernel
theorem dX0_ordersByLast_42 : decode cX0_ordersByLast 42 = .ok (.iand, 1) := by decide +kernel
theorem dX0_ordersByLast_43 : decode cX0_ordersByLast 43 = .ok (.iaload, 1) := by decide +kernel
theorem dX0_ordersByLast_44 : decode cX0_ordersByLast 44 = .ok (.iadd, 1) := by decide +kernel
theorem dX0_ordersByLast_45 : decode cX0_ordersByLast 45 = .ok (.istore_n 3, 1) := by decide +kernel
theorem dX0_ordersByLast_46 : decode cX0_ordersByLast 46 = .ok (.iinc 4 1, 3) := by decide +kernel
theorem dX0_ordersByLast_49 : decode cX0_ordersByLast 49 = .ok (.goto (-44), 3) := by decide +kernel
theorem dX0_ordersByLast_52 : decode cX0_ordersByLast 52 = .ok (.iload_n 3, 1) := by decide +kernel
theorem dX0_ordersByLast_53 : decode cX0_ordersByLast 53 = .ok (.ireturn, 1) := by decide +kernel
theorem dX0_waysToWeigh_0 : decode cX0_waysToWeigh 0 = .ok (.iload_n 3, 1) := by decide +kernel
theorem dX0_waysToWeigh_1 : decode cX0_waysToWeigh 1 = .ok (.ifCond .ne 5, 3) := by decide +kernel
theorem dX0_waysToWeigh_4 : decode cX0_waysToWeigh 4 = .ok (.iconst 1, 1) := by decide +kernel
theorem dX0_waysToWeigh_5 : decode cX0_waysToWeigh 5 = .ok (.ireturn, 1) := by decide +kernel
theorem dX0_waysToWeigh_6 : decode cX0_waysToWeigh 6 = .ok (.iload_n 3, 1) := by decide +kernel
theorem dX0_waysToWeigh_7 : decode cX0_waysToWeigh 7 = .ok (.invokestatic 102, 3) := by decide +kernel
theorem dX0_waysToWeigh_10 : decode cX0_waysToWeigh 10 = .ok (.istore 5, 2) := by decide +kernel
theorem dX0_waysToWeigh_12 : decode cX0_waysToWeigh 12 = .ok (.iconst 1, 1) := by decide +kernel
theorem dX0_waysToWeigh_13 : decode cX0_waysToWeigh 13 = .ok (.iload 5, 2) := by decide +kernel
theorem dX0_waysToWeigh_15 : decode cX0_waysToWeigh 15 = .ok (.ishl, 1) := by decide +kernel
theorem dX0_waysToWeigh_16 : decode cX0_waysToWeigh 16 = .ok (.istore 6, 2) := by decide +kernel
theorem dX0_waysToWeigh_18 : decode cX0_waysToWeigh 18 = .ok (.iconst 0, 1) := by decide +kernel
theorem dX0_waysToWeigh_19 : decode cX0_waysToWeigh 19 = .ok (.istore 7, 2) := by decide +kernel
theorem dX0_waysToWeigh_21 : decode cX0_waysToWeigh 21 = .ok (.iconst 0, 1) := by decide +kernel
theorem dX0_waysToWeigh_22 : decode cX0_waysToWeigh 22 = .ok (.istore 8, 2) := by decide +kernel
theorem dX0_waysToWeigh_24 : decode cX0_waysToWeigh 24 = .ok (.iload 8, 2) := by decide +kernel
theorem dX0_waysToWeigh_26 : decode cX0_waysToWeigh 26 = .ok (.iload 4, 2) := by decide +kernel
theorem dX0_waysToWeigh_28 : decode cX0_waysToWeigh 28 = .ok (.if_icmp .gt 48, 3) := by decide +kernel
theorem dX0_waysToWeigh_31 : decode cX0_waysToWeigh 31 = .ok (.aload_n 1, 1) := by decide +kernel
theorem dX0_waysToWeigh_32 : decode cX0_waysToWeigh 32 = .ok (.iload 5, 2) := by decide +kernel
theorem dX0_waysToWeigh_34 : decode cX0_waysToWeigh 34 = .ok (.iload 8, 2) := by decide +kernel
theorem dX0_waysToWeigh_36 : decode cX0_waysToWeigh 36 = .ok (.iastore, 1) := by decide +kernel
theorem dX0_waysToWeigh_37 : decode cX0_waysToWeigh 37 = .ok (.aload_n 0, 1) := by decide +kernel
theorem dX0_waysToWeigh_38 : decode cX0_waysToWeigh 38 = .ok (.aload_n 1, 1) := by decide +kernel
theorem dX0_waysToWeigh_39 : decode cX0_waysToWeigh 39 = .ok (.iload_n 2, 1) := by decide +kernel
theorem dX0_waysToWeigh_40 : decode cX0_waysToWeigh 40 = .ok (.iload 5, 2) := by decide +kernel
theorem dX0_waysToWeigh_42 : decode cX0_waysToWeigh 42 = .ok (.invokestatic 105, 3) := by decide +kernel
theorem dX0_waysToWeigh_45 : decode cX0_waysToWeigh 45 = .ok (.ifCond .eq 25, 3) := by decide +kernel
theorem dX0_waysToWeigh_48 : decode cX0_waysToWeigh 48 = .ok (.iload 7, 2) := by decide +kernel
theorem dX0_waysToWeigh_50 : decode cX0_waysToWeigh 50 = .ok (.aload_n 0, 1) := by decide +kernel
theorem dX0_waysToWeigh_51 : decode cX0_waysToWeigh 51 = .ok (.aload_n 1, 1) := by decide +kernel
theorem dX0_waysToWeigh_52 : decode cX0_waysToWeigh 52 = .ok (.iload_n 2, 1) := by decide +kernel
theorem dX0_waysToWeigh_53 : decode cX0_waysToWeigh 53 = .ok (.iload 6, 2) := by decide +kernel
theorem dX0_waysToWeigh_55 : decode cX0_waysToWeigh 55 = .ok (.ior, 1) := by decide +kernel
theorem dX0_waysToWeigh_56 : decode cX0_waysToWeigh 56 = .ok (.iload_n 3, 1) := by decide +kernel
theorem dX0_waysToWeigh_57 : decode cX0_waysToWeigh 57 = .ok (.iload 6, 2) := by decide +kernel
theorem dX0_waysToWeigh_59 : decode cX0_waysToWeigh 59 = .ok (.iconst (-1), 1) := by decide +kernel
theorem dX0_waysToWeigh_60 : decode cX0_waysToWeigh 60 = .ok (.ixor, 1) := by decide +kernel
theorem dX0_waysToWeigh_61 : decode cX0_waysToWeigh 61 = .ok (.iand, 1) := by decide +kernel
theorem dX0_waysToWeigh_62 : decode cX0_waysToWeigh 62 = .ok (.iload 4, 2) := by decide +kernel
theorem dX0_waysToWeigh_64 : decode cX0_waysToWeigh 64 = .ok (.invokestatic 109, 3) := by decide +kernel
theorem dX0_waysToWeigh_67 : decode cX0_waysToWeigh 67 = .ok (.iadd, 1) := by decide +kernel
theorem dX0_waysToWeigh_68 : decode cX0_waysToWeigh 68 = .ok (.istore 7, 2) := by decide +kernel
theorem dX0_waysToWeigh_70 : decode cX0_waysToWeigh 70 = .ok (.iinc 8 1, 3) := by decide +kernel
theorem dX0_waysToWeigh_73 : decode cX0_waysToWeigh 73 = .ok (.goto (-49), 3) := by decide +kernel
theorem dX0_waysToWeigh_76 : decode cX0_waysToWeigh 76 = .ok (.iload 7, 2) := by decide +kernel
theorem dX0_waysToWeigh_78 : decode cX0_waysToWeigh 78 = .ok (.ireturn, 1) := by decide +kernel
theorem dX0_fits_0 : decode cX0_fits 0 = .ok (.iconst 0, 1) := by decide +kernel
theorem dX0_fits_1 : decode cX0_fits 1 = .ok (.istore 4, 2) := by decide +kernel
theorem dX0_fits_3 : decode cX0_fits 3 = .ok (.iload 4, 2) := by decide +kernel
theorem dX0_fits_5 : decode cX0_fits 5 = .ok (.bipush 12, 2) := by decide +kernel
theorem dX0_fits_7 : decode cX0_fits 7 = .ok (.if_icmp .ge 59, 3) := by decide +kernel
theorem dX0_fits_10 : decode cX0_fits 10 = .ok (.iload_n 2, 1) := by decide +kernel
theorem dX0_fits_11 : decode cX0_fits 11 = .ok (.iload 4, 2) := by decide +kernel
theorem dX0_fits_13 : decode cX0_fits 13 = .ok (.invokestatic 98, 3) := by decide +kernel
theorem dX0_fits_16 : decode cX0_fits 16 = .ok (.ifCond .eq 44, 3) := by decide +kernel
theorem dX0_fits_19 : decode cX0_fits 19 = .ok (.aload_n 1, 1) := by decide +kernel
theorem dX0_fits_20 : decode cX0_fits 20 = .ok (.iload_n 3, 1) := by decide +kernel
theorem dX0_fits_21 : decode cX0_fits 21 = .ok (.iaload, 1) := by decide +kernel
theorem dX0_fits_22 : decode cX0_fits 22 = .ok (.aload_n 1, 1) := by decide +kernel
theorem dX0_fits_23 : decode cX0_fits 23 = .ok (.iload 4, 2) := by decide +kernel
theorem dX0_fits_25 : decode cX0_fits 25 = .ok (.iaload, 1) := by decide +kernel
theorem dX0_fits_26 : decode cX0_fits 26 = .ok (.isub, 1) := by decide +kernel
theorem dX0_fits_27 : decode cX0_fits 27 = .ok (.istore 5, 2) := by decide +kernel
theorem dX0_fits_29 : decode cX0_fits 29 = .ok (.iload 5, 2) := by decide +kernel
theorem dX0_fits_31 : decode cX0_fits 31 = .ok (.aload_n 0, 1) := by decide +kernel
theorem dX0_fits_32 : decode cX0_fits 32 = .ok (.iload_n 3, 1) := by decide +kernel
theorem dX0_fits_33 : decode cX0_fits 33 = .ok (.bipush 12, 2) := by decide +kernel
theorem dX0_fits_35 : decode cX0_fits 35 = .ok (.imul, 1) := by decide +kernel
theorem dX0_fits_36 : decode cX0_fits 36 = .ok (.iload 4, 2) := by decide +kernel
theorem dX0_fits_38 : decode cX0_fits 38 = .ok (.iadd, 1) := by decide +kernel
theorem dX0_fits_39 : decode cX0_fits 39 = .ok (.iaload, 1) := by decide +kernel
theorem dX0_fits_40 : decode cX0_fits 40 = .ok (.if_icmp .gt 18, 3) := by decide +kernel
theorem dX0_fits_43 : decode cX0_fits 43 = .ok (.iload 5, 2) := by decide +kernel
theorem dX0_fits_45 : decode cX0_fits 45 = .ok (.ineg, 1) := by decide +kernel
theorem dX0_fits_46 : decode cX0_fits 46 = .ok (.aload_n 0, 1) := by decide +kernel
theorem dX0_fits_47 : decode cX0_fits 47 = .ok (.iload 4, 2) := by decide +kernel
theorem dX0_fits_49 : decode cX0_fits 49 = .ok (.bipush 12, 2) := by decide +kernel
theorem dX0_fits_51 : decode cX0_fits 51 = .ok (.imul, 1) := by decide +kernel
theorem dX0_fits_52 : decode cX0_fits 52 = .ok (.iload_n 3, 1) := by decide +kernel
theorem dX0_fits_53 : decode cX0_fits 53 = .ok (.iadd, 1) := by decide +kernel
theorem dX0_fits_54 : decode cX0_fits 54 = .ok (.iaload, 1) := by decide +kernel
theorem dX0_fits_55 : decode cX0_fits 55 = .ok (.if_icmp .le 5, 3) := by decide +kernel
theorem dX0_fits_58 : decode cX0_fits 58 = .ok (.iconst 0, 1) := by decide +kernel
theorem dX0_fits_59 : decode cX0_fits 59 = .ok (.ireturn, 1) := by decide +kernel
theorem dX0_fits_60 : decode cX0_fits 60 = .ok (.iinc 4 1, 3) := by decide +kernel
theorem dX0_fits_63 : decode cX0_fits 63 = .ok (.goto (-60), 3) := by decide +kernel
theorem dX0_fits_66 : decode cX0_fits 66 = .ok (.iconst 1, 1) := by decide +kernel
theorem dX0_fits_67 : decode cX0_fits 67 = .ok (.ireturn, 1) := by decide +kernel
theorem dX1_init_0 : decode cX1_init 0 = .ok (.aload_n 0, 1) := by decide +kernel
theorem dX1_init_1 : decode cX1_init 1 = .ok (.invokespecial 3, 3) := by decide +kernel
theorem dX1_init_4 : decode cX1_init 4 = .ok (.aload_n 0, 1) := by decide +kernel
theorem dX1_init_5 : decode cX1_init 5 = .ok (.iconst 0, 1) := by decide +kernel
theorem dX1_init_6 : decode cX1_init 6 = .ok (.putfield 9, 3) := by decide +kernel
theorem dX1_init_9 : decode cX1_init 9 = .ok (.aload_n 0, 1) := by decide +kernel
theorem dX1_init_10 : decode cX1_init 10 = .ok (.bipush 40, 2) := by decide +kernel
theorem dX1_init_12 : decode cX1_init 12 = .ok (.newarray .int, 2) := by decide +kernel
theorem dX1_init_14 : decode cX1_init 14 = .ok (.putfield 15, 3) := by decide +kernel
theorem dX1_init_17 : decode cX1_init 17 = .ok (.aload_n 0, 1) := by decide +kernel
theorem dX1_init_18 : decode cX1_init 18 = .ok (.bipush 40, 2) := by decide +kernel
theorem dX1_init_20 : decode cX1_init 20 = .ok (.newarray .int, 2) := by decide +kernel
theorem dX1_init_22 : decode cX1_init 22 = .ok (.putfield 19, 3) := by decide +kernel
theorem dX1_init_25 : decode cX1_init 25 = .ok (.aload_n 0, 1) := by decide +kernel
theorem dX1_init_26 : decode cX1_init 26 = .ok (.bipush 40, 2) := by decide +kernel
theorem dX1_init_28 : decode cX1_init 28 = .ok (.newarray .int, 2) := by decide +kernel
theorem dX1_init_30 : decode cX1_init 30 = .ok (.putfield 22, 3) := by decide +kernel
theorem dX1_init_33 : decode cX1_init 33 = .ok (.aload_n 0, 1) := by decide +kernel
theorem dX1_init_34 : decode cX1_init 34 = .ok (.bipush 40, 2) := by decide +kernel
theorem dX1_init_36 : decode cX1_init 36 = .ok (.newarray .int, 2) := by decide +kernel
theorem dX1_init_38 : decode cX1_init 38 = .ok (.putfield 25, 3) := by decide +kernel
theorem dX1_init_41 : decode cX1_init 41 = .ok (.aload_n 0, 1) := by decide +kernel
theorem dX1_init_42 : decode cX1_init 42 = .ok (.bipush 12, 2) := by decide +kernel
theorem dX1_init_44 : decode cX1_init 44 = .ok (.newarray .int, 2) := by decide +kernel
theorem dX1_init_46 : decode cX1_init 46 = .ok (.putfield 28, 3) := by decide +kernel
theorem dX1_init_49 : decode cX1_init 49 = .ok (.aload_n 0, 1) := by decide +kernel
theorem dX1_init_50 : decode cX1_init 50 = .ok (.bipush 12, 2) := by decide +kernel
theorem dX1_init_52 : decode cX1_init 52 = .ok (.newarray .int, 2) := by decide +kernel
theorem dX1_init_54 : decode cX1_init 54 = .ok (.putfield 31, 3) := by decide +kernel
theorem dX1_init_57 : decode cX1_init 57 = .ok (.aload_n 0, 1) := by decide +kernel
theorem dX1_init_58 : decode cX1_init 58 = .ok (.invokevirtual 34, 3) := by decide +kernel
theorem dX1_init_61 : decode cX1_init 61 = .ok (.return_, 1) := by decide +kernel
theorem dX1_clear_0 : decode cX1_clear 0 = .ok (.aload_n 0, 1) := by decide +kernel
theorem dX1_clear_1 : decode cX1_clear 1 = .ok (.iconst 0, 1) := by decide +kernel
theorem dX1_clear_2 : decode cX1_clear 2 = .ok (.putfield 9, 3) := by decide +kernel
theorem dX1_clear_5 : decode cX1_clear 5 = .ok (.iconst 0, 1) := by decide +kernel
theorem dX1_clear_6 : decode cX1_clear 6 = .ok (.istore_n 1, 1) := by decide +kernel
theorem dX1_clear_7 : decode cX1_clear 7 = .ok (.iload_n 1, 1) := by decide +kernel
theorem dX1_clear_8 : decode cX1_clear 8 = .ok (.bipush 12, 2) := by decide +kernel
theorem dX1_clear_10 : decode cX1_clear 10 = .ok (.if_icmp .ge 23, 3) := by decide +kernel
theorem dX1_clear_13 : decode cX1_clear 13 = .ok (.aload_n 0, 1) := by decide +kernel
theorem dX1_clear_14 : decode cX1_clear 14 = .ok (.getfield 28, 3) := by decide +kernel
theorem dX1_clear_17 : decode cX1_clear 17 = .ok (.iload_n 1, 1) := by decide +kernel
theorem dX1_clear_18 : decode cX1_clear 18 = .ok (.iload_n 1, 1) := by decide +kernel
theorem dX1_clear_19 : decode cX1_clear 19 = .ok (.iastore, 1) := by decide +kernel
theorem dX1_clear_20 : decode cX1_clear 20 = .ok (.aload_n 0, 1) := by decide +kernel
theorem dX1_clear_21 : decode cX1_clear 21 = .ok (.getfield 31, 3) := by decide +kernel
theorem dX1_clear_24 : decode cX1_clear 24 = .ok (.iload_n 1, 1) := by decide +kernel
theorem dX1_clear_25 : decode cX1_clear 25 = .ok (.iconst 0, 1) := by decide +kernel
theorem dX1_clear_26 : decode cX1_clear 26 = .ok (.iastore, 1) := by decide +kernel
theorem dX1_clear_27 : decode cX1_clear 27 = .ok (.iinc 1 1, 3) := by decide +kernel
theorem dX1_clear_30 : decode cX1_clear 30 = .ok (.goto (-23), 3) := by decide +kernel
theorem dX1_clear_33 : decode cX1_clear 33 = .ok (.return_, 1) := by decide +kernel
theorem dX1_read_0 : decode cX1_read 0 = .ok (.aload_n 0, 1) := by decide +kernel
theorem dX1_read_1 : decode cX1_read 1 = .ok (.invokevirtual 34, 3) := by decide +kernel
theorem dX1_read_4 : decode cX1_read 4 = .ok (.aload_n 1, 1) := by decide +kernel
theorem dX1_read_5 : decode cX1_read 5 = .ok (.iload_n 2, 1) := by decide +kernel
theorem dX1_read_6 : decode cX1_read 6 = .ok (.invokevirtual 37, 3) := by decide +kernel
theorem dX1_read_9 : decode cX1_read 9 = .ok (.iconst 0, 1) := by decide +kernel
theorem dX1_read_10 : decode cX1_read 10 = .ok (.istore_n 3, 1) := by decide +kernel
theorem dX1_read_11 : decode cX1_read 11 = .ok (.iload_n 3, 1) := by decide +kernel
theorem dX1_read_12 : decode cX1_read 12 = .ok (.bipush 40, 2) := by decide +kernel
theorem dX1_read_14 : decode cX1_read 14 = .ok (.if_icmp .gt 30, 3) := by decide +kernel
theorem dX1_read_17 : decode cX1_read 17 = .ok (.aload_n 0, 1) := by decide +kernel
theorem dX1_read_18 : decode cX1_read 18 = .ok (.aload_n 1, 1) := by decide +kernel
theorem dX1_read_19 : decode cX1_read 19 = .ok (.invokevirtual 43, 3) := by decide +kernel
theorem dX1_read_22 : decode cX1_read 22 = .ok (.aload_n 1, 1) := by decide +kernel
theorem dX1_read_23 : decode cX1_read 23 = .ok (.invokevirtual 47, 3) := by decide +kernel
theorem dX1_read_26 : decode cX1_read 26 = .ok (.ifCond .eq 6, 3) := by decide +kernel
theorem dX1_read_29 : decode cX1_read 29 = .ok (.goto 15, 3) := by decide +kernel
theorem dX1_read_32 : decode cX1_read 32 = .ok (.aload_n 1, 1) := by decide +kernel
theorem dX1_read_33 : decode cX1_read 33 = .ok (.bipush 59, 2) := by decide +kernel
theorem dX1_read_35 : decode cX1_read 35 = .ok (.invokevirtual 51, 3) := by decide +kernel
theorem dX1_read_38 : decode cX1_read 38 = .ok (.iinc 3 1, 3) := by decide +kernel
theorem dX1_read_41 : decode cX1_read 41 = .ok (.goto (-30), 3) := by decide +kernel
theorem dX1_read_44 : decode cX1_read 44 = .ok (.aload_n 1, 1) := by decide +kernel
theorem dX1_read_45 : decode cX1_read 45 = .ok (.aload_n 0, 1) := by decide +kernel
theorem dX1_read_46 : decode cX1_read 46 = .ok (.getfield 9, 3) := by decide +kernel
theorem dX1_read_49 : decode cX1_read 49 = .ok (.invokevirtual 54, 3) := by decide +kernel
theorem dX1_read_52 : decode cX1_read 52 = .ok (.ireturn, 1) := by decide +kernel
theorem dX1_readLine_0 : decode cX1_readLine 0 = .ok (.aload_n 1, 1) := by decide +kernel
theorem dX1_readLine_1 : decode cX1_readLine 1 = .ok (.getfield 58, 3) := by decide +kernel
theorem dX1_readLine_4 : decode cX1_readLine 4 = .ok (.istore_n 2, 1) := by decide +kernel
theorem dX1_readLine_5 : decode cX1_readLine 5 = .ok (.aload_n 1, 1) := by decide +kernel
theorem dX1_readLine_6 : decode cX1_readLine 6 = .ok (.bipush 97, 2) := by decide +kernel
theorem dX1_readLine_8 : decode cX1_readLine 8 = .ok (.bipush 12, 2) := by decide +kernel
theorem dX1_readLine_10 : decode cX1_readLine 10 = .ok (.invokevirtual 61, 3) := by decide +kernel
theorem dX1_readLine_13 : decode cX1_readLine 13 = .ok (.istore_n 3, 1) := by decide +kernel
theorem dX1_readLine_14 : decode cX1_readLine 14 = .ok (.aload_n 0, 1) := by decide +kernel
theorem dX1_readLine_15 : decode cX1_readLine 15 = .ok (.getfield 9, 3) := by decide +kernel
theorem dX1_readLine_18 : decode cX1_readLine 18 = .ok (.bipush 40, 2) := by decide +kernel
theorem dX1_readLine_20 : decode cX1_readLine 20 = .ok (.if_icmp .lt 9, 3) := by decide +kernel
theorem dX1_readLine_23 : decode cX1_readLine 23 = .ok (.aload_n 1, 1) := by decide +kernel
theorem dX1_readLine_24 : decode cX1_readLine 24 = .ok (.iconst 4, 1) := by decide +kernel
theorem dX1_readLine_25 : decode cX1_readLine 25 = .ok (.iload_n 2, 1) := by decide +kernel
theorem dX1_readLine_26 : decode cX1_readLine 26 = .ok (.invokevirtual 65, 3) := by decide +kernel
theorem dX1_readLine_29 : decode cX1_readLine 29 = .ok (.aload_n 1, 1) := by decide +kernel
theorem dX1_readLine_30 : decode cX1_readLine 30 = .ok (.bipush 45, 2) := by decide +kernel
theorem dX1_readLine_32 : decode cX1_readLine 32 = .ok (.invokevirtual 51, 3) := by decide +kernel
theorem dX1_readLine_35 : decode cX1_readLine 35 = .ok (.aload_n 1, 1) := by decide +kernel
theorem dX1_readLine_36 : decode cX1_readLine 36 = .ok (.getfield 58, 3) := by decide +kernel
theorem dX1_readLine_39 : decode cX1_readLine 39 = .ok (.istore 4, 2) := by decide +kernel
theorem dX1_readLine_41 : decode cX1_readLine 41 = .ok (.aload_n 1, 1) := by decide +kernel
theorem dX1_readLine_42 : decode cX1_readLine 42 = .ok (.bipush 97, 2) := by decide +kernel
theorem dX1_readLine_44 : decode cX1_readLine 44 = .ok (.bipush 12, 2) := by decide +kernel
theorem dX1_readLine_46 : decode cX1_readLine 46 = .ok (.invokevirtual 61, 3) := by decide +kernel
theorem dX1_readLine_49 : decode cX1_readLine 49 = .ok (.istore 5, 2) := by decide +kernel
theorem dX1_readLine_51 : decode cX1_readLine 51 = .ok (.iload_n 3, 1) := by decide +kernel
theorem dX1_readLine_52 : decode cX1_readLine 52 = .ok (.iload 5, 2) := by decide +kernel
theorem dX1_readLine_54 : decode cX1_readLine 54 = .ok (.if_icmp .ne 11, 3) := by decide +kernel
theorem dX1_readLine_57 : decode cX1_readLine 57 = .ok (.aload_n 1, 1) := by decide +kernel
theorem dX1_readLine_58 : decode cX1_readLine 58 = .ok (.bipush 6, 2) := by decide +kernel
theorem dX1_readLine_60 : decode cX1_readLine 60 = .ok (.iload 4, 2) := by decide +kernel
theorem dX1_readLine_62 : decode cX1_readLine 62 = .ok (.invokevirtual 65, 3) := by decide +kernel
theorem dX1_readLine_65 : decode cX1_readLine 65 = .ok (.aload_n 1, 1) := by decide +kernel
theorem dX1_readLine_66 : decode cX1_readLine 66 = .ok (.invokestatic 69, 3) := by decide +kernel
theorem dX1_readLine_69 : decode cX1_readLine 69 = .ok (.istore 6, 2) := by decide +kernel
theorem dX1_readLine_71 : decode cX1_readLine 71 = .ok (.aload_n 1, 1) := by decide +kernel
theorem dX1_readLine_72 : decode cX1_readLine 72 = .ok (.invokevirtual 73, 3) := by decide +kernel
theorem dX1_readLine_75 : decode cX1_readLine 75 = .ok (.bipush 45, 2) := by decide +kernel
theorem dX1_readLine_77 : decode cX1_readLine 77 = .ok (.if_icmp .ne 7, 3) := by decide +kernel
theorem dX1_readLine_80 : decode cX1_readLine 80 = .ok (.iconst 1, 1) := by decide +kernel
theorem dX1_readLine_81 : decode cX1_readLine 81 = .ok (.goto 4, 3) := by decide +kernel
theorem dX1_readLine_84 : decode cX1_readLine 84 = .ok (.iconst 0, 1) := by decide +kernel
theorem dX1_readLine_85 : decode cX1_readLine 85 = .ok (.istore 7, 2) := by decide +kernel
theorem dX1_readLine_87 : decode cX1_readLine 87 = .ok (.iload 7, 2) := by decide +kernel
theorem dX1_readLine_89 : decode cX1_readLine 89 = .ok (.ifCond .eq 7, 3) := by decide +kernel
theorem dX1_readLine_92 : decode cX1_readLine 92 = .ok (.aload_n 1, 1) := by decide +kernel
theorem dX1_readLine_93 : decode cX1_readLine 93 = .ok (.invokevirtual 77, 3) := by decide +kernel
theorem dX1_readLine_96 : decode cX1_readLine 96 = .ok (.aload_n 1, 1) := by decide +kernel
theorem dX1_readLine_97 : decode cX1_readLine 97 = .ok (.iconst 4, 1) := by decide +kernel
theorem dX1_readLine_98 : decode cX1_readLine 98 = .ok (.invokevirtual 80, 3) := by decide +kernel
theorem dX1_readLine_101 : decode cX1_readLine 101 = .ok (.istore 8, 2) := by decide +kernel
theorem dX1_readLine_103 : decode cX1_readLine 103 = .ok (.aload_n 1, 1) := by decide +kernel
theorem dX1_readLine_104 : decode cX1_readLine 104 = .ok (.invokevirtual 82, 3) := by decide +kernel
theorem dX1_readLine_107 : decode cX1_readLine 107 = .ok (.ifCond .eq 4, 3) := by decide +kernel
theorem dX1_readLine_110 : decode cX1_readLine 110 = .ok (.return_, 1) := by decide +kernel
theorem dX1_readLine_111 : decode cX1_readLine 111 = .ok (.aload_n 0, 1) := by decide +kernel
theorem dX1_readLine_112 : decode cX1_readLine 112 = .ok (.iload_n 3, 1) := by decide +kernel
theorem dX1_readLine_113 : decode cX1_readLine 113 = .ok (.iload 5, 2) := by decide +kernel
theorem dX1_readLine_115 : decode cX1_readLine 115 = .ok (.iload 6, 2) := by decide +kernel
theorem dX1_readLine_117 : decode cX1_readLine 117 = .ok (.iload 7, 2) := by decide +kernel
theorem dX1_readLine_119 : decode cX1_readLine 119 = .ok (.ifCond .eq 9, 3) := by decide +kernel
theorem dX1_readLine_122 : decode cX1_readLine 122 = .ok (.iload 8, 2) := by decide +kernel
theorem dX1_readLine_124 : decode cX1_readLine 124 = .ok (.ineg, 1) := by decide +kernel
theorem dX1_readLine_125 : decode cX1_readLine 125 = .ok (.goto 5, 3) := by decide +kernel
theorem dX1_readLine_128 : decode cX1_readLine 128 = .ok (.iload 8, 2) := by decide +kernel
theorem dX1_readLine_130 : decode cX1_readLine 130 = .ok (.invokevirtual 85, 3) := by decide +kernel
theorem dX1_readLine_133 : decode cX1_readLine 133 = .ok (.iload 6, 2) := by decide +kernel
theorem dX1_readLine_135 : decode cX1_readLine 135 = .ok (.ifCond .ne 31, 3) := by decide +kernel
theorem dX1_readLine_138 : decode cX1_readLine 138 = .ok (.aload_n 0, 1) := by decide +kernel
theorem dX1_readLine_139 : decode cX1_readLine 139 = .ok (.iload_n 3, 1) := by decide +kernel
theorem dX1_readLine_140 : decode cX1_readLine 140 = .ok (.iload 5, 2) := by decide +kernel
theorem dX1_readLine_142 : decode cX1_readLine 142 = .ok (.aload_n 0, 1) := by decide +kernel
theorem dX1_readLine_143 : decode cX1_readLine 143 = .ok (.getfield 25, 3) := by decide +kernel
theorem dX1_readLine_146 : decode cX1_readLine 146 = .ok (.aload_n 0, 1) := by decide +kernel
theorem dX1_readLine_147 : decode cX1_readLine 147 = .ok (.getfield 9, 3) := by decide +kernel
theorem dX1_readLine_150 : decode cX1_readLine 150 = .ok (.iconst 1, 1) := by decide +kernel
theorem dX1_readLine_151 : decode cX1_readLine 151 = .ok (.isub, 1) := by decide +kernel
theorem dX1_readLine_152 : decode cX1_readLine 152 = .ok (.iaload, 1) := by decide +kernel
theorem dX1_readLine_153 : decode cX1_readLine 153 = .ok (.invokevirtual 89, 3) := by decide +kernel
theorem dX1_readLine_156 : decode cX1_readLine 156 = .ok (.ifCond .ne 10, 3) := by decide +kernel
theorem dX1_readLine_159 : decode cX1_readLine 159 = .ok (.aload_n 1, 1) := by decide +kernel
theorem dX1_readLine_160 : decode cX1_readLine 160 = .ok (.bipush 8, 2) := by decide +kernel
theorem dX1_readLine_162 : decode cX1_readLine 162 = .ok (.iload_n 2, 1) := by decide +kernel
theorem dX1_readLine_163 : decode cX1_readLine 163 = .ok (.invokevirtual 65, 3) := by decide +kernel
theorem dX1_readLine_166 : decode cX1_readLine 166 = .ok (.return_, 1) := by decide +kernel
theorem dX1_readKind_0 : decode cX1_readKind 0 = .ok (.aload_n 0, 1) := by decide +kernel
theorem dX1_readKind_1 : decode cX1_readKind 1 = .ok (.invokevirtual 73, 3) := by decide +kernel
theorem dX1_readKind_4 : decode cX1_readKind 4 = .ok (.istore_n 1, 1) := by decide +kernel
theorem dX1_readKind_5 : decode cX1_readKind 5 = .ok (.iload_n 1, 1) := by decide +kernel
theorem dX1_readKind_6 : decode cX1_readKind 6 = .ok (.bipush 61, 2) := by decide +kernel
theorem dX1_readKind_8 : decode cX1_readKind 8 = .ok (.if_icmp .eq 24, 3) := by decide +kernel
theorem dX1_readKind_11 : decode cX1_readKind 11 = .ok (.iload_n 1, 1) := by decide +kernel
theorem dX1_readKind_12 : decode cX1_readKind 12 = .ok (.bipush 60, 2) := by decide +kernel
theorem dX1_readKind_14 : decode cX1_readKind 14 = .ok (.if_icmp .eq 18, 3) := by decide +kernel
theorem dX1_readKind_17 : decode cX1_readKind 17 = .ok (.iload_n 1, 1) := by decide +kernel
theorem dX1_readKind_18 : decode cX1_readKind 18 = .ok (.bipush 62, 2) := by decide +kernel
theorem dX1_readKind_20 : decode cX1_readKind 20 = .ok (.if_icmp .eq 12, 3) := by decide +kernel
theorem dX1_readKind_23 : decode cX1_readKind 23 = .ok (.aload_n 0, 1) := by decide +kernel
theorem dX1_readKind_24 : decode cX1_readKind 24 = .ok (.iconst 1, 1) := by decide +kernel
theorem dX1_readKind_25 : decode cX1_readKind 25 = .ok (.aload_n 0, 1) := by decide +kernel
theorem dX1_readKind_26 : decode cX1_readKind 26 = .ok (.getfield 58, 3) := by decide +kernel
theorem dX1_readKind_29 : decode cX1_readKind 29 = .ok (.invokevirtual 65, 3) := by decide +kernel
theorem dX1_readKind_32 : decode cX1_readKind 32 = .ok (.aload_n 0, 1) := by decide +kernel
theorem dX1_readKind_33 : decode cX1_readKind 33 = .ok (.invokevirtual 77, 3) := by decide +kernel
theorem dX1_readKind_36 : decode cX1_readKind 36 = .ok (.iload_n 1, 1) := by decide +kernel
theorem dX1_readKind_37 : decode cX1_readKind 37 = .ok (.bipush 61, 2) := by decide +kernel
theorem dX1_readKind_39 : decode cX1_readKind 39 = .ok (.if_icmp .ne 5, 3) := by decide +kernel
theorem dX1_readKind_42 : decode cX1_readKind 42 = .ok (.iconst 0, 1) := by decide +kernel
theorem dX1_readKind_43 : decode cX1_readKind 43 = .ok (.ireturn, 1) := by decide +kernel
theorem dX1_readKind_44 : decode cX1_readKind 44 = .ok (.iload_n 1, 1) := by decide +kernel
theorem dX1_readKind_45 : decode cX1_readKind 45 = .ok (.bipush 60, 2) := by decide +kernel
theorem dX1_readKind_47 : decode cX1_readKind 47 = .ok (.if_icmp .ne 7, 3) := by decide +kernel
theorem dX1_readKind_50 : decode cX1_readKind 50 = .ok (.iconst 1, 1) := by decide +kernel
theorem dX1_readKind_51 : decode cX1_readKind 51 = .ok (.goto 4, 3) := by decide +kernel
theorem dX1_readKind_54 : decode cX1_readKind 54 = .ok (.iconst 2, 1) := by decide +kernel
theorem dX1_readKind_55 : decode cX1_readKind 55 = .ok (.ireturn, 1) := by decide +kernel
theorem dX1_add_0 : decode cX1_add 0 = .ok (.aload_n 0, 1) := by decide +kernel
theorem dX1_add_1 : decode cX1_add 1 = .ok (.getfield 15, 3) := by decide +kernel
theorem dX1_add_4 : decode cX1_add 4 = .ok (.aload_n 0, 1) := by decide +kernel
theorem dX1_add_5 : decode cX1_add 5 = .ok (.getfield 9, 3) := by decide +kernel
theorem dX1_add_8 : decode cX1_add 8 = .ok (.iload_n 1, 1) := by decide +kernel
theorem dX1_add_9 : decode cX1_add 9 = .ok (.iastore, 1) := by decide +kernel
theorem dX1_add_10 : decode cX1_add 10 = .ok (.aload_n 0, 1) := by decide +kernel
theorem dX1_add_11 : decode cX1_add 11 = .ok (.getfield 19, 3) := by decide +kernel
theorem dX1_add_14 : decode cX1_add 14 = .ok (.aload_n 0, 1) := by decide +kernel
theorem dX1_add_15 : decode cX1_add 15 = .ok (.getfield 9, 3) := by decide +kernel
theorem dX1_add_18 : decode cX1_add 18 = .ok (.iload_n 2, 1) := by decide +kernel
theorem dX1_add_19 : decode cX1_add 19 = .ok (.iastore, 1) := by decide +kernel
theorem dX1_add_20 : decode cX1_add 20 = .ok (.aload_n 0, 1) := by decide +kernel
theorem dX1_add_21 : decode cX1_add 21 = .ok (.getfield 22, 3) := by decide +kernel
theorem dX1_add_24 : decode cX1_add 24 = .ok (.aload_n 0, 1) := by decide +kernel
theorem dX1_add_25 : decode cX1_add 25 = .ok (.getfield 9, 3) := by decide +kernel
theorem dX1_add_28 : decode cX1_add 28 = .ok (.iload_n 3, 1) := by decide +kernel
theorem dX1_add_29 : decode cX1_add 29 = .ok (.iastore, 1) := by decide +kernel
theorem dX1_add_30 : decode cX1_add 30 = .ok (.aload_n 0, 1) := by decide +kernel
theorem dX1_add_31 : decode cX1_add 31 = .ok (.getfield 25, 3) := by decide +kernel
theorem dX1_add_34 : decode cX1_add 34 = .ok (.aload_n 0, 1) := by decide +kernel
theorem dX1_add_35 : decode cX1_add 35 = .ok (.getfield 9, 3) := by decide +kernel
theorem dX1_add_38 : decode cX1_add 38 = .ok (.iload 4, 2) := by decide +kernel
theorem dX1_add_40 : decode cX1_add 40 = .ok (.iastore, 1) := by decide +kernel
theorem dX1_add_41 : decode cX1_add 41 = .ok (.aload_n 0, 1) := by decide +kernel
theorem dX1_add_42 : decode cX1_add 42 = .ok (.dup, 1) := by decide +kernel
theorem dX1_add_43 : decode cX1_add 43 = .ok (.getfield 9, 3) := by decide +kernel
theorem dX1_add_46 : decode cX1_add 46 = .ok (.iconst 1, 1) := by decide +kernel
theorem dX1_add_47 : decode cX1_add 47 = .ok (.iadd, 1) := by decide +kernel
theorem dX1_add_48 : decode cX1_add 48 = .ok (.putfield 9, 3) := by decide +kernel
theorem dX1_add_51 : decode cX1_add 51 = .ok (.return_, 1) := by decide +kernel
theorem dX1_join_0 : decode cX1_join 0 = .ok (.aload_n 0, 1) := by decide +kernel
theorem dX1_join_1 : decode cX1_join 1 = .ok (.getfield 28, 3) := by decide +kernel
theorem dX1_join_4 : decode cX1_join 4 = .ok (.iload_n 1, 1) := by decide +kernel
theorem dX1_join_5 : decode cX1_join 5 = .ok (.iaload, 1) := by decide +kernel
theorem dX1_join_6 : decode cX1_join 6 = .ok (.aload_n 0, 1) := by decide +kernel
theorem dX1_join_7 : decode cX1_join 7 = .ok (.getfield 28, 3) := by decide +kernel
theorem dX1_join_10 : decode cX1_join 10 = .ok (.iload_n 2, 1) := by decide +kernel
theorem dX1_join_11 : decode cX1_join 11 = .ok (.iaload, 1) := by decide +kernel
theorem dX1_join_12 : decode cX1_join 12 = .ok (.if_icmp .ne 26, 3) := by decide +kernel
theorem dX1_join_15 : decode cX1_join 15 = .ok (.aload_n 0, 1) := by decide +kernel
theorem dX1_join_16 : decode cX1_join 16 = .ok (.getfield 31, 3) := by decide +kernel
theorem dX1_join_19 : decode cX1_join 19 = .ok (.iload_n 1, 1) := by decide +kernel
theorem dX1_join_20 : decode cX1_join 20 = .ok (.iaload, 1) := by decide +kernel
theorem dX1_join_21 : decode cX1_join 21 = .ok (.aload_n 0, 1) := by decide +kernel
theorem dX1_join_22 : decode cX1_join 22 = .ok (.getfield 31, 3) := by decide +kernel
theorem dX1_join_25 : decode cX1_join 25 = .ok (.iload_n 2, 1) := by decide +kernel
theorem dX1_join_26 : decode cX1_join 26 = .ok (.iaload, 1) := by decide +kernel
theorem dX1_join_27 : decode cX1_join 27 = .ok (.isub, 1) := by decide +kernel
theorem dX1_join_28 : decode cX1_join 28 = .ok (.iload_n 3, 1) := by decide +kernel
theorem dX1_join_29 : decode cX1_join 29 = .ok (.if_icmp .ne 7, 3) := by decide +kernel
theorem dX1_join_32 : decode cX1_join 32 = .ok (.iconst 1, 1) := by decide +kernel
theorem dX1_join_33 : decode cX1_join 33 = .ok (.goto 4, 3) := by decide +kernel
theorem dX1_join_36 : decode cX1_join 36 = .ok (.iconst 0, 1) := by decide +kernel
theorem dX1_join_37 : decode cX1_join 37 = .ok (.ireturn, 1) := by decide +kernel
theorem dX1_join_38 : decode cX1_join 38 = .ok (.aload_n 0, 1) := by decide +kernel
theorem dX1_join_39 : decode cX1_join 39 = .ok (.getfield 28, 3) := by decide +kernel
theorem dX1_join_42 : decode cX1_join 42 = .ok (.iload_n 2, 1) := by decide +kernel
theorem dX1_join_43 : decode cX1_join 43 = .ok (.iaload, 1) := by decide +kernel
theorem dX1_join_44 : decode cX1_join 44 = .ok (.istore 4, 2) := by decide +kernel
theorem dX1_join_46 : decode cX1_join 46 = .ok (.aload_n 0, 1) := by decide +kernel
theorem dX1_join_47 : decode cX1_join 47 = .ok (.getfield 31, 3) := by decide +kernel
theorem dX1_join_50 : decode cX1_join 50 = .ok (.iload_n 1, 1) := by decide +kernel
theorem dX1_join_51 : decode cX1_join 51 = .ok (.iaload, 1) := by decide +kernel
theorem dX1_join_52 : decode cX1_join 52 = .ok (.iload_n 3, 1) := by decide +kernel
theorem dX1_join_53 : decode cX1_join 53 = .ok (.isub, 1) := by decide +kernel
theorem dX1_join_54 : decode cX1_join 54 = .ok (.aload_n 0, 1) := by decide +kernel
theorem dX1_join_55 : decode cX1_join 55 = .ok (.getfield 31, 3) := by decide +kernel
theorem dX1_join_58 : decode cX1_join 58 = .ok (.iload_n 2, 1) := by decide +kernel
theorem dX1_join_59 : decode cX1_join 59 = .ok (.iaload, 1) := by decide +kernel
theorem dX1_join_60 : decode cX1_join 60 = .ok (.isub, 1) := by decide +kernel
theorem dX1_join_61 : decode cX1_join 61 = .ok (.istore 5, 2) := by decide +kernel
theorem dX1_join_63 : decode cX1_join 63 = .ok (.iconst 0, 1) := by decide +kernel
theorem dX1_join_64 : decode cX1_join 64 = .ok (.istore 6, 2) := by decide +kernel
theorem dX1_join_66 : decode cX1_join 66 = .ok (.iload 6, 2) := by decide +kernel
theorem dX1_join_68 : decode cX1_join 68 = .ok (.bipush 12, 2) := by decide +kernel
theorem dX1_join_70 : decode cX1_join 70 = .ok (.if_icmp .ge 46, 3) := by decide +kernel
theorem dX1_join_73 : decode cX1_join 73 = .ok (.aload_n 0, 1) := by decide +kernel
theorem dX1_join_74 : decode cX1_join 74 = .ok (.getfield 28, 3) := by decide +kernel
theorem dX1_join_77 : decode cX1_join 77 = .ok (.iload 6, 2) := by decide +kernel
theorem dX1_join_79 : decode cX1_join 79 = .ok (.iaload, 1) := by decide +kernel
theorem dX1_join_80 : decode cX1_join 80 = .ok (.iload 4, 2) := by decide +kernel
theorem dX1_join_82 : decode cX1_join 82 = .ok (.if_icmp .ne 28, 3) := by decide +kernel
theorem dX1_join_85 : decode cX1_join 85 = .ok (.aload_n 0, 1) := by decide +kernel
theorem dX1_join_86 : decode cX1_join 86 = .ok (.getfield 28, 3) := by decide +kernel
theorem dX1_join_89 : decode cX1_join 89 = .ok (.iload 6, 2) := by decide +kernel
theorem dX1_join_91 : decode cX1_join 91 = .ok (.aload_n 0, 1) := by decide +kernel
theorem dX1_join_92 : decode cX1_join 92 = .ok (.getfield 28, 3) := by decide +kernel
theorem dX1_join_95 : decode cX1_join 95 = .ok (.iload_n 1, 1) := by decide +kernel
theorem dX1_join_96 : decode cX1_join 96 = .ok (.iaload, 1) := by decide +kernel
theorem dX1_join_97 : decode cX1_join 97 = .ok (.iastore, 1) := by decide +kernel
theorem dX1_join_98 : decode cX1_join 98 = .ok (.aload_n 0, 1) := by decide +kernel
theorem dX1_join_99 : decode cX1_join 99 = .ok (.getfield 31, 3) := by decide +kernel
theorem dX1_join_102 : decode cX1_join 102 = .ok (.iload 6, 2) := by decide +kernel
theorem dX1_join_104 : decode cX1_join 104 = .ok (.dup2, 1) := by decide +kernel
theorem dX1_join_105 : decode cX1_join 105 = .ok (.iaload, 1) := by decide +kernel
theorem dX1_join_106 : decode cX1_join 106 = .ok (.iload 5, 2) := by decide +kernel
theorem dX1_join_108 : decode cX1_join 108 = .ok (.iadd, 1) := by decide +kernel
theorem dX1_join_109 : decode cX1_join 109 = .ok (.iastore, 1) := by decide +kernel
theorem dX1_join_110 : decode cX1_join 110 = .ok (.iinc 6 1, 3) := by decide +kernel
theorem dX1_join_113 : decode cX1_join 113 = .ok (.goto (-47), 3) := by decide +kernel
theorem dX1_join_116 : decode cX1_join 116 = .ok (.iconst 1, 1) := by decide +kernel
theorem dX1_join_117 : decode cX1_join 117 = .ok (.ireturn, 1) := by decide +kernel
theorem dX1_hasNumber_0 : decode cX1_hasNumber 0 = .ok (.iload_n 1, 1) := by decide +kernel
theorem dX1_hasNumber_1 : decode cX1_hasNumber 1 = .ok (.iconst 0, 1) := by decide +kernel
theorem dX1_hasNumber_2 : decode cX1_hasNumber 2 = .ok (.aload_n 0, 1) := by decide +kernel
theorem dX1_hasNumber_3 : decode cX1_hasNumber 3 = .ok (.getfield 9, 3) := by decide +kernel
theorem dX1_hasNumber_6 : decode cX1_hasNumber 6 = .ok (.iconst 1, 1) := by decide +kernel
theorem dX1_hasNumber_7 : decode cX1_hasNumber 7 = .ok (.isub, 1) := by decide +kernel
theorem dX1_hasNumber_8 : decode cX1_hasNumber 8 = .ok (.invokestatic 93, 3) := by decide +kernel
theorem dX1_hasNumber_11 : decode cX1_hasNumber 11 = .ok (.ireturn, 1) := by decide +kernel
theorem dX1_difference_0 : decode cX1_difference 0 = .ok (.aload_n 0, 1) := by decide +kernel
theorem dX1_difference_1 : decode cX1_difference 1 = .ok (.getfield 28, 3) := by decide +kernel
theorem dX1_difference_4 : decode cX1_difference 4 = .ok (.iload_n 1, 1) := by decide +kernel
theorem dX1_difference_5 : decode cX1_difference 5 = .ok (.iaload, 1) := by decide +kernel
theorem dX1_difference_6 : decode cX1_difference 6 = .ok (.aload_n 0, 1) := by decide +kernel
theorem dX1_difference_7 : decode cX1_difference 7 = .ok (.getfield 28, 3) := by decide +kernel
theorem dX1_difference_10 : decode cX1_difference 10 = .ok (.iload_n 2, 1) := by decide +kernel
theorem dX1_difference_11 : decode cX1_difference 11 = .ok (.iaload, 1) := by decide +kernel
theorem dX1_difference_12 : decode cX1_difference 12 = .ok (.if_icmp .ne 19, 3) := by decide +kernel
theorem dX1_difference_15 : decode cX1_difference 15 = .ok (.aload_n 0, 1) := by decide +kernel
theorem dX1_difference_16 : decode cX1_difference 16 = .ok (.getfield 31, 3) := by decide +kernel
theorem dX1_difference_19 : decode cX1_difference 19 = .ok (.iload_n 1, 1) := by decide +kernel
theorem dX1_difference_20 : decode cX1_difference 20 = .ok (.iaload, 1) := by decide +kernel
theorem dX1_difference_21 : decode cX1_difference 21 = .ok (.aload_n 0, 1) := by decide +kernel
theorem dX1_difference_22 : decode cX1_difference 22 = .ok (.getfield 31, 3) := by decide +kernel
theorem dX1_difference_25 : decode cX1_difference 25 = .ok (.iload_n 2, 1) := by decide +kernel
theorem dX1_difference_26 : decode cX1_difference 26 = .ok (.iaload, 1) := by decide +kernel
theorem dX1_difference_27 : decode cX1_difference 27 = .ok (.isub, 1) := by decide +kernel
theorem dX1_difference_28 : decode cX1_difference 28 = .ok (.goto 5, 3) := by decide +kernel
theorem dX1_difference_31 : decode cX1_difference 31 = .ok (.ldc 96, 2) := by decide +kernel
theorem dX1_difference_33 : decode cX1_difference 33 = .ok (.ireturn, 1) := by decide +kernel
theorem dX1_groupOf_0 : decode cX1_groupOf 0 = .ok (.iconst 0, 1) := by decide +kernel
theorem dX1_groupOf_1 : decode cX1_groupOf 1 = .ok (.istore_n 2, 1) := by decide +kernel
theorem dX1_groupOf_2 : decode cX1_groupOf 2 = .ok (.iconst 0, 1) := by decide +kernel
theorem dX1_groupOf_3 : decode cX1_groupOf 3 = .ok (.istore_n 3, 1) := by decide +kernel
theorem dX1_groupOf_4 : decode cX1_groupOf 4 = .ok (.iload_n 3, 1) := by decide +kernel
theorem dX1_groupOf_5 : decode cX1_groupOf 5 = .ok (.bipush 12, 2) := by decide +kernel
theorem dX1_groupOf_7 : decode cX1_groupOf 7 = .ok (.if_icmp .ge 30, 3) := by decide +kernel
theorem dX1_groupOf_10 : decode cX1_groupOf 10 = .ok (.aload_n 0, 1) := by decide +kernel
theorem dX1_groupOf_11 : decode cX1_groupOf 11 = .ok (.getfield 28, 3) := by decide +kernel
theorem dX1_groupOf_14 : decode cX1_groupOf 14 = .ok (.iload_n 3, 1) := by decide +kernel
theorem dX1_groupOf_15 : decode cX1_groupOf 15 = .ok (.iaload, 1) := by decide +kernel
theorem dX1_groupOf_16 : decode cX1_groupOf 16 = .ok (.aload_n 0, 1) := by decide +kernel
theorem dX1_groupOf_17 : decode cX1_groupOf 17 = .ok (.getfield 28, 3) := by decide +kernel
theorem dX1_groupOf_20 : decode cX1_groupOf 20 = .ok (.iload_n 1, 1) := by decide +kernel
theorem dX1_groupOf_21 : decode cX1_groupOf 21 = .ok (.iaload, 1) := by decide +kernel
theorem dX1_groupOf_22 : decode cX1_groupOf 22 = .ok (.if_icmp .ne 9, 3) := by decide +kernel
theorem dX1_groupOf_25 : decode cX1_groupOf 25 = .ok (.iload_n 2, 1) := by decide +kernel
theorem dX1_groupOf_26 : decode cX1_groupOf 26 = .ok (.iconst 1, 1) := by decide +kernel
theorem dX1_groupOf_27 : decode cX1_groupOf 27 = .ok (.iload_n 3, 1) := by decide +kernel
theorem dX1_groupOf_28 : decode cX1_groupOf 28 = .ok (.ishl, 1) := by decide +kernel
theorem dX1_groupOf_29 : decode cX1_groupOf 29 = .ok (.ior, 1) := by decide +kernel
theorem dX1_groupOf_30 : decode cX1_groupOf 30 = .ok (.istore_n 2, 1) := by decide +kernel
theorem dX1_groupOf_31 : decode cX1_groupOf 31 = .ok (.iinc 3 1, 3) := by decide +kernel
theorem dX1_groupOf_34 : decode cX1_groupOf 34 = .ok (.goto (-30), 3) := by decide +kernel
theorem dX1_groupOf_37 : decode cX1_groupOf 37 = .ok (.iload_n 2, 1) := by decide +kernel
theorem dX1_groupOf_38 : decode cX1_groupOf 38 = .ok (.ireturn, 1) := by decide +kernel
theorem dX1_groupCount_0 : decode cX1_groupCount 0 = .ok (.iconst 0, 1) := by decide +kernel
theorem dX1_groupCount_1 : decode cX1_groupCount 1 = .ok (.istore_n 1, 1) := by decide +kernel
theorem dX1_groupCount_2 : decode cX1_groupCount 2 = .ok (.iconst 0, 1) := by decide +kernel
theorem dX1_groupCount_3 : decode cX1_groupCount 3 = .ok (.istore_n 2, 1) := by decide +kernel
theorem dX1_groupCount_4 : decode cX1_groupCount 4 = .ok (.iload_n 2, 1) := by decide +kernel
theorem dX1_groupCount_5 : decode cX1_groupCount 5 = .ok (.bipush 12, 2) := by decide +kernel
theorem dX1_groupCount_7 : decode cX1_groupCount 7 = .ok (.if_icmp .ge 20, 3) := by decide +kernel
theorem dX1_groupCount_10 : decode cX1_groupCount 10 = .ok (.iload_n 1, 1) := by decide +kernel
theorem dX1_groupCount_11 : decode cX1_groupCount 11 = .ok (.iconst 1, 1) := by decide +kernel
theorem dX1_groupCount_12 : decode cX1_groupCount 12 = .ok (.aload_n 0, 1) := by decide +kernel
theorem dX1_groupCount_13 : decode cX1_groupCount 13 = .ok (.getfield 28, 3) := by decide +kernel
theorem dX1_groupCount_16 : decode cX1_groupCount 16 = .ok (.iload_n 2, 1) := by decide +kernel
theorem dX1_groupCount_17 : decode cX1_groupCount 17 = .ok (.iaload, 1) := by decide +kernel
theorem dX1_groupCount_18 : decode cX1_groupCount 18 = .ok (.ishl, 1) := by decide +kernel
theorem dX1_groupCount_19 : decode cX1_groupCount 19 = .ok (.ior, 1) := by decide +kernel
theorem dX1_groupCount_20 : decode cX1_groupCount 20 = .ok (.istore_n 1, 1) := by decide +kernel
theorem dX1_groupCount_21 : decode cX1_groupCount 21 = .ok (.iinc 2 1, 3) := by decide +kernel
theorem dX1_groupCount_24 : decode cX1_groupCount 24 = .ok (.goto (-20), 3) := by decide +kernel
theorem dX1_groupCount_27 : decode cX1_groupCount 27 = .ok (.iload_n 1, 1) := by decide +kernel
theorem dX1_groupCount_28 : decode cX1_groupCount 28 = .ok (.invokestatic 97, 3) := by decide +kernel
theorem dX1_groupCount_31 : decode cX1_groupCount 31 = .ok (.ireturn, 1) := by decide +kernel
theorem dX1_things_0 : decode cX1_things 0 = .ok (.iconst 0, 1) := by decide +kernel
theorem dX1_things_1 : decode cX1_things 1 = .ok (.istore_n 1, 1) := by decide +kernel
theorem dX1_things_2 : decode cX1_things 2 = .ok (.iconst 0, 1) := by decide +kernel
theorem dX1_things_3 : decode cX1_things 3 = .ok (.istore_n 2, 1) := by decide +kernel
theorem dX1_things_4 : decode cX1_things 4 = .ok (.iload_n 2, 1) := by decide +kernel
theorem dX1_things_5 : decode cX1_things 5 = .ok (.aload_n 0, 1) := by decide +kernel
theorem dX1_things_6 : decode cX1_things 6 = .ok (.getfield 9, 3) := by decide +kernel
theorem dX1_things_9 : decode cX1_things 9 = .ok (.if_icmp .ge 29, 3) := by decide +kernel
theorem dX1_things_12 : decode cX1_things 12 = .ok (.iload_n 1, 1) := by decide +kernel
theorem dX1_things_13 : decode cX1_things 13 = .ok (.iconst 1, 1) := by decide +kernel
theorem dX1_things_14 : decode cX1_things 14 = .ok (.aload_n 0, 1) := by decide +kernel
theorem dX1_things_15 : decode cX1_things 15 = .ok (.getfield 15, 3) := by decide +kernel
theorem dX1_things_18 : decode cX1_things 18 = .ok (.iload_n 2, 1) := by decide +kernel
theorem dX1_things_19 : decode cX1_things 19 = .ok (.iaload, 1) := by decide +kernel
theorem dX1_things_20 : decode cX1_things 20 = .ok (.ishl, 1) := by decide +kernel
theorem dX1_things_21 : decode cX1_things 21 = .ok (.iconst 1, 1) := by decide +kernel
theorem dX1_things_22 : decode cX1_things 22 = .ok (.aload_n 0, 1) := by decide +kernel
theorem dX1_things_23 : decode cX1_things 23 = .ok (.getfield 19, 3) := by decide +kernel
theorem dX1_things_26 : decode cX1_things 26 = .ok (.iload_n 2, 1) := by decide +kernel
theorem dX1_things_27 : decode cX1_things 27 = .ok (.iaload, 1) := by decide +kernel
theorem dX1_things_28 : decode cX1_things 28 = .ok (.ishl, 1) := by decide +kernel
theorem dX1_things_29 : decode cX1_things 29 = .ok (.ior, 1) := by decide +kernel
theorem dX1_things_30 : decode cX1_things 30 = .ok (.ior, 1) := by decide +kernel
theorem dX1_things_31 : decode cX1_things 31 = .ok (.istore_n 1, 1) := by decide +kernel
theorem dX1_things_32 : decode cX1_things 32 = .ok (.iinc 2 1, 3) := by decide +kernel
theorem dX1_things_35 : decode cX1_things 35 = .ok (.goto (-31), 3) := by decide +kernel
theorem dX1_things_38 : decode cX1_things 38 = .ok (.iload_n 1, 1) := by decide +kernel
theorem dX1_things_39 : decode cX1_things 39 = .ok (.ireturn, 1) := by decide +kernel
theorem dX2_init_0 : decode cX2_init 0 = .ok (.aload_n 0, 1) := by decide +kernel
theorem dX2_init_1 : decode cX2_init 1 = .ok (.invokespecial 1, 3) := by decide +kernel
theorem dX2_init_4 : decode cX2_init 4 = .ok (.aload_n 0, 1) := by decide +kernel
theorem dX2_init_5 : decode cX2_init 5 = .ok (.iconst 0, 1) := by decide +kernel
theorem dX2_init_6 : decode cX2_init 6 = .ok (.putfield 7, 3) := by decide +kernel
theorem dX2_init_9 : decode cX2_init 9 = .ok (.aload_n 0, 1) := by decide +kernel
theorem dX2_init_10 : decode cX2_init 10 = .ok (.bipush 16, 2) := by decide +kernel
theorem dX2_init_12 : decode cX2_init 12 = .ok (.newarray .int, 2) := by decide +kernel
theorem dX2_init_14 : decode cX2_init 14 = .ok (.putfield 13, 3) := by decide +kernel
theorem dX2_init_17 : decode cX2_init 17 = .ok (.aload_n 0, 1) := by decide +kernel
theorem dX2_init_18 : decode cX2_init 18 = .ok (.bipush 16, 2) := by decide +kernel
theorem dX2_init_20 : decode cX2_init 20 = .ok (.newarray .int, 2) := by decide +kernel
theorem dX2_init_22 : decode cX2_init 22 = .ok (.putfield 17, 3) := by decide +kernel
theorem dX2_init_25 : decode cX2_init 25 = .ok (.aload_n 0, 1) := by decide +kernel
theorem dX2_init_26 : decode cX2_init 26 = .ok (.bipush 16, 2) := by decide +kernel
theorem dX2_init_28 : decode cX2_init 28 = .ok (.newarray .int, 2) := by decide +kernel
theorem dX2_init_30 : decode cX2_init 30 = .ok (.putfield 20, 3) := by decide +kernel
theorem dX2_init_33 : decode cX2_init 33 = .ok (.aload_n 0, 1) := by decide +kernel
theorem dX2_init_34 : decode cX2_init 34 = .ok (.bipush 16, 2) := by decide +kernel
theorem dX2_init_36 : decode cX2_init 36 = .ok (.newarray .int, 2) := by decide +kernel
theorem dX2_init_38 : decode cX2_init 38 = .ok (.putfield 23, 3) := by decide +kernel
theorem dX2_init_41 : decode cX2_init 41 = .ok (.aload_n 0, 1) := by decide +kernel
theorem dX2_init_42 : decode cX2_init 42 = .ok (.iconst 0, 1) := by decide +kernel
theorem dX2_init_43 : decode cX2_init 43 = .ok (.putfield 26, 3) := by decide +kernel
theorem dX2_init_46 : decode cX2_init 46 = .ok (.aload_n 0, 1) := by decide +kernel
theorem dX2_init_47 : decode cX2_init 47 = .ok (.sipush 256, 3) := by decide +kernel
theorem dX2_init_50 : decode cX2_init 50 = .ok (.newarray .int, 2) := by decide +kernel
theorem dX2_init_52 : decode cX2_init 52 = .ok (.putfield 29, 3) := by decide +kernel
theorem dX2_init_55 : decode cX2_init 55 = .ok (.aload_n 0, 1) := by decide +kernel
theorem dX2_init_56 : decode cX2_init 56 = .ok (.sipush 256, 3) := by decide +kernel
theorem dX2_init_59 : decode cX2_init 59 = .ok (.newarray .int, 2) := by decide +kernel
theorem dX2_init_61 : decode cX2_init 61 = .ok (.putfield 32, 3) := by decide +kernel
theorem dX2_init_64 : decode cX2_init 64 = .ok (.aload_n 0, 1) := by decide +kernel
theorem dX2_init_65 : decode cX2_init 65 = .ok (.ldc 37, 2) := by decide +kernel
theorem dX2_init_67 : decode cX2_init 67 = .ok (.invokevirtual 39, 3) := by decide +kernel
theorem dX2_init_70 : decode cX2_init 70 = .ok (.newarray .int, 2) := by decide +kernel
theorem dX2_init_72 : decode cX2_init 72 = .ok (.putfield 44, 3) := by decide +kernel
theorem dX2_init_75 : decode cX2_init 75 = .ok (.aload_n 0, 1) := by decide +kernel
theorem dX2_init_76 : decode cX2_init 76 = .ok (.bipush 64, 2) := by decide +kernel
theorem dX2_init_78 : decode cX2_init 78 = .ok (.newarray .int, 2) := by decide +kernel
theorem dX2_init_80 : decode cX2_init 80 = .ok (.putfield 47, 3) := by decide +kernel
theorem dX2_init_83 : decode cX2_init 83 = .ok (.aload_n 0, 1) := by decide +kernel
theorem dX2_init_84 : decode cX2_init 84 = .ok (.iconst 0, 1) := by decide +kernel
theorem dX2_init_85 : decode cX2_init 85 = .ok (.putfield 50, 3) := by decide +kernel
theorem dX2_init_88 : decode cX2_init 88 = .ok (.return_, 1) := by decide +kernel
theorem dX2_clear_0 : decode cX2_clear 0 = .ok (.aload_n 0, 1) := by decide +kernel
theorem dX2_clear_1 : decode cX2_clear 1 = .ok (.iconst 0, 1) := by decide +kernel
theorem dX2_clear_2 : decode cX2_clear 2 = .ok (.putfield 7, 3) := by decide +kernel
theorem dX2_clear_5 : decode cX2_clear 5 = .ok (.aload_n 0, 1) := by decide +kernel
theorem dX2_clear_6 : decode cX2_clear 6 = .ok (.iconst 0, 1) := by decide +kernel
theorem dX2_clear_7 : decode cX2_clear 7 = .ok (.putfield 26, 3) := by decide +kernel
theorem dX2_clear_10 : decode cX2_clear 10 = .ok (.return_, 1) := by decide +kernel
theorem dX2_add_0 : decode cX2_add 0 = .ok (.aload_n 0, 1) := by decide +kernel
theorem dX2_add_1 : decode cX2_add 1 = .ok (.getfield 26, 3) := by decide +kernel
theorem dX2_add_4 : decode cX2_add 4 = .ok (.aload_n 0, 1) := by decide +kernel
theorem dX2_add_5 : decode cX2_add 5 = .ok (.getfield 29, 3) := by decide +kernel
theorem dX2_add_8 : decode cX2_add 8 = .ok (.arraylength, 1) := by decide +kernel
theorem dX2_add_9 : decode cX2_add 9 = .ok (.if_icmp .ge 33, 3) := by decide +kernel
theorem dX2_add_12 : decode cX2_add 12 = .ok (.aload_n 0, 1) := by decide +kernel
theorem dX2_add_13 : decode cX2_add 13 = .ok (.getfield 29, 3) := by decide +kernel
theorem dX2_add_16 : decode cX2_add 16 = .ok (.aload_n 0, 1) := by decide +kernel
theorem dX2_add_17 : decode cX2_add 17 = .ok (.getfield 26, 3) := by decide +kernel
theorem dX2_add_20 : decode cX2_add 20 = .ok (.iload_n 1, 1) := by decide +kernel
theorem dX2_add_21 : decode cX2_add 21 = .ok (.iastore, 1) := by decide +kernel
theorem dX2_add_22 : decode cX2_add 22 = .ok (.aload_n 0, 1) := by decide +kernel
theorem dX2_add_23 : decode cX2_add 23 = .ok (.getfield 32, 3) := by decide +kernel
theorem dX2_add_26 : decode cX2_add 26 = .ok (.aload_n 0, 1) := by decide +kernel
theorem dX2_add_27 : decode cX2_add 27 = .ok (.getfield 26, 3) := by decide +kernel
theorem dX2_add_30 : decode cX2_add 30 = .ok (.iload_n 2, 1) := by decide +kernel
theorem dX2_add_31 : decode cX2_add 31 = .ok (.iastore, 1) := by decide +kernel
theorem dX2_add_32 : decode cX2_add 32 = .ok (.aload_n 0, 1) := by decide +kernel
theorem dX2_add_33 : decode cX2_add 33 = .ok (.dup, 1) := by decide +kernel
theorem dX2_add_34 : decode cX2_add 34 = .ok (.getfield 26, 3) := by decide +kernel
theorem dX2_add_37 : decode cX2_add 37 = .ok (.iconst 1, 1) := by decide +kernel
theorem dX2_add_38 : decode cX2_add 38 = .ok (.iadd, 1) := by decide +kernel
theorem dX2_add_39 : decode cX2_add 39 = .ok (.putfield 26, 3) := by decide +kernel
theorem dX2_add_42 : decode cX2_add 42 = .ok (.aload_n 0, 1) := by decide +kernel
theorem dX2_add_43 : decode cX2_add 43 = .ok (.getfield 26, 3) := by decide +kernel
theorem dX2_add_46 : decode cX2_add 46 = .ok (.iconst 1, 1) := by decide +kernel
theorem dX2_add_47 : decode cX2_add 47 = .ok (.isub, 1) := by decide +kernel
theorem dX2_add_48 : decode cX2_add 48 = .ok (.ireturn, 1) := by decide +kernel
theorem dX2_goOnHere_0 : decode cX2_goOnHere 0 = .ok (.iload_n 1, 1) := by decide +kernel
theorem dX2_goOnHere_1 : decode cX2_goOnHere 1 = .ok (.iconst 0, 1) := by decide +kernel
theorem dX2_goOnHere_2 : decode cX2_goOnHere 2 = .ok (.aload_n 0, 1) := by decide +kernel
theorem dX2_goOnHere_3 : decode cX2_goOnHere 3 = .ok (.getfield 26, 3) := by decide +kernel
theorem dX2_goOnHere_6 : decode cX2_goOnHere 6 = .ok (.iconst 1, 1) := by decide +kernel
theorem dX2_goOnHere_7 : decode cX2_goOnHere 7 = .ok (.isub, 1) := by decide +kernel
theorem dX2_goOnHere_8 : decode cX2_goOnHere 8 = .ok (.invokestatic 53, 3) := by decide +kernel
theorem dX2_goOnHere_11 : decode cX2_goOnHere 11 = .ok (.ifCond .eq 13, 3) := by decide +kernel
theorem dX2_goOnHere_14 : decode cX2_goOnHere 14 = .ok (.aload_n 0, 1) := by decide +kernel
theorem dX2_goOnHere_15 : decode cX2_goOnHere 15 = .ok (.getfield 32, 3) := by decide +kernel
theorem dX2_goOnHere_18 : decode cX2_goOnHere 18 = .ok (.iload_n 1, 1) := by decide +kernel
theorem dX2_goOnHere_19 : decode cX2_goOnHere 19 = .ok (.aload_n 0, 1) := by decide +kernel
theorem dX2_goOnHere_20 : decode cX2_goOnHere 20 = .ok (.getfield 26, 3) := by decide +kernel
theorem dX2_goOnHere_23 : decode cX2_goOnHere 23 = .ok (.iastore, 1) := by decide +kernel
theorem dX2_goOnHere_24 : decode cX2_goOnHere 24 = .ok (.return_, 1) := by decide +kernel
theorem dX2_addRule_0 : decode cX2_addRule 0 = .ok (.aload_n 0, 1) := by decide +kernel
theorem dX2_addRule_1 : decode cX2_addRule 1 = .ok (.getfield 7, 3) := by decide +kernel
theorem dX2_addRule_4 : decode cX2_addRule 4 = .ok (.bipush 16, 2) := by decide +kernel
theorem dX2_addRule_6 : decode cX2_addRule 6 = .ok (.if_icmp .ge 56, 3) := by decide +kernel
theorem dX2_addRule_9 : decode cX2_addRule 9 = .ok (.aload_n 0, 1) := by decide +kernel
theorem dX2_addRule_10 : decode cX2_addRule 10 = .ok (.getfield 13, 3) := by decide +kernel
theorem dX2_addRule_13 : decode cX2_addRule 13 = .ok (.aload_n 0, 1) := by decide +kernel
theorem dX2_addRule_14 : decode cX2_addRule 14 = .ok (.getfield 7, 3) := by decide +kernel
theorem dX2_addRule_17 : decode cX2_addRule 17 = .ok (.iload_n 1, 1) := by decide +kernel
theorem dX2_addRule_18 : decode cX2_addRule 18 = .ok (.iastore, 1) := by decide +kernel
theorem dX2_addRule_19 : decode cX2_addRule 19 = .ok (.aload_n 0, 1) := by decide +kernel
theorem dX2_addRule_20 : decode cX2_addRule 20 = .ok (.getfield 17, 3) := by decide +kernel
theorem dX2_addRule_23 : decode cX2_addRule 23 = .ok (.aload_n 0, 1) := by decide +kernel
theorem dX2_addRule_24 : decode cX2_addRule 24 = .ok (.getfield 7, 3) := by decide +kernel
theorem dX2_addRule_27 : decode cX2_addRule 27 = .ok (.iload_n 2, 1) := by decide +kernel
theorem dX2_addRule_28 : decode cX2_addRule 28 = .ok (.iastore, 1) := by decide +kernel
theorem dX2_addRule_29 : decode cX2_addRule 29 = .ok (.aload_n 0, 1) := by decide +kernel
theorem dX2_addRule_30 : decode cX2_addRule 30 = .ok (.getfield 20, 3) := by decide +kernel
theorem dX2_addRule_33 : decode cX2_addRule 33 = .ok (.aload_n 0, 1) := by decide +kernel
theorem dX2_addRule_34 : decode cX2_addRule 34 = .ok (.getfield 7, 3) := by decide +kernel
theorem dX2_addRule_37 : decode cX2_addRule 37 = .ok (.iload_n 3, 1) := by decide +kernel
theorem dX2_addRule_38 : decode cX2_addRule 38 = .ok (.iastore, 1) := by decide +kernel
theorem dX2_addRule_39 : decode cX2_addRule 39 = .ok (.aload_n 0, 1) := by decide +kernel
theorem dX2_addRule_40 : decode cX2_addRule 40 = .ok (.getfield 23, 3) := by decide +kernel
theorem dX2_addRule_43 : decode cX2_addRule 43 = .ok (.aload_n 0, 1) := by decide +kernel
theorem dX2_addRule_44 : decode cX2_addRule 44 = .ok (.getfield 7, 3) := by decide +kernel
theorem dX2_addRule_47 : decode cX2_addRule 47 = .ok (.aload_n 0, 1) := by decide +kernel
theorem dX2_addRule_48 : decode cX2_addRule 48 = .ok (.getfield 26, 3) := by decide +kernel
theorem dX2_addRule_51 : decode cX2_addRule 51 = .ok (.iastore, 1) := by decide +kernel
theorem dX2_addRule_52 : decode cX2_addRule 52 = .ok (.aload_n 0, 1) := by decide +kernel
theorem dX2_addRule_53 : decode cX2_addRule 53 = .ok (.dup, 1) := by decide +kernel
theorem dX2_addRule_54 : decode cX2_addRule 54 = .ok (.getfield 7, 3) := by decide +kernel
theorem dX2_addRule_57 : decode cX2_addRule 57 = .ok (.iconst 1, 1) := by decide +kernel
theorem dX2_addRule_58 : decode cX2_addRule 58 = .ok (.iadd, 1) := by decide +kernel
theorem dX2_addRule_59 : decode cX2_addRule 59 = .ok (.putfield 7, 3) := by decide +kernel
theorem dX2_addRule_62 : decode cX2_addRule 62 = .ok (.return_, 1) := by decide +kernel
theorem dX2_look_0 : decode cX2_look 0 = .ok (.aload_n 0, 1) := by decide +kernel
theorem dX2_look_1 : decode cX2_look 1 = .ok (.getfield 44, 3) := by decide +kernel
theorem dX2_look_4 : decode cX2_look 4 = .ok (.iconst 0, 1) := by decide +kernel
theorem dX2_look_5 : decode cX2_look 5 = .ok (.iload_n 2, 1) := by decide +kernel
theorem dX2_look_6 : decode cX2_look 6 = .ok (.iastore, 1) := by decide +kernel
theorem dX2_look_7 : decode cX2_look 7 = .ok (.aload_n 0, 1) := by decide +kernel
theorem dX2_look_8 : decode cX2_look 8 = .ok (.getfield 44, 3) := by decide +kernel
theorem dX2_look_11 : decode cX2_look 11 = .ok (.iconst 1, 1) := by decide +kernel
theorem dX2_look_12 : decode cX2_look 12 = .ok (.aload_n 1, 1) := by decide +kernel
theorem dX2_look_13 : decode cX2_look 13 = .ok (.getfield 59, 3) := by decide +kernel
theorem dX2_look_16 : decode cX2_look 16 = .ok (.iload_n 2, 1) := by decide +kernel
theorem dX2_look_17 : decode cX2_look 17 = .ok (.iaload, 1) := by decide +kernel
theorem dX2_look_18 : decode cX2_look 18 = .ok (.iastore, 1) := by decide +kernel
theorem dX2_look_19 : decode cX2_look 19 = .ok (.aload_n 0, 1) := by decide +kernel
theorem dX2_look_20 : decode cX2_look 20 = .ok (.getfield 44, 3) := by decide +kernel
theorem dX2_look_23 : decode cX2_look 23 = .ok (.iconst 2, 1) := by decide +kernel
theorem dX2_look_24 : decode cX2_look 24 = .ok (.aload_n 1, 1) := by decide +kernel
theorem dX2_look_25 : decode cX2_look 25 = .ok (.getfield 64, 3) := by decide +kernel
theorem dX2_look_28 : decode cX2_look 28 = .ok (.iload_n 2, 1) := by decide +kernel
theorem dX2_look_29 : decode cX2_look 29 = .ok (.iaload, 1) := by decide +kernel
theorem dX2_look_30 : decode cX2_look 30 = .ok (.iastore, 1) := by decide +kernel
theorem dX2_look_31 : decode cX2_look 31 = .ok (.aload_n 0, 1) := by decide +kernel
theorem dX2_look_32 : decode cX2_look 32 = .ok (.getfield 44, 3) := by decide +kernel
theorem dX2_look_35 : decode cX2_look 35 = .ok (.iconst 3, 1) := by decide +kernel
theorem dX2_look_36 : decode cX2_look 36 = .ok (.aload_n 1, 1) := by decide +kernel
theorem dX2_look_37 : decode cX2_look 37 = .ok (.iload_n 2, 1) := by decide +kernel
theorem dX2_look_38 : decode cX2_look 38 = .ok (.invokevirtual 67, 3) := by decide +kernel
theorem dX2_look_41 : decode cX2_look 41 = .ok (.iastore, 1) := by decide +kernel
theorem dX2_look_42 : decode cX2_look 42 = .ok (.aload_n 0, 1) := by decide +kernel
theorem dX2_look_43 : decode cX2_look 43 = .ok (.getfield 44, 3) := by decide +kernel
theorem dX2_look_46 : decode cX2_look 46 = .ok (.iconst 4, 1) := by decide +kernel
theorem dX2_look_47 : decode cX2_look 47 = .ok (.aload_n 1, 1) := by decide +kernel
theorem dX2_look_48 : decode cX2_look 48 = .ok (.getfield 71, 3) := by decide +kernel
theorem dX2_look_51 : decode cX2_look 51 = .ok (.iload_n 2, 1) := by decide +kernel
theorem dX2_look_52 : decode cX2_look 52 = .ok (.iaload, 1) := by decide +kernel
theorem dX2_look_53 : decode cX2_look 53 = .ok (.bipush 100, 2) := by decide +kernel
theorem dX2_look_55 : decode cX2_look 55 = .ok (.idiv, 1) := by decide +kernel
theorem dX2_look_56 : decode cX2_look 56 = .ok (.iastore, 1) := by decide +kernel
theorem dX2_look_57 : decode cX2_look 57 = .ok (.aload_n 0, 1) := by decide +kernel
theorem dX2_look_58 : decode cX2_look 58 = .ok (.getfield 44, 3) := by decide +kernel
theorem dX2_look_61 : decode cX2_look 61 = .ok (.iconst 5, 1) := by decide +kernel
theorem dX2_look_62 : decode cX2_look 62 = .ok (.aload_n 1, 1) := by decide +kernel
theorem dX2_look_63 : decode cX2_look 63 = .ok (.getfield 74, 3) := by decide +kernel
theorem dX2_look_66 : decode cX2_look 66 = .ok (.iload_n 2, 1) := by decide +kernel
theorem dX2_look_67 : decode cX2_look 67 = .ok (.iaload, 1) := by decide +kernel
theorem dX2_look_68 : decode cX2_look 68 = .ok (.iastore, 1) := by decide +kernel
theorem dX2_look_69 : decode cX2_look 69 = .ok (.aload_n 0, 1) := by decide +kernel
theorem dX2_look_70 : decode cX2_look 70 = .ok (.getfield 44, 3) := by decide +kernel
theorem dX2_look_73 : decode cX2_look 73 = .ok (.bipush 6, 2) := by decide +kernel
theorem dX2_look_75 : decode cX2_look 75 = .ok (.aload_n 1, 1) := by decide +kernel
theorem dX2_look_76 : decode cX2_look 76 = .ok (.iload_n 2, 1) := by decide +kernel
theorem dX2_look_77 : decode cX2_look 77 = .ok (.invokevirtual 77, 3) := by decide +kernel
theorem dX2_look_80 : decode cX2_look 80 = .ok (.iastore, 1) := by decide +kernel
theorem dX2_look_81 : decode cX2_look 81 = .ok (.aload_n 0, 1) := by decide +kernel
theorem dX2_look_82 : decode cX2_look 82 = .ok (.getfield 44, 3) := by decide +kernel
theorem dX2_look_85 : decode cX2_look 85 = .ok (.bipush 7, 2) := by decide +kernel
theorem dX2_look_87 : decode cX2_look 87 = .ok (.aload_n 1, 1) := by decide +kernel
theorem dX2_look_88 : decode cX2_look 88 = .ok (.getfield 80, 3) := by decide +kernel
theorem dX2_look_91 : decode cX2_look 91 = .ok (.bipush 100, 2) := by decide +kernel
theorem dX2_look_93 : decode cX2_look 93 = .ok (.irem, 1) := by decide +kernel
theorem dX2_look_94 : decode cX2_look 94 = .ok (.iastore, 1) := by decide +kernel
theorem dX2_look_95 : decode cX2_look 95 = .ok (.aload_n 0, 1) := by decide +kernel
theorem dX2_look_96 : decode cX2_look 96 = .ok (.getfield 44, 3) := by decide +kernel
theorem dX2_look_99 : decode cX2_look 99 = .ok (.bipush 8, 2) := by decide +kernel
theorem dX2_look_101 : decode cX2_look 101 = .ok (.iload_n 3, 1) := by decide +kernel
theorem dX2_look_102 : decode cX2_look 102 = .ok (.iastore, 1) := by decide +kernel
theorem dX2_look_103 : decode cX2_look 103 = .ok (.return_, 1) := by decide +kernel
theorem dX2_shuts_0 : decode cX2_shuts 0 = .ok (.iconst 0, 1) := by decide +kernel
theorem dX2_shuts_1 : decode cX2_shuts 1 = .ok (.istore_n 1, 1) := by decide +kernel
theorem dX2_shuts_2 : decode cX2_shuts 2 = .ok (.iload_n 1, 1) := by decide +kernel
theorem dX2_shuts_3 : decode cX2_shuts 3 = .ok (.aload_n 0, 1) := by decide +kernel
theorem dX2_shuts_4 : decode cX2_shuts 4 = .ok (.getfield 7, 3) := by decide +kernel
theorem dX2_shuts_7 : decode cX2_shuts 7 = .ok (.if_icmp .ge 41, 3) := by decide +kernel
theorem dX2_shuts_10 : decode cX2_shuts 10 = .ok (.aload_n 0, 1) := by decide +kernel
theorem dX2_shuts_11 : decode cX2_shuts 11 = .ok (.getfield 13, 3) := by decide +kernel
theorem dX2_shuts_14 : decode cX2_shuts 14 = .ok (.iload_n 1, 1) := by decide +kernel
theorem dX2_shuts_15 : decode cX2_shuts 15 = .ok (.iaload, 1) := by decide +kernel
theorem dX2_shuts_16 : decode cX2_shuts 16 = .ok (.bipush 120, 2) := by decide +kernel
theorem dX2_shuts_18 : decode cX2_shuts 18 = .ok (.if_icmp .ne 24, 3) := by decide +kernel
theorem dX2_shuts_21 : decode cX2_shuts 21 = .ok (.aload_n 0, 1) := by decide +kernel
theorem dX2_shuts_22 : decode cX2_shuts 22 = .ok (.aload_n 0, 1) := by decide +kernel
theorem dX2_shuts_23 : decode cX2_shuts 23 = .ok (.getfield 20, 3) := by decide +kernel
theorem dX2_shuts_26 : decode cX2_shuts 26 = .ok (.iload_n 1, 1) := by decide +kernel
theorem dX2_shuts_27 : decode cX2_shuts 27 = .ok (.iaload, 1) := by decide +kernel
theorem dX2_shuts_28 : decode cX2_shuts 28 = .ok (.aload_n 0, 1) := by decide +kernel
theorem dX2_shuts_29 : decode cX2_shuts 29 = .ok (.getfield 23, 3) := by decide +kernel
theorem dX2_shuts_32 : decode cX2_shuts 32 = .ok (.iload_n 1, 1) := by decide +kernel
theorem dX2_shuts_33 : decode cX2_shuts 33 = .ok (.iaload, 1) := by decide +kernel
theorem dX2_shuts_34 : decode cX2_shuts 34 = .ok (.invokevirtual 83, 3) := by decide +kernel
theorem dX2_shuts_37 : decode cX2_shuts 37 = .ok (.ifCond .eq 5, 3) := by decide +kernel
theorem dX2_shuts_40 : decode cX2_shuts 40 = .ok (.iconst 1, 1) := by decide +kernel
theorem dX2_shuts_41 : decode cX2_shuts 41 = .ok (.ireturn, 1) := by decide +kernel
theorem dX2_shuts_42 : decode cX2_shuts 42 = .ok (.iinc 1 1, 3) := by decide +kernel
theorem dX2_shuts_45 : decode cX2_shuts 45 = .ok (.goto (-43), 3) := by decide +kernel
theorem dX2_shuts_48 : decode cX2_shuts 48 = .ok (.iconst 0, 1) := by decide +kernel
theorem dX2_shuts_49 : decode cX2_shuts 49 = .ok (.ireturn, 1) := by decide +kernel
theorem dX2_ask_0 : decode cX2_ask 0 = .ok (.iconst 0, 1) := by decide +kernel
theorem dX2_ask_1 : decode cX2_ask 1 = .ok (.istore 4, 2) := by decide +kernel
theorem dX2_ask_3 : decode cX2_ask 3 = .ok (.iload 4, 2) := by decide +kernel
theorem dX2_ask_5 : decode cX2_ask 5 = .ok (.aload_n 0, 1) := by decide +kernel
theorem dX2_ask_6 : decode cX2_ask 6 = .ok (.getfield 7, 3) := by decide +kernel
theorem dX2_ask_9 : decode cX2_ask 9 = .ok (.if_icmp .ge 68, 3) := by decide +kernel
theorem dX2_ask_12 : decode cX2_ask 12 = .ok (.aload_n 0, 1) := by decide +kernel
theorem dX2_ask_13 : decode cX2_ask 13 = .ok (.getfield 13, 3) := by decide +kernel
theorem dX2_ask_16 : decode cX2_ask 16 = .ok (.iload 4, 2) := by decide +kernel
theorem dX2_ask_18 : decode cX2_ask 18 = .ok (.iaload, 1) := by decide +kernel
theorem dX2_ask_19 : decode cX2_ask 19 = .ok (.iload_n 1, 1) := by decide +kernel
theorem dX2_ask_20 : decode cX2_ask 20 = .ok (.if_icmp .ne 51, 3) := by decide +kernel
theorem dX2_ask_23 : decode cX2_ask 23 = .ok (.aload_n 0, 1) := by decide +kernel
theorem dX2_ask_24 : decode cX2_ask 24 = .ok (.aload_n 0, 1) := by decide +kernel
theorem dX2_ask_25 : decode cX2_ask 25 = .ok (.getfield 20, 3) := by decide +kernel
theorem dX2_ask_28 : decode cX2_ask 28 = .ok (.iload 4, 2) := by decide +kernel
theorem dX2_ask_30 : decode cX2_ask 30 = .ok (.iaload, 1) := by decide +kernel
theorem dX2_ask_31 : decode cX2_ask 31 = .ok (.aload_n 0, 1) := by decide +kernel
theorem dX2_ask_32 : decode cX2_ask 32 = .ok (.getfield 23, 3) := by decide +kernel
theorem dX2_ask_35 : decode cX2_ask 35 = .ok (.iload 4, 2) := by decide +kernel
theorem dX2_ask_37 : decode cX2_ask 37 = .ok (.iaload, 1) := by decide +kernel
theorem dX2_ask_38 : decode cX2_ask 38 = .ok (.invokevirtual 83, 3) := by decide +kernel
theorem dX2_ask_41 : decode cX2_ask 41 = .ok (.ifCond .eq 30, 3) := by decide +kernel
theorem dX2_ask_44 : decode cX2_ask 44 = .ok (.iconst 0, 1) := by decide +kernel
theorem dX2_ask_45 : decode cX2_ask 45 = .ok (.iload_n 2, 1) := by decide +kernel
theorem dX2_ask_46 : decode cX2_ask 46 = .ok (.aload_n 0, 1) := by decide +kernel
theorem dX2_ask_47 : decode cX2_ask 47 = .ok (.aload_n 0, 1) := by decide +kernel
theorem dX2_ask_48 : decode cX2_ask 48 = .ok (.getfield 17, 3) := by decide +kernel
theorem dX2_ask_51 : decode cX2_ask 51 = .ok (.iload 4, 2) := by decide +kernel
theorem dX2_ask_53 : decode cX2_ask 53 = .ok (.iaload, 1) := by decide +kernel
theorem dX2_ask_54 : decode cX2_ask 54 = .ok (.aload_n 0, 1) := by decide +kernel
theorem dX2_ask_55 : decode cX2_ask 55 = .ok (.getfield 20, 3) := by decide +kernel
theorem dX2_ask_58 : decode cX2_ask 58 = .ok (.iload 4, 2) := by decide +kernel
theorem dX2_ask_60 : decode cX2_ask 60 = .ok (.iaload, 1) := by decide +kernel
theorem dX2_ask_61 : decode cX2_ask 61 = .ok (.invokevirtual 83, 3) := by decide +kernel
theorem dX2_ask_64 : decode cX2_ask 64 = .ok (.invokestatic 87, 3) := by decide +kernel
theorem dX2_ask_67 : decode cX2_ask 67 = .ok (.invokestatic 92, 3) := by decide +kernel
theorem dX2_ask_70 : decode cX2_ask 70 = .ok (.ireturn, 1) := by decide +kernel
theorem dX2_ask_71 : decode cX2_ask 71 = .ok (.iinc 4 1, 3) := by decide +kernel
theorem dX2_ask_74 : decode cX2_ask 74 = .ok (.goto (-71), 3) := by decide +kernel
theorem dX2_ask_77 : decode cX2_ask 77 = .ok (.iload_n 3, 1) := by decide +kernel
theorem dX2_ask_78 : decode cX2_ask 78 = .ok (.ireturn, 1) := by decide +kernel
theorem dX2_run_0 : decode cX2_run 0 = .ok (.aload_n 0, 1) := by decide +kernel
theorem dX2_run_1 : decode cX2_run 1 = .ok (.iconst 0, 1) := by decide +kernel
theorem dX2_run_2 : decode cX2_run 2 = .ok (.putfield 50, 3) := by decide +kernel
theorem dX2_run_5 : decode cX2_run 5 = .ok (.iload_n 1, 1) := by decide +kernel
theorem dX2_run_6 : decode cX2_run 6 = .ok (.istore_n 3, 1) := by decide +kernel
theorem dX2_run_7 : decode cX2_run 7 = .ok (.iload_n 3, 1) := by decide +kernel
theorem dX2_run_8 : decode cX2_run 8 = .ok (.iload_n 2, 1) := by decide +kernel
theorem dX2_run_9 : decode cX2_run 9 = .ok (.if_icmp .ge 201, 3) := by decide +kernel
theorem dX2_run_12 : decode cX2_run 12 = .ok (.aload_n 0, 1) := by decide +kernel
theorem dX2_run_13 : decode cX2_run 13 = .ok (.getfield 29, 3) := by decide +kernel
theorem dX2_run_16 : decode cX2_run 16 = .ok (.iload_n 3, 1) := by decide +kernel
theorem dX2_run_17 : decode cX2_run 17 = .ok (.iaload, 1) := by decide +kernel
theorem dX2_run_18 : decode cX2_run 18 = .ok (.istore 4, 2) := by decide +kernel
theorem dX2_run_20 : decode cX2_run 20 = .ok (.iload 4, 2) := by decide +kernel
theorem dX2_run_22 : decode cX2_run 22 = .ok (.invokestatic 95, 3) := by decide +kernel
theorem dX2_run_25 : decode cX2_run 25 = .ok (.ifCond .eq 7, 3) := by decide +kernel
theorem dX2_run_28 : decode cX2_run 28 = .ok (.iconst 0, 1) := by decide +kernel
theorem dX2_run_29 : decode cX2_run 29 = .ok (.goto 7, 3) := by decide +kernel
theorem dX2_run_32 : decode cX2_run 32 = .ok (.aload_n 0, 1) := by decide +kernel
theorem dX2_run_33 : decode cX2_run 33 = .ok (.invokevirtual 99, 3) := by decide +kernel
theorem dX2_run_36 : decode cX2_run 36 = .ok (.istore 5, 2) := by decide +kernel
theorem dX2_run_38 : decode cX2_run 38 = .ok (.iload 4, 2) := by decide +kernel
theorem dX2_run_40 : decode cX2_run 40 = .ok (.bipush 48, 2) := by decide +kernel
theorem dX2_run_42 : decode cX2_run 42 = .ok (.if_icmp .ne 16, 3) := by decide +kernel
theorem dX2_run_45 : decode cX2_run 45 = .ok (.aload_n 0, 1) := by decide +kernel
theorem dX2_run_46 : decode cX2_run 46 = .ok (.aload_n 0, 1) := by decide +kernel
theorem dX2_run_47 : decode cX2_run 47 = .ok (.getfield 32, 3) := by decide +kernel
theorem dX2_run_50 : decode cX2_run 50 = .ok (.iload_n 3, 1) := by decide +kernel
theorem dX2_run_51 : decode cX2_run 51 = .ok (.iaload, 1) := by decide +kernel
theorem dX2_run_52 : decode cX2_run 52 = .ok (.invokevirtual 102, 3) := by decide +kernel
theorem dX2_run_55 : decode cX2_run 55 = .ok (.goto 149, 3) := by decide +kernel
theorem dX2_run_58 : decode cX2_run 58 = .ok (.iload 4, 2) := by decide +kernel
theorem dX2_run_60 : decode cX2_run 60 = .ok (.bipush 97, 2) := by decide +kernel
theorem dX2_run_62 : decode cX2_run 62 = .ok (.if_icmp .ne 21, 3) := by decide +kernel
theorem dX2_run_65 : decode cX2_run 65 = .ok (.aload_n 0, 1) := by decide +kernel
theorem dX2_run_66 : decode cX2_run 66 = .ok (.aload_n 0, 1) := by decide +kernel
theorem dX2_run_67 : decode cX2_run 67 = .ok (.getfield 44, 3) := by decide +kernel
theorem dX2_run_70 : decode cX2_run 70 = .ok (.aload_n 0, 1) := by decide +kernel
theorem dX2_run_71 : decode cX2_run 71 = .ok (.getfield 32, 3) := by decide +kernel
theorem dX2_run_74 : decode cX2_run 74 = .ok (.iload_n 3, 1) := by decide +kernel
theorem dX2_run_75 : decode cX2_run 75 = .ok (.iaload, 1) := by decide +kernel
theorem dX2_run_76 : decode cX2_run 76 = .ok (.iaload, 1) := by decide +kernel
theorem dX2_run_77 : decode cX2_run 77 = .ok (.invokevirtual 102, 3) := by decide +kernel
theorem dX2_run_80 : decode cX2_run 80 = .ok (.goto 124, 3) := by decide +kernel
theorem dX2_run_83 : decode cX2_run 83 = .ok (.iload 4, 2) := by decide +kernel
theorem dX2_run_85 : decode cX2_run 85 = .ok (.bipush 33, 2) := by decide +kernel
theorem dX2_run_87 : decode cX2_run 87 = .ok (.if_icmp .ne 20, 3) := by decide +kernel
theorem dX2_run_90 : decode cX2_run 90 = .ok (.aload_n 0, 1) := by decide +kernel
theorem dX2_run_91 : decode cX2_run 91 = .ok (.iload 5, 2) := by decide +kernel
theorem dX2_run_93 : decode cX2_run 93 = .ok (.ifCond .ne 7, 3) := by decide +kernel
theorem dX2_run_96 : decode cX2_run 96 = .ok (.iconst 1, 1) := by decide +kernel
theorem dX2_run_97 : decode cX2_run 97 = .ok (.goto 4, 3) := by decide +kernel
theorem dX2_run_100 : decode cX2_run 100 = .ok (.iconst 0, 1) := by decide +kernel
theorem dX2_run_101 : decode cX2_run 101 = .ok (.invokevirtual 102, 3) := by decide +kernel
theorem dX2_run_104 : decode cX2_run 104 = .ok (.goto 100, 3) := by decide +kernel
theorem dX2_run_107 : decode cX2_run 107 = .ok (.iload 4, 2) := by decide +kernel
theorem dX2_run_109 : decode cX2_run 109 = .ok (.bipush 38, 2) := by decide +kernel
theorem dX2_run_111 : decode cX2_run 111 = .ok (.if_icmp .eq 10, 3) := by decide +kernel
theorem dX2_run_114 : decode cX2_run 114 = .ok (.iload 4, 2) := by decide +kernel
theorem dX2_run_116 : decode cX2_run 116 = .ok (.bipush 124, 2) := by decide +kernel
theorem dX2_run_118 : decode cX2_run 118 = .ok (.if_icmp .ne 50, 3) := by decide +kernel
theorem dX2_run_121 : decode cX2_run 121 = .ok (.iload 5, 2) := by decide +kernel
theorem dX2_run_123 : decode cX2_run 123 = .ok (.ifCond .eq 7, 3) := by decide +kernel
theorem dX2_run_126 : decode cX2_run 126 = .ok (.iconst 1, 1) := by decide +kernel
theorem dX2_run_127 : decode cX2_run 127 = .ok (.goto 4, 3) := by decide +kernel
theorem dX2_run_130 : decode cX2_run 130 = .ok (.iconst 0, 1) := by decide +kernel
theorem dX2_run_131 : decode cX2_run 131 = .ok (.iload 4, 2) := by decide +kernel
theorem dX2_run_133 : decode cX2_run 133 = .ok (.bipush 124, 2) := by decide +kernel
theorem dX2_run_135 : decode cX2_run 135 = .ok (.if_icmp .ne 7, 3) := by decide +kernel
theorem dX2_run_138 : decode cX2_run 138 = .ok (.iconst 1, 1) := by decide +kernel
theorem dX2_run_139 : decode cX2_run 139 = .ok (.goto 4, 3) := by decide +kernel
theorem dX2_run_142 : decode cX2_run 142 = .ok (.iconst 0, 1) := by decide +kernel
theorem dX2_run_143 : decode cX2_run 143 = .ok (.if_icmp .ne 61, 3) := by decide +kernel
theorem dX2_run_146 : decode cX2_run 146 = .ok (.aload_n 0, 1) := by decide +kernel
theorem dX2_run_147 : decode cX2_run 147 = .ok (.iload 5, 2) := by decide +kernel
theorem dX2_run_149 : decode cX2_run 149 = .ok (.invokevirtual 102, 3) := by decide +kernel
theorem dX2_run_152 : decode cX2_run 152 = .ok (.iload_n 3, 1) := by decide +kernel
theorem dX2_run_153 : decode cX2_run 153 = .ok (.aload_n 0, 1) := by decide +kernel
theorem dX2_run_154 : decode cX2_run 154 = .ok (.getfield 32, 3) := by decide +kernel
theorem dX2_run_157 : decode cX2_run 157 = .ok (.iload_n 3, 1) := by decide +kernel
theorem dX2_run_158 : decode cX2_run 158 = .ok (.iaload, 1) := by decide +kernel
theorem dX2_run_159 : decode cX2_run 159 = .ok (.iconst 1, 1) := by decide +kernel
theorem dX2_run_160 : decode cX2_run 160 = .ok (.isub, 1) := by decide +kernel
theorem dX2_run_161 : decode cX2_run 161 = .ok (.invokestatic 92, 3) := by decide +kernel
theorem dX2_run_164 : decode cX2_run 164 = .ok (.istore_n 3, 1) := by decide +kernel
theorem dX2_run_165 : decode cX2_run 165 = .ok (.goto 39, 3) := by decide +kernel
theorem dX2_run_168 : decode cX2_run 168 = .ok (.iload 5, 2) := by decide +kernel
theorem dX2_run_170 : decode cX2_run 170 = .ok (.ifCond .ne 19, 3) := by decide +kernel
theorem dX2_run_173 : decode cX2_run 173 = .ok (.iload 4, 2) := by decide +kernel
theorem dX2_run_175 : decode cX2_run 175 = .ok (.bipush 47, 2) := by decide +kernel
theorem dX2_run_177 : decode cX2_run 177 = .ok (.if_icmp .eq 10, 3) := by decide +kernel
theorem dX2_run_180 : decode cX2_run 180 = .ok (.iload 4, 2) := by decide +kernel
theorem dX2_run_182 : decode cX2_run 182 = .ok (.bipush 37, 2) := by decide +kernel
theorem dX2_run_184 : decode cX2_run 184 = .ok (.if_icmp .ne 5, 3) := by decide +kernel
theorem dX2_run_187 : decode cX2_run 187 = .ok (.iconst 0, 1) := by decide +kernel
theorem dX2_run_188 : decode cX2_run 188 = .ok (.ireturn, 1) := by decide +kernel
theorem dX2_run_189 : decode cX2_run 189 = .ok (.aload_n 0, 1) := by decide +kernel
theorem dX2_run_190 : decode cX2_run 190 = .ok (.iload 4, 2) := by decide +kernel
theorem dX2_run_192 : decode cX2_run 192 = .ok (.aload_n 0, 1) := by decide +kernel
theorem dX2_run_193 : decode cX2_run 193 = .ok (.invokevirtual 99, 3) := by decide +kernel
theorem dX2_run_196 : decode cX2_run 196 = .ok (.iload 5, 2) := by decide +kernel
theorem dX2_run_198 : decode cX2_run 198 = .ok (.invokestatic 106, 3) := by decide +kernel
theorem dX2_run_201 : decode cX2_run 201 = .ok (.invokevirtual 102, 3) := by decide +kernel
theorem dX2_run_204 : decode cX2_run 204 = .ok (.iinc 3 1, 3) := by decide +kernel
theorem dX2_run_207 : decode cX2_run 207 = .ok (.goto (-200), 3) := by decide +kernel
theorem dX2_run_210 : decode cX2_run 210 = .ok (.aload_n 0, 1) := by decide +kernel
theorem dX2_run_211 : decode cX2_run 211 = .ok (.invokevirtual 99, 3) := by decide +kernel
theorem dX2_run_214 : decode cX2_run 214 = .ok (.ireturn, 1) := by decide +kernel
theorem dX2_isPushed_0 : decode cX2_isPushed 0 = .ok (.iload_n 0, 1) := by decide +kernel
theorem dX2_isPushed_1 : decode cX2_isPushed 1 = .ok (.bipush 48, 2) := by decide +kernel
theorem dX2_isPushed_3 : decode cX2_isPushed 3 = .ok (.if_icmp .eq 9, 3) := by decide +kernel
theorem dX2_isPushed_6 : decode cX2_isPushed 6 = .ok (.iload_n 0, 1) := by decide +kernel
theorem dX2_isPushed_7 : decode cX2_isPushed 7 = .ok (.bipush 97, 2) := by decide +kernel
theorem dX2_isPushed_9 : decode cX2_isPushed 9 = .ok (.if_icmp .ne 7, 3) := by decide +kernel
theorem dX2_isPushed_12 : decode cX2_isPushed 12 = .ok (.iconst 1, 1) := by decide +kernel
theorem dX2_isPushed_13 : decode cX2_isPushed 13 = .ok (.goto 4, 3) := by decide +kernel
theorem dX2_isPushed_16 : decode cX2_isPushed 16 = .ok (.iconst 0, 1) := by decide +kernel
theorem dX2_isPushed_17 : decode cX2_isPushed 17 = .ok (.ireturn, 1) := by decide +kernel
theorem dX2_reckon_0 : decode cX2_reckon 0 = .ok (.iload_n 0, 1) := by decide +kernel
theorem dX2_reckon_1 : decode cX2_reckon 1 = .ok (.lookupswitch 125 #[(37, 91), (42, 75), (43, 67), (45, 71), (47, 79), (60, 103), (62, 114)], 67) := by decide +kernel
theorem dX2_reckon_68 : decode cX2_reckon 68 = .ok (.iload_n 1, 1) := by decide +kernel
theorem dX2_reckon_69 : decode cX2_reckon 69 = .ok (.iload_n 2, 1) := by decide +kernel
theorem dX2_reckon_70 : decode cX2_reckon 70 = .ok (.iadd, 1) := by decide +kernel
theorem dX2_reckon_71 : decode cX2_reckon 71 = .ok (.ireturn, 1) := by decide +kernel
theorem dX2_reckon_72 : decode cX2_reckon 72 = .ok (.iload_n 1, 1) := by decide +kernel
theorem dX2_reckon_73 : decode cX2_reckon 73 = .ok (.iload_n 2, 1) := by decide +kernel
theorem dX2_reckon_74 : decode cX2_reckon 74 = .ok (.isub, 1) := by decide +kernel
theorem dX2_reckon_75 : decode cX2_reckon 75 = .ok (.ireturn, 1) := by decide +kernel
theorem dX2_reckon_76 : decode cX2_reckon 76 = .ok (.iload_n 1, 1) := by decide +kernel
theorem dX2_reckon_77 : decode cX2_reckon 77 = .ok (.iload_n 2, 1) := by decide +kernel
theorem dX2_reckon_78 : decode cX2_reckon 78 = .ok (.imul, 1) := by decide +kernel
theorem dX2_reckon_79 : decode cX2_reckon 79 = .ok (.ireturn, 1) := by decide +kernel
theorem dX2_reckon_80 : decode cX2_reckon 80 = .ok (.iload_n 2, 1) := by decide +kernel
theorem dX2_reckon_81 : decode cX2_reckon 81 = .ok (.ifCond .ne 7, 3) := by decide +kernel
theorem dX2_reckon_84 : decode cX2_reckon 84 = .ok (.iconst 0, 1) := by decide +kernel
theorem dX2_reckon_85 : decode cX2_reckon 85 = .ok (.goto 6, 3) := by decide +kernel
theorem dX2_reckon_88 : decode cX2_reckon 88 = .ok (.iload_n 1, 1) := by decide +kernel
theorem dX2_reckon_89 : decode cX2_reckon 89 = .ok (.iload_n 2, 1) := by decide +kernel
theorem dX2_reckon_90 : decode cX2_reckon 90 = .ok (.idiv, 1) := by decide +kernel
theorem dX2_reckon_91 : decode cX2_reckon 91 = .ok (.ireturn, 1) := by decide +kernel
theorem dX2_reckon_92 : decode cX2_reckon 92 = .ok (.iload_n 2, 1) := by decide +kernel
theorem dX2_reckon_93 : decode cX2_reckon 93 = .ok (.ifCond .ne 7, 3) := by decide +kernel
theorem dX2_reckon_96 : decode cX2_reckon 96 = .ok (.iconst 0, 1) := by decide +kernel
theorem dX2_reckon_97 : decode cX2_reckon 97 = .ok (.goto 6, 3) := by decide +kernel
theorem dX2_reckon_100 : decode cX2_reckon 100 = .ok (.iload_n 1, 1) := by decide +kernel
theorem dX2_reckon_101 : decode cX2_reckon 101 = .ok (.iload_n 2, 1) := by decide +kernel
theorem dX2_reckon_102 : decode cX2_reckon 102 = .ok (.irem, 1) := by decide +kernel
theorem dX2_reckon_103 : decode cX2_reckon 103 = .ok (.ireturn, 1) := by decide +kernel
theorem dX2_reckon_104 : decode cX2_reckon 104 = .ok (.iload_n 1, 1) := by decide +kernel
theorem dX2_reckon_105 : decode cX2_reckon 105 = .ok (.iload_n 2, 1) := by decide +kernel
theorem dX2_reckon_106 : decode cX2_reckon 106 = .ok (.if_icmp .ge 7, 3) := by decide +kernel
theorem dX2_reckon_109 : decode cX2_reckon 109 = .ok (.iconst 1, 1) := by decide +kernel
theorem dX2_reckon_110 : decode cX2_reckon 110 = .ok (.goto 4, 3) := by decide +kernel
theorem dX2_reckon_113 : decode cX2_reckon 113 = .ok (.iconst 0, 1) := by decide +kernel
theorem dX2_reckon_114 : decode cX2_reckon 114 = .ok (.ireturn, 1) := by decide +kernel
theorem dX2_reckon_115 : decode cX2_reckon 115 = .ok (.iload_n 1, 1) := by decide +kernel
theorem dX2_reckon_116 : decode cX2_reckon 116 = .ok (.iload_n 2, 1) := by decide +kernel
theorem dX2_reckon_117 : decode cX2_reckon 117 = .ok (.if_icmp .le 7, 3) := by decide +kernel
theorem dX2_reckon_120 : decode cX2_reckon 120 = .ok (.iconst 1, 1) := by decide +kernel
theorem dX2_reckon_121 : decode cX2_reckon 121 = .ok (.goto 4, 3) := by decide +kernel
theorem dX2_reckon_124 : decode cX2_reckon 124 = .ok (.iconst 0, 1) := by decide +kernel
theorem dX2_reckon_125 : decode cX2_reckon 125 = .ok (.ireturn, 1) := by decide +kernel
theorem dX2_reckon_126 : decode cX2_reckon 126 = .ok (.iload_n 1, 1) := by decide +kernel
theorem dX2_reckon_127 : decode cX2_reckon 127 = .ok (.iload_n 2, 1) := by decide +kernel
theorem dX2_reckon_128 : decode cX2_reckon 128 = .ok (.if_icmp .ne 7, 3) := by decide +kernel
theorem dX2_reckon_131 : decode cX2_reckon 131 = .ok (.iconst 1, 1) := by decide +kernel
theorem dX2_reckon_132 : decode cX2_reckon 132 = .ok (.goto 4, 3) := by decide +kernel
theorem dX2_reckon_135 : decode cX2_reckon 135 = .ok (.iconst 0, 1) := by decide +kernel
theorem dX2_reckon_136 : decode cX2_reckon 136 = .ok (.ireturn, 1) := by decide +kernel
theorem dX2_push_0 : decode cX2_push 0 = .ok (.aload_n 0, 1) := by decide +kernel
theorem dX2_push_1 : decode cX2_push 1 = .ok (.getfield 50, 3) := by decide +kernel
theorem dX2_push_4 : decode cX2_push 4 = .ok (.aload_n 0, 1) := by decide +kernel
theorem dX2_push_5 : decode cX2_push 5 = .ok (.getfield 47, 3) := by decide +kernel
theorem dX2_push_8 : decode cX2_push 8 = .ok (.arraylength, 1) := by decide +kernel
theorem dX2_push_9 : decode cX2_push 9 = .ok (.if_icmp .ge 23, 3) := by decide +kernel
theorem dX2_push_12 : decode cX2_push 12 = .ok (.aload_n 0, 1) := by decide +kernel
theorem dX2_push_13 : decode cX2_push 13 = .ok (.getfield 47, 3) := by decide +kernel
theorem dX2_push_16 : decode cX2_push 16 = .ok (.aload_n 0, 1) := by decide +kernel
theorem dX2_push_17 : decode cX2_push 17 = .ok (.getfield 50, 3) := by decide +kernel
theorem dX2_push_20 : decode cX2_push 20 = .ok (.iload_n 1, 1) := by decide +kernel
theorem dX2_push_21 : decode cX2_push 21 = .ok (.iastore, 1) := by decide +kernel
theorem dX2_push_22 : decode cX2_push 22 = .ok (.aload_n 0, 1) := by decide +kernel
theorem dX2_push_23 : decode cX2_push 23 = .ok (.dup, 1) := by decide +kernel
theorem dX2_push_24 : decode cX2_push 24 = .ok (.getfield 50, 3) := by decide +kernel
theorem dX2_push_27 : decode cX2_push 27 = .ok (.iconst 1, 1) := by decide +kernel
theorem dX2_push_28 : decode cX2_push 28 = .ok (.iadd, 1) := by decide +kernel
theorem dX2_push_29 : decode cX2_push 29 = .ok (.putfield 50, 3) := by decide +kernel
theorem dX2_push_32 : decode cX2_push 32 = .ok (.return_, 1) := by decide +kernel
theorem dX2_pop_0 : decode cX2_pop 0 = .ok (.aload_n 0, 1) := by decide +kernel
theorem dX2_pop_1 : decode cX2_pop 1 = .ok (.getfield 50, 3) := by decide +kernel
theorem dX2_pop_4 : decode cX2_pop 4 = .ok (.ifCond .ne 5, 3) := by decide +kernel
theorem dX2_pop_7 : decode cX2_pop 7 = .ok (.iconst 0, 1) := by decide +kernel
theorem dX2_pop_8 : decode cX2_pop 8 = .ok (.ireturn, 1) := by decide +kernel
theorem dX2_pop_9 : decode cX2_pop 9 = .ok (.aload_n 0, 1) := by decide +kernel
theorem dX2_pop_10 : decode cX2_pop 10 = .ok (.dup, 1) := by decide +kernel
theorem dX2_pop_11 : decode cX2_pop 11 = .ok (.getfield 50, 3) := by decide +kernel
theorem dX2_pop_14 : decode cX2_pop 14 = .ok (.iconst 1, 1) := by decide +kernel
theorem dX2_pop_15 : decode cX2_pop 15 = .ok (.isub, 1) := by decide +kernel
theorem dX2_pop_16 : decode cX2_pop 16 = .ok (.putfield 50, 3) := by decide +kernel
theorem dX2_pop_19 : decode cX2_pop 19 = .ok (.aload_n 0, 1) := by decide +kernel
theorem dX2_pop_20 : decode cX2_pop 20 = .ok (.getfield 47, 3) := by decide +kernel
theorem dX2_pop_23 : decode cX2_pop 23 = .ok (.aload_n 0, 1) := by decide +kernel
theorem dX2_pop_24 : decode cX2_pop 24 = .ok (.getfield 50, 3) := by decide +kernel
theorem dX2_pop_27 : decode cX2_pop 27 = .ok (.iaload, 1) := by decide +kernel
theorem dX2_pop_28 : decode cX2_pop 28 = .ok (.ireturn, 1) := by decide +kernel
theorem dX3_init_0 : decode cX3_init 0 = .ok (.aload_n 0, 1) := by decide +kernel
theorem dX3_init_1 : decode cX3_init 1 = .ok (.invokespecial 1, 3) := by decide +kernel
theorem dX3_init_4 : decode cX3_init 4 = .ok (.aload_n 0, 1) := by decide +kernel
theorem dX3_init_5 : decode cX3_init 5 = .ok (.aconst_null, 1) := by decide +kernel
theorem dX3_init_6 : decode cX3_init 6 = .ok (.putfield 7, 3) := by decide +kernel
theorem dX3_init_9 : decode cX3_init 9 = .ok (.aload_n 0, 1) := by decide +kernel
theorem dX3_init_10 : decode cX3_init 10 = .ok (.aload_n 1, 1) := by decide +kernel
theorem dX3_init_11 : decode cX3_init 11 = .ok (.putfield 13, 3) := by decide +kernel
theorem dX3_init_14 : decode cX3_init 14 = .ok (.return_, 1) := by decide +kernel
theorem dX3_read_0 : decode cX3_read 0 = .ok (.aload_n 0, 1) := by decide +kernel
theorem dX3_read_1 : decode cX3_read 1 = .ok (.aload_n 1, 1) := by decide +kernel
theorem dX3_read_2 : decode cX3_read 2 = .ok (.putfield 7, 3) := by decide +kernel
theorem dX3_read_5 : decode cX3_read 5 = .ok (.aload_n 0, 1) := by decide +kernel
theorem dX3_read_6 : decode cX3_read 6 = .ok (.getfield 7, 3) := by decide +kernel
theorem dX3_read_9 : decode cX3_read 9 = .ok (.invokevirtual 17, 3) := by decide +kernel
theorem dX3_read_12 : decode cX3_read 12 = .ok (.aload_n 0, 1) := by decide +kernel
theorem dX3_read_13 : decode cX3_read 13 = .ok (.getfield 13, 3) := by decide +kernel
theorem dX3_read_16 : decode cX3_read 16 = .ok (.iload_n 2, 1) := by decide +kernel
theorem dX3_read_17 : decode cX3_read 17 = .ok (.invokevirtual 22, 3) := by decide +kernel
theorem dX3_read_20 : decode cX3_read 20 = .ok (.iconst 0, 1) := by decide +kernel
theorem dX3_read_21 : decode cX3_read 21 = .ok (.istore_n 3, 1) := by decide +kernel
theorem dX3_read_22 : decode cX3_read 22 = .ok (.iload_n 3, 1) := by decide +kernel
theorem dX3_read_23 : decode cX3_read 23 = .ok (.bipush 16, 2) := by decide +kernel
theorem dX3_read_25 : decode cX3_read 25 = .ok (.if_icmp .gt 35, 3) := by decide +kernel
theorem dX3_read_28 : decode cX3_read 28 = .ok (.aload_n 0, 1) := by decide +kernel
theorem dX3_read_29 : decode cX3_read 29 = .ok (.invokevirtual 28, 3) := by decide +kernel
theorem dX3_read_32 : decode cX3_read 32 = .ok (.aload_n 0, 1) := by decide +kernel
theorem dX3_read_33 : decode cX3_read 33 = .ok (.getfield 13, 3) := by decide +kernel
theorem dX3_read_36 : decode cX3_read 36 = .ok (.invokevirtual 31, 3) := by decide +kernel
theorem dX3_read_39 : decode cX3_read 39 = .ok (.ifCond .eq 6, 3) := by decide +kernel
theorem dX3_read_42 : decode cX3_read 42 = .ok (.goto 18, 3) := by decide +kernel
theorem dX3_read_45 : decode cX3_read 45 = .ok (.aload_n 0, 1) := by decide +kernel
theorem dX3_read_46 : decode cX3_read 46 = .ok (.getfield 13, 3) := by decide +kernel
theorem dX3_read_49 : decode cX3_read 49 = .ok (.bipush 59, 2) := by decide +kernel
theorem dX3_read_51 : decode cX3_read 51 = .ok (.invokevirtual 35, 3) := by decide +kernel
theorem dX3_read_54 : decode cX3_read 54 = .ok (.iinc 3 1, 3) := by decide +kernel
theorem dX3_read_57 : decode cX3_read 57 = .ok (.goto (-35), 3) := by decide +kernel
theorem dX3_read_60 : decode cX3_read 60 = .ok (.aload_n 0, 1) := by decide +kernel
theorem dX3_read_61 : decode cX3_read 61 = .ok (.getfield 13, 3) := by decide +kernel
theorem dX3_read_64 : decode cX3_read 64 = .ok (.aload_n 0, 1) := by decide +kernel
theorem dX3_read_65 : decode cX3_read 65 = .ok (.getfield 7, 3) := by decide +kernel
theorem dX3_read_68 : decode cX3_read 68 = .ok (.getfield 38, 3) := by decide +kernel
theorem dX3_read_71 : decode cX3_read 71 = .ok (.invokevirtual 42, 3) := by decide +kernel
theorem dX3_read_74 : decode cX3_read 74 = .ok (.ireturn, 1) := by decide +kernel
theorem dX3_readRule_0 : decode cX3_readRule 0 = .ok (.aload_n 0, 1) := by decide +kernel
theorem dX3_readRule_1 : decode cX3_readRule 1 = .ok (.getfield 13, 3) := by decide +kernel
theorem dX3_readRule_4 : decode cX3_readRule 4 = .ok (.invokevirtual 46, 3) := by decide +kernel
theorem dX3_readRule_7 : decode cX3_readRule 7 = .ok (.istore_n 1, 1) := by decide +kernel
theorem dX3_readRule_8 : decode cX3_readRule 8 = .ok (.iload_n 1, 1) := by decide +kernel
theorem dX3_readRule_9 : decode cX3_readRule 9 = .ok (.bipush 118, 2) := by decide +kernel
theorem dX3_readRule_11 : decode cX3_readRule 11 = .ok (.if_icmp .eq 36, 3) := by decide +kernel
theorem dX3_readRule_14 : decode cX3_readRule 14 = .ok (.iload_n 1, 1) := by decide +kernel
theorem dX3_readRule_15 : decode cX3_readRule 15 = .ok (.bipush 121, 2) := by decide +kernel
theorem dX3_readRule_17 : decode cX3_readRule 17 = .ok (.if_icmp .eq 30, 3) := by decide +kernel
theorem dX3_readRule_20 : decode cX3_readRule 20 = .ok (.iload_n 1, 1) := by decide +kernel
theorem dX3_readRule_21 : decode cX3_readRule 21 = .ok (.bipush 114, 2) := by decide +kernel
theorem dX3_readRule_23 : decode cX3_readRule 23 = .ok (.if_icmp .eq 24, 3) := by decide +kernel
theorem dX3_readRule_26 : decode cX3_readRule 26 = .ok (.iload_n 1, 1) := by decide +kernel
theorem dX3_readRule_27 : decode cX3_readRule 27 = .ok (.bipush 120, 2) := by decide +kernel
theorem dX3_readRule_29 : decode cX3_readRule 29 = .ok (.if_icmp .eq 18, 3) := by decide +kernel
theorem dX3_readRule_32 : decode cX3_readRule 32 = .ok (.aload_n 0, 1) := by decide +kernel
theorem dX3_readRule_33 : decode cX3_readRule 33 = .ok (.getfield 13, 3) := by decide +kernel
theorem dX3_readRule_36 : decode cX3_readRule 36 = .ok (.iconst 1, 1) := by decide +kernel
theorem dX3_readRule_37 : decode cX3_readRule 37 = .ok (.aload_n 0, 1) := by decide +kernel
theorem dX3_readRule_38 : decode cX3_readRule 38 = .ok (.getfield 13, 3) := by decide +kernel
theorem dX3_readRule_41 : decode cX3_readRule 41 = .ok (.getfield 50, 3) := by decide +kernel
theorem dX3_readRule_44 : decode cX3_readRule 44 = .ok (.invokevirtual 53, 3) := by decide +kernel
theorem dX3_readRule_47 : decode cX3_readRule 47 = .ok (.aload_n 0, 1) := by decide +kernel
theorem dX3_readRule_48 : decode cX3_readRule 48 = .ok (.getfield 7, 3) := by decide +kernel
theorem dX3_readRule_51 : decode cX3_readRule 51 = .ok (.getfield 38, 3) := by decide +kernel
theorem dX3_readRule_54 : decode cX3_readRule 54 = .ok (.bipush 16, 2) := by decide +kernel
theorem dX3_readRule_56 : decode cX3_readRule 56 = .ok (.if_icmp .lt 18, 3) := by decide +kernel
theorem dX3_readRule_59 : decode cX3_readRule 59 = .ok (.aload_n 0, 1) := by decide +kernel
theorem dX3_readRule_60 : decode cX3_readRule 60 = .ok (.getfield 13, 3) := by decide +kernel
theorem dX3_readRule_63 : decode cX3_readRule 63 = .ok (.iconst 4, 1) := by decide +kernel
theorem dX3_readRule_64 : decode cX3_readRule 64 = .ok (.aload_n 0, 1) := by decide +kernel
theorem dX3_readRule_65 : decode cX3_readRule 65 = .ok (.getfield 13, 3) := by decide +kernel
theorem dX3_readRule_68 : decode cX3_readRule 68 = .ok (.getfield 50, 3) := by decide +kernel
theorem dX3_readRule_71 : decode cX3_readRule 71 = .ok (.invokevirtual 53, 3) := by decide +kernel
theorem dX3_readRule_74 : decode cX3_readRule 74 = .ok (.aload_n 0, 1) := by decide +kernel
theorem dX3_readRule_75 : decode cX3_readRule 75 = .ok (.getfield 13, 3) := by decide +kernel
theorem dX3_readRule_78 : decode cX3_readRule 78 = .ok (.invokevirtual 57, 3) := by decide +kernel
theorem dX3_readRule_81 : decode cX3_readRule 81 = .ok (.aload_n 0, 1) := by decide +kernel
theorem dX3_readRule_82 : decode cX3_readRule 82 = .ok (.getfield 7, 3) := by decide +kernel
theorem dX3_readRule_85 : decode cX3_readRule 85 = .ok (.getfield 60, 3) := by decide +kernel
theorem dX3_readRule_88 : decode cX3_readRule 88 = .ok (.istore_n 2, 1) := by decide +kernel
theorem dX3_readRule_89 : decode cX3_readRule 89 = .ok (.iload_n 1, 1) := by decide +kernel
theorem dX3_readRule_90 : decode cX3_readRule 90 = .ok (.bipush 120, 2) := by decide +kernel
theorem dX3_readRule_92 : decode cX3_readRule 92 = .ok (.if_icmp .eq 8, 3) := by decide +kernel
theorem dX3_readRule_95 : decode cX3_readRule 95 = .ok (.aload_n 0, 1) := by decide +kernel
theorem dX3_readRule_96 : decode cX3_readRule 96 = .ok (.iconst 0, 1) := by decide +kernel
theorem dX3_readRule_97 : decode cX3_readRule 97 = .ok (.invokevirtual 63, 3) := by decide +kernel
theorem dX3_readRule_100 : decode cX3_readRule 100 = .ok (.aload_n 0, 1) := by decide +kernel
theorem dX3_readRule_101 : decode cX3_readRule 101 = .ok (.getfield 7, 3) := by decide +kernel
theorem dX3_readRule_104 : decode cX3_readRule 104 = .ok (.getfield 60, 3) := by decide +kernel
theorem dX3_readRule_107 : decode cX3_readRule 107 = .ok (.istore_n 3, 1) := by decide +kernel
theorem dX3_readRule_108 : decode cX3_readRule 108 = .ok (.aload_n 0, 1) := by decide +kernel
theorem dX3_readRule_109 : decode cX3_readRule 109 = .ok (.getfield 13, 3) := by decide +kernel
theorem dX3_readRule_112 : decode cX3_readRule 112 = .ok (.bipush 40, 2) := by decide +kernel
theorem dX3_readRule_114 : decode cX3_readRule 114 = .ok (.invokevirtual 35, 3) := by decide +kernel
theorem dX3_readRule_117 : decode cX3_readRule 117 = .ok (.aload_n 0, 1) := by decide +kernel
theorem dX3_readRule_118 : decode cX3_readRule 118 = .ok (.iconst 1, 1) := by decide +kernel
theorem dX3_readRule_119 : decode cX3_readRule 119 = .ok (.invokevirtual 66, 3) := by decide +kernel
theorem dX3_readRule_122 : decode cX3_readRule 122 = .ok (.aload_n 0, 1) := by decide +kernel
theorem dX3_readRule_123 : decode cX3_readRule 123 = .ok (.getfield 13, 3) := by decide +kernel
theorem dX3_readRule_126 : decode cX3_readRule 126 = .ok (.bipush 41, 2) := by decide +kernel
theorem dX3_readRule_128 : decode cX3_readRule 128 = .ok (.invokevirtual 35, 3) := by decide +kernel
theorem dX3_readRule_131 : decode cX3_readRule 131 = .ok (.aload_n 0, 1) := by decide +kernel
theorem dX3_readRule_132 : decode cX3_readRule 132 = .ok (.getfield 7, 3) := by decide +kernel
theorem dX3_readRule_135 : decode cX3_readRule 135 = .ok (.iload_n 1, 1) := by decide +kernel
theorem dX3_readRule_136 : decode cX3_readRule 136 = .ok (.iload_n 2, 1) := by decide +kernel
theorem dX3_readRule_137 : decode cX3_readRule 137 = .ok (.iload_n 3, 1) := by decide +kernel
theorem dX3_readRule_138 : decode cX3_readRule 138 = .ok (.invokevirtual 69, 3) := by decide +kernel
theorem dX3_readRule_141 : decode cX3_readRule 141 = .ok (.return_, 1) := by decide +kernel
theorem dX3_readChoice_0 : decode cX3_readChoice 0 = .ok (.aload_n 0, 1) := by decide +kernel
theorem dX3_readChoice_1 : decode cX3_readChoice 1 = .ok (.iload_n 1, 1) := by decide +kernel
theorem dX3_readChoice_2 : decode cX3_readChoice 2 = .ok (.invokevirtual 73, 3) := by decide +kernel
theorem dX3_readChoice_5 : decode cX3_readChoice 5 = .ok (.iconst 0, 1) := by decide +kernel
theorem dX3_readChoice_6 : decode cX3_readChoice 6 = .ok (.istore_n 2, 1) := by decide +kernel
theorem dX3_readChoice_7 : decode cX3_readChoice 7 = .ok (.iload_n 2, 1) := by decide +kernel
theorem dX3_readChoice_8 : decode cX3_readChoice 8 = .ok (.sipush 240, 3) := by decide +kernel
theorem dX3_readChoice_11 : decode cX3_readChoice 11 = .ok (.if_icmp .ge 52, 3) := by decide +kernel
theorem dX3_readChoice_14 : decode cX3_readChoice 14 = .ok (.aload_n 0, 1) := by decide +kernel
theorem dX3_readChoice_15 : decode cX3_readChoice 15 = .ok (.getfield 13, 3) := by decide +kernel
theorem dX3_readChoice_18 : decode cX3_readChoice 18 = .ok (.invokevirtual 46, 3) := by decide +kernel
theorem dX3_readChoice_21 : decode cX3_readChoice 21 = .ok (.bipush 124, 2) := by decide +kernel
theorem dX3_readChoice_23 : decode cX3_readChoice 23 = .ok (.if_icmp .ne 40, 3) := by decide +kernel
theorem dX3_readChoice_26 : decode cX3_readChoice 26 = .ok (.aload_n 0, 1) := by decide +kernel
theorem dX3_readChoice_27 : decode cX3_readChoice 27 = .ok (.getfield 13, 3) := by decide +kernel
theorem dX3_readChoice_30 : decode cX3_readChoice 30 = .ok (.invokevirtual 57, 3) := by decide +kernel
theorem dX3_readChoice_33 : decode cX3_readChoice 33 = .ok (.aload_n 0, 1) := by decide +kernel
theorem dX3_readChoice_34 : decode cX3_readChoice 34 = .ok (.getfield 7, 3) := by decide +kernel
theorem dX3_readChoice_37 : decode cX3_readChoice 37 = .ok (.bipush 124, 2) := by decide +kernel
theorem dX3_readChoice_39 : decode cX3_readChoice 39 = .ok (.iconst 0, 1) := by decide +kernel
theorem dX3_readChoice_40 : decode cX3_readChoice 40 = .ok (.invokevirtual 76, 3) := by decide +kernel
theorem dX3_readChoice_43 : decode cX3_readChoice 43 = .ok (.istore_n 3, 1) := by decide +kernel
theorem dX3_readChoice_44 : decode cX3_readChoice 44 = .ok (.aload_n 0, 1) := by decide +kernel
theorem dX3_readChoice_45 : decode cX3_readChoice 45 = .ok (.iload_n 1, 1) := by decide +kernel
theorem dX3_readChoice_46 : decode cX3_readChoice 46 = .ok (.invokevirtual 73, 3) := by decide +kernel
theorem dX3_readChoice_49 : decode cX3_readChoice 49 = .ok (.aload_n 0, 1) := by decide +kernel
theorem dX3_readChoice_50 : decode cX3_readChoice 50 = .ok (.getfield 7, 3) := by decide +kernel
theorem dX3_readChoice_53 : decode cX3_readChoice 53 = .ok (.iload_n 3, 1) := by decide +kernel
theorem dX3_readChoice_54 : decode cX3_readChoice 54 = .ok (.invokevirtual 80, 3) := by decide +kernel
theorem dX3_readChoice_57 : decode cX3_readChoice 57 = .ok (.iinc 2 1, 3) := by decide +kernel
theorem dX3_readChoice_60 : decode cX3_readChoice 60 = .ok (.goto (-53), 3) := by decide +kernel
theorem dX3_readChoice_63 : decode cX3_readChoice 63 = .ok (.return_, 1) := by decide +kernel
theorem dX3_readPart_0 : decode cX3_readPart 0 = .ok (.aload_n 0, 1) := by decide +kernel
theorem dX3_readPart_1 : decode cX3_readPart 1 = .ok (.iload_n 1, 1) := by decide +kernel
theorem dX3_readPart_2 : decode cX3_readPart 2 = .ok (.invokevirtual 83, 3) := by decide +kernel
theorem dX3_readPart_5 : decode cX3_readPart 5 = .ok (.iconst 0, 1) := by decide +kernel
theorem dX3_readPart_6 : decode cX3_readPart 6 = .ok (.istore_n 2, 1) := by decide +kernel
theorem dX3_readPart_7 : decode cX3_readPart 7 = .ok (.iload_n 2, 1) := by decide +kernel
theorem dX3_readPart_8 : decode cX3_readPart 8 = .ok (.sipush 240, 3) := by decide +kernel
theorem dX3_readPart_11 : decode cX3_readPart 11 = .ok (.if_icmp .ge 52, 3) := by decide +kernel
theorem dX3_readPart_14 : decode cX3_readPart 14 = .ok (.aload_n 0, 1) := by decide +kernel
theorem dX3_readPart_15 : decode cX3_readPart 15 = .ok (.getfield 13, 3) := by decide +kernel
theorem dX3_readPart_18 : decode cX3_readPart 18 = .ok (.invokevirtual 46, 3) := by decide +kernel
theorem dX3_readPart_21 : decode cX3_readPart 21 = .ok (.bipush 38, 2) := by decide +kernel
theorem dX3_readPart_23 : decode cX3_readPart 23 = .ok (.if_icmp .ne 40, 3) := by decide +kernel
theorem dX3_readPart_26 : decode cX3_readPart 26 = .ok (.aload_n 0, 1) := by decide +kernel
theorem dX3_readPart_27 : decode cX3_readPart 27 = .ok (.getfield 13, 3) := by decide +kernel
theorem dX3_readPart_30 : decode cX3_readPart 30 = .ok (.invokevirtual 57, 3) := by decide +kernel
theorem dX3_readPart_33 : decode cX3_readPart 33 = .ok (.aload_n 0, 1) := by decide +kernel
theorem dX3_readPart_34 : decode cX3_readPart 34 = .ok (.getfield 7, 3) := by decide +kernel
theorem dX3_readPart_37 : decode cX3_readPart 37 = .ok (.bipush 38, 2) := by decide +kernel
theorem dX3_readPart_39 : decode cX3_readPart 39 = .ok (.iconst 0, 1) := by decide +kernel
theorem dX3_readPart_40 : decode cX3_readPart 40 = .ok (.invokevirtual 76, 3) := by decide +kernel
theorem dX3_readPart_43 : decode cX3_readPart 43 = .ok (.istore_n 3, 1) := by decide +kernel
theorem dX3_readPart_44 : decode cX3_readPart 44 = .ok (.aload_n 0, 1) := by decide +kernel
theorem dX3_readPart_45 : decode cX3_readPart 45 = .ok (.iload_n 1, 1) := by decide +kernel
theorem dX3_readPart_46 : decode cX3_readPart 46 = .ok (.invokevirtual 83, 3) := by decide +kernel
theorem dX3_readPart_49 : decode cX3_readPart 49 = .ok (.aload_n 0, 1) := by decide +kernel
theorem dX3_readPart_50 : decode cX3_readPart 50 = .ok (.getfield 7, 3) := by decide +kernel
theorem dX3_readPart_53 : decode cX3_readPart 53 = .ok (.iload_n 3, 1) := by decide +kernel
theorem dX3_readPart_54 : decode cX3_readPart 54 = .ok (.invokevirtual 80, 3) := by decide +kernel
theorem dX3_readPart_57 : decode cX3_readPart 57 = .ok (.iinc 2 1, 3) := by decide +kernel
theorem dX3_readPart_60 : decode cX3_readPart 60 = .ok (.goto (-53), 3) := by decide +kernel
theorem dX3_readPart_63 : decode cX3_readPart 63 = .ok (.return_, 1) := by decide +kernel
theorem dX3_readTest_0 : decode cX3_readTest 0 = .ok (.iload_n 1, 1) := by decide +kernel
theorem dX3_readTest_1 : decode cX3_readTest 1 = .ok (.istore_n 2, 1) := by decide +kernel
theorem dX3_readTest_2 : decode cX3_readTest 2 = .ok (.iconst 0, 1) := by decide +kernel
theorem dX3_readTest_3 : decode cX3_readTest 3 = .ok (.istore_n 3, 1) := by decide +kernel
theorem dX3_readTest_4 : decode cX3_readTest 4 = .ok (.iload_n 3, 1) := by decide +kernel
theorem dX3_readTest_5 : decode cX3_readTest 5 = .ok (.sipush 240, 3) := by decide +kernel
theorem dX3_readTest_8 : decode cX3_readTest 8 = .ok (.if_icmp .ge 27, 3) := by decide +kernel
theorem dX3_readTest_11 : decode cX3_readTest 11 = .ok (.aload_n 0, 1) := by decide +kernel
theorem dX3_readTest_12 : decode cX3_readTest 12 = .ok (.getfield 13, 3) := by decide +kernel
theorem dX3_readTest_15 : decode cX3_readTest 15 = .ok (.invokevirtual 46, 3) := by decide +kernel
theorem dX3_readTest_18 : decode cX3_readTest 18 = .ok (.bipush 33, 2) := by decide +kernel
theorem dX3_readTest_20 : decode cX3_readTest 20 = .ok (.if_icmp .ne 15, 3) := by decide +kernel
theorem dX3_readTest_23 : decode cX3_readTest 23 = .ok (.aload_n 0, 1) := by decide +kernel
theorem dX3_readTest_24 : decode cX3_readTest 24 = .ok (.iload_n 2, 1) := by decide +kernel
theorem dX3_readTest_25 : decode cX3_readTest 25 = .ok (.invokevirtual 86, 3) := by decide +kernel
theorem dX3_readTest_28 : decode cX3_readTest 28 = .ok (.istore_n 2, 1) := by decide +kernel
theorem dX3_readTest_29 : decode cX3_readTest 29 = .ok (.iinc 3 1, 3) := by decide +kernel
theorem dX3_readTest_32 : decode cX3_readTest 32 = .ok (.goto (-28), 3) := by decide +kernel
theorem dX3_readTest_35 : decode cX3_readTest 35 = .ok (.aload_n 0, 1) := by decide +kernel
theorem dX3_readTest_36 : decode cX3_readTest 36 = .ok (.getfield 13, 3) := by decide +kernel
theorem dX3_readTest_39 : decode cX3_readTest 39 = .ok (.invokevirtual 46, 3) := by decide +kernel
theorem dX3_readTest_42 : decode cX3_readTest 42 = .ok (.bipush 40, 2) := by decide +kernel
theorem dX3_readTest_44 : decode cX3_readTest 44 = .ok (.if_icmp .ne 36, 3) := by decide +kernel
theorem dX3_readTest_47 : decode cX3_readTest 47 = .ok (.aload_n 0, 1) := by decide +kernel
theorem dX3_readTest_48 : decode cX3_readTest 48 = .ok (.iload_n 2, 1) := by decide +kernel
theorem dX3_readTest_49 : decode cX3_readTest 49 = .ok (.invokevirtual 86, 3) := by decide +kernel
theorem dX3_readTest_52 : decode cX3_readTest 52 = .ok (.istore_n 3, 1) := by decide +kernel
theorem dX3_readTest_53 : decode cX3_readTest 53 = .ok (.aload_n 0, 1) := by decide +kernel
theorem dX3_readTest_54 : decode cX3_readTest 54 = .ok (.getfield 13, 3) := by decide +kernel
theorem dX3_readTest_57 : decode cX3_readTest 57 = .ok (.invokevirtual 89, 3) := by decide +kernel
theorem dX3_readTest_60 : decode cX3_readTest 60 = .ok (.ifCond .ne 17, 3) := by decide +kernel
theorem dX3_readTest_63 : decode cX3_readTest 63 = .ok (.aload_n 0, 1) := by decide +kernel
theorem dX3_readTest_64 : decode cX3_readTest 64 = .ok (.iload_n 3, 1) := by decide +kernel
theorem dX3_readTest_65 : decode cX3_readTest 65 = .ok (.invokevirtual 66, 3) := by decide +kernel
theorem dX3_readTest_68 : decode cX3_readTest 68 = .ok (.aload_n 0, 1) := by decide +kernel
theorem dX3_readTest_69 : decode cX3_readTest 69 = .ok (.getfield 13, 3) := by decide +kernel
theorem dX3_readTest_72 : decode cX3_readTest 72 = .ok (.bipush 41, 2) := by decide +kernel
theorem dX3_readTest_74 : decode cX3_readTest 74 = .ok (.invokevirtual 35, 3) := by decide +kernel
theorem dX3_readTest_77 : decode cX3_readTest 77 = .ok (.goto 71, 3) := by decide +kernel
theorem dX3_readTest_80 : decode cX3_readTest 80 = .ok (.aload_n 0, 1) := by decide +kernel
theorem dX3_readTest_81 : decode cX3_readTest 81 = .ok (.iload_n 2, 1) := by decide +kernel
theorem dX3_readTest_82 : decode cX3_readTest 82 = .ok (.invokevirtual 63, 3) := by decide +kernel
theorem dX3_readTest_85 : decode cX3_readTest 85 = .ok (.aload_n 0, 1) := by decide +kernel
theorem dX3_readTest_86 : decode cX3_readTest 86 = .ok (.getfield 13, 3) := by decide +kernel
theorem dX3_readTest_89 : decode cX3_readTest 89 = .ok (.invokevirtual 46, 3) := by decide +kernel
theorem dX3_readTest_92 : decode cX3_readTest 92 = .ok (.istore_n 3, 1) := by decide +kernel
theorem dX3_readTest_93 : decode cX3_readTest 93 = .ok (.iload_n 3, 1) := by decide +kernel
theorem dX3_readTest_94 : decode cX3_readTest 94 = .ok (.bipush 60, 2) := by decide +kernel
theorem dX3_readTest_96 : decode cX3_readTest 96 = .ok (.if_icmp .eq 30, 3) := by decide +kernel
theorem dX3_readTest_99 : decode cX3_readTest 99 = .ok (.iload_n 3, 1) := by decide +kernel
theorem dX3_readTest_100 : decode cX3_readTest 100 = .ok (.bipush 62, 2) := by decide +kernel
theorem dX3_readTest_102 : decode cX3_readTest 102 = .ok (.if_icmp .eq 24, 3) := by decide +kernel
theorem dX3_readTest_105 : decode cX3_readTest 105 = .ok (.iload_n 3, 1) := by decide +kernel
theorem dX3_readTest_106 : decode cX3_readTest 106 = .ok (.bipush 61, 2) := by decide +kernel
theorem dX3_readTest_108 : decode cX3_readTest 108 = .ok (.if_icmp .eq 18, 3) := by decide +kernel
theorem dX3_readTest_111 : decode cX3_readTest 111 = .ok (.aload_n 0, 1) := by decide +kernel
theorem dX3_readTest_112 : decode cX3_readTest 112 = .ok (.getfield 13, 3) := by decide +kernel
theorem dX3_readTest_115 : decode cX3_readTest 115 = .ok (.iconst 1, 1) := by decide +kernel
theorem dX3_readTest_116 : decode cX3_readTest 116 = .ok (.aload_n 0, 1) := by decide +kernel
theorem dX3_readTest_117 : decode cX3_readTest 117 = .ok (.getfield 13, 3) := by decide +kernel
theorem dX3_readTest_120 : decode cX3_readTest 120 = .ok (.getfield 50, 3) := by decide +kernel
theorem dX3_readTest_123 : decode cX3_readTest 123 = .ok (.invokevirtual 53, 3) := by decide +kernel
theorem dX3_readTest_126 : decode cX3_readTest 126 = .ok (.aload_n 0, 1) := by decide +kernel
theorem dX3_readTest_127 : decode cX3_readTest 127 = .ok (.getfield 13, 3) := by decide +kernel
theorem dX3_readTest_130 : decode cX3_readTest 130 = .ok (.invokevirtual 57, 3) := by decide +kernel
theorem dX3_readTest_133 : decode cX3_readTest 133 = .ok (.aload_n 0, 1) := by decide +kernel
theorem dX3_readTest_134 : decode cX3_readTest 134 = .ok (.iload_n 2, 1) := by decide +kernel
theorem dX3_readTest_135 : decode cX3_readTest 135 = .ok (.invokevirtual 63, 3) := by decide +kernel
theorem dX3_readTest_138 : decode cX3_readTest 138 = .ok (.aload_n 0, 1) := by decide +kernel
theorem dX3_readTest_139 : decode cX3_readTest 139 = .ok (.getfield 7, 3) := by decide +kernel
theorem dX3_readTest_142 : decode cX3_readTest 142 = .ok (.iload_n 3, 1) := by decide +kernel
theorem dX3_readTest_143 : decode cX3_readTest 143 = .ok (.iconst 0, 1) := by decide +kernel
theorem dX3_readTest_144 : decode cX3_readTest 144 = .ok (.invokevirtual 76, 3) := by decide +kernel
theorem dX3_readTest_147 : decode cX3_readTest 147 = .ok (.pop, 1) := by decide +kernel
theorem dX3_readTest_148 : decode cX3_readTest 148 = .ok (.iload_n 2, 1) := by decide +kernel
theorem dX3_readTest_149 : decode cX3_readTest 149 = .ok (.iload_n 1, 1) := by decide +kernel
theorem dX3_readTest_150 : decode cX3_readTest 150 = .ok (.isub, 1) := by decide +kernel
theorem dX3_readTest_151 : decode cX3_readTest 151 = .ok (.iconst 1, 1) := by decide +kernel
theorem dX3_readTest_152 : decode cX3_readTest 152 = .ok (.iand, 1) := by decide +kernel
theorem dX3_readTest_153 : decode cX3_readTest 153 = .ok (.ifCond .eq 14, 3) := by decide +kernel
theorem dX3_readTest_156 : decode cX3_readTest 156 = .ok (.aload_n 0, 1) := by decide +kernel
theorem dX3_readTest_157 : decode cX3_readTest 157 = .ok (.getfield 7, 3) := by decide +kernel
theorem dX3_readTest_160 : decode cX3_readTest 160 = .ok (.bipush 33, 2) := by decide +kernel
theorem dX3_readTest_162 : decode cX3_readTest 162 = .ok (.iconst 0, 1) := by decide +kernel
theorem dX3_readTest_163 : decode cX3_readTest 163 = .ok (.invokevirtual 76, 3) := by decide +kernel
theorem dX3_readTest_166 : decode cX3_readTest 166 = .ok (.pop, 1) := by decide +kernel
theorem dX3_readTest_167 : decode cX3_readTest 167 = .ok (.return_, 1) := by decide +kernel
theorem dX3_open_0 : decode cX3_open 0 = .ok (.iload_n 1, 1) := by decide +kernel
theorem dX3_open_1 : decode cX3_open 1 = .ok (.bipush 6, 2) := by decide +kernel
theorem dX3_open_3 : decode cX3_open 3 = .ok (.if_icmp .lt 20, 3) := by decide +kernel
theorem dX3_open_6 : decode cX3_open 6 = .ok (.aload_n 0, 1) := by decide +kernel
theorem dX3_open_7 : decode cX3_open 7 = .ok (.getfield 13, 3) := by decide +kernel
theorem dX3_open_10 : decode cX3_open 10 = .ok (.iconst 5, 1) := by decide +kernel
theorem dX3_open_11 : decode cX3_open 11 = .ok (.aload_n 0, 1) := by decide +kernel
theorem dX3_open_12 : decode cX3_open 12 = .ok (.getfield 13, 3) := by decide +kernel
theorem dX3_open_15 : decode cX3_open 15 = .ok (.getfield 50, 3) := by decide +kernel
theorem dX3_open_18 : decode cX3_open 18 = .ok (.invokevirtual 53, 3) := by decide +kernel
theorem dX3_open_21 : decode cX3_open 21 = .ok (.iload_n 1, 1) := by decide +kernel
theorem dX3_open_22 : decode cX3_open 22 = .ok (.ireturn, 1) := by decide +kernel
theorem dX3_open_23 : decode cX3_open 23 = .ok (.aload_n 0, 1) := by decide +kernel
theorem dX3_open_24 : decode cX3_open 24 = .ok (.getfield 13, 3) := by decide +kernel
theorem dX3_open_27 : decode cX3_open 27 = .ok (.invokevirtual 57, 3) := by decide +kernel
theorem dX3_open_30 : decode cX3_open 30 = .ok (.iload_n 1, 1) := by decide +kernel
theorem dX3_open_31 : decode cX3_open 31 = .ok (.iconst 1, 1) := by decide +kernel
theorem dX3_open_32 : decode cX3_open 32 = .ok (.iadd, 1) := by decide +kernel
theorem dX3_open_33 : decode cX3_open 33 = .ok (.ireturn, 1) := by decide +kernel
theorem dX3_readSum_0 : decode cX3_readSum 0 = .ok (.aload_n 0, 1) := by decide +kernel
theorem dX3_readSum_1 : decode cX3_readSum 1 = .ok (.iload_n 1, 1) := by decide +kernel
theorem dX3_readSum_2 : decode cX3_readSum 2 = .ok (.invokevirtual 92, 3) := by decide +kernel
theorem dX3_readSum_5 : decode cX3_readSum 5 = .ok (.iconst 0, 1) := by decide +kernel
theorem dX3_readSum_6 : decode cX3_readSum 6 = .ok (.istore_n 2, 1) := by decide +kernel
theorem dX3_readSum_7 : decode cX3_readSum 7 = .ok (.iload_n 2, 1) := by decide +kernel
theorem dX3_readSum_8 : decode cX3_readSum 8 = .ok (.sipush 240, 3) := by decide +kernel
theorem dX3_readSum_11 : decode cX3_readSum 11 = .ok (.if_icmp .ge 63, 3) := by decide +kernel
theorem dX3_readSum_14 : decode cX3_readSum 14 = .ok (.aload_n 0, 1) := by decide +kernel
theorem dX3_readSum_15 : decode cX3_readSum 15 = .ok (.getfield 13, 3) := by decide +kernel
theorem dX3_readSum_18 : decode cX3_readSum 18 = .ok (.invokevirtual 46, 3) := by decide +kernel
theorem dX3_readSum_21 : decode cX3_readSum 21 = .ok (.bipush 43, 2) := by decide +kernel
theorem dX3_readSum_23 : decode cX3_readSum 23 = .ok (.if_icmp .eq 15, 3) := by decide +kernel
theorem dX3_readSum_26 : decode cX3_readSum 26 = .ok (.aload_n 0, 1) := by decide +kernel
theorem dX3_readSum_27 : decode cX3_readSum 27 = .ok (.getfield 13, 3) := by decide +kernel
theorem dX3_readSum_30 : decode cX3_readSum 30 = .ok (.invokevirtual 46, 3) := by decide +kernel
theorem dX3_readSum_33 : decode cX3_readSum 33 = .ok (.bipush 45, 2) := by decide +kernel
theorem dX3_readSum_35 : decode cX3_readSum 35 = .ok (.if_icmp .ne 39, 3) := by decide +kernel
theorem dX3_readSum_38 : decode cX3_readSum 38 = .ok (.aload_n 0, 1) := by decide +kernel
theorem dX3_readSum_39 : decode cX3_readSum 39 = .ok (.getfield 13, 3) := by decide +kernel
theorem dX3_readSum_42 : decode cX3_readSum 42 = .ok (.invokevirtual 46, 3) := by decide +kernel
theorem dX3_readSum_45 : decode cX3_readSum 45 = .ok (.istore_n 3, 1) := by decide +kernel
theorem dX3_readSum_46 : decode cX3_readSum 46 = .ok (.aload_n 0, 1) := by decide +kernel
theorem dX3_readSum_47 : decode cX3_readSum 47 = .ok (.getfield 13, 3) := by decide +kernel
theorem dX3_readSum_50 : decode cX3_readSum 50 = .ok (.invokevirtual 57, 3) := by decide +kernel
theorem dX3_readSum_53 : decode cX3_readSum 53 = .ok (.aload_n 0, 1) := by decide +kernel
theorem dX3_readSum_54 : decode cX3_readSum 54 = .ok (.iload_n 1, 1) := by decide +kernel
theorem dX3_readSum_55 : decode cX3_readSum 55 = .ok (.invokevirtual 92, 3) := by decide +kernel
theorem dX3_readSum_58 : decode cX3_readSum 58 = .ok (.aload_n 0, 1) := by decide +kernel
theorem dX3_readSum_59 : decode cX3_readSum 59 = .ok (.getfield 7, 3) := by decide +kernel
theorem dX3_readSum_62 : decode cX3_readSum 62 = .ok (.iload_n 3, 1) := by decide +kernel
theorem dX3_readSum_63 : decode cX3_readSum 63 = .ok (.iconst 0, 1) := by decide +kernel
theorem dX3_readSum_64 : decode cX3_readSum 64 = .ok (.invokevirtual 76, 3) := by decide +kernel
theorem dX3_readSum_67 : decode cX3_readSum 67 = .ok (.pop, 1) := by decide +kernel
theorem dX3_readSum_68 : decode cX3_readSum 68 = .ok (.iinc 2 1, 3) := by decide +kernel
theorem dX3_readSum_71 : decode cX3_readSum 71 = .ok (.goto (-64), 3) := by decide +kernel
theorem dX3_readSum_74 : decode cX3_readSum 74 = .ok (.return_, 1) := by decide +kernel
theorem dX3_readTerm_0 : decode cX3_readTerm 0 = .ok (.aload_n 0, 1) := by decide +kernel
theorem dX3_readTerm_1 : decode cX3_readTerm 1 = .ok (.iload_n 1, 1) := by decide +kernel
theorem dX3_readTerm_2 : decode cX3_readTerm 2 = .ok (.invokevirtual 95, 3) := by decide +kernel
theorem dX3_readTerm_5 : decode cX3_readTerm 5 = .ok (.iconst 0, 1) := by decide +kernel
theorem dX3_readTerm_6 : decode cX3_readTerm 6 = .ok (.istore_n 2, 1) := by decide +kernel
theorem dX3_readTerm_7 : decode cX3_readTerm 7 = .ok (.iload_n 2, 1) := by decide +kernel
theorem dX3_readTerm_8 : decode cX3_readTerm 8 = .ok (.sipush 240, 3) := by decide +kernel
theorem dX3_readTerm_11 : decode cX3_readTerm 11 = .ok (.if_icmp .ge 52, 3) := by decide +kernel
theorem dX3_readTerm_14 : decode cX3_readTerm 14 = .ok (.aload_n 0, 1) := by decide +kernel
theorem dX3_readTerm_15 : decode cX3_readTerm 15 = .ok (.getfield 13, 3) := by decide +kernel
theorem dX3_readTerm_18 : decode cX3_readTerm 18 = .ok (.invokevirtual 46, 3) := by decide +kernel
theorem dX3_readTerm_21 : decode cX3_readTerm 21 = .ok (.invokestatic 98, 3) := by decide +kernel
theorem dX3_readTerm_24 : decode cX3_readTerm 24 = .ok (.ifCond .eq 39, 3) := by decide +kernel
theorem dX3_readTerm_27 : decode cX3_readTerm 27 = .ok (.aload_n 0, 1) := by decide +kernel
theorem dX3_readTerm_28 : decode cX3_readTerm 28 = .ok (.getfield 13, 3) := by decide +kernel
theorem dX3_readTerm_31 : decode cX3_readTerm 31 = .ok (.invokevirtual 46, 3) := by decide +kernel
theorem dX3_readTerm_34 : decode cX3_readTerm 34 = .ok (.istore_n 3, 1) := by decide +kernel
theorem dX3_readTerm_35 : decode cX3_readTerm 35 = .ok (.aload_n 0, 1) := by decide +kernel
theorem dX3_readTerm_36 : decode cX3_readTerm 36 = .ok (.getfield 13, 3) := by decide +kernel
theorem dX3_readTerm_39 : decode cX3_readTerm 39 = .ok (.invokevirtual 57, 3) := by decide +kernel
theorem dX3_readTerm_42 : decode cX3_readTerm 42 = .ok (.aload_n 0, 1) := by decide +kernel
theorem dX3_readTerm_43 : decode cX3_readTerm 43 = .ok (.iload_n 1, 1) := by decide +kernel
theorem dX3_readTerm_44 : decode cX3_readTerm 44 = .ok (.invokevirtual 95, 3) := by decide +kernel
theorem dX3_readTerm_47 : decode cX3_readTerm 47 = .ok (.aload_n 0, 1) := by decide +kernel
theorem dX3_readTerm_48 : decode cX3_readTerm 48 = .ok (.getfield 7, 3) := by decide +kernel
theorem dX3_readTerm_51 : decode cX3_readTerm 51 = .ok (.iload_n 3, 1) := by decide +kernel
theorem dX3_readTerm_52 : decode cX3_readTerm 52 = .ok (.iconst 0, 1) := by decide +kernel
theorem dX3_readTerm_53 : decode cX3_readTerm 53 = .ok (.invokevirtual 76, 3) := by decide +kernel
theorem dX3_readTerm_56 : decode cX3_readTerm 56 = .ok (.pop, 1) := by decide +kernel
theorem dX3_readTerm_57 : decode cX3_readTerm 57 = .ok (.iinc 2 1, 3) := by decide +kernel
theorem dX3_readTerm_60 : decode cX3_readTerm 60 = .ok (.goto (-53), 3) := by decide +kernel
theorem dX3_readTerm_63 : decode cX3_readTerm 63 = .ok (.return_, 1) := by decide +kernel
theorem dX3_isOfTerm_0 : decode cX3_isOfTerm 0 = .ok (.iload_n 0, 1) := by decide +kernel
theorem dX3_isOfTerm_1 : decode cX3_isOfTerm 1 = .ok (.bipush 42, 2) := by decide +kernel
theorem dX3_isOfTerm_3 : decode cX3_isOfTerm 3 = .ok (.if_icmp .eq 15, 3) := by decide +kernel
theorem dX3_isOfTerm_6 : decode cX3_isOfTerm 6 = .ok (.iload_n 0, 1) := by decide +kernel
theorem dX3_isOfTerm_7 : decode cX3_isOfTerm 7 = .ok (.bipush 47, 2) := by decide +kernel
theorem dX3_isOfTerm_9 : decode cX3_isOfTerm 9 = .ok (.if_icmp .eq 9, 3) := by decide +kernel
theorem dX3_isOfTerm_12 : decode cX3_isOfTerm 12 = .ok (.iload_n 0, 1) := by decide +kernel
theorem dX3_isOfTerm_13 : decode cX3_isOfTerm 13 = .ok (.bipush 37, 2) := by decide +kernel
theorem dX3_isOfTerm_15 : decode cX3_isOfTerm 15 = .ok (.if_icmp .ne 7, 3) := by decide +kernel
theorem dX3_isOfTerm_18 : decode cX3_isOfTerm 18 = .ok (.iconst 1, 1) := by decide +kernel
theorem dX3_isOfTerm_19 : decode cX3_isOfTerm 19 = .ok (.goto 4, 3) := by decide +kernel
theorem dX3_isOfTerm_22 : decode cX3_isOfTerm 22 = .ok (.iconst 0, 1) := by decide +kernel
theorem dX3_isOfTerm_23 : decode cX3_isOfTerm 23 = .ok (.ireturn, 1) := by decide +kernel
theorem dX3_readFactor_0 : decode cX3_readFactor 0 = .ok (.aload_n 0, 1) := by decide +kernel
theorem dX3_readFactor_1 : decode cX3_readFactor 1 = .ok (.getfield 13, 3) := by decide +kernel
theorem dX3_readFactor_4 : decode cX3_readFactor 4 = .ok (.invokevirtual 46, 3) := by decide +kernel
theorem dX3_readFactor_7 : decode cX3_readFactor 7 = .ok (.bipush 91, 2) := by decide +kernel
theorem dX3_readFactor_9 : decode cX3_readFactor 9 = .ok (.if_icmp .ne 36, 3) := by decide +kernel
theorem dX3_readFactor_12 : decode cX3_readFactor 12 = .ok (.aload_n 0, 1) := by decide +kernel
theorem dX3_readFactor_13 : decode cX3_readFactor 13 = .ok (.iload_n 1, 1) := by decide +kernel
theorem dX3_readFactor_14 : decode cX3_readFactor 14 = .ok (.invokevirtual 86, 3) := by decide +kernel
theorem dX3_readFactor_17 : decode cX3_readFactor 17 = .ok (.istore_n 2, 1) := by decide +kernel
theorem dX3_readFactor_18 : decode cX3_readFactor 18 = .ok (.aload_n 0, 1) := by decide +kernel
theorem dX3_readFactor_19 : decode cX3_readFactor 19 = .ok (.getfield 13, 3) := by decide +kernel
theorem dX3_readFactor_22 : decode cX3_readFactor 22 = .ok (.invokevirtual 89, 3) := by decide +kernel
theorem dX3_readFactor_25 : decode cX3_readFactor 25 = .ok (.ifCond .ne 17, 3) := by decide +kernel
theorem dX3_readFactor_28 : decode cX3_readFactor 28 = .ok (.aload_n 0, 1) := by decide +kernel
theorem dX3_readFactor_29 : decode cX3_readFactor 29 = .ok (.iload_n 2, 1) := by decide +kernel
theorem dX3_readFactor_30 : decode cX3_readFactor 30 = .ok (.invokevirtual 63, 3) := by decide +kernel
theorem dX3_readFactor_33 : decode cX3_readFactor 33 = .ok (.aload_n 0, 1) := by decide +kernel
theorem dX3_readFactor_34 : decode cX3_readFactor 34 = .ok (.getfield 13, 3) := by decide +kernel
theorem dX3_readFactor_37 : decode cX3_readFactor 37 = .ok (.bipush 93, 2) := by decide +kernel
theorem dX3_readFactor_39 : decode cX3_readFactor 39 = .ok (.invokevirtual 35, 3) := by decide +kernel
theorem dX3_readFactor_42 : decode cX3_readFactor 42 = .ok (.goto 41, 3) := by decide +kernel
theorem dX3_readFactor_45 : decode cX3_readFactor 45 = .ok (.aload_n 0, 1) := by decide +kernel
theorem dX3_readFactor_46 : decode cX3_readFactor 46 = .ok (.getfield 13, 3) := by decide +kernel
theorem dX3_readFactor_49 : decode cX3_readFactor 49 = .ok (.invokevirtual 46, 3) := by decide +kernel
theorem dX3_readFactor_52 : decode cX3_readFactor 52 = .ok (.invokestatic 102, 3) := by decide +kernel
theorem dX3_readFactor_55 : decode cX3_readFactor 55 = .ok (.ifCond .eq 24, 3) := by decide +kernel
theorem dX3_readFactor_58 : decode cX3_readFactor 58 = .ok (.aload_n 0, 1) := by decide +kernel
theorem dX3_readFactor_59 : decode cX3_readFactor 59 = .ok (.getfield 7, 3) := by decide +kernel
theorem dX3_readFactor_62 : decode cX3_readFactor 62 = .ok (.bipush 48, 2) := by decide +kernel
theorem dX3_readFactor_64 : decode cX3_readFactor 64 = .ok (.aload_n 0, 1) := by decide +kernel
theorem dX3_readFactor_65 : decode cX3_readFactor 65 = .ok (.getfield 13, 3) := by decide +kernel
theorem dX3_readFactor_68 : decode cX3_readFactor 68 = .ok (.iconst 5, 1) := by decide +kernel
theorem dX3_readFactor_69 : decode cX3_readFactor 69 = .ok (.invokevirtual 105, 3) := by decide +kernel
theorem dX3_readFactor_72 : decode cX3_readFactor 72 = .ok (.invokevirtual 76, 3) := by decide +kernel
theorem dX3_readFactor_75 : decode cX3_readFactor 75 = .ok (.pop, 1) := by decide +kernel
theorem dX3_readFactor_76 : decode cX3_readFactor 76 = .ok (.goto 7, 3) := by decide +kernel
theorem dX3_readFactor_79 : decode cX3_readFactor 79 = .ok (.aload_n 0, 1) := by decide +kernel
theorem dX3_readFactor_80 : decode cX3_readFactor 80 = .ok (.invokevirtual 108, 3) := by decide +kernel
theorem dX3_readFactor_83 : decode cX3_readFactor 83 = .ok (.return_, 1) := by decide +kernel
theorem dX3_readLetter_0 : decode cX3_readLetter 0 = .ok (.iconst 0, 1) := by decide +kernel
theorem dX3_readLetter_1 : decode cX3_readLetter 1 = .ok (.istore_n 1, 1) := by decide +kernel
theorem dX3_readLetter_2 : decode cX3_readLetter 2 = .ok (.iload_n 1, 1) := by decide +kernel
theorem dX3_readLetter_3 : decode cX3_readLetter 3 = .ok (.ldc 111, 2) := by decide +kernel
theorem dX3_readLetter_5 : decode cX3_readLetter 5 = .ok (.invokevirtual 113, 3) := by decide +kernel
theorem dX3_readLetter_8 : decode cX3_readLetter 8 = .ok (.if_icmp .ge 44, 3) := by decide +kernel
theorem dX3_readLetter_11 : decode cX3_readLetter 11 = .ok (.aload_n 0, 1) := by decide +kernel
theorem dX3_readLetter_12 : decode cX3_readLetter 12 = .ok (.getfield 13, 3) := by decide +kernel
theorem dX3_readLetter_15 : decode cX3_readLetter 15 = .ok (.invokevirtual 46, 3) := by decide +kernel
theorem dX3_readLetter_18 : decode cX3_readLetter 18 = .ok (.ldc 111, 2) := by decide +kernel
theorem dX3_readLetter_20 : decode cX3_readLetter 20 = .ok (.iload_n 1, 1) := by decide +kernel
theorem dX3_readLetter_21 : decode cX3_readLetter 21 = .ok (.invokevirtual 117, 3) := by decide +kernel
theorem dX3_readLetter_24 : decode cX3_readLetter 24 = .ok (.if_icmp .ne 22, 3) := by decide +kernel
theorem dX3_readLetter_27 : decode cX3_readLetter 27 = .ok (.aload_n 0, 1) := by decide +kernel
theorem dX3_readLetter_28 : decode cX3_readLetter 28 = .ok (.getfield 13, 3) := by decide +kernel
theorem dX3_readLetter_31 : decode cX3_readLetter 31 = .ok (.invokevirtual 57, 3) := by decide +kernel
theorem dX3_readLetter_34 : decode cX3_readLetter 34 = .ok (.aload_n 0, 1) := by decide +kernel
theorem dX3_readLetter_35 : decode cX3_readLetter 35 = .ok (.getfield 7, 3) := by decide +kernel
theorem dX3_readLetter_38 : decode cX3_readLetter 38 = .ok (.bipush 97, 2) := by decide +kernel
theorem dX3_readLetter_40 : decode cX3_readLetter 40 = .ok (.iload_n 1, 1) := by decide +kernel
theorem dX3_readLetter_41 : decode cX3_readLetter 41 = .ok (.invokevirtual 76, 3) := by decide +kernel
theorem dX3_readLetter_44 : decode cX3_readLetter 44 = .ok (.pop, 1) := by decide +kernel
theorem dX3_readLetter_45 : decode cX3_readLetter 45 = .ok (.return_, 1) := by decide +kernel
theorem dX3_readLetter_46 : decode cX3_readLetter 46 = .ok (.iinc 1 1, 3) := by decide +kernel
theorem dX3_readLetter_49 : decode cX3_readLetter 49 = .ok (.goto (-47), 3) := by decide +kernel
theorem dX3_readLetter_52 : decode cX3_readLetter 52 = .ok (.aload_n 0, 1) := by decide +kernel
theorem dX3_readLetter_53 : decode cX3_readLetter 53 = .ok (.getfield 13, 3) := by decide +kernel
theorem dX3_readLetter_56 : decode cX3_readLetter 56 = .ok (.iconst 1, 1) := by decide +kernel
theorem dX3_readLetter_57 : decode cX3_readLetter 57 = .ok (.aload_n 0, 1) := by decide +kernel
theorem dX3_readLetter_58 : decode cX3_readLetter 58 = .ok (.getfield 13, 3) := by decide +kernel
theorem dX3_readLetter_61 : decode cX3_readLetter 61 = .ok (.getfield 50, 3) := by decide +kernel
theorem dX3_readLetter_64 : decode cX3_readLetter 64 = .ok (.invokevirtual 53, 3) := by decide +kernel
theorem dX3_readLetter_67 : decode cX3_readLetter 67 = .ok (.return_, 1) := by decide +kernel
theorem dX4_init_0 : decode cX4_init 0 = .ok (.aload_n 0, 1) := by decide +kernel
theorem dX4_init_1 : decode cX4_init 1 = .ok (.invokespecial 3, 3) := by decide +kernel
theorem dX4_init_4 : decode cX4_init 4 = .ok (.aload_n 0, 1) := by decide +kernel
theorem dX4_init_5 : decode cX4_init 5 = .ok (.iconst 0, 1) := by decide +kernel
theorem dX4_init_6 : decode cX4_init 6 = .ok (.putfield 9, 3) := by decide +kernel
theorem dX4_init_9 : decode cX4_init 9 = .ok (.aload_n 0, 1) := by decide +kernel
theorem dX4_init_10 : decode cX4_init 10 = .ok (.bipush 8, 2) := by decide +kernel
theorem dX4_init_12 : decode cX4_init 12 = .ok (.newarray .int, 2) := by decide +kernel
theorem dX4_init_14 : decode cX4_init 14 = .ok (.putfield 15, 3) := by decide +kernel
theorem dX4_init_17 : decode cX4_init 17 = .ok (.aload_n 0, 1) := by decide +kernel
theorem dX4_init_18 : decode cX4_init 18 = .ok (.bipush 8, 2) := by decide +kernel
theorem dX4_init_20 : decode cX4_init 20 = .ok (.newarray .int, 2) := by decide +kernel
theorem dX4_init_22 : decode cX4_init 22 = .ok (.putfield 19, 3) := by decide +kernel
theorem dX4_init_25 : decode cX4_init 25 = .ok (.aload_n 0, 1) := by decide +kernel
theorem dX4_init_26 : decode cX4_init 26 = .ok (.bipush 8, 2) := by decide +kernel
theorem dX4_init_28 : decode cX4_init 28 = .ok (.newarray .int, 2) := by decide +kernel
theorem dX4_init_30 : decode cX4_init 30 = .ok (.putfield 22, 3) := by decide +kernel
theorem dX4_init_33 : decode cX4_init 33 = .ok (.aload_n 0, 1) := by decide +kernel
theorem dX4_init_34 : decode cX4_init 34 = .ok (.bipush 8, 2) := by decide +kernel
theorem dX4_init_36 : decode cX4_init 36 = .ok (.newarray .int, 2) := by decide +kernel
theorem dX4_init_38 : decode cX4_init 38 = .ok (.putfield 25, 3) := by decide +kernel
theorem dX4_init_41 : decode cX4_init 41 = .ok (.aload_n 0, 1) := by decide +kernel
theorem dX4_init_42 : decode cX4_init 42 = .ok (.iconst 0, 1) := by decide +kernel
theorem dX4_init_43 : decode cX4_init 43 = .ok (.putfield 28, 3) := by decide +kernel
theorem dX4_init_46 : decode cX4_init 46 = .ok (.aload_n 0, 1) := by decide +kernel
theorem dX4_init_47 : decode cX4_init 47 = .ok (.iconst 1, 1) := by decide +kernel
theorem dX4_init_48 : decode cX4_init 48 = .ok (.putfield 31, 3) := by decide +kernel
theorem dX4_init_51 : decode cX4_init 51 = .ok (.aload_n 0, 1) := by decide +kernel
theorem dX4_init_52 : decode cX4_init 52 = .ok (.iconst 0, 1) := by decide +kernel
theorem dX4_init_53 : decode cX4_init 53 = .ok (.putfield 34, 3) := by decide +kernel
theorem dX4_init_56 : decode cX4_init 56 = .ok (.aload_n 0, 1) := by decide +kernel
theorem dX4_init_57 : decode cX4_init 57 = .ok (.iconst 0, 1) := by decide +kernel
theorem dX4_init_58 : decode cX4_init 58 = .ok (.putfield 37, 3) := by decide +kernel
theorem dX4_init_61 : decode cX4_init 61 = .ok (.aload_n 0, 1) := by decide +kernel
theorem dX4_init_62 : decode cX4_init 62 = .ok (.iconst 0, 1) := by decide +kernel
theorem dX4_init_63 : decode cX4_init 63 = .ok (.putfield 40, 3) := by decide +kernel
theorem dX4_init_66 : decode cX4_init 66 = .ok (.return_, 1) := by decide +kernel
theorem dX4_readStock_0 : decode cX4_readStock 0 = .ok (.aload_n 0, 1) := by decide +kernel
theorem dX4_readStock_1 : decode cX4_readStock 1 = .ok (.invokevirtual 43, 3) := by decide +kernel
theorem dX4_readStock_4 : decode cX4_readStock 4 = .ok (.aload_n 1, 1) := by decide +kernel
theorem dX4_readStock_5 : decode cX4_readStock 5 = .ok (.iload_n 2, 1) := by decide +kernel
theorem dX4_readStock_6 : decode cX4_readStock 6 = .ok (.invokevirtual 46, 3) := by decide +kernel
theorem dX4_readStock_9 : decode cX4_readStock 9 = .ok (.iconst 0, 1) := by decide +kernel
theorem dX4_readStock_10 : decode cX4_readStock 10 = .ok (.istore_n 3, 1) := by decide +kernel
theorem dX4_readStock_11 : decode cX4_readStock 11 = .ok (.iload_n 3, 1) := by decide +kernel
theorem dX4_readStock_12 : decode cX4_readStock 12 = .ok (.bipush 8, 2) := by decide +kernel
theorem dX4_readStock_14 : decode cX4_readStock 14 = .ok (.if_icmp .gt 30, 3) := by decide +kernel
theorem dX4_readStock_17 : decode cX4_readStock 17 = .ok (.aload_n 0, 1) := by decide +kernel
theorem dX4_readStock_18 : decode cX4_readStock 18 = .ok (.aload_n 1, 1) := by decide +kernel
theorem dX4_readStock_19 : decode cX4_readStock 19 = .ok (.invokevirtual 52, 3) := by decide +kernel
theorem dX4_readStock_22 : decode cX4_readStock 22 = .ok (.aload_n 1, 1) := by decide +kernel
theorem dX4_readStock_23 : decode cX4_readStock 23 = .ok (.invokevirtual 56, 3) := by decide +kernel
theorem dX4_readStock_26 : decode cX4_readStock 26 = .ok (.ifCond .eq 6, 3) := by decide +kernel
theorem dX4_readStock_29 : decode cX4_readStock 29 = .ok (.goto 15, 3) := by decide +kernel
theorem dX4_readStock_32 : decode cX4_readStock 32 = .ok (.aload_n 1, 1) := by decide +kernel
theorem dX4_readStock_33 : decode cX4_readStock 33 = .ok (.bipush 59, 2) := by decide +kernel
theorem dX4_readStock_35 : decode cX4_readStock 35 = .ok (.invokevirtual 60, 3) := by decide +kernel
theorem dX4_readStock_38 : decode cX4_readStock 38 = .ok (.iinc 3 1, 3) := by decide +kernel
theorem dX4_readStock_41 : decode cX4_readStock 41 = .ok (.goto (-30), 3) := by decide +kernel
theorem dX4_readStock_44 : decode cX4_readStock 44 = .ok (.aload_n 1, 1) := by decide +kernel
theorem dX4_readStock_45 : decode cX4_readStock 45 = .ok (.aload_n 0, 1) := by decide +kernel
theorem dX4_readStock_46 : decode cX4_readStock 46 = .ok (.getfield 9, 3) := by decide +kernel
theorem dX4_readStock_49 : decode cX4_readStock 49 = .ok (.invokestatic 63, 3) := by decide +kernel
theorem dX4_readStock_52 : decode cX4_readStock 52 = .ok (.invokevirtual 69, 3) := by decide +kernel
theorem dX4_readStock_55 : decode cX4_readStock 55 = .ok (.ireturn, 1) := by decide +kernel
theorem dX4_readStall_0 : decode cX4_readStall 0 = .ok (.aload_n 1, 1) := by decide +kernel
theorem dX4_readStall_1 : decode cX4_readStall 1 = .ok (.getfield 72, 3) := by decide +kernel
theorem dX4_readStall_4 : decode cX4_readStall 4 = .ok (.istore_n 2, 1) := by decide +kernel
theorem dX4_readStall_5 : decode cX4_readStall 5 = .ok (.aload_n 1, 1) := by decide +kernel
theorem dX4_readStall_6 : decode cX4_readStall 6 = .ok (.bipush 48, 2) := by decide +kernel
theorem dX4_readStall_8 : decode cX4_readStall 8 = .ok (.bipush 8, 2) := by decide +kernel
theorem dX4_readStall_10 : decode cX4_readStall 10 = .ok (.invokevirtual 75, 3) := by decide +kernel
theorem dX4_readStall_13 : decode cX4_readStall 13 = .ok (.istore_n 3, 1) := by decide +kernel
theorem dX4_readStall_14 : decode cX4_readStall 14 = .ok (.aload_n 0, 1) := by decide +kernel
theorem dX4_readStall_15 : decode cX4_readStall 15 = .ok (.iload_n 3, 1) := by decide +kernel
theorem dX4_readStall_16 : decode cX4_readStall 16 = .ok (.invokevirtual 79, 3) := by decide +kernel
theorem dX4_readStall_19 : decode cX4_readStall 19 = .ok (.ifCond .eq 10, 3) := by decide +kernel
theorem dX4_readStall_22 : decode cX4_readStall 22 = .ok (.aload_n 1, 1) := by decide +kernel
theorem dX4_readStall_23 : decode cX4_readStall 23 = .ok (.bipush 6, 2) := by decide +kernel
theorem dX4_readStall_25 : decode cX4_readStall 25 = .ok (.iload_n 2, 1) := by decide +kernel
theorem dX4_readStall_26 : decode cX4_readStall 26 = .ok (.invokevirtual 83, 3) := by decide +kernel
theorem dX4_readStall_29 : decode cX4_readStall 29 = .ok (.aload_n 1, 1) := by decide +kernel
theorem dX4_readStall_30 : decode cX4_readStall 30 = .ok (.bipush 58, 2) := by decide +kernel
theorem dX4_readStall_32 : decode cX4_readStall 32 = .ok (.invokevirtual 60, 3) := by decide +kernel
theorem dX4_readStall_35 : decode cX4_readStall 35 = .ok (.aload_n 1, 1) := by decide +kernel
theorem dX4_readStall_36 : decode cX4_readStall 36 = .ok (.iconst 4, 1) := by decide +kernel
theorem dX4_readStall_37 : decode cX4_readStall 37 = .ok (.invokevirtual 87, 3) := by decide +kernel
theorem dX4_readStall_40 : decode cX4_readStall 40 = .ok (.istore 4, 2) := by decide +kernel
theorem dX4_readStall_42 : decode cX4_readStall 42 = .ok (.aload_n 1, 1) := by decide +kernel
theorem dX4_readStall_43 : decode cX4_readStall 43 = .ok (.bipush 45, 2) := by decide +kernel
theorem dX4_readStall_45 : decode cX4_readStall 45 = .ok (.invokevirtual 60, 3) := by decide +kernel
theorem dX4_readStall_48 : decode cX4_readStall 48 = .ok (.aload_n 1, 1) := by decide +kernel
theorem dX4_readStall_49 : decode cX4_readStall 49 = .ok (.getfield 72, 3) := by decide +kernel
theorem dX4_readStall_52 : decode cX4_readStall 52 = .ok (.istore 5, 2) := by decide +kernel
theorem dX4_readStall_54 : decode cX4_readStall 54 = .ok (.aload_n 1, 1) := by decide +kernel
theorem dX4_readStall_55 : decode cX4_readStall 55 = .ok (.iconst 4, 1) := by decide +kernel
theorem dX4_readStall_56 : decode cX4_readStall 56 = .ok (.invokevirtual 87, 3) := by decide +kernel
theorem dX4_readStall_59 : decode cX4_readStall 59 = .ok (.istore 6, 2) := by decide +kernel
theorem dX4_readStall_61 : decode cX4_readStall 61 = .ok (.iload 6, 2) := by decide +kernel
theorem dX4_readStall_63 : decode cX4_readStall 63 = .ok (.iload 4, 2) := by decide +kernel
theorem dX4_readStall_65 : decode cX4_readStall 65 = .ok (.if_icmp .le 10, 3) := by decide +kernel
theorem dX4_readStall_68 : decode cX4_readStall 68 = .ok (.aload_n 1, 1) := by decide +kernel
theorem dX4_readStall_69 : decode cX4_readStall 69 = .ok (.iconst 3, 1) := by decide +kernel
theorem dX4_readStall_70 : decode cX4_readStall 70 = .ok (.iload 5, 2) := by decide +kernel
theorem dX4_readStall_72 : decode cX4_readStall 72 = .ok (.invokevirtual 83, 3) := by decide +kernel
theorem dX4_readStall_75 : decode cX4_readStall 75 = .ok (.aload_n 1, 1) := by decide +kernel
theorem dX4_readStall_76 : decode cX4_readStall 76 = .ok (.invokevirtual 90, 3) := by decide +kernel
theorem dX4_readStall_79 : decode cX4_readStall 79 = .ok (.ifCond .ne 31, 3) := by decide +kernel
theorem dX4_readStall_82 : decode cX4_readStall 82 = .ok (.aload_n 0, 1) := by decide +kernel
theorem dX4_readStall_83 : decode cX4_readStall 83 = .ok (.dup, 1) := by decide +kernel
theorem dX4_readStall_84 : decode cX4_readStall 84 = .ok (.getfield 9, 3) := by decide +kernel
theorem dX4_readStall_87 : decode cX4_readStall 87 = .ok (.iconst 1, 1) := by decide +kernel
theorem dX4_readStall_88 : decode cX4_readStall 88 = .ok (.iload_n 3, 1) := by decide +kernel
theorem dX4_readStall_89 : decode cX4_readStall 89 = .ok (.ishl, 1) := by decide +kernel
theorem dX4_readStall_90 : decode cX4_readStall 90 = .ok (.ior, 1) := by decide +kernel
theorem dX4_readStall_91 : decode cX4_readStall 91 = .ok (.putfield 9, 3) := by decide +kernel
theorem dX4_readStall_94 : decode cX4_readStall 94 = .ok (.aload_n 0, 1) := by decide +kernel
theorem dX4_readStall_95 : decode cX4_readStall 95 = .ok (.getfield 15, 3) := by decide +kernel
theorem dX4_readStall_98 : decode cX4_readStall 98 = .ok (.iload_n 3, 1) := by decide +kernel
theorem dX4_readStall_99 : decode cX4_readStall 99 = .ok (.iload 4, 2) := by decide +kernel
theorem dX4_readStall_101 : decode cX4_readStall 101 = .ok (.iastore, 1) := by decide +kernel
theorem dX4_readStall_102 : decode cX4_readStall 102 = .ok (.aload_n 0, 1) := by decide +kernel
theorem dX4_readStall_103 : decode cX4_readStall 103 = .ok (.getfield 19, 3) := by decide +kernel
theorem dX4_readStall_106 : decode cX4_readStall 106 = .ok (.iload_n 3, 1) := by decide +kernel
theorem dX4_readStall_107 : decode cX4_readStall 107 = .ok (.iload 6, 2) := by decide +kernel
theorem dX4_readStall_109 : decode cX4_readStall 109 = .ok (.iastore, 1) := by decide +kernel
theorem dX4_readStall_110 : decode cX4_readStall 110 = .ok (.return_, 1) := by decide +kernel
theorem dX4_forgetStalls_0 : decode cX4_forgetStalls 0 = .ok (.aload_n 0, 1) := by decide +kernel
theorem dX4_forgetStalls_1 : decode cX4_forgetStalls 1 = .ok (.iconst 0, 1) := by decide +kernel
theorem dX4_forgetStalls_2 : decode cX4_forgetStalls 2 = .ok (.putfield 9, 3) := by decide +kernel
theorem dX4_forgetStalls_5 : decode cX4_forgetStalls 5 = .ok (.aload_n 0, 1) := by decide +kernel
theorem dX4_forgetStalls_6 : decode cX4_forgetStalls 6 = .ok (.getfield 15, 3) := by decide +kernel
theorem dX4_forgetStalls_9 : decode cX4_forgetStalls 9 = .ok (.iconst 0, 1) := by decide +kernel
theorem dX4_forgetStalls_10 : decode cX4_forgetStalls 10 = .ok (.invokestatic 93, 3) := by decide +kernel
theorem dX4_forgetStalls_13 : decode cX4_forgetStalls 13 = .ok (.aload_n 0, 1) := by decide +kernel
theorem dX4_forgetStalls_14 : decode cX4_forgetStalls 14 = .ok (.getfield 19, 3) := by decide +kernel
theorem dX4_forgetStalls_17 : decode cX4_forgetStalls 17 = .ok (.iconst 0, 1) := by decide +kernel
theorem dX4_forgetStalls_18 : decode cX4_forgetStalls 18 = .ok (.invokestatic 93, 3) := by decide +kernel
theorem dX4_forgetStalls_21 : decode cX4_forgetStalls 21 = .ok (.aload_n 0, 1) := by decide +kernel
theorem dX4_forgetStalls_22 : decode cX4_forgetStalls 22 = .ok (.getfield 22, 3) := by decide +kernel
theorem dX4_forgetStalls_25 : decode cX4_forgetStalls 25 = .ok (.iconst 0, 1) := by decide +kernel
theorem dX4_forgetStalls_26 : decode cX4_forgetStalls 26 = .ok (.invokestatic 93, 3) := by decide +kernel
theorem dX4_forgetStalls_29 : decode cX4_forgetStalls 29 = .ok (.aload_n 0, 1) := by decide +kernel
theorem dX4_forgetStalls_30 : decode cX4_forgetStalls 30 = .ok (.getfield 25, 3) := by decide +kernel
theorem dX4_forgetStalls_33 : decode cX4_forgetStalls 33 = .ok (.iconst 0, 1) := by decide +kernel
theorem dX4_forgetStalls_34 : decode cX4_forgetStalls 34 = .ok (.invokestatic 93, 3) := by decide +kernel
theorem dX4_forgetStalls_37 : decode cX4_forgetStalls 37 = .ok (.return_, 1) := by decide +kernel
theorem dX4_takeStalls_0 : decode cX4_takeStalls 0 = .ok (.aload_n 0, 1) := by decide +kernel
theorem dX4_takeStalls_1 : decode cX4_takeStalls 1 = .ok (.invokevirtual 43, 3) := by decide +kernel
theorem dX4_takeStalls_4 : decode cX4_takeStalls 4 = .ok (.aload_n 0, 1) := by decide +kernel
theorem dX4_takeStalls_5 : decode cX4_takeStalls 5 = .ok (.aload_n 1, 1) := by decide +kernel
theorem dX4_takeStalls_6 : decode cX4_takeStalls 6 = .ok (.invokevirtual 99, 3) := by decide +kernel
theorem dX4_takeStalls_9 : decode cX4_takeStalls 9 = .ok (.return_, 1) := by decide +kernel
theorem dX4_takeAll_0 : decode cX4_takeAll 0 = .ok (.aload_n 0, 1) := by decide +kernel
theorem dX4_takeAll_1 : decode cX4_takeAll 1 = .ok (.invokevirtual 43, 3) := by decide +kernel
theorem dX4_takeAll_4 : decode cX4_takeAll 4 = .ok (.aload_n 0, 1) := by decide +kernel
theorem dX4_takeAll_5 : decode cX4_takeAll 5 = .ok (.aload_n 1, 1) := by decide +kernel
theorem dX4_takeAll_6 : decode cX4_takeAll 6 = .ok (.invokevirtual 103, 3) := by decide +kernel
theorem dX4_takeAll_9 : decode cX4_takeAll 9 = .ok (.return_, 1) := by decide +kernel
theorem dX4_takeBack_0 : decode cX4_takeBack 0 = .ok (.aload_n 0, 1) := by decide +kernel
theorem dX4_takeBack_1 : decode cX4_takeBack 1 = .ok (.aload_n 1, 1) := by decide +kernel
theorem dX4_takeBack_2 : decode cX4_takeBack 2 = .ok (.invokevirtual 99, 3) := by decide +kernel
theorem dX4_takeBack_5 : decode cX4_takeBack 5 = .ok (.aload_n 0, 1) := by decide +kernel
theorem dX4_takeBack_6 : decode cX4_takeBack 6 = .ok (.aload_n 1, 1) := by decide +kernel
theorem dX4_takeBack_7 : decode cX4_takeBack 7 = .ok (.getfield 28, 3) := by decide +kernel
theorem dX4_takeBack_10 : decode cX4_takeBack 10 = .ok (.putfield 28, 3) := by decide +kernel
theorem dX4_takeBack_13 : decode cX4_takeBack 13 = .ok (.aload_n 0, 1) := by decide +kernel
theorem dX4_takeBack_14 : decode cX4_takeBack 14 = .ok (.aload_n 1, 1) := by decide +kernel
theorem dX4_takeBack_15 : decode cX4_takeBack 15 = .ok (.getfield 31, 3) := by decide +kernel
theorem dX4_takeBack_18 : decode cX4_takeBack 18 = .ok (.putfield 31, 3) := by decide +kernel
theorem dX4_takeBack_21 : decode cX4_takeBack 21 = .ok (.return_, 1) := by decide +kernel
theorem dX4_addStalls_0 : decode cX4_addStalls 0 = .ok (.aload_n 0, 1) := by decide +kernel
theorem dX4_addStalls_1 : decode cX4_addStalls 1 = .ok (.dup, 1) := by decide +kernel
theorem dX4_addStalls_2 : decode cX4_addStalls 2 = .ok (.getfield 9, 3) := by decide +kernel
theorem dX4_addStalls_5 : decode cX4_addStalls 5 = .ok (.aload_n 1, 1) := by decide +kernel
theorem dX4_addStalls_6 : decode cX4_addStalls 6 = .ok (.getfield 9, 3) := by decide +kernel
theorem dX4_addStalls_9 : decode cX4_addStalls 9 = .ok (.ior, 1) := by decide +kernel
theorem dX4_addStalls_10 : decode cX4_addStalls 10 = .ok (.putfield 9, 3) := by decide +kernel
theorem dX4_addStalls_13 : decode cX4_addStalls 13 = .ok (.iconst 0, 1) := by decide +kernel
theorem dX4_addStalls_14 : decode cX4_addStalls 14 = .ok (.istore_n 2, 1) := by decide +kernel
theorem dX4_addStalls_15 : decode cX4_addStalls 15 = .ok (.iload_n 2, 1) := by decide +kernel
theorem dX4_addStalls_16 : decode cX4_addStalls 16 = .ok (.bipush 8, 2) := by decide +kernel
theorem dX4_addStalls_18 : decode cX4_addStalls 18 = .ok (.if_icmp .ge 65, 3) := by decide +kernel
theorem dX4_addStalls_21 : decode cX4_addStalls 21 = .ok (.aload_n 1, 1) := by decide +kernel
theorem dX4_addStalls_22 : decode cX4_addStalls 22 = .ok (.iload_n 2, 1) := by decide +kernel
theorem dX4_addStalls_23 : decode cX4_addStalls 23 = .ok (.invokevirtual 79, 3) := by decide +kernel
theorem dX4_addStalls_26 : decode cX4_addStalls 26 = .ok (.ifCond .eq 51, 3) := by decide +kernel
theorem dX4_addStalls_29 : decode cX4_addStalls 29 = .ok (.aload_n 0, 1) := by decide +kernel
theorem dX4_addStalls_30 : decode cX4_addStalls 30 = .ok (.getfield 15, 3) := by decide +kernel
theorem dX4_addStalls_33 : decode cX4_addStalls 33 = .ok (.iload_n 2, 1) := by decide +kernel
theorem dX4_addStalls_34 : decode cX4_addStalls 34 = .ok (.aload_n 1, 1) := by decide +kernel
theorem dX4_addStalls_35 : decode cX4_addStalls 35 = .ok (.getfield 15, 3) := by decide +kernel
theorem dX4_addStalls_38 : decode cX4_addStalls 38 = .ok (.iload_n 2, 1) := by decide +kernel
theorem dX4_addStalls_39 : decode cX4_addStalls 39 = .ok (.iaload, 1) := by decide +kernel
theorem dX4_addStalls_40 : decode cX4_addStalls 40 = .ok (.iastore, 1) := by decide +kernel
theorem dX4_addStalls_41 : decode cX4_addStalls 41 = .ok (.aload_n 0, 1) := by decide +kernel
theorem dX4_addStalls_42 : decode cX4_addStalls 42 = .ok (.getfield 19, 3) := by decide +kernel
theorem dX4_addStalls_45 : decode cX4_addStalls 45 = .ok (.iload_n 2, 1) := by decide +kernel
theorem dX4_addStalls_46 : decode cX4_addStalls 46 = .ok (.aload_n 1, 1) := by decide +kernel
theorem dX4_addStalls_47 : decode cX4_addStalls 47 = .ok (.getfield 19, 3) := by decide +kernel
theorem dX4_addStalls_50 : decode cX4_addStalls 50 = .ok (.iload_n 2, 1) := by decide +kernel
theorem dX4_addStalls_51 : decode cX4_addStalls 51 = .ok (.iaload, 1) := by decide +kernel
theorem dX4_addStalls_52 : decode cX4_addStalls 52 = .ok (.iastore, 1) := by decide +kernel
theorem dX4_addStalls_53 : decode cX4_addStalls 53 = .ok (.aload_n 0, 1) := by decide +kernel
theorem dX4_addStalls_54 : decode cX4_addStalls 54 = .ok (.getfield 22, 3) := by decide +kernel
theorem dX4_addStalls_57 : decode cX4_addStalls 57 = .ok (.iload_n 2, 1) := by decide +kernel
theorem dX4_addStalls_58 : decode cX4_addStalls 58 = .ok (.aload_n 1, 1) := by decide +kernel
theorem dX4_addStalls_59 : decode cX4_addStalls 59 = .ok (.getfield 22, 3) := by decide +kernel
theorem dX4_addStalls_62 : decode cX4_addStalls 62 = .ok (.iload_n 2, 1) := by decide +kernel
theorem dX4_addStalls_63 : decode cX4_addStalls 63 = .ok (.iaload, 1) := by decide +kernel
theorem dX4_addStalls_64 : decode cX4_addStalls 64 = .ok (.iastore, 1) := by decide +kernel
theorem dX4_addStalls_65 : decode cX4_addStalls 65 = .ok (.aload_n 0, 1) := by decide +kernel
theorem dX4_addStalls_66 : decode cX4_addStalls 66 = .ok (.getfield 25, 3) := by decide +kernel
theorem dX4_addStalls_69 : decode cX4_addStalls 69 = .ok (.iload_n 2, 1) := by decide +kernel
theorem dX4_addStalls_70 : decode cX4_addStalls 70 = .ok (.aload_n 1, 1) := by decide +kernel
theorem dX4_addStalls_71 : decode cX4_addStalls 71 = .ok (.getfield 25, 3) := by decide +kernel
theorem dX4_addStalls_74 : decode cX4_addStalls 74 = .ok (.iload_n 2, 1) := by decide +kernel
theorem dX4_addStalls_75 : decode cX4_addStalls 75 = .ok (.iaload, 1) := by decide +kernel
theorem dX4_addStalls_76 : decode cX4_addStalls 76 = .ok (.iastore, 1) := by decide +kernel
theorem dX4_addStalls_77 : decode cX4_addStalls 77 = .ok (.iinc 2 1, 3) := by decide +kernel
theorem dX4_addStalls_80 : decode cX4_addStalls 80 = .ok (.goto (-65), 3) := by decide +kernel
theorem dX4_addStalls_83 : decode cX4_addStalls 83 = .ok (.return_, 1) := by decide +kernel
theorem dX4_isTold_0 : decode cX4_isTold 0 = .ok (.iload_n 1, 1) := by decide +kernel
theorem dX4_isTold_1 : decode cX4_isTold 1 = .ok (.iconst 0, 1) := by decide +kernel
theorem dX4_isTold_2 : decode cX4_isTold 2 = .ok (.bipush 7, 2) := by decide +kernel
theorem dX4_isTold_4 : decode cX4_isTold 4 = .ok (.invokestatic 106, 3) := by decide +kernel
theorem dX4_isTold_7 : decode cX4_isTold 7 = .ok (.ifCond .eq 18, 3) := by decide +kernel
theorem dX4_isTold_10 : decode cX4_isTold 10 = .ok (.aload_n 0, 1) := by decide +kernel
theorem dX4_isTold_11 : decode cX4_isTold 11 = .ok (.getfield 9, 3) := by decide +kernel
theorem dX4_isTold_14 : decode cX4_isTold 14 = .ok (.iload_n 1, 1) := by decide +kernel
theorem dX4_isTold_15 : decode cX4_isTold 15 = .ok (.invokestatic 110, 3) := by decide +kernel
theorem dX4_isTold_18 : decode cX4_isTold 18 = .ok (.ifCond .eq 7, 3) := by decide +kernel
theorem dX4_isTold_21 : decode cX4_isTold 21 = .ok (.iconst 1, 1) := by decide +kernel
theorem dX4_isTold_22 : decode cX4_isTold 22 = .ok (.goto 4, 3) := by decide +kernel
theorem dX4_isTold_25 : decode cX4_isTold 25 = .ok (.iconst 0, 1) := by decide +kernel
theorem dX4_isTold_26 : decode cX4_isTold 26 = .ok (.ireturn, 1) := by decide +kernel
theorem dX4_between_0 : decode cX4_between 0 = .ok (.aload_n 0, 1) := by decide +kernel
theorem dX4_between_1 : decode cX4_between 1 = .ok (.getfield 15, 3) := by decide +kernel
theorem dX4_between_4 : decode cX4_between 4 = .ok (.iload_n 1, 1) := by decide +kernel
theorem dX4_between_5 : decode cX4_between 5 = .ok (.iaload, 1) := by decide +kernel
theorem dX4_between_6 : decode cX4_between 6 = .ok (.aload_n 0, 1) := by decide +kernel
theorem dX4_between_7 : decode cX4_between 7 = .ok (.getfield 19, 3) := by decide +kernel
theorem dX4_between_10 : decode cX4_between 10 = .ok (.iload_n 1, 1) := by decide +kernel
theorem dX4_between_11 : decode cX4_between 11 = .ok (.iaload, 1) := by decide +kernel
theorem dX4_between_12 : decode cX4_between 12 = .ok (.isub, 1) := by decide +kernel
theorem dX4_between_13 : decode cX4_between 13 = .ok (.ireturn, 1) := by decide +kernel
theorem dX4_betweenInAll_0 : decode cX4_betweenInAll 0 = .ok (.iconst 0, 1) := by decide +kernel
theorem dX4_betweenInAll_1 : decode cX4_betweenInAll 1 = .ok (.istore_n 1, 1) := by decide +kernel
theorem dX4_betweenInAll_2 : decode cX4_betweenInAll 2 = .ok (.iconst 0, 1) := by decide +kernel
theorem dX4_betweenInAll_3 : decode cX4_betweenInAll 3 = .ok (.istore_n 2, 1) := by decide +kernel
theorem dX4_betweenInAll_4 : decode cX4_betweenInAll 4 = .ok (.iload_n 2, 1) := by decide +kernel
theorem dX4_betweenInAll_5 : decode cX4_betweenInAll 5 = .ok (.bipush 8, 2) := by decide +kernel
theorem dX4_betweenInAll_7 : decode cX4_betweenInAll 7 = .ok (.if_icmp .ge 17, 3) := by decide +kernel
theorem dX4_betweenInAll_10 : decode cX4_betweenInAll 10 = .ok (.iload_n 1, 1) := by decide +kernel
theorem dX4_betweenInAll_11 : decode cX4_betweenInAll 11 = .ok (.aload_n 0, 1) := by decide +kernel
theorem dX4_betweenInAll_12 : decode cX4_betweenInAll 12 = .ok (.iload_n 2, 1) := by decide +kernel
theorem dX4_betweenInAll_13 : decode cX4_betweenInAll 13 = .ok (.invokevirtual 114, 3) := by decide +kernel
theorem dX4_betweenInAll_16 : decode cX4_betweenInAll 16 = .ok (.iadd, 1) := by decide +kernel
theorem dX4_betweenInAll_17 : decode cX4_betweenInAll 17 = .ok (.istore_n 1, 1) := by decide +kernel
theorem dX4_betweenInAll_18 : decode cX4_betweenInAll 18 = .ok (.iinc 2 1, 3) := by decide +kernel
theorem dX4_betweenInAll_21 : decode cX4_betweenInAll 21 = .ok (.goto (-17), 3) := by decide +kernel
theorem dX4_betweenInAll_24 : decode cX4_betweenInAll 24 = .ok (.iload_n 1, 1) := by decide +kernel
theorem dX4_betweenInAll_25 : decode cX4_betweenInAll 25 = .ok (.ireturn, 1) := by decide +kernel
theorem dX4_moneyOfAll_0 : decode cX4_moneyOfAll 0 = .ok (.iconst 0, 1) := by decide +kernel
theorem dX4_moneyOfAll_1 : decode cX4_moneyOfAll 1 = .ok (.istore_n 1, 1) := by decide +kernel
theorem dX4_moneyOfAll_2 : decode cX4_moneyOfAll 2 = .ok (.iconst 0, 1) := by decide +kernel
theorem dX4_moneyOfAll_3 : decode cX4_moneyOfAll 3 = .ok (.istore_n 2, 1) := by decide +kernel
theorem dX4_moneyOfAll_4 : decode cX4_moneyOfAll 4 = .ok (.iload_n 2, 1) := by decide +kernel
theorem dX4_moneyOfAll_5 : decode cX4_moneyOfAll 5 = .ok (.bipush 8, 2) := by decide +kernel
theorem dX4_moneyOfAll_7 : decode cX4_moneyOfAll 7 = .ok (.if_icmp .ge 18, 3) := by decide +kernel
theorem dX4_moneyOfAll_10 : decode cX4_moneyOfAll 10 = .ok (.iload_n 1, 1) := by decide +kernel
theorem dX4_moneyOfAll_11 : decode cX4_moneyOfAll 11 = .ok (.aload_n 0, 1) := by decide +kernel
theorem dX4_moneyOfAll_12 : decode cX4_moneyOfAll 12 = .ok (.getfield 22, 3) := by decide +kernel
theorem dX4_moneyOfAll_15 : decode cX4_moneyOfAll 15 = .ok (.iload_n 2, 1) := by decide +kernel
theorem dX4_moneyOfAll_16 : decode cX4_moneyOfAll 16 = .ok (.iaload, 1) := by decide +kernel
theorem dX4_moneyOfAll_17 : decode cX4_moneyOfAll 17 = .ok (.iadd, 1) := by decide +kernel
theorem dX4_moneyOfAll_18 : decode cX4_moneyOfAll 18 = .ok (.istore_n 1, 1) := by decide +kernel
theorem dX4_moneyOfAll_19 : decode cX4_moneyOfAll 19 = .ok (.iinc 2 1, 3) := by decide +kernel
theorem dX4_moneyOfAll_22 : decode cX4_moneyOfAll 22 = .ok (.goto (-18), 3) := by decide +kernel
theorem dX4_moneyOfAll_25 : decode cX4_moneyOfAll 25 = .ok (.iload_n 1, 1) := by decide +kernel
theorem dX4_moneyOfAll_26 : decode cX4_moneyOfAll 26 = .ok (.ireturn, 1) := by decide +kernel
theorem dX4_othersWithMore_0 : decode cX4_othersWithMore 0 = .ok (.iconst 0, 1) := by decide +kernel
theorem dX4_othersWithMore_1 : decode cX4_othersWithMore 1 = .ok (.istore_n 2, 1) := by decide +kernel
theorem dX4_othersWithMore_2 : decode cX4_othersWithMore 2 = .ok (.iconst 0, 1) := by decide +kernel
theorem dX4_othersWithMore_3 : decode cX4_othersWithMore 3 = .ok (.istore_n 3, 1) := by decide +kernel
theorem dX4_othersWithMore_4 : decode cX4_othersWithMore 4 = .ok (.iload_n 3, 1) := by decide +kernel
theorem dX4_othersWithMore_5 : decode cX4_othersWithMore 5 = .ok (.bipush 8, 2) := by decide +kernel
theorem dX4_othersWithMore_7 : decode cX4_othersWithMore 7 = .ok (.if_icmp .ge 25, 3) := by decide +kernel
theorem dX4_othersWithMore_10 : decode cX4_othersWithMore 10 = .ok (.aload_n 0, 1) := by decide +kernel
theorem dX4_othersWithMore_11 : decode cX4_othersWithMore 11 = .ok (.iload_n 3, 1) := by decide +kernel
theorem dX4_othersWithMore_12 : decode cX4_othersWithMore 12 = .ok (.invokevirtual 114, 3) := by decide +kernel
theorem dX4_othersWithMore_15 : decode cX4_othersWithMore 15 = .ok (.aload_n 0, 1) := by decide +kernel
theorem dX4_othersWithMore_16 : decode cX4_othersWithMore 16 = .ok (.iload_n 1, 1) := by decide +kernel
theorem dX4_othersWithMore_17 : decode cX4_othersWithMore 17 = .ok (.invokevirtual 114, 3) := by decide +kernel
theorem dX4_othersWithMore_20 : decode cX4_othersWithMore 20 = .ok (.if_icmp .le 6, 3) := by decide +kernel
theorem dX4_othersWithMore_23 : decode cX4_othersWithMore 23 = .ok (.iinc 2 1, 3) := by decide +kernel
theorem dX4_othersWithMore_26 : decode cX4_othersWithMore 26 = .ok (.iinc 3 1, 3) := by decide +kernel
theorem dX4_othersWithMore_29 : decode cX4_othersWithMore 29 = .ok (.goto (-25), 3) := by decide +kernel
theorem dX4_othersWithMore_32 : decode cX4_othersWithMore 32 = .ok (.iload_n 2, 1) := by decide +kernel
theorem dX4_othersWithMore_33 : decode cX4_othersWithMore 33 = .ok (.ireturn, 1) := by decide +kernel
theorem dX4_countAnew_0 : decode cX4_countAnew 0 = .ok (.aload_n 0, 1) := by decide +kernel
theorem dX4_countAnew_1 : decode cX4_countAnew 1 = .ok (.iconst 0, 1) := by decide +kernel
theorem dX4_countAnew_2 : decode cX4_countAnew 2 = .ok (.putfield 34, 3) := by decide +kernel
theorem dX4_countAnew_5 : decode cX4_countAnew 5 = .ok (.aload_n 0, 1) := by decide +kernel
theorem dX4_countAnew_6 : decode cX4_countAnew 6 = .ok (.iconst 0, 1) := by decide +kernel
theorem dX4_countAnew_7 : decode cX4_countAnew 7 = .ok (.putfield 37, 3) := by decide +kernel
theorem dX4_countAnew_10 : decode cX4_countAnew 10 = .ok (.return_, 1) := by decide +kernel
theorem dX4_passDay_0 : decode cX4_passDay 0 = .ok (.aload_n 0, 1) := by decide +kernel
theorem dX4_passDay_1 : decode cX4_passDay 1 = .ok (.getfield 28, 3) := by decide +kernel
theorem dX4_passDay_4 : decode cX4_passDay 4 = .ok (.sipush 9999, 3) := by decide +kernel
theorem dX4_passDay_7 : decode cX4_passDay 7 = .ok (.if_icmp .lt 5, 3) := by decide +kernel
theorem dX4_passDay_10 : decode cX4_passDay 10 = .ok (.iconst 0, 1) := by decide +kernel
theorem dX4_passDay_11 : decode cX4_passDay 11 = .ok (.ireturn, 1) := by decide +kernel
theorem dX4_passDay_12 : decode cX4_passDay 12 = .ok (.aload_n 0, 1) := by decide +kernel
theorem dX4_passDay_13 : decode cX4_passDay 13 = .ok (.iconst 0, 1) := by decide +kernel
theorem dX4_passDay_14 : decode cX4_passDay 14 = .ok (.putfield 40, 3) := by decide +kernel
theorem dX4_passDay_17 : decode cX4_passDay 17 = .ok (.iconst 0, 1) := by decide +kernel
theorem dX4_passDay_18 : decode cX4_passDay 18 = .ok (.istore_n 2, 1) := by decide +kernel
theorem dX4_passDay_19 : decode cX4_passDay 19 = .ok (.iload_n 2, 1) := by decide +kernel
theorem dX4_passDay_20 : decode cX4_passDay 20 = .ok (.bipush 8, 2) := by decide +kernel
theorem dX4_passDay_22 : decode cX4_passDay 22 = .ok (.if_icmp .ge 27, 3) := by decide +kernel
theorem dX4_passDay_25 : decode cX4_passDay 25 = .ok (.aload_n 0, 1) := by decide +kernel
theorem dX4_passDay_26 : decode cX4_passDay 26 = .ok (.iload_n 2, 1) := by decide +kernel
theorem dX4_passDay_27 : decode cX4_passDay 27 = .ok (.invokevirtual 79, 3) := by decide +kernel
theorem dX4_passDay_30 : decode cX4_passDay 30 = .ok (.ifCond .eq 13, 3) := by decide +kernel
theorem dX4_passDay_33 : decode cX4_passDay 33 = .ok (.aload_n 0, 1) := by decide +kernel
theorem dX4_passDay_34 : decode cX4_passDay 34 = .ok (.iload_n 2, 1) := by decide +kernel
theorem dX4_passDay_35 : decode cX4_passDay 35 = .ok (.aload_n 1, 1) := by decide +kernel
theorem dX4_passDay_36 : decode cX4_passDay 36 = .ok (.aload_n 0, 1) := by decide +kernel
theorem dX4_passDay_37 : decode cX4_passDay 37 = .ok (.invokevirtual 117, 3) := by decide +kernel
theorem dX4_passDay_40 : decode cX4_passDay 40 = .ok (.invokevirtual 121, 3) := by decide +kernel
theorem dX4_passDay_43 : decode cX4_passDay 43 = .ok (.iinc 2 1, 3) := by decide +kernel
theorem dX4_passDay_46 : decode cX4_passDay 46 = .ok (.goto (-27), 3) := by decide +kernel
theorem dX4_passDay_49 : decode cX4_passDay 49 = .ok (.aload_n 0, 1) := by decide +kernel
theorem dX4_passDay_50 : decode cX4_passDay 50 = .ok (.dup, 1) := by decide +kernel
theorem dX4_passDay_51 : decode cX4_passDay 51 = .ok (.getfield 28, 3) := by decide +kernel
theorem dX4_passDay_54 : decode cX4_passDay 54 = .ok (.iconst 1, 1) := by decide +kernel
theorem dX4_passDay_55 : decode cX4_passDay 55 = .ok (.iadd, 1) := by decide +kernel
theorem dX4_passDay_56 : decode cX4_passDay 56 = .ok (.putfield 28, 3) := by decide +kernel
theorem dX4_passDay_59 : decode cX4_passDay 59 = .ok (.iconst 1, 1) := by decide +kernel
theorem dX4_passDay_60 : decode cX4_passDay 60 = .ok (.ireturn, 1) := by decide +kernel
theorem dX4_draw_0 : decode cX4_draw 0 = .ok (.aload_n 0, 1) := by decide +kernel
theorem dX4_draw_1 : decode cX4_draw 1 = .ok (.sipush 25173, 3) := by decide +kernel
theorem dX4_draw_4 : decode cX4_draw 4 = .ok (.aload_n 0, 1) := by decide +kernel
theorem dX4_draw_5 : decode cX4_draw 5 = .ok (.getfield 31, 3) := by decide +kernel
theorem dX4_draw_8 : decode cX4_draw 8 = .ok (.imul, 1) := by decide +kernel
theorem dX4_draw_9 : decode cX4_draw 9 = .ok (.sipush 13849, 3) := by decide +kernel
theorem dX4_draw_12 : decode cX4_draw 12 = .ok (.iadd, 1) := by decide +kernel
theorem dX4_draw_13 : decode cX4_draw 13 = .ok (.ldc 125, 2) := by decide +kernel
theorem dX4_draw_15 : decode cX4_draw 15 = .ok (.irem, 1) := by decide +kernel
theorem dX4_draw_16 : decode cX4_draw 16 = .ok (.putfield 31, 3) := by decide +kernel
theorem dX4_draw_19 : decode cX4_draw 19 = .ok (.aload_n 0, 1) := by decide +kernel
theorem dX4_draw_20 : decode cX4_draw 20 = .ok (.getfield 31, 3) := by decide +kernel
theorem dX4_draw_23 : decode cX4_draw 23 = .ok (.bipush 10, 2) := by decide +kernel
theorem dX4_draw_25 : decode cX4_draw 25 = .ok (.irem, 1) := by decide +kernel
theorem dX4_draw_26 : decode cX4_draw 26 = .ok (.ireturn, 1) := by decide +kernel
theorem dX4_open_0 : decode cX4_open 0 = .ok (.aload_n 2, 1) := by decide +kernel
theorem dX4_open_1 : decode cX4_open 1 = .ok (.aload_n 0, 1) := by decide +kernel
theorem dX4_open_2 : decode cX4_open 2 = .ok (.iload_n 1, 1) := by decide +kernel
theorem dX4_open_3 : decode cX4_open 3 = .ok (.iload_n 3, 1) := by decide +kernel
theorem dX4_open_4 : decode cX4_open 4 = .ok (.invokevirtual 126, 3) := by decide +kernel
theorem dX4_open_7 : decode cX4_open 7 = .ok (.aload_n 2, 1) := by decide +kernel
theorem dX4_open_8 : decode cX4_open 8 = .ok (.invokevirtual 132, 3) := by decide +kernel
theorem dX4_open_11 : decode cX4_open 11 = .ok (.ifCond .eq 4, 3) := by decide +kernel
theorem dX4_open_14 : decode cX4_open 14 = .ok (.return_, 1) := by decide +kernel
theorem dX4_open_15 : decode cX4_open 15 = .ok (.aload_n 0, 1) := by decide +kernel
theorem dX4_open_16 : decode cX4_open 16 = .ok (.iload_n 1, 1) := by decide +kernel
theorem dX4_open_17 : decode cX4_open 17 = .ok (.invokevirtual 114, 3) := by decide +kernel
theorem dX4_open_20 : decode cX4_open 20 = .ok (.istore 4, 2) := by decide +kernel
theorem dX4_open_22 : decode cX4_open 22 = .ok (.iload 4, 2) := by decide +kernel
theorem dX4_open_24 : decode cX4_open 24 = .ok (.aload_n 2, 1) := by decide +kernel
theorem dX4_open_25 : decode cX4_open 25 = .ok (.bipush 118, 2) := by decide +kernel
theorem dX4_open_27 : decode cX4_open 27 = .ok (.sipush 999, 3) := by decide +kernel
theorem dX4_open_30 : decode cX4_open 30 = .ok (.iconst 5, 1) := by decide +kernel
theorem dX4_open_31 : decode cX4_open 31 = .ok (.invokevirtual 135, 3) := by decide +kernel
theorem dX4_open_34 : decode cX4_open 34 = .ok (.invokestatic 139, 3) := by decide +kernel
theorem dX4_open_37 : decode cX4_open 37 = .ok (.istore 5, 2) := by decide +kernel
theorem dX4_open_39 : decode cX4_open 39 = .ok (.aload_n 2, 1) := by decide +kernel
theorem dX4_open_40 : decode cX4_open 40 = .ok (.bipush 121, 2) := by decide +kernel
theorem dX4_open_42 : decode cX4_open 42 = .ok (.bipush 99, 2) := by decide +kernel
theorem dX4_open_44 : decode cX4_open 44 = .ok (.iconst 1, 1) := by decide +kernel
theorem dX4_open_45 : decode cX4_open 45 = .ok (.invokevirtual 135, 3) := by decide +kernel
theorem dX4_open_48 : decode cX4_open 48 = .ok (.istore 6, 2) := by decide +kernel
theorem dX4_open_50 : decode cX4_open 50 = .ok (.aload_n 0, 1) := by decide +kernel
theorem dX4_open_51 : decode cX4_open 51 = .ok (.getfield 15, 3) := by decide +kernel
theorem dX4_open_54 : decode cX4_open 54 = .ok (.iload_n 1, 1) := by decide +kernel
theorem dX4_open_55 : decode cX4_open 55 = .ok (.dup2, 1) := by decide +kernel
theorem dX4_open_56 : decode cX4_open 56 = .ok (.iaload, 1) := by decide +kernel
theorem dX4_open_57 : decode cX4_open 57 = .ok (.iload 5, 2) := by decide +kernel
theorem dX4_open_59 : decode cX4_open 59 = .ok (.isub, 1) := by decide +kernel
theorem dX4_open_60 : decode cX4_open 60 = .ok (.iastore, 1) := by decide +kernel
theorem dX4_open_61 : decode cX4_open 61 = .ok (.aload_n 0, 1) := by decide +kernel
theorem dX4_open_62 : decode cX4_open 62 = .ok (.getfield 22, 3) := by decide +kernel
theorem dX4_open_65 : decode cX4_open 65 = .ok (.iload_n 1, 1) := by decide +kernel
theorem dX4_open_66 : decode cX4_open 66 = .ok (.ldc 144, 2) := by decide +kernel
theorem dX4_open_68 : decode cX4_open 68 = .ok (.aload_n 0, 1) := by decide +kernel
theorem dX4_open_69 : decode cX4_open 69 = .ok (.getfield 22, 3) := by decide +kernel
theorem dX4_open_72 : decode cX4_open 72 = .ok (.iload_n 1, 1) := by decide +kernel
theorem dX4_open_73 : decode cX4_open 73 = .ok (.iaload, 1) := by decide +kernel
theorem dX4_open_74 : decode cX4_open 74 = .ok (.iload 5, 2) := by decide +kernel
theorem dX4_open_76 : decode cX4_open 76 = .ok (.iload 6, 2) := by decide +kernel
theorem dX4_open_78 : decode cX4_open 78 = .ok (.imul, 1) := by decide +kernel
theorem dX4_open_79 : decode cX4_open 79 = .ok (.iadd, 1) := by decide +kernel
theorem dX4_open_80 : decode cX4_open 80 = .ok (.invokestatic 139, 3) := by decide +kernel
theorem dX4_open_83 : decode cX4_open 83 = .ok (.iastore, 1) := by decide +kernel
theorem dX4_open_84 : decode cX4_open 84 = .ok (.aload_n 0, 1) := by decide +kernel
theorem dX4_open_85 : decode cX4_open 85 = .ok (.dup, 1) := by decide +kernel
theorem dX4_open_86 : decode cX4_open 86 = .ok (.getfield 34, 3) := by decide +kernel
theorem dX4_open_89 : decode cX4_open 89 = .ok (.iload 5, 2) := by decide +kernel
theorem dX4_open_91 : decode cX4_open 91 = .ok (.iadd, 1) := by decide +kernel
theorem dX4_open_92 : decode cX4_open 92 = .ok (.putfield 34, 3) := by decide +kernel
theorem dX4_open_95 : decode cX4_open 95 = .ok (.iload 4, 2) := by decide +kernel
theorem dX4_open_97 : decode cX4_open 97 = .ok (.ifCond .le 17, 3) := by decide +kernel
theorem dX4_open_100 : decode cX4_open 100 = .ok (.iload 5, 2) := by decide +kernel
theorem dX4_open_102 : decode cX4_open 102 = .ok (.iload 4, 2) := by decide +kernel
theorem dX4_open_104 : decode cX4_open 104 = .ok (.if_icmp .ne 10, 3) := by decide +kernel
theorem dX4_open_107 : decode cX4_open 107 = .ok (.aload_n 0, 1) := by decide +kernel
theorem dX4_open_108 : decode cX4_open 108 = .ok (.iload_n 1, 1) := by decide +kernel
theorem dX4_open_109 : decode cX4_open 109 = .ok (.aload_n 2, 1) := by decide +kernel
theorem dX4_open_110 : decode cX4_open 110 = .ok (.iload_n 3, 1) := by decide +kernel
theorem dX4_open_111 : decode cX4_open 111 = .ok (.invokevirtual 145, 3) := by decide +kernel
theorem dX4_open_114 : decode cX4_open 114 = .ok (.return_, 1) := by decide +kernel
theorem dX4_sellOut_0 : decode cX4_sellOut 0 = .ok (.aload_n 0, 1) := by decide +kernel
theorem dX4_sellOut_1 : decode cX4_sellOut 1 = .ok (.getfield 25, 3) := by decide +kernel
theorem dX4_sellOut_4 : decode cX4_sellOut 4 = .ok (.iload_n 1, 1) := by decide +kernel
theorem dX4_sellOut_5 : decode cX4_sellOut 5 = .ok (.sipush 9999, 3) := by decide +kernel
theorem dX4_sellOut_8 : decode cX4_sellOut 8 = .ok (.aload_n 0, 1) := by decide +kernel
theorem dX4_sellOut_9 : decode cX4_sellOut 9 = .ok (.getfield 25, 3) := by decide +kernel
theorem dX4_sellOut_12 : decode cX4_sellOut 12 = .ok (.iload_n 1, 1) := by decide +kernel
theorem dX4_sellOut_13 : decode cX4_sellOut 13 = .ok (.iaload, 1) := by decide +kernel
theorem dX4_sellOut_14 : decode cX4_sellOut 14 = .ok (.iconst 1, 1) := by decide +kernel
theorem dX4_sellOut_15 : decode cX4_sellOut 15 = .ok (.iadd, 1) := by decide +kernel
theorem dX4_sellOut_16 : decode cX4_sellOut 16 = .ok (.invokestatic 139, 3) := by decide +kernel
theorem dX4_sellOut_19 : decode cX4_sellOut 19 = .ok (.iastore, 1) := by decide +kernel
theorem dX4_sellOut_20 : decode cX4_sellOut 20 = .ok (.aload_n 0, 1) := by decide +kernel
theorem dX4_sellOut_21 : decode cX4_sellOut 21 = .ok (.dup, 1) := by decide +kernel
theorem dX4_sellOut_22 : decode cX4_sellOut 22 = .ok (.getfield 37, 3) := by decide +kernel
theorem dX4_sellOut_25 : decode cX4_sellOut 25 = .ok (.iconst 1, 1) := by decide +kernel
theorem dX4_sellOut_26 : decode cX4_sellOut 26 = .ok (.iadd, 1) := by decide +kernel
theorem dX4_sellOut_27 : decode cX4_sellOut 27 = .ok (.putfield 37, 3) := by decide +kernel
theorem dX4_sellOut_30 : decode cX4_sellOut 30 = .ok (.aload_n 0, 1) := by decide +kernel
theorem dX4_sellOut_31 : decode cX4_sellOut 31 = .ok (.dup, 1) := by decide +kernel
theorem dX4_sellOut_32 : decode cX4_sellOut 32 = .ok (.getfield 40, 3) := by decide +kernel
theorem dX4_sellOut_35 : decode cX4_sellOut 35 = .ok (.iconst 1, 1) := by decide +kernel
theorem dX4_sellOut_36 : decode cX4_sellOut 36 = .ok (.iload_n 1, 1) := by decide +kernel
theorem dX4_sellOut_37 : decode cX4_sellOut 37 = .ok (.ishl, 1) := by decide +kernel
theorem dX4_sellOut_38 : decode cX4_sellOut 38 = .ok (.ior, 1) := by decide +kernel
theorem dX4_sellOut_39 : decode cX4_sellOut 39 = .ok (.putfield 40, 3) := by decide +kernel
theorem dX4_sellOut_42 : decode cX4_sellOut 42 = .ok (.aload_n 2, 1) := by decide +kernel
theorem dX4_sellOut_43 : decode cX4_sellOut 43 = .ok (.aload_n 0, 1) := by decide +kernel
theorem dX4_sellOut_44 : decode cX4_sellOut 44 = .ok (.iload_n 1, 1) := by decide +kernel
theorem dX4_sellOut_45 : decode cX4_sellOut 45 = .ok (.iload_n 3, 1) := by decide +kernel
theorem dX4_sellOut_46 : decode cX4_sellOut 46 = .ok (.invokevirtual 126, 3) := by decide +kernel
theorem dX4_sellOut_49 : decode cX4_sellOut 49 = .ok (.aload_n 0, 1) := by decide +kernel
theorem dX4_sellOut_50 : decode cX4_sellOut 50 = .ok (.getfield 15, 3) := by decide +kernel
theorem dX4_sellOut_53 : decode cX4_sellOut 53 = .ok (.iload_n 1, 1) := by decide +kernel
theorem dX4_sellOut_54 : decode cX4_sellOut 54 = .ok (.sipush 9999, 3) := by decide +kernel
theorem dX4_sellOut_57 : decode cX4_sellOut 57 = .ok (.aload_n 0, 1) := by decide +kernel
theorem dX4_sellOut_58 : decode cX4_sellOut 58 = .ok (.getfield 15, 3) := by decide +kernel
theorem dX4_sellOut_61 : decode cX4_sellOut 61 = .ok (.iload_n 1, 1) := by decide +kernel
theorem dX4_sellOut_62 : decode cX4_sellOut 62 = .ok (.iaload, 1) := by decide +kernel
theorem dX4_sellOut_63 : decode cX4_sellOut 63 = .ok (.aload_n 2, 1) := by decide +kernel
theorem dX4_sellOut_64 : decode cX4_sellOut 64 = .ok (.bipush 114, 2) := by decide +kernel
theorem dX4_sellOut_66 : decode cX4_sellOut 66 = .ok (.sipush 999, 3) := by decide +kernel
theorem dX4_sellOut_69 : decode cX4_sellOut 69 = .ok (.iconst 0, 1) := by decide +kernel
theorem dX4_sellOut_70 : decode cX4_sellOut 70 = .ok (.invokevirtual 135, 3) := by decide +kernel
theorem dX4_sellOut_73 : decode cX4_sellOut 73 = .ok (.iadd, 1) := by decide +kernel
theorem dX4_sellOut_74 : decode cX4_sellOut 74 = .ok (.invokestatic 139, 3) := by decide +kernel
theorem dX4_sellOut_77 : decode cX4_sellOut 77 = .ok (.iastore, 1) := by decide +kernel
theorem dX4_sellOut_78 : decode cX4_sellOut 78 = .ok (.return_, 1) := by decide +kernel
theorem dX5_init_0 : decode cX5_init 0 = .ok (.aload_n 0, 1) := by decide +kernel
theorem dX5_init_1 : decode cX5_init 1 = .ok (.invokespecial 3, 3) := by decide +kernel
theorem dX5_init_4 : decode cX5_init 4 = .ok (.aload_n 0, 1) := by decide +kernel
theorem dX5_init_5 : decode cX5_init 5 = .ok (.bipush 12, 2) := by decide +kernel
theorem dX5_init_7 : decode cX5_init 7 = .ok (.newarray .int, 2) := by decide +kernel
theorem dX5_init_9 : decode cX5_init 9 = .ok (.putfield 9, 3) := by decide +kernel
theorem dX5_init_12 : decode cX5_init 12 = .ok (.aload_n 0, 1) := by decide +kernel
theorem dX5_init_13 : decode cX5_init 13 = .ok (.bipush 12, 2) := by decide +kernel
theorem dX5_init_15 : decode cX5_init 15 = .ok (.newarray .int, 2) := by decide +kernel
theorem dX5_init_17 : decode cX5_init 17 = .ok (.putfield 15, 3) := by decide +kernel
theorem dX5_init_20 : decode cX5_init 20 = .ok (.return_, 1) := by decide +kernel
theorem dX5_fewest_0 : decode cX5_fewest 0 = .ok (.bipush 13, 2) := by decide +kernel
theorem dX5_fewest_2 : decode cX5_fewest 2 = .ok (.istore_n 2, 1) := by decide +kernel
theorem dX5_fewest_3 : decode cX5_fewest 3 = .ok (.iconst 0, 1) := by decide +kernel
theorem dX5_fewest_4 : decode cX5_fewest 4 = .ok (.istore_n 3, 1) := by decide +kernel
theorem dX5_fewest_5 : decode cX5_fewest 5 = .ok (.iload_n 3, 1) := by decide +kernel
theorem dX5_fewest_6 : decode cX5_fewest 6 = .ok (.bipush 12, 2) := by decide +kernel
theorem dX5_fewest_8 : decode cX5_fewest 8 = .ok (.if_icmp .ge 25, 3) := by decide +kernel
theorem dX5_fewest_11 : decode cX5_fewest 11 = .ok (.iload_n 2, 1) := by decide +kernel
theorem dX5_fewest_12 : decode cX5_fewest 12 = .ok (.aload_n 0, 1) := by decide +kernel
theorem dX5_fewest_13 : decode cX5_fewest 13 = .ok (.aload_n 1, 1) := by decide +kernel
theorem dX5_fewest_14 : decode cX5_fewest 14 = .ok (.sipush 4095, 3) := by decide +kernel
theorem dX5_fewest_17 : decode cX5_fewest 17 = .ok (.iload_n 3, 1) := by decide +kernel
theorem dX5_fewest_18 : decode cX5_fewest 18 = .ok (.bipush 12, 2) := by decide +kernel
theorem dX5_fewest_20 : decode cX5_fewest 20 = .ok (.invokevirtual 18, 3) := by decide +kernel
theorem dX5_fewest_23 : decode cX5_fewest 23 = .ok (.invokestatic 22, 3) := by decide +kernel
theorem dX5_fewest_26 : decode cX5_fewest 26 = .ok (.istore_n 2, 1) := by decide +kernel
theorem dX5_fewest_27 : decode cX5_fewest 27 = .ok (.iinc 3 1, 3) := by decide +kernel
theorem dX5_fewest_30 : decode cX5_fewest 30 = .ok (.goto (-25), 3) := by decide +kernel
theorem dX5_fewest_33 : decode cX5_fewest 33 = .ok (.iload_n 2, 1) := by decide +kernel
theorem dX5_fewest_34 : decode cX5_fewest 34 = .ok (.ireturn, 1) := by decide +kernel
theorem dX5_leastThings_0 : decode cX5_leastThings 0 = .ok (.iconst 1, 1) := by decide +kernel
theorem dX5_leastThings_1 : decode cX5_leastThings 1 = .ok (.istore_n 3, 1) := by decide +kernel
theorem dX5_leastThings_2 : decode cX5_leastThings 2 = .ok (.iload_n 3, 1) := by decide +kernel
theorem dX5_leastThings_3 : decode cX5_leastThings 3 = .ok (.sipush 4095, 3) := by decide +kernel
theorem dX5_leastThings_6 : decode cX5_leastThings 6 = .ok (.if_icmp .gt 38, 3) := by decide +kernel
theorem dX5_leastThings_9 : decode cX5_leastThings 9 = .ok (.iload_n 3, 1) := by decide +kernel
theorem dX5_leastThings_10 : decode cX5_leastThings 10 = .ok (.invokestatic 28, 3) := by decide +kernel
theorem dX5_leastThings_13 : decode cX5_leastThings 13 = .ok (.iload_n 2, 1) := by decide +kernel
theorem dX5_leastThings_14 : decode cX5_leastThings 14 = .ok (.if_icmp .ne 24, 3) := by decide +kernel
theorem dX5_leastThings_17 : decode cX5_leastThings 17 = .ok (.iload_n 3, 1) := by decide +kernel
theorem dX5_leastThings_18 : decode cX5_leastThings 18 = .ok (.invokestatic 34, 3) := by decide +kernel
theorem dX5_leastThings_21 : decode cX5_leastThings 21 = .ok (.istore 4, 2) := by decide +kernel
theorem dX5_leastThings_23 : decode cX5_leastThings 23 = .ok (.aload_n 0, 1) := by decide +kernel
theorem dX5_leastThings_24 : decode cX5_leastThings 24 = .ok (.aload_n 1, 1) := by decide +kernel
theorem dX5_leastThings_25 : decode cX5_leastThings 25 = .ok (.iload_n 3, 1) := by decide +kernel
theorem dX5_leastThings_26 : decode cX5_leastThings 26 = .ok (.iload 4, 2) := by decide +kernel
theorem dX5_leastThings_28 : decode cX5_leastThings 28 = .ok (.iload_n 2, 1) := by decide +kernel
theorem dX5_leastThings_29 : decode cX5_leastThings 29 = .ok (.invokevirtual 18, 3) := by decide +kernel
theorem dX5_leastThings_32 : decode cX5_leastThings 32 = .ok (.iload_n 2, 1) := by decide +kernel
theorem dX5_leastThings_33 : decode cX5_leastThings 33 = .ok (.if_icmp .ne 5, 3) := by decide +kernel
theorem dX5_leastThings_36 : decode cX5_leastThings 36 = .ok (.iload_n 3, 1) := by decide +kernel
theorem dX5_leastThings_37 : decode cX5_leastThings 37 = .ok (.ireturn, 1) := by decide +kernel
theorem dX5_leastThings_38 : decode cX5_leastThings 38 = .ok (.iinc 3 1, 3) := by decide +kernel
theorem dX5_leastThings_41 : decode cX5_leastThings 41 = .ok (.goto (-39), 3) := by decide +kernel
theorem dX5_leastThings_44 : decode cX5_leastThings 44 = .ok (.bipush (-2), 2) := by decide +kernel
theorem dX5_leastThings_46 : decode cX5_leastThings 46 = .ok (.ireturn, 1) := by decide +kernel
theorem dX5_stepsBack_0 : decode cX5_stepsBack 0 = .ok (.aload_n 0, 1) := by decide +kernel
theorem dX5_stepsBack_1 : decode cX5_stepsBack 1 = .ok (.getfield 9, 3) := by decide +kernel
theorem dX5_stepsBack_4 : decode cX5_stepsBack 4 = .ok (.ldc 37, 2) := by decide +kernel
theorem dX5_stepsBack_6 : decode cX5_stepsBack 6 = .ok (.invokestatic 38, 3) := by decide +kernel
theorem dX5_stepsBack_9 : decode cX5_stepsBack 9 = .ok (.aload_n 0, 1) := by decide +kernel
theorem dX5_stepsBack_10 : decode cX5_stepsBack 10 = .ok (.getfield 9, 3) := by decide +kernel
theorem dX5_stepsBack_13 : decode cX5_stepsBack 13 = .ok (.iload_n 3, 1) := by decide +kernel
theorem dX5_stepsBack_14 : decode cX5_stepsBack 14 = .ok (.iconst 0, 1) := by decide +kernel
theorem dX5_stepsBack_15 : decode cX5_stepsBack 15 = .ok (.iastore, 1) := by decide +kernel
theorem dX5_stepsBack_16 : decode cX5_stepsBack 16 = .ok (.iconst 1, 1) := by decide +kernel
theorem dX5_stepsBack_17 : decode cX5_stepsBack 17 = .ok (.istore 5, 2) := by decide +kernel
theorem dX5_stepsBack_19 : decode cX5_stepsBack 19 = .ok (.iload 5, 2) := by decide +kernel
theorem dX5_stepsBack_21 : decode cX5_stepsBack 21 = .ok (.iload 4, 2) := by decide +kernel
theorem dX5_stepsBack_23 : decode cX5_stepsBack 23 = .ok (.if_icmp .gt 27, 3) := by decide +kernel
theorem dX5_stepsBack_26 : decode cX5_stepsBack 26 = .ok (.aload_n 0, 1) := by decide +kernel
theorem dX5_stepsBack_27 : decode cX5_stepsBack 27 = .ok (.aload_n 1, 1) := by decide +kernel
theorem dX5_stepsBack_28 : decode cX5_stepsBack 28 = .ok (.iload_n 2, 1) := by decide +kernel
theorem dX5_stepsBack_29 : decode cX5_stepsBack 29 = .ok (.invokevirtual 44, 3) := by decide +kernel
theorem dX5_stepsBack_32 : decode cX5_stepsBack 32 = .ok (.aload_n 0, 1) := by decide +kernel
theorem dX5_stepsBack_33 : decode cX5_stepsBack 33 = .ok (.getfield 9, 3) := by decide +kernel
theorem dX5_stepsBack_36 : decode cX5_stepsBack 36 = .ok (.iload_n 3, 1) := by decide +kernel
theorem dX5_stepsBack_37 : decode cX5_stepsBack 37 = .ok (.iaload, 1) := by decide +kernel
theorem dX5_stepsBack_38 : decode cX5_stepsBack 38 = .ok (.ifCond .ge 6, 3) := by decide +kernel
theorem dX5_stepsBack_41 : decode cX5_stepsBack 41 = .ok (.iload 5, 2) := by decide +kernel
theorem dX5_stepsBack_43 : decode cX5_stepsBack 43 = .ok (.ireturn, 1) := by decide +kernel
theorem dX5_stepsBack_44 : decode cX5_stepsBack 44 = .ok (.iinc 5 1, 3) := by decide +kernel
theorem dX5_stepsBack_47 : decode cX5_stepsBack 47 = .ok (.goto (-28), 3) := by decide +kernel
theorem dX5_stepsBack_50 : decode cX5_stepsBack 50 = .ok (.iload 4, 2) := by decide +kernel
theorem dX5_stepsBack_52 : decode cX5_stepsBack 52 = .ok (.iconst 1, 1) := by decide +kernel
theorem dX5_stepsBack_53 : decode cX5_stepsBack 53 = .ok (.iadd, 1) := by decide +kernel
theorem dX5_stepsBack_54 : decode cX5_stepsBack 54 = .ok (.ireturn, 1) := by decide +kernel
theorem dX5_step_0 : decode cX5_step 0 = .ok (.aload_n 0, 1) := by decide +kernel
theorem dX5_step_1 : decode cX5_step 1 = .ok (.getfield 15, 3) := by decide +kernel
theorem dX5_step_4 : decode cX5_step 4 = .ok (.ldc 37, 2) := by decide +kernel
theorem dX5_step_6 : decode cX5_step 6 = .ok (.invokestatic 38, 3) := by decide +kernel
theorem dX5_step_9 : decode cX5_step 9 = .ok (.iconst 0, 1) := by decide +kernel
theorem dX5_step_10 : decode cX5_step 10 = .ok (.istore_n 3, 1) := by decide +kernel
theorem dX5_step_11 : decode cX5_step 11 = .ok (.iload_n 3, 1) := by decide +kernel
theorem dX5_step_12 : decode cX5_step 12 = .ok (.bipush 12, 2) := by decide +kernel
theorem dX5_step_14 : decode cX5_step 14 = .ok (.if_icmp .ge 95, 3) := by decide +kernel
theorem dX5_step_17 : decode cX5_step 17 = .ok (.iconst 0, 1) := by decide +kernel
theorem dX5_step_18 : decode cX5_step 18 = .ok (.istore 4, 2) := by decide +kernel
theorem dX5_step_20 : decode cX5_step 20 = .ok (.iload 4, 2) := by decide +kernel
theorem dX5_step_22 : decode cX5_step 22 = .ok (.bipush 12, 2) := by decide +kernel
theorem dX5_step_24 : decode cX5_step 24 = .ok (.if_icmp .ge 79, 3) := by decide +kernel
theorem dX5_step_27 : decode cX5_step 27 = .ok (.aload_n 0, 1) := by decide +kernel
theorem dX5_step_28 : decode cX5_step 28 = .ok (.getfield 9, 3) := by decide +kernel
theorem dX5_step_31 : decode cX5_step 31 = .ok (.iload_n 3, 1) := by decide +kernel
theorem dX5_step_32 : decode cX5_step 32 = .ok (.iaload, 1) := by decide +kernel
theorem dX5_step_33 : decode cX5_step 33 = .ok (.ldc 37, 2) := by decide +kernel
theorem dX5_step_35 : decode cX5_step 35 = .ok (.if_icmp .eq 68, 3) := by decide +kernel
theorem dX5_step_38 : decode cX5_step 38 = .ok (.aload_n 1, 1) := by decide +kernel
theorem dX5_step_39 : decode cX5_step 39 = .ok (.iload_n 3, 1) := by decide +kernel
theorem dX5_step_40 : decode cX5_step 40 = .ok (.bipush 12, 2) := by decide +kernel
theorem dX5_step_42 : decode cX5_step 42 = .ok (.imul, 1) := by decide +kernel
theorem dX5_step_43 : decode cX5_step 43 = .ok (.iload 4, 2) := by decide +kernel
theorem dX5_step_45 : decode cX5_step 45 = .ok (.iadd, 1) := by decide +kernel
theorem dX5_step_46 : decode cX5_step 46 = .ok (.iaload, 1) := by decide +kernel
theorem dX5_step_47 : decode cX5_step 47 = .ok (.istore 5, 2) := by decide +kernel
theorem dX5_step_49 : decode cX5_step 49 = .ok (.iload_n 2, 1) := by decide +kernel
theorem dX5_step_50 : decode cX5_step 50 = .ok (.iload 4, 2) := by decide +kernel
theorem dX5_step_52 : decode cX5_step 52 = .ok (.invokestatic 47, 3) := by decide +kernel
theorem dX5_step_55 : decode cX5_step 55 = .ok (.ifCond .eq 42, 3) := by decide +kernel
theorem dX5_step_58 : decode cX5_step 58 = .ok (.iload_n 3, 1) := by decide +kernel
theorem dX5_step_59 : decode cX5_step 59 = .ok (.iload 4, 2) := by decide +kernel
theorem dX5_step_61 : decode cX5_step 61 = .ok (.if_icmp .eq 36, 3) := by decide +kernel
theorem dX5_step_64 : decode cX5_step 64 = .ok (.iload 5, 2) := by decide +kernel
theorem dX5_step_66 : decode cX5_step 66 = .ok (.ldc 37, 2) := by decide +kernel
theorem dX5_step_68 : decode cX5_step 68 = .ok (.if_icmp .eq 29, 3) := by decide +kernel
theorem dX5_step_71 : decode cX5_step 71 = .ok (.aload_n 0, 1) := by decide +kernel
theorem dX5_step_72 : decode cX5_step 72 = .ok (.getfield 15, 3) := by decide +kernel
theorem dX5_step_75 : decode cX5_step 75 = .ok (.iload 4, 2) := by decide +kernel
theorem dX5_step_77 : decode cX5_step 77 = .ok (.aload_n 0, 1) := by decide +kernel
theorem dX5_step_78 : decode cX5_step 78 = .ok (.getfield 15, 3) := by decide +kernel
theorem dX5_step_81 : decode cX5_step 81 = .ok (.iload 4, 2) := by decide +kernel
theorem dX5_step_83 : decode cX5_step 83 = .ok (.iaload, 1) := by decide +kernel
theorem dX5_step_84 : decode cX5_step 84 = .ok (.aload_n 0, 1) := by decide +kernel
theorem dX5_step_85 : decode cX5_step 85 = .ok (.getfield 9, 3) := by decide +kernel
theorem dX5_step_88 : decode cX5_step 88 = .ok (.iload_n 3, 1) := by decide +kernel
theorem dX5_step_89 : decode cX5_step 89 = .ok (.iaload, 1) := by decide +kernel
theorem dX5_step_90 : decode cX5_step 90 = .ok (.iload 5, 2) := by decide +kernel
theorem dX5_step_92 : decode cX5_step 92 = .ok (.iadd, 1) := by decide +kernel
theorem dX5_step_93 : decode cX5_step 93 = .ok (.invokestatic 22, 3) := by decide +kernel
theorem dX5_step_96 : decode cX5_step 96 = .ok (.iastore, 1) := by decide +kernel
theorem dX5_step_97 : decode cX5_step 97 = .ok (.iinc 4 1, 3) := by decide +kernel
theorem dX5_step_100 : decode cX5_step 100 = .ok (.goto (-80), 3) := by decide +kernel
theorem dX5_step_103 : decode cX5_step 103 = .ok (.iinc 3 1, 3) := by decide +kernel
theorem dX5_step_106 : decode cX5_step 106 = .ok (.goto (-95), 3) := by decide +kernel
theorem dX5_step_109 : decode cX5_step 109 = .ok (.aload_n 0, 1) := by decide +kernel
theorem dX5_step_110 : decode cX5_step 110 = .ok (.getfield 15, 3) := by decide +kernel
theorem dX5_step_113 : decode cX5_step 113 = .ok (.iconst 0, 1) := by decide +kernel
theorem dX5_step_114 : decode cX5_step 114 = .ok (.aload_n 0, 1) := by decide +kernel
theorem dX5_step_115 : decode cX5_step 115 = .ok (.getfield 9, 3) := by decide +kernel
theorem dX5_step_118 : decode cX5_step 118 = .ok (.iconst 0, 1) := by decide +kernel
theorem dX5_step_119 : decode cX5_step 119 = .ok (.bipush 12, 2) := by decide +kernel
theorem dX5_step_121 : decode cX5_step 121 = .ok (.invokestatic 51, 3) := by decide +kernel
theorem dX5_step_124 : decode cX5_step 124 = .ok (.return_, 1) := by decide +kernel
theorem dX6_depth_0 : decode cX6_depth 0 = .ok (.iconst 0, 1) := by decide +kernel
theorem dX6_depth_1 : decode cX6_depth 1 = .ok (.istore_n 2, 1) := by decide +kernel
theorem dX6_depth_2 : decode cX6_depth 2 = .ok (.iload_n 1, 1) := by decide +kernel
theorem dX6_depth_3 : decode cX6_depth 3 = .ok (.istore_n 3, 1) := by decide +kernel
theorem dX6_depth_4 : decode cX6_depth 4 = .ok (.iload_n 3, 1) := by decide +kernel
theorem dX6_depth_5 : decode cX6_depth 5 = .ok (.iconst 1, 1) := by decide +kernel
theorem dX6_depth_6 : decode cX6_depth 6 = .ok (.if_icmp .le 25, 3) := by decide +kernel
theorem dX6_depth_9 : decode cX6_depth 9 = .ok (.aload_n 0, 1) := by decide +kernel
theorem dX6_depth_10 : decode cX6_depth 10 = .ok (.iload_n 3, 1) := by decide +kernel
theorem dX6_depth_11 : decode cX6_depth 11 = .ok (.invokestatic 9, 3) := by decide +kernel
theorem dX6_depth_14 : decode cX6_depth 14 = .ok (.ifCond .ne 17, 3) := by decide +kernel
theorem dX6_depth_17 : decode cX6_depth 17 = .ok (.aload_n 0, 1) := by decide +kernel
theorem dX6_depth_18 : decode cX6_depth 18 = .ok (.iload_n 3, 1) := by decide +kernel
theorem dX6_depth_19 : decode cX6_depth 19 = .ok (.invokestatic 15, 3) := by decide +kernel
theorem dX6_depth_22 : decode cX6_depth 22 = .ok (.iinc 2 1, 3) := by decide +kernel
theorem dX6_depth_25 : decode cX6_depth 25 = .ok (.iinc 3 (-1), 3) := by decide +kernel
theorem dX6_depth_28 : decode cX6_depth 28 = .ok (.goto (-24), 3) := by decide +kernel
theorem dX6_depth_31 : decode cX6_depth 31 = .ok (.iload_n 2, 1) := by decide +kernel
theorem dX6_depth_32 : decode cX6_depth 32 = .ok (.ireturn, 1) := by decide +kernel
theorem dX6_goesOn_0 : decode cX6_goesOn 0 = .ok (.lconst 0, 1) := by decide +kernel
theorem dX6_goesOn_1 : decode cX6_goesOn 1 = .ok (.lstore_n 2, 1) := by decide +kernel
theorem dX6_goesOn_2 : decode cX6_goesOn 2 = .ok (.iload_n 1, 1) := by decide +kernel
theorem dX6_goesOn_3 : decode cX6_goesOn 3 = .ok (.istore 4, 2) := by decide +kernel
theorem dX6_goesOn_5 : decode cX6_goesOn 5 = .ok (.iload 4, 2) := by decide +kernel
theorem dX6_goesOn_7 : decode cX6_goesOn 7 = .ok (.iconst 1, 1) := by decide +kernel
theorem dX6_goesOn_8 : decode cX6_goesOn 8 = .ok (.if_icmp .le 34, 3) := by decide +kernel
theorem dX6_goesOn_11 : decode cX6_goesOn 11 = .ok (.aload_n 0, 1) := by decide +kernel
theorem dX6_goesOn_12 : decode cX6_goesOn 12 = .ok (.iload 4, 2) := by decide +kernel
theorem dX6_goesOn_14 : decode cX6_goesOn 14 = .ok (.invokestatic 9, 3) := by decide +kernel
theorem dX6_goesOn_17 : decode cX6_goesOn 17 = .ok (.ifCond .ne 25, 3) := by decide +kernel
theorem dX6_goesOn_20 : decode cX6_goesOn 20 = .ok (.lload_n 2, 1) := by decide +kernel
theorem dX6_goesOn_21 : decode cX6_goesOn 21 = .ok (.aload_n 0, 1) := by decide +kernel
theorem dX6_goesOn_22 : decode cX6_goesOn 22 = .ok (.iload 4, 2) := by decide +kernel
theorem dX6_goesOn_24 : decode cX6_goesOn 24 = .ok (.iconst 1, 1) := by decide +kernel
theorem dX6_goesOn_25 : decode cX6_goesOn 25 = .ok (.isub, 1) := by decide +kernel
theorem dX6_goesOn_26 : decode cX6_goesOn 26 = .ok (.iaload, 1) := by decide +kernel
theorem dX6_goesOn_27 : decode cX6_goesOn 27 = .ok (.i2l, 1) := by decide +kernel
theorem dX6_goesOn_28 : decode cX6_goesOn 28 = .ok (.ladd, 1) := by decide +kernel
theorem dX6_goesOn_29 : decode cX6_goesOn 29 = .ok (.lstore_n 2, 1) := by decide +kernel
theorem dX6_goesOn_30 : decode cX6_goesOn 30 = .ok (.aload_n 0, 1) := by decide +kernel
theorem dX6_goesOn_31 : decode cX6_goesOn 31 = .ok (.iload 4, 2) := by decide +kernel
theorem dX6_goesOn_33 : decode cX6_goesOn 33 = .ok (.invokestatic 15, 3) := by decide +kernel
theorem dX6_goesOn_36 : decode cX6_goesOn 36 = .ok (.iinc 4 (-1), 3) := by decide +kernel
theorem dX6_goesOn_39 : decode cX6_goesOn 39 = .ok (.goto (-34), 3) := by decide +kernel
theorem dX6_goesOn_42 : decode cX6_goesOn 42 = .ok (.lload_n 2, 1) := by decide +kernel
theorem dX6_goesOn_43 : decode cX6_goesOn 43 = .ok (.aload_n 0, 1) := by decide +kernel
theorem dX6_goesOn_44 : decode cX6_goesOn 44 = .ok (.iconst 0, 1) := by decide +kernel
theorem dX6_goesOn_45 : decode cX6_goesOn 45 = .ok (.iaload, 1) := by decide +kernel
theorem dX6_goesOn_46 : decode cX6_goesOn 46 = .ok (.i2l, 1) := by decide +kernel
theorem dX6_goesOn_47 : decode cX6_goesOn 47 = .ok (.ladd, 1) := by decide +kernel
theorem dX6_goesOn_48 : decode cX6_goesOn 48 = .ok (.lreturn, 1) := by decide +kernel
theorem dX6_areAlike_0 : decode cX6_areAlike 0 = .ok (.iconst 1, 1) := by decide +kernel
theorem dX6_areAlike_1 : decode cX6_areAlike 1 = .ok (.istore_n 2, 1) := by decide +kernel
theorem dX6_areAlike_2 : decode cX6_areAlike 2 = .ok (.iload_n 2, 1) := by decide +kernel
theorem dX6_areAlike_3 : decode cX6_areAlike 3 = .ok (.iload_n 1, 1) := by decide +kernel
theorem dX6_areAlike_4 : decode cX6_areAlike 4 = .ok (.if_icmp .ge 20, 3) := by decide +kernel
theorem dX6_areAlike_7 : decode cX6_areAlike 7 = .ok (.aload_n 0, 1) := by decide +kernel
theorem dX6_areAlike_8 : decode cX6_areAlike 8 = .ok (.iload_n 2, 1) := by decide +kernel
theorem dX6_areAlike_9 : decode cX6_areAlike 9 = .ok (.iaload, 1) := by decide +kernel
theorem dX6_areAlike_10 : decode cX6_areAlike 10 = .ok (.aload_n 0, 1) := by decide +kernel
theorem dX6_areAlike_11 : decode cX6_areAlike 11 = .ok (.iconst 0, 1) := by decide +kernel
theorem dX6_areAlike_12 : decode cX6_areAlike 12 = .ok (.iaload, 1) := by decide +kernel
theorem dX6_areAlike_13 : decode cX6_areAlike 13 = .ok (.if_icmp .eq 5, 3) := by decide +kernel
theorem dX6_areAlike_16 : decode cX6_areAlike 16 = .ok (.iconst 0, 1) := by decide +kernel
theorem dX6_areAlike_17 : decode cX6_areAlike 17 = .ok (.ireturn, 1) := by decide +kernel
theorem dX6_areAlike_18 : decode cX6_areAlike 18 = .ok (.iinc 2 1, 3) := by decide +kernel
theorem dX6_areAlike_21 : decode cX6_areAlike 21 = .ok (.goto (-19), 3) := by decide +kernel
theorem dX6_areAlike_24 : decode cX6_areAlike 24 = .ok (.iconst 1, 1) := by decide +kernel
theorem dX6_areAlike_25 : decode cX6_areAlike 25 = .ok (.ireturn, 1) := by decide +kernel
theorem dX6_takeDifferences_0 : decode cX6_takeDifferences 0 = .ok (.iconst 0, 1) := by decide +kernel
theorem dX6_takeDifferences_1 : decode cX6_takeDifferences 1 = .ok (.istore_n 2, 1) := by decide +kernel
theorem dX6_takeDifferences_2 : decode cX6_takeDifferences 2 = .ok (.iload_n 2, 1) := by decide +kernel
theorem dX6_takeDifferences_3 : decode cX6_takeDifferences 3 = .ok (.iconst 1, 1) := by decide +kernel
theorem dX6_takeDifferences_4 : decode cX6_takeDifferences 4 = .ok (.iadd, 1) := by decide +kernel
theorem dX6_takeDifferences_5 : decode cX6_takeDifferences 5 = .ok (.iload_n 1, 1) := by decide +kernel
theorem dX6_takeDifferences_6 : decode cX6_takeDifferences 6 = .ok (.if_icmp .ge 21, 3) := by decide +kernel
theorem dX6_takeDifferences_9 : decode cX6_takeDifferences 9 = .ok (.aload_n 0, 1) := by decide +kernel
theorem dX6_takeDifferences_10 : decode cX6_takeDifferences 10 = .ok (.iload_n 2, 1) := by decide +kernel
theorem dX6_takeDifferences_11 : decode cX6_takeDifferences 11 = .ok (.aload_n 0, 1) := by decide +kernel
theorem dX6_takeDifferences_12 : decode cX6_takeDifferences 12 = .ok (.iload_n 2, 1) := by decide +kernel
theorem dX6_takeDifferences_13 : decode cX6_takeDifferences 13 = .ok (.iconst 1, 1) := by decide +kernel
theorem dX6_takeDifferences_14 : decode cX6_takeDifferences 14 = .ok (.iadd, 1) := by decide +kernel
theorem dX6_takeDifferences_15 : decode cX6_takeDifferences 15 = .ok (.iaload, 1) := by decide +kernel
theorem dX6_takeDifferences_16 : decode cX6_takeDifferences 16 = .ok (.aload_n 0, 1) := by decide +kernel
theorem dX6_takeDifferences_17 : decode cX6_takeDifferences 17 = .ok (.iload_n 2, 1) := by decide +kernel
theorem dX6_takeDifferences_18 : decode cX6_takeDifferences 18 = .ok (.iaload, 1) := by decide +kernel
theorem dX6_takeDifferences_19 : decode cX6_takeDifferences 19 = .ok (.isub, 1) := by decide +kernel
theorem dX6_takeDifferences_20 : decode cX6_takeDifferences 20 = .ok (.iastore, 1) := by decide +kernel
theorem dX6_takeDifferences_21 : decode cX6_takeDifferences 21 = .ok (.iinc 2 1, 3) := by decide +kernel
theorem dX6_takeDifferences_24 : decode cX6_takeDifferences 24 = .ok (.goto (-22), 3) := by decide +kernel
theorem dX6_takeDifferences_27 : decode cX6_takeDifferences 27 = .ok (.return_, 1) := by decide +kernel
theorem dX6_placeOfWalk_0 : decode cX6_placeOfWalk 0 = .ok (.iconst 0, 1) := by decide +kernel
theorem dX6_placeOfWalk_1 : decode cX6_placeOfWalk 1 = .ok (.istore_n 3, 1) := by decide +kernel
theorem dX6_placeOfWalk_2 : decode cX6_placeOfWalk 2 = .ok (.iconst 0, 1) := by decide +kernel
theorem dX6_placeOfWalk_3 : decode cX6_placeOfWalk 3 = .ok (.istore 4, 2) := by decide +kernel
theorem dX6_placeOfWalk_5 : decode cX6_placeOfWalk 5 = .ok (.iconst 0, 1) := by decide +kernel
theorem dX6_placeOfWalk_6 : decode cX6_placeOfWalk 6 = .ok (.istore 5, 2) := by decide +kernel
theorem dX6_placeOfWalk_8 : decode cX6_placeOfWalk 8 = .ok (.iconst 0, 1) := by decide +kernel
theorem dX6_placeOfWalk_9 : decode cX6_placeOfWalk 9 = .ok (.istore 6, 2) := by decide +kernel
theorem dX6_placeOfWalk_11 : decode cX6_placeOfWalk 11 = .ok (.iload 6, 2) := by decide +kernel
theorem dX6_placeOfWalk_13 : decode cX6_placeOfWalk 13 = .ok (.iload_n 1, 1) := by decide +kernel
theorem dX6_placeOfWalk_14 : decode cX6_placeOfWalk 14 = .ok (.if_icmp .ge 32, 3) := by decide +kernel
theorem dX6_placeOfWalk_17 : decode cX6_placeOfWalk 17 = .ok (.iload_n 3, 1) := by decide +kernel
theorem dX6_placeOfWalk_18 : decode cX6_placeOfWalk 18 = .ok (.aload_n 0, 1) := by decide +kernel
theorem dX6_placeOfWalk_19 : decode cX6_placeOfWalk 19 = .ok (.iload 6, 2) := by decide +kernel
theorem dX6_placeOfWalk_21 : decode cX6_placeOfWalk 21 = .ok (.iaload, 1) := by decide +kernel
theorem dX6_placeOfWalk_22 : decode cX6_placeOfWalk 22 = .ok (.iadd, 1) := by decide +kernel
theorem dX6_placeOfWalk_23 : decode cX6_placeOfWalk 23 = .ok (.istore_n 3, 1) := by decide +kernel
theorem dX6_placeOfWalk_24 : decode cX6_placeOfWalk 24 = .ok (.iload 4, 2) := by decide +kernel
theorem dX6_placeOfWalk_26 : decode cX6_placeOfWalk 26 = .ok (.iload_n 3, 1) := by decide +kernel
theorem dX6_placeOfWalk_27 : decode cX6_placeOfWalk 27 = .ok (.invokestatic 19, 3) := by decide +kernel
theorem dX6_placeOfWalk_30 : decode cX6_placeOfWalk 30 = .ok (.istore 4, 2) := by decide +kernel
theorem dX6_placeOfWalk_32 : decode cX6_placeOfWalk 32 = .ok (.iload 5, 2) := by decide +kernel
theorem dX6_placeOfWalk_34 : decode cX6_placeOfWalk 34 = .ok (.iload_n 3, 1) := by decide +kernel
theorem dX6_placeOfWalk_35 : decode cX6_placeOfWalk 35 = .ok (.invokestatic 25, 3) := by decide +kernel
theorem dX6_placeOfWalk_38 : decode cX6_placeOfWalk 38 = .ok (.istore 5, 2) := by decide +kernel
theorem dX6_placeOfWalk_40 : decode cX6_placeOfWalk 40 = .ok (.iinc 6 1, 3) := by decide +kernel
theorem dX6_placeOfWalk_43 : decode cX6_placeOfWalk 43 = .ok (.goto (-32), 3) := by decide +kernel
theorem dX6_placeOfWalk_46 : decode cX6_placeOfWalk 46 = .ok (.iload_n 2, 1) := by decide +kernel
theorem dX6_placeOfWalk_47 : decode cX6_placeOfWalk 47 = .ok (.ifCond .ne 5, 3) := by decide +kernel
theorem dX6_placeOfWalk_50 : decode cX6_placeOfWalk 50 = .ok (.iload_n 3, 1) := by decide +kernel
theorem dX6_placeOfWalk_51 : decode cX6_placeOfWalk 51 = .ok (.ireturn, 1) := by decide +kernel
theorem dX6_placeOfWalk_52 : decode cX6_placeOfWalk 52 = .ok (.iload_n 2, 1) := by decide +kernel
theorem dX6_placeOfWalk_53 : decode cX6_placeOfWalk 53 = .ok (.iconst 1, 1) := by decide +kernel
theorem dX6_placeOfWalk_54 : decode cX6_placeOfWalk 54 = .ok (.if_icmp .ne 8, 3) := by decide +kernel
theorem dX6_placeOfWalk_57 : decode cX6_placeOfWalk 57 = .ok (.iload 4, 2) := by decide +kernel
theorem dX6_placeOfWalk_59 : decode cX6_placeOfWalk 59 = .ok (.goto 5, 3) := by decide +kernel
theorem dX6_placeOfWalk_62 : decode cX6_placeOfWalk 62 = .ok (.iload 5, 2) := by decide +kernel
theorem dX6_placeOfWalk_64 : decode cX6_placeOfWalk 64 = .ok (.ireturn, 1) := by decide +kernel
theorem dX6_turns_0 : decode cX6_turns 0 = .ok (.iconst 0, 1) := by decide +kernel
theorem dX6_turns_1 : decode cX6_turns 1 = .ok (.istore_n 2, 1) := by decide +kernel
theorem dX6_turns_2 : decode cX6_turns 2 = .ok (.iconst 0, 1) := by decide +kernel
theorem dX6_turns_3 : decode cX6_turns 3 = .ok (.istore_n 3, 1) := by decide +kernel
theorem dX6_turns_4 : decode cX6_turns 4 = .ok (.iconst 0, 1) := by decide +kernel
theorem dX6_turns_5 : decode cX6_turns 5 = .ok (.istore 4, 2) := by decide +kernel
theorem dX6_turns_7 : decode cX6_turns 7 = .ok (.iload 4, 2) := by decide +kernel
theorem dX6_turns_9 : decode cX6_turns 9 = .ok (.iload_n 1, 1) := by decide +kernel
theorem dX6_turns_10 : decode cX6_turns 10 = .ok (.if_icmp .ge 46, 3) := by decide +kernel
theorem dX6_turns_13 : decode cX6_turns 13 = .ok (.aload_n 0, 1) := by decide +kernel
theorem dX6_turns_14 : decode cX6_turns 14 = .ok (.iload 4, 2) := by decide +kernel
theorem dX6_turns_16 : decode cX6_turns 16 = .ok (.iaload, 1) := by decide +kernel
theorem dX6_turns_17 : decode cX6_turns 17 = .ok (.ifCond .eq 33, 3) := by decide +kernel
theorem dX6_turns_20 : decode cX6_turns 20 = .ok (.aload_n 0, 1) := by decide +kernel
theorem dX6_turns_21 : decode cX6_turns 21 = .ok (.iload 4, 2) := by decide +kernel
theorem dX6_turns_23 : decode cX6_turns 23 = .ok (.iaload, 1) := by decide +kernel
theorem dX6_turns_24 : decode cX6_turns 24 = .ok (.ifCond .ge 7, 3) := by decide +kernel
theorem dX6_turns_27 : decode cX6_turns 27 = .ok (.iload_n 3, 1) := by decide +kernel
theorem dX6_turns_28 : decode cX6_turns 28 = .ok (.ifCond .gt 14, 3) := by decide +kernel
theorem dX6_turns_31 : decode cX6_turns 31 = .ok (.aload_n 0, 1) := by decide +kernel
theorem dX6_turns_32 : decode cX6_turns 32 = .ok (.iload 4, 2) := by decide +kernel
theorem dX6_turns_34 : decode cX6_turns 34 = .ok (.iaload, 1) := by decide +kernel
theorem dX6_turns_35 : decode cX6_turns 35 = .ok (.ifCond .le 10, 3) := by decide +kernel
theorem dX6_turns_38 : decode cX6_turns 38 = .ok (.iload_n 3, 1) := by decide +kernel
theorem dX6_turns_39 : decode cX6_turns 39 = .ok (.ifCond .ge 6, 3) := by decide +kernel
theorem dX6_turns_42 : decode cX6_turns 42 = .ok (.iinc 2 1, 3) := by decide +kernel
theorem dX6_turns_45 : decode cX6_turns 45 = .ok (.aload_n 0, 1) := by decide +kernel
theorem dX6_turns_46 : decode cX6_turns 46 = .ok (.iload 4, 2) := by decide +kernel
theorem dX6_turns_48 : decode cX6_turns 48 = .ok (.iaload, 1) := by decide +kernel
theorem dX6_turns_49 : decode cX6_turns 49 = .ok (.istore_n 3, 1) := by decide +kernel
theorem dX6_turns_50 : decode cX6_turns 50 = .ok (.iinc 4 1, 3) := by decide +kernel
theorem dX6_turns_53 : decode cX6_turns 53 = .ok (.goto (-46), 3) := by decide +kernel
theorem dX6_turns_56 : decode cX6_turns 56 = .ok (.iload_n 2, 1) := by decide +kernel
theorem dX6_turns_57 : decode cX6_turns 57 = .ok (.ireturn, 1) := by decide +kernel
theorem dX6_packed_0 : decode cX6_packed 0 = .ok (.lconst 0, 1) := by decide +kernel
theorem dX6_packed_1 : decode cX6_packed 1 = .ok (.lstore_n 2, 1) := by decide +kernel
theorem dX6_packed_2 : decode cX6_packed 2 = .ok (.iconst 0, 1) := by decide +kernel
theorem dX6_packed_3 : decode cX6_packed 3 = .ok (.istore 4, 2) := by decide +kernel
theorem dX6_packed_5 : decode cX6_packed 5 = .ok (.iload 4, 2) := by decide +kernel
theorem dX6_packed_7 : decode cX6_packed 7 = .ok (.iload_n 1, 1) := by decide +kernel
theorem dX6_packed_8 : decode cX6_packed 8 = .ok (.if_icmp .ge 23, 3) := by decide +kernel
theorem dX6_packed_11 : decode cX6_packed 11 = .ok (.lload_n 2, 1) := by decide +kernel
theorem dX6_packed_12 : decode cX6_packed 12 = .ok (.aload_n 0, 1) := by decide +kernel
theorem dX6_packed_13 : decode cX6_packed 13 = .ok (.iload 4, 2) := by decide +kernel
theorem dX6_packed_15 : decode cX6_packed 15 = .ok (.iaload, 1) := by decide +kernel
theorem dX6_packed_16 : decode cX6_packed 16 = .ok (.i2l, 1) := by decide +kernel
theorem dX6_packed_17 : decode cX6_packed 17 = .ok (.bipush 8, 2) := by decide +kernel
theorem dX6_packed_19 : decode cX6_packed 19 = .ok (.iload 4, 2) := by decide +kernel
theorem dX6_packed_21 : decode cX6_packed 21 = .ok (.imul, 1) := by decide +kernel
theorem dX6_packed_22 : decode cX6_packed 22 = .ok (.lshl, 1) := by decide +kernel
theorem dX6_packed_23 : decode cX6_packed 23 = .ok (.lor, 1) := by decide +kernel
theorem dX6_packed_24 : decode cX6_packed 24 = .ok (.lstore_n 2, 1) := by decide +kernel
theorem dX6_packed_25 : decode cX6_packed 25 = .ok (.iinc 4 1, 3) := by decide +kernel
theorem dX6_packed_28 : decode cX6_packed 28 = .ok (.goto (-23), 3) := by decide +kernel
theorem dX6_packed_31 : decode cX6_packed 31 = .ok (.lload_n 2, 1) := by decide +kernel
theorem dX6_packed_32 : decode cX6_packed 32 = .ok (.lreturn, 1) := by decide +kernel
theorem dX6_nextRow_0 : decode cX6_nextRow 0 = .ok (.lconst 0, 1) := by decide +kernel
theorem dX6_nextRow_1 : decode cX6_nextRow 1 = .ok (.lstore_n 3, 1) := by decide +kernel
theorem dX6_nextRow_2 : decode cX6_nextRow 2 = .ok (.iconst 0, 1) := by decide +kernel
theorem dX6_nextRow_3 : decode cX6_nextRow 3 = .ok (.istore 5, 2) := by decide +kernel
theorem dX6_nextRow_5 : decode cX6_nextRow 5 = .ok (.iload 5, 2) := by decide +kernel
theorem dX6_nextRow_7 : decode cX6_nextRow 7 = .ok (.iload_n 2, 1) := by decide +kernel
theorem dX6_nextRow_8 : decode cX6_nextRow 8 = .ok (.if_icmp .ge 73, 3) := by decide +kernel
theorem dX6_nextRow_11 : decode cX6_nextRow 11 = .ok (.iload 5, 2) := by decide +kernel
theorem dX6_nextRow_13 : decode cX6_nextRow 13 = .ok (.iconst 1, 1) := by decide +kernel
theorem dX6_nextRow_14 : decode cX6_nextRow 14 = .ok (.iadd, 1) := by decide +kernel
theorem dX6_nextRow_15 : decode cX6_nextRow 15 = .ok (.iload_n 2, 1) := by decide +kernel
theorem dX6_nextRow_16 : decode cX6_nextRow 16 = .ok (.if_icmp .ne 7, 3) := by decide +kernel
theorem dX6_nextRow_19 : decode cX6_nextRow 19 = .ok (.iconst 0, 1) := by decide +kernel
theorem dX6_nextRow_20 : decode cX6_nextRow 20 = .ok (.goto 7, 3) := by decide +kernel
theorem dX6_nextRow_23 : decode cX6_nextRow 23 = .ok (.iload 5, 2) := by decide +kernel
theorem dX6_nextRow_25 : decode cX6_nextRow 25 = .ok (.iconst 1, 1) := by decide +kernel
theorem dX6_nextRow_26 : decode cX6_nextRow 26 = .ok (.iadd, 1) := by decide +kernel
theorem dX6_nextRow_27 : decode cX6_nextRow 27 = .ok (.istore 6, 2) := by decide +kernel
theorem dX6_nextRow_29 : decode cX6_nextRow 29 = .ok (.lload_n 0, 1) := by decide +kernel
theorem dX6_nextRow_30 : decode cX6_nextRow 30 = .ok (.bipush 8, 2) := by decide +kernel
theorem dX6_nextRow_32 : decode cX6_nextRow 32 = .ok (.iload 5, 2) := by decide +kernel
theorem dX6_nextRow_34 : decode cX6_nextRow 34 = .ok (.imul, 1) := by decide +kernel
theorem dX6_nextRow_35 : decode cX6_nextRow 35 = .ok (.lushr, 1) := by decide +kernel
theorem dX6_nextRow_36 : decode cX6_nextRow 36 = .ok (.l2i, 1) := by decide +kernel
theorem dX6_nextRow_37 : decode cX6_nextRow 37 = .ok (.sipush 255, 3) := by decide +kernel
theorem dX6_nextRow_40 : decode cX6_nextRow 40 = .ok (.iand, 1) := by decide +kernel
theorem dX6_nextRow_41 : decode cX6_nextRow 41 = .ok (.istore 7, 2) := by decide +kernel
theorem dX6_nextRow_43 : decode cX6_nextRow 43 = .ok (.lload_n 0, 1) := by decide +kernel
theorem dX6_nextRow_44 : decode cX6_nextRow 44 = .ok (.bipush 8, 2) := by decide +kernel
theorem dX6_nextRow_46 : decode cX6_nextRow 46 = .ok (.iload 6, 2) := by decide +kernel
theorem dX6_nextRow_48 : decode cX6_nextRow 48 = .ok (.imul, 1) := by decide +kernel
theorem dX6_nextRow_49 : decode cX6_nextRow 49 = .ok (.lushr, 1) := by decide +kernel
theorem dX6_nextRow_50 : decode cX6_nextRow 50 = .ok (.l2i, 1) := by decide +kernel
theorem dX6_nextRow_51 : decode cX6_nextRow 51 = .ok (.sipush 255, 3) := by decide +kernel
theorem dX6_nextRow_54 : decode cX6_nextRow 54 = .ok (.iand, 1) := by decide +kernel
theorem dX6_nextRow_55 : decode cX6_nextRow 55 = .ok (.istore 8, 2) := by decide +kernel
theorem dX6_nextRow_57 : decode cX6_nextRow 57 = .ok (.lload_n 3, 1) := by decide +kernel
theorem dX6_nextRow_58 : decode cX6_nextRow 58 = .ok (.iload 7, 2) := by decide +kernel
theorem dX6_nextRow_60 : decode cX6_nextRow 60 = .ok (.iload 8, 2) := by decide +kernel
theorem dX6_nextRow_62 : decode cX6_nextRow 62 = .ok (.isub, 1) := by decide +kernel
theorem dX6_nextRow_63 : decode cX6_nextRow 63 = .ok (.invokestatic 28, 3) := by decide +kernel
theorem dX6_nextRow_66 : decode cX6_nextRow 66 = .ok (.i2l, 1) := by decide +kernel
theorem dX6_nextRow_67 : decode cX6_nextRow 67 = .ok (.bipush 8, 2) := by decide +kernel
theorem dX6_nextRow_69 : decode cX6_nextRow 69 = .ok (.iload 5, 2) := by decide +kernel
theorem dX6_nextRow_71 : decode cX6_nextRow 71 = .ok (.imul, 1) := by decide +kernel
theorem dX6_nextRow_72 : decode cX6_nextRow 72 = .ok (.lshl, 1) := by decide +kernel
theorem dX6_nextRow_73 : decode cX6_nextRow 73 = .ok (.lor, 1) := by decide +kernel
theorem dX6_nextRow_74 : decode cX6_nextRow 74 = .ok (.lstore_n 3, 1) := by decide +kernel
theorem dX6_nextRow_75 : decode cX6_nextRow 75 = .ok (.iinc 5 1, 3) := by decide +kernel
theorem dX6_nextRow_78 : decode cX6_nextRow 78 = .ok (.goto (-73), 3) := by decide +kernel
theorem dX6_nextRow_81 : decode cX6_nextRow 81 = .ok (.lload_n 3, 1) := by decide +kernel
theorem dX6_nextRow_82 : decode cX6_nextRow 82 = .ok (.lreturn, 1) := by decide +kernel
theorem dX6_after_0 : decode cX6_after 0 = .ok (.lload_n 0, 1) := by decide +kernel
theorem dX6_after_1 : decode cX6_after 1 = .ok (.lstore 4, 2) := by decide +kernel
theorem dX6_after_3 : decode cX6_after 3 = .ok (.iconst 0, 1) := by decide +kernel
theorem dX6_after_4 : decode cX6_after 4 = .ok (.istore 6, 2) := by decide +kernel
theorem dX6_after_6 : decode cX6_after 6 = .ok (.iload 6, 2) := by decide +kernel
theorem dX6_after_8 : decode cX6_after 8 = .ok (.iload_n 3, 1) := by decide +kernel
theorem dX6_after_9 : decode cX6_after 9 = .ok (.if_icmp .ge 17, 3) := by decide +kernel
theorem dX6_after_12 : decode cX6_after 12 = .ok (.lload 4, 2) := by decide +kernel
theorem dX6_after_14 : decode cX6_after 14 = .ok (.iload_n 2, 1) := by decide +kernel
theorem dX6_after_15 : decode cX6_after 15 = .ok (.invokestatic 32, 3) := by decide +kernel
theorem dX6_after_18 : decode cX6_after 18 = .ok (.lstore 4, 2) := by decide +kernel
theorem dX6_after_20 : decode cX6_after 20 = .ok (.iinc 6 1, 3) := by decide +kernel
theorem dX6_after_23 : decode cX6_after 23 = .ok (.goto (-17), 3) := by decide +kernel
theorem dX6_after_26 : decode cX6_after 26 = .ok (.lload 4, 2) := by decide +kernel
theorem dX6_after_28 : decode cX6_after 28 = .ok (.lreturn, 1) := by decide +kernel
theorem dX6_rowsAheadOfRing_0 : decode cX6_rowsAheadOfRing 0 = .ok (.lload_n 0, 1) := by decide +kernel
theorem dX6_rowsAheadOfRing_1 : decode cX6_rowsAheadOfRing 1 = .ok (.iload_n 2, 1) := by decide +kernel
theorem dX6_rowsAheadOfRing_2 : decode cX6_rowsAheadOfRing 2 = .ok (.invokestatic 32, 3) := by decide +kernel
theorem dX6_rowsAheadOfRing_5 : decode cX6_rowsAheadOfRing 5 = .ok (.lstore_n 3, 1) := by decide +kernel
theorem dX6_rowsAheadOfRing_6 : decode cX6_rowsAheadOfRing 6 = .ok (.lload_n 3, 1) := by decide +kernel
theorem dX6_rowsAheadOfRing_7 : decode cX6_rowsAheadOfRing 7 = .ok (.iload_n 2, 1) := by decide +kernel
theorem dX6_rowsAheadOfRing_8 : decode cX6_rowsAheadOfRing 8 = .ok (.invokestatic 32, 3) := by decide +kernel
theorem dX6_rowsAheadOfRing_11 : decode cX6_rowsAheadOfRing 11 = .ok (.lstore 5, 2) := by decide +kernel
theorem dX6_rowsAheadOfRing_13 : decode cX6_rowsAheadOfRing 13 = .ok (.iconst 0, 1) := by decide +kernel
theorem dX6_rowsAheadOfRing_14 : decode cX6_rowsAheadOfRing 14 = .ok (.istore 7, 2) := by decide +kernel
theorem dX6_rowsAheadOfRing_16 : decode cX6_rowsAheadOfRing 16 = .ok (.iload 7, 2) := by decide +kernel
theorem dX6_rowsAheadOfRing_18 : decode cX6_rowsAheadOfRing 18 = .ok (.ldc 36, 2) := by decide +kernel
theorem dX6_rowsAheadOfRing_20 : decode cX6_rowsAheadOfRing 20 = .ok (.if_icmp .ge 34, 3) := by decide +kernel
theorem dX6_rowsAheadOfRing_23 : decode cX6_rowsAheadOfRing 23 = .ok (.lload_n 3, 1) := by decide +kernel
theorem dX6_rowsAheadOfRing_24 : decode cX6_rowsAheadOfRing 24 = .ok (.lload 5, 2) := by decide +kernel
theorem dX6_rowsAheadOfRing_26 : decode cX6_rowsAheadOfRing 26 = .ok (.lcmp, 1) := by decide +kernel
theorem dX6_rowsAheadOfRing_27 : decode cX6_rowsAheadOfRing 27 = .ok (.ifCond .eq 27, 3) := by decide +kernel
theorem dX6_rowsAheadOfRing_30 : decode cX6_rowsAheadOfRing 30 = .ok (.lload_n 3, 1) := by decide +kernel
theorem dX6_rowsAheadOfRing_31 : decode cX6_rowsAheadOfRing 31 = .ok (.iload_n 2, 1) := by decide +kernel
theorem dX6_rowsAheadOfRing_32 : decode cX6_rowsAheadOfRing 32 = .ok (.invokestatic 32, 3) := by decide +kernel
theorem dX6_rowsAheadOfRing_35 : decode cX6_rowsAheadOfRing 35 = .ok (.lstore_n 3, 1) := by decide +kernel
theorem dX6_rowsAheadOfRing_36 : decode cX6_rowsAheadOfRing 36 = .ok (.lload 5, 2) := by decide +kernel
theorem dX6_rowsAheadOfRing_38 : decode cX6_rowsAheadOfRing 38 = .ok (.iload_n 2, 1) := by decide +kernel
theorem dX6_rowsAheadOfRing_39 : decode cX6_rowsAheadOfRing 39 = .ok (.invokestatic 32, 3) := by decide +kernel
theorem dX6_rowsAheadOfRing_42 : decode cX6_rowsAheadOfRing 42 = .ok (.iload_n 2, 1) := by decide +kernel
theorem dX6_rowsAheadOfRing_43 : decode cX6_rowsAheadOfRing 43 = .ok (.invokestatic 32, 3) := by decide +kernel
theorem dX6_rowsAheadOfRing_46 : decode cX6_rowsAheadOfRing 46 = .ok (.lstore 5, 2) := by decide +kernel
theorem dX6_rowsAheadOfRing_48 : decode cX6_rowsAheadOfRing 48 = .ok (.iinc 7 1, 3) := by decide +kernel
theorem dX6_rowsAheadOfRing_51 : decode cX6_rowsAheadOfRing 51 = .ok (.goto (-35), 3) := by decide +kernel
theorem dX6_rowsAheadOfRing_54 : decode cX6_rowsAheadOfRing 54 = .ok (.iconst 0, 1) := by decide +kernel
theorem dX6_rowsAheadOfRing_55 : decode cX6_rowsAheadOfRing 55 = .ok (.istore 7, 2) := by decide +kernel
theorem dX6_rowsAheadOfRing_57 : decode cX6_rowsAheadOfRing 57 = .ok (.lload_n 0, 1) := by decide +kernel
theorem dX6_rowsAheadOfRing_58 : decode cX6_rowsAheadOfRing 58 = .ok (.lstore_n 3, 1) := by decide +kernel
theorem dX6_rowsAheadOfRing_59 : decode cX6_rowsAheadOfRing 59 = .ok (.iload 7, 2) := by decide +kernel
theorem dX6_rowsAheadOfRing_61 : decode cX6_rowsAheadOfRing 61 = .ok (.ldc 36, 2) := by decide +kernel
theorem dX6_rowsAheadOfRing_63 : decode cX6_rowsAheadOfRing 63 = .ok (.if_icmp .ge 30, 3) := by decide +kernel
theorem dX6_rowsAheadOfRing_66 : decode cX6_rowsAheadOfRing 66 = .ok (.lload_n 3, 1) := by decide +kernel
theorem dX6_rowsAheadOfRing_67 : decode cX6_rowsAheadOfRing 67 = .ok (.lload 5, 2) := by decide +kernel
theorem dX6_rowsAheadOfRing_69 : decode cX6_rowsAheadOfRing 69 = .ok (.lcmp, 1) := by decide +kernel
theorem dX6_rowsAheadOfRing_70 : decode cX6_rowsAheadOfRing 70 = .ok (.ifCond .eq 23, 3) := by decide +kernel
theorem dX6_rowsAheadOfRing_73 : decode cX6_rowsAheadOfRing 73 = .ok (.lload_n 3, 1) := by decide +kernel
theorem dX6_rowsAheadOfRing_74 : decode cX6_rowsAheadOfRing 74 = .ok (.iload_n 2, 1) := by decide +kernel
theorem dX6_rowsAheadOfRing_75 : decode cX6_rowsAheadOfRing 75 = .ok (.invokestatic 32, 3) := by decide +kernel
theorem dX6_rowsAheadOfRing_78 : decode cX6_rowsAheadOfRing 78 = .ok (.lstore_n 3, 1) := by decide +kernel
theorem dX6_rowsAheadOfRing_79 : decode cX6_rowsAheadOfRing 79 = .ok (.lload 5, 2) := by decide +kernel
theorem dX6_rowsAheadOfRing_81 : decode cX6_rowsAheadOfRing 81 = .ok (.iload_n 2, 1) := by decide +kernel
theorem dX6_rowsAheadOfRing_82 : decode cX6_rowsAheadOfRing 82 = .ok (.invokestatic 32, 3) := by decide +kernel
theorem dX6_rowsAheadOfRing_85 : decode cX6_rowsAheadOfRing 85 = .ok (.lstore 5, 2) := by decide +kernel
theorem dX6_rowsAheadOfRing_87 : decode cX6_rowsAheadOfRing 87 = .ok (.iinc 7 1, 3) := by decide +kernel
theorem dX6_rowsAheadOfRing_90 : decode cX6_rowsAheadOfRing 90 = .ok (.goto (-31), 3) := by decide +kernel
theorem dX6_rowsAheadOfRing_93 : decode cX6_rowsAheadOfRing 93 = .ok (.iload 7, 2) := by decide +kernel
theorem dX6_rowsAheadOfRing_95 : decode cX6_rowsAheadOfRing 95 = .ok (.ireturn, 1) := by decide +kernel
theorem dX6_rowsInRing_0 : decode cX6_rowsInRing 0 = .ok (.iconst 1, 1) := by decide +kernel
theorem dX6_rowsInRing_1 : decode cX6_rowsInRing 1 = .ok (.istore_n 3, 1) := by decide +kernel
theorem dX6_rowsInRing_2 : decode cX6_rowsInRing 2 = .ok (.lload_n 0, 1) := by decide +kernel
theorem dX6_rowsInRing_3 : decode cX6_rowsInRing 3 = .ok (.iload_n 2, 1) := by decide +kernel
theorem dX6_rowsInRing_4 : decode cX6_rowsInRing 4 = .ok (.invokestatic 32, 3) := by decide +kernel
theorem dX6_rowsInRing_7 : decode cX6_rowsInRing 7 = .ok (.lstore 4, 2) := by decide +kernel
theorem dX6_rowsInRing_9 : decode cX6_rowsInRing 9 = .ok (.iload_n 3, 1) := by decide +kernel
theorem dX6_rowsInRing_10 : decode cX6_rowsInRing 10 = .ok (.ldc 36, 2) := by decide +kernel
theorem dX6_rowsInRing_12 : decode cX6_rowsInRing 12 = .ok (.if_icmp .ge 24, 3) := by decide +kernel
theorem dX6_rowsInRing_15 : decode cX6_rowsInRing 15 = .ok (.lload 4, 2) := by decide +kernel
theorem dX6_rowsInRing_17 : decode cX6_rowsInRing 17 = .ok (.lload_n 0, 1) := by decide +kernel
theorem dX6_rowsInRing_18 : decode cX6_rowsInRing 18 = .ok (.lcmp, 1) := by decide +kernel
theorem dX6_rowsInRing_19 : decode cX6_rowsInRing 19 = .ok (.ifCond .eq 17, 3) := by decide +kernel
theorem dX6_rowsInRing_22 : decode cX6_rowsInRing 22 = .ok (.lload 4, 2) := by decide +kernel
theorem dX6_rowsInRing_24 : decode cX6_rowsInRing 24 = .ok (.iload_n 2, 1) := by decide +kernel
theorem dX6_rowsInRing_25 : decode cX6_rowsInRing 25 = .ok (.invokestatic 32, 3) := by decide +kernel
theorem dX6_rowsInRing_28 : decode cX6_rowsInRing 28 = .ok (.lstore 4, 2) := by decide +kernel
theorem dX6_rowsInRing_30 : decode cX6_rowsInRing 30 = .ok (.iinc 3 1, 3) := by decide +kernel
theorem dX6_rowsInRing_33 : decode cX6_rowsInRing 33 = .ok (.goto (-24), 3) := by decide +kernel
theorem dX6_rowsInRing_36 : decode cX6_rowsInRing 36 = .ok (.iload_n 3, 1) := by decide +kernel
theorem dX6_rowsInRing_37 : decode cX6_rowsInRing 37 = .ok (.ireturn, 1) := by decide +kernel
theorem dX6_bestRiseOf_0 : decode cX6_bestRiseOf 0 = .ok (.iload_n 2, 1) := by decide +kernel
theorem dX6_bestRiseOf_1 : decode cX6_bestRiseOf 1 = .ok (.iconst 1, 1) := by decide +kernel
theorem dX6_bestRiseOf_2 : decode cX6_bestRiseOf 2 = .ok (.iadd, 1) := by decide +kernel
theorem dX6_bestRiseOf_3 : decode cX6_bestRiseOf 3 = .ok (.newarray .int, 2) := by decide +kernel
theorem dX6_bestRiseOf_5 : decode cX6_bestRiseOf 5 = .ok (.astore_n 3, 1) := by decide +kernel
theorem dX6_bestRiseOf_6 : decode cX6_bestRiseOf 6 = .ok (.iload_n 2, 1) := by decide +kernel
theorem dX6_bestRiseOf_7 : decode cX6_bestRiseOf 7 = .ok (.iconst 1, 1) := by decide +kernel
theorem dX6_bestRiseOf_8 : decode cX6_bestRiseOf 8 = .ok (.iadd, 1) := by decide +kernel
theorem dX6_bestRiseOf_9 : decode cX6_bestRiseOf 9 = .ok (.newarray .int, 2) := by decide +kernel
theorem dX6_bestRiseOf_11 : decode cX6_bestRiseOf 11 = .ok (.astore 4, 2) := by decide +kernel
theorem dX6_bestRiseOf_13 : decode cX6_bestRiseOf 13 = .ok (.aload 4, 2) := by decide +kernel
theorem dX6_bestRiseOf_15 : decode cX6_bestRiseOf 15 = .ok (.aload_n 0, 1) := by decide +kernel
theorem dX6_bestRiseOf_16 : decode cX6_bestRiseOf 16 = .ok (.iconst 0, 1) := by decide +kernel
theorem dX6_bestRiseOf_17 : decode cX6_bestRiseOf 17 = .ok (.iaload, 1) := by decide +kernel
theorem dX6_bestRiseOf_18 : decode cX6_bestRiseOf 18 = .ok (.ineg, 1) := by decide +kernel
theorem dX6_bestRiseOf_19 : decode cX6_bestRiseOf 19 = .ok (.invokestatic 37, 3) := by decide +kernel
theorem dX6_bestRiseOf_22 : decode cX6_bestRiseOf 22 = .ok (.iconst 1, 1) := by decide +kernel
theorem dX6_bestRiseOf_23 : decode cX6_bestRiseOf 23 = .ok (.istore 5, 2) := by decide +kernel
theorem dX6_bestRiseOf_25 : decode cX6_bestRiseOf 25 = .ok (.iload 5, 2) := by decide +kernel
theorem dX6_bestRiseOf_27 : decode cX6_bestRiseOf 27 = .ok (.iload_n 1, 1) := by decide +kernel
theorem dX6_bestRiseOf_28 : decode cX6_bestRiseOf 28 = .ok (.if_icmp .ge 69, 3) := by decide +kernel
theorem dX6_bestRiseOf_31 : decode cX6_bestRiseOf 31 = .ok (.iconst 1, 1) := by decide +kernel
theorem dX6_bestRiseOf_32 : decode cX6_bestRiseOf 32 = .ok (.istore 6, 2) := by decide +kernel
theorem dX6_bestRiseOf_34 : decode cX6_bestRiseOf 34 = .ok (.iload 6, 2) := by decide +kernel
theorem dX6_bestRiseOf_36 : decode cX6_bestRiseOf 36 = .ok (.iload_n 2, 1) := by decide +kernel
theorem dX6_bestRiseOf_37 : decode cX6_bestRiseOf 37 = .ok (.if_icmp .gt 54, 3) := by decide +kernel
theorem dX6_bestRiseOf_40 : decode cX6_bestRiseOf 40 = .ok (.aload 4, 2) := by decide +kernel
theorem dX6_bestRiseOf_42 : decode cX6_bestRiseOf 42 = .ok (.iload 6, 2) := by decide +kernel
theorem dX6_bestRiseOf_44 : decode cX6_bestRiseOf 44 = .ok (.aload 4, 2) := by decide +kernel
theorem dX6_bestRiseOf_46 : decode cX6_bestRiseOf 46 = .ok (.iload 6, 2) := by decide +kernel
theorem dX6_bestRiseOf_48 : decode cX6_bestRiseOf 48 = .ok (.iaload, 1) := by decide +kernel
theorem dX6_bestRiseOf_49 : decode cX6_bestRiseOf 49 = .ok (.aload_n 3, 1) := by decide +kernel
theorem dX6_bestRiseOf_50 : decode cX6_bestRiseOf 50 = .ok (.iload 6, 2) := by decide +kernel
theorem dX6_bestRiseOf_52 : decode cX6_bestRiseOf 52 = .ok (.iconst 1, 1) := by decide +kernel
theorem dX6_bestRiseOf_53 : decode cX6_bestRiseOf 53 = .ok (.isub, 1) := by decide +kernel
theorem dX6_bestRiseOf_54 : decode cX6_bestRiseOf 54 = .ok (.iaload, 1) := by decide +kernel
theorem dX6_bestRiseOf_55 : decode cX6_bestRiseOf 55 = .ok (.aload_n 0, 1) := by decide +kernel
theorem dX6_bestRiseOf_56 : decode cX6_bestRiseOf 56 = .ok (.iload 5, 2) := by decide +kernel
theorem dX6_bestRiseOf_58 : decode cX6_bestRiseOf 58 = .ok (.iaload, 1) := by decide +kernel
theorem dX6_bestRiseOf_59 : decode cX6_bestRiseOf 59 = .ok (.isub, 1) := by decide +kernel
theorem dX6_bestRiseOf_60 : decode cX6_bestRiseOf 60 = .ok (.invokestatic 19, 3) := by decide +kernel
theorem dX6_bestRiseOf_63 : decode cX6_bestRiseOf 63 = .ok (.iastore, 1) := by decide +kernel
theorem dX6_bestRiseOf_64 : decode cX6_bestRiseOf 64 = .ok (.aload_n 3, 1) := by decide +kernel
theorem dX6_bestRiseOf_65 : decode cX6_bestRiseOf 65 = .ok (.iload 6, 2) := by decide +kernel
theorem dX6_bestRiseOf_67 : decode cX6_bestRiseOf 67 = .ok (.aload_n 3, 1) := by decide +kernel
theorem dX6_bestRiseOf_68 : decode cX6_bestRiseOf 68 = .ok (.iload 6, 2) := by decide +kernel
theorem dX6_bestRiseOf_70 : decode cX6_bestRiseOf 70 = .ok (.iaload, 1) := by decide +kernel
theorem dX6_bestRiseOf_71 : decode cX6_bestRiseOf 71 = .ok (.aload 4, 2) := by decide +kernel
theorem dX6_bestRiseOf_73 : decode cX6_bestRiseOf 73 = .ok (.iload 6, 2) := by decide +kernel
theorem dX6_bestRiseOf_75 : decode cX6_bestRiseOf 75 = .ok (.iaload, 1) := by decide +kernel
theorem dX6_bestRiseOf_76 : decode cX6_bestRiseOf 76 = .ok (.aload_n 0, 1) := by decide +kernel
theorem dX6_bestRiseOf_77 : decode cX6_bestRiseOf 77 = .ok (.iload 5, 2) := by decide +kernel
theorem dX6_bestRiseOf_79 : decode cX6_bestRiseOf 79 = .ok (.iaload, 1) := by decide +kernel
theorem dX6_bestRiseOf_80 : decode cX6_bestRiseOf 80 = .ok (.iadd, 1) := by decide +kernel
theorem dX6_bestRiseOf_81 : decode cX6_bestRiseOf 81 = .ok (.invokestatic 19, 3) := by decide +kernel
theorem dX6_bestRiseOf_84 : decode cX6_bestRiseOf 84 = .ok (.iastore, 1) := by decide +kernel
theorem dX6_bestRiseOf_85 : decode cX6_bestRiseOf 85 = .ok (.iinc 6 1, 3) := by decide +kernel
theorem dX6_bestRiseOf_88 : decode cX6_bestRiseOf 88 = .ok (.goto (-54), 3) := by decide +kernel
theorem dX6_bestRiseOf_91 : decode cX6_bestRiseOf 91 = .ok (.iinc 5 1, 3) := by decide +kernel
theorem dX6_bestRiseOf_94 : decode cX6_bestRiseOf 94 = .ok (.goto (-69), 3) := by decide +kernel
theorem dX6_bestRiseOf_97 : decode cX6_bestRiseOf 97 = .ok (.aload_n 3, 1) := by decide +kernel
theorem dX6_bestRiseOf_98 : decode cX6_bestRiseOf 98 = .ok (.iload_n 2, 1) := by decide +kernel
theorem dX6_bestRiseOf_99 : decode cX6_bestRiseOf 99 = .ok (.iaload, 1) := by decide +kernel
theorem dX6_bestRiseOf_100 : decode cX6_bestRiseOf 100 = .ok (.ireturn, 1) := by decide +kernel
theorem dX6_narrowestOf_0 : decode cX6_narrowestOf 0 = .ok (.aload_n 0, 1) := by decide +kernel
theorem dX6_narrowestOf_1 : decode cX6_narrowestOf 1 = .ok (.iload_n 1, 1) := by decide +kernel
theorem dX6_narrowestOf_2 : decode cX6_narrowestOf 2 = .ok (.invokestatic 42, 3) := by decide +kernel
theorem dX6_narrowestOf_5 : decode cX6_narrowestOf 5 = .ok (.aload_n 0, 1) := by decide +kernel
theorem dX6_narrowestOf_6 : decode cX6_narrowestOf 6 = .ok (.iload_n 1, 1) := by decide +kernel
theorem dX6_narrowestOf_7 : decode cX6_narrowestOf 7 = .ok (.iconst 1, 1) := by decide +kernel
theorem dX6_narrowestOf_8 : decode cX6_narrowestOf 8 = .ok (.isub, 1) := by decide +kernel
theorem dX6_narrowestOf_9 : decode cX6_narrowestOf 9 = .ok (.iaload, 1) := by decide +kernel
theorem dX6_narrowestOf_10 : decode cX6_narrowestOf 10 = .ok (.aload_n 0, 1) := by decide +kernel
theorem dX6_narrowestOf_11 : decode cX6_narrowestOf 11 = .ok (.iconst 0, 1) := by decide +kernel
theorem dX6_narrowestOf_12 : decode cX6_narrowestOf 12 = .ok (.iaload, 1) := by decide +kernel
theorem dX6_narrowestOf_13 : decode cX6_narrowestOf 13 = .ok (.isub, 1) := by decide +kernel
theorem dX6_narrowestOf_14 : decode cX6_narrowestOf 14 = .ok (.istore_n 3, 1) := by decide +kernel
theorem dX6_narrowestOf_15 : decode cX6_narrowestOf 15 = .ok (.iconst 0, 1) := by decide +kernel
theorem dX6_narrowestOf_16 : decode cX6_narrowestOf 16 = .ok (.istore 4, 2) := by decide +kernel
theorem dX6_narrowestOf_18 : decode cX6_narrowestOf 18 = .ok (.iload 4, 2) := by decide +kernel
theorem dX6_narrowestOf_20 : decode cX6_narrowestOf 20 = .ok (.iload_n 2, 1) := by decide +kernel
theorem dX6_narrowestOf_21 : decode cX6_narrowestOf 21 = .ok (.iadd, 1) := by decide +kernel
theorem dX6_narrowestOf_22 : decode cX6_narrowestOf 22 = .ok (.iload_n 1, 1) := by decide +kernel
theorem dX6_narrowestOf_23 : decode cX6_narrowestOf 23 = .ok (.if_icmp .gt 27, 3) := by decide +kernel
theorem dX6_narrowestOf_26 : decode cX6_narrowestOf 26 = .ok (.iload_n 3, 1) := by decide +kernel
theorem dX6_narrowestOf_27 : decode cX6_narrowestOf 27 = .ok (.aload_n 0, 1) := by decide +kernel
theorem dX6_narrowestOf_28 : decode cX6_narrowestOf 28 = .ok (.iload 4, 2) := by decide +kernel
theorem dX6_narrowestOf_30 : decode cX6_narrowestOf 30 = .ok (.iload_n 2, 1) := by decide +kernel
theorem dX6_narrowestOf_31 : decode cX6_narrowestOf 31 = .ok (.iadd, 1) := by decide +kernel
theorem dX6_narrowestOf_32 : decode cX6_narrowestOf 32 = .ok (.iconst 1, 1) := by decide +kernel
theorem dX6_narrowestOf_33 : decode cX6_narrowestOf 33 = .ok (.isub, 1) := by decide +kernel
theorem dX6_narrowestOf_34 : decode cX6_narrowestOf 34 = .ok (.iaload, 1) := by decide +kernel
theorem dX6_narrowestOf_35 : decode cX6_narrowestOf 35 = .ok (.aload_n 0, 1) := by decide +kernel
theorem dX6_narrowestOf_36 : decode cX6_narrowestOf 36 = .ok (.iload 4, 2) := by decide +kernel
theorem dX6_narrowestOf_38 : decode cX6_narrowestOf 38 = .ok (.iaload, 1) := by decide +kernel
theorem dX6_narrowestOf_39 : decode cX6_narrowestOf 39 = .ok (.isub, 1) := by decide +kernel
theorem dX6_narrowestOf_40 : decode cX6_narrowestOf 40 = .ok (.invokestatic 25, 3) := by decide +kernel
theorem dX6_narrowestOf_43 : decode cX6_narrowestOf 43 = .ok (.istore_n 3, 1) := by decide +kernel
theorem dX6_narrowestOf_44 : decode cX6_narrowestOf 44 = .ok (.iinc 4 1, 3) := by decide +kernel
theorem dX6_narrowestOf_47 : decode cX6_narrowestOf 47 = .ok (.goto (-29), 3) := by decide +kernel
theorem dX6_narrowestOf_50 : decode cX6_narrowestOf 50 = .ok (.iload_n 3, 1) := by decide +kernel
theorem dX6_narrowestOf_51 : decode cX6_narrowestOf 51 = .ok (.ireturn, 1) := by decide +kernel
theorem dX6_twosApart_0 : decode cX6_twosApart 0 = .ok (.iconst 0, 1) := by decide +kernel
theorem dX6_twosApart_1 : decode cX6_twosApart 1 = .ok (.istore_n 3, 1) := by decide +kernel
theorem dX6_twosApart_2 : decode cX6_twosApart 2 = .ok (.iconst 0, 1) := by decide +kernel
theorem dX6_twosApart_3 : decode cX6_twosApart 3 = .ok (.istore 4, 2) := by decide +kernel
theorem dX6_twosApart_5 : decode cX6_twosApart 5 = .ok (.iload 4, 2) := by decide +kernel
theorem dX6_twosApart_7 : decode cX6_twosApart 7 = .ok (.iload_n 1, 1) := by decide +kernel
theorem dX6_twosApart_8 : decode cX6_twosApart 8 = .ok (.if_icmp .ge 44, 3) := by decide +kernel
theorem dX6_twosApart_11 : decode cX6_twosApart 11 = .ok (.iconst 0, 1) := by decide +kernel
theorem dX6_twosApart_12 : decode cX6_twosApart 12 = .ok (.istore 5, 2) := by decide +kernel
theorem dX6_twosApart_14 : decode cX6_twosApart 14 = .ok (.iload 5, 2) := by decide +kernel
theorem dX6_twosApart_16 : decode cX6_twosApart 16 = .ok (.iload 4, 2) := by decide +kernel
theorem dX6_twosApart_18 : decode cX6_twosApart 18 = .ok (.if_icmp .ge 28, 3) := by decide +kernel
theorem dX6_twosApart_21 : decode cX6_twosApart 21 = .ok (.aload_n 0, 1) := by decide +kernel
theorem dX6_twosApart_22 : decode cX6_twosApart 22 = .ok (.iload 4, 2) := by decide +kernel
theorem dX6_twosApart_24 : decode cX6_twosApart 24 = .ok (.iaload, 1) := by decide +kernel
theorem dX6_twosApart_25 : decode cX6_twosApart 25 = .ok (.aload_n 0, 1) := by decide +kernel
theorem dX6_twosApart_26 : decode cX6_twosApart 26 = .ok (.iload 5, 2) := by decide +kernel
theorem dX6_twosApart_28 : decode cX6_twosApart 28 = .ok (.iaload, 1) := by decide +kernel
theorem dX6_twosApart_29 : decode cX6_twosApart 29 = .ok (.isub, 1) := by decide +kernel
theorem dX6_twosApart_30 : decode cX6_twosApart 30 = .ok (.invokestatic 28, 3) := by decide +kernel
theorem dX6_twosApart_33 : decode cX6_twosApart 33 = .ok (.iload_n 2, 1) := by decide +kernel
theorem dX6_twosApart_34 : decode cX6_twosApart 34 = .ok (.if_icmp .ne 6, 3) := by decide +kernel
theorem dX6_twosApart_37 : decode cX6_twosApart 37 = .ok (.iinc 3 1, 3) := by decide +kernel
theorem dX6_twosApart_40 : decode cX6_twosApart 40 = .ok (.iinc 5 1, 3) := by decide +kernel
theorem dX6_twosApart_43 : decode cX6_twosApart 43 = .ok (.goto (-29), 3) := by decide +kernel
theorem dX6_twosApart_46 : decode cX6_twosApart 46 = .ok (.iinc 4 1, 3) := by decide +kernel
theorem dX6_twosApart_49 : decode cX6_twosApart 49 = .ok (.goto (-44), 3) := by decide +kernel
theorem dX6_twosApart_52 : decode cX6_twosApart 52 = .ok (.iload_n 3, 1) := by decide +kernel
theorem dX6_twosApart_53 : decode cX6_twosApart 53 = .ok (.ireturn, 1) := by decide +kernel
theorem dX6_pairedOf_0 : decode cX6_pairedOf 0 = .ok (.aload_n 0, 1) := by decide +kernel
theorem dX6_pairedOf_1 : decode cX6_pairedOf 1 = .ok (.iload_n 1, 1) := by decide +kernel
theorem dX6_pairedOf_2 : decode cX6_pairedOf 2 = .ok (.invokestatic 42, 3) := by decide +kernel
theorem dX6_pairedOf_5 : decode cX6_pairedOf 5 = .ok (.iconst 0, 1) := by decide +kernel
theorem dX6_pairedOf_6 : decode cX6_pairedOf 6 = .ok (.istore_n 3, 1) := by decide +kernel
theorem dX6_pairedOf_7 : decode cX6_pairedOf 7 = .ok (.iconst 0, 1) := by decide +kernel
theorem dX6_pairedOf_8 : decode cX6_pairedOf 8 = .ok (.istore 4, 2) := by decide +kernel
theorem dX6_pairedOf_10 : decode cX6_pairedOf 10 = .ok (.iconst 0, 1) := by decide +kernel
theorem dX6_pairedOf_11 : decode cX6_pairedOf 11 = .ok (.istore 5, 2) := by decide +kernel
theorem dX6_pairedOf_13 : decode cX6_pairedOf 13 = .ok (.iload 5, 2) := by decide +kernel
theorem dX6_pairedOf_15 : decode cX6_pairedOf 15 = .ok (.iconst 1, 1) := by decide +kernel
theorem dX6_pairedOf_16 : decode cX6_pairedOf 16 = .ok (.iadd, 1) := by decide +kernel
theorem dX6_pairedOf_17 : decode cX6_pairedOf 17 = .ok (.iload_n 1, 1) := by decide +kernel
theorem dX6_pairedOf_18 : decode cX6_pairedOf 18 = .ok (.if_icmp .ge 36, 3) := by decide +kernel
theorem dX6_pairedOf_21 : decode cX6_pairedOf 21 = .ok (.aload_n 0, 1) := by decide +kernel
theorem dX6_pairedOf_22 : decode cX6_pairedOf 22 = .ok (.iload 5, 2) := by decide +kernel
theorem dX6_pairedOf_24 : decode cX6_pairedOf 24 = .ok (.iconst 1, 1) := by decide +kernel
theorem dX6_pairedOf_25 : decode cX6_pairedOf 25 = .ok (.iadd, 1) := by decide +kernel
theorem dX6_pairedOf_26 : decode cX6_pairedOf 26 = .ok (.iaload, 1) := by decide +kernel
theorem dX6_pairedOf_27 : decode cX6_pairedOf 27 = .ok (.aload_n 0, 1) := by decide +kernel
theorem dX6_pairedOf_28 : decode cX6_pairedOf 28 = .ok (.iload 5, 2) := by decide +kernel
theorem dX6_pairedOf_30 : decode cX6_pairedOf 30 = .ok (.iaload, 1) := by decide +kernel
theorem dX6_pairedOf_31 : decode cX6_pairedOf 31 = .ok (.isub, 1) := by decide +kernel
theorem dX6_pairedOf_32 : decode cX6_pairedOf 32 = .ok (.istore 6, 2) := by decide +kernel
theorem dX6_pairedOf_34 : decode cX6_pairedOf 34 = .ok (.iload_n 3, 1) := by decide +kernel
theorem dX6_pairedOf_35 : decode cX6_pairedOf 35 = .ok (.iload 6, 2) := by decide +kernel
theorem dX6_pairedOf_37 : decode cX6_pairedOf 37 = .ok (.iadd, 1) := by decide +kernel
theorem dX6_pairedOf_38 : decode cX6_pairedOf 38 = .ok (.istore_n 3, 1) := by decide +kernel
theorem dX6_pairedOf_39 : decode cX6_pairedOf 39 = .ok (.iload 4, 2) := by decide +kernel
theorem dX6_pairedOf_41 : decode cX6_pairedOf 41 = .ok (.iload 6, 2) := by decide +kernel
theorem dX6_pairedOf_43 : decode cX6_pairedOf 43 = .ok (.invokestatic 19, 3) := by decide +kernel
theorem dX6_pairedOf_46 : decode cX6_pairedOf 46 = .ok (.istore 4, 2) := by decide +kernel
theorem dX6_pairedOf_48 : decode cX6_pairedOf 48 = .ok (.iinc 5 2, 3) := by decide +kernel
theorem dX6_pairedOf_51 : decode cX6_pairedOf 51 = .ok (.goto (-38), 3) := by decide +kernel
theorem dX6_pairedOf_54 : decode cX6_pairedOf 54 = .ok (.iload_n 2, 1) := by decide +kernel
theorem dX6_pairedOf_55 : decode cX6_pairedOf 55 = .ok (.ifCond .eq 8, 3) := by decide +kernel
theorem dX6_pairedOf_58 : decode cX6_pairedOf 58 = .ok (.iload 4, 2) := by decide +kernel
theorem dX6_pairedOf_60 : decode cX6_pairedOf 60 = .ok (.goto 4, 3) := by decide +kernel
theorem dX6_pairedOf_63 : decode cX6_pairedOf 63 = .ok (.iload_n 3, 1) := by decide +kernel
theorem dX6_pairedOf_64 : decode cX6_pairedOf 64 = .ok (.ireturn, 1) := by decide +kernel
theorem dX6_sort_0 : decode cX6_sort 0 = .ok (.iconst 1, 1) := by decide +kernel
theorem dX6_sort_1 : decode cX6_sort 1 = .ok (.istore_n 2, 1) := by decide +kernel
theorem dX6_sort_2 : decode cX6_sort 2 = .ok (.iload_n 2, 1) := by decide +kernel
theorem dX6_sort_3 : decode cX6_sort 3 = .ok (.iload_n 1, 1) := by decide +kernel
theorem dX6_sort_4 : decode cX6_sort 4 = .ok (.if_icmp .ge 52, 3) := by decide +kernel
theorem dX6_sort_7 : decode cX6_sort 7 = .ok (.aload_n 0, 1) := by decide +kernel
theorem dX6_sort_8 : decode cX6_sort 8 = .ok (.iload_n 2, 1) := by decide +kernel
theorem dX6_sort_9 : decode cX6_sort 9 = .ok (.iaload, 1) := by decide +kernel
theorem dX6_sort_10 : decode cX6_sort 10 = .ok (.istore_n 3, 1) := by decide +kernel
theorem dX6_sort_11 : decode cX6_sort 11 = .ok (.iload_n 2, 1) := by decide +kernel
theorem dX6_sort_12 : decode cX6_sort 12 = .ok (.istore 4, 2) := by decide +kernel
theorem dX6_sort_14 : decode cX6_sort 14 = .ok (.iload 4, 2) := by decide +kernel
theorem dX6_sort_16 : decode cX6_sort 16 = .ok (.ifCond .le 29, 3) := by decide +kernel
theorem dX6_sort_19 : decode cX6_sort 19 = .ok (.aload_n 0, 1) := by decide +kernel
theorem dX6_sort_20 : decode cX6_sort 20 = .ok (.iload 4, 2) := by decide +kernel
theorem dX6_sort_22 : decode cX6_sort 22 = .ok (.iconst 1, 1) := by decide +kernel
theorem dX6_sort_23 : decode cX6_sort 23 = .ok (.isub, 1) := by decide +kernel
theorem dX6_sort_24 : decode cX6_sort 24 = .ok (.iaload, 1) := by decide +kernel
theorem dX6_sort_25 : decode cX6_sort 25 = .ok (.iload_n 3, 1) := by decide +kernel
theorem dX6_sort_26 : decode cX6_sort 26 = .ok (.if_icmp .le 19, 3) := by decide +kernel
theorem dX6_sort_29 : decode cX6_sort 29 = .ok (.aload_n 0, 1) := by decide +kernel
theorem dX6_sort_30 : decode cX6_sort 30 = .ok (.iload 4, 2) := by decide +kernel
theorem dX6_sort_32 : decode cX6_sort 32 = .ok (.aload_n 0, 1) := by decide +kernel
theorem dX6_sort_33 : decode cX6_sort 33 = .ok (.iload 4, 2) := by decide +kernel
theorem dX6_sort_35 : decode cX6_sort 35 = .ok (.iconst 1, 1) := by decide +kernel
theorem dX6_sort_36 : decode cX6_sort 36 = .ok (.isub, 1) := by decide +kernel
theorem dX6_sort_37 : decode cX6_sort 37 = .ok (.iaload, 1) := by decide +kernel
theorem dX6_sort_38 : decode cX6_sort 38 = .ok (.iastore, 1) := by decide +kernel
theorem dX6_sort_39 : decode cX6_sort 39 = .ok (.iinc 4 (-1), 3) := by decide +kernel
theorem dX6_sort_42 : decode cX6_sort 42 = .ok (.goto (-28), 3) := by decide +kernel
theorem dX6_sort_45 : decode cX6_sort 45 = .ok (.aload_n 0, 1) := by decide +kernel
theorem dX6_sort_46 : decode cX6_sort 46 = .ok (.iload 4, 2) := by decide +kernel
theorem dX6_sort_48 : decode cX6_sort 48 = .ok (.iload_n 3, 1) := by decide +kernel
theorem dX6_sort_49 : decode cX6_sort 49 = .ok (.iastore, 1) := by decide +kernel
theorem dX6_sort_50 : decode cX6_sort 50 = .ok (.iinc 2 1, 3) := by decide +kernel
theorem dX6_sort_53 : decode cX6_sort 53 = .ok (.goto (-51), 3) := by decide +kernel
theorem dX6_sort_56 : decode cX6_sort 56 = .ok (.return_, 1) := by decide +kernel
theorem dX6_leastBitsOfSums_0 : decode cX6_leastBitsOfSums 0 = .ok (.aload_n 2, 1) := by decide +kernel
theorem dX6_leastBitsOfSums_1 : decode cX6_leastBitsOfSums 1 = .ok (.iconst (-1), 1) := by decide +kernel
theorem dX6_leastBitsOfSums_2 : decode cX6_leastBitsOfSums 2 = .ok (.invokestatic 37, 3) := by decide +kernel
theorem dX6_leastBitsOfSums_5 : decode cX6_leastBitsOfSums 5 = .ok (.aload_n 2, 1) := by decide +kernel
theorem dX6_leastBitsOfSums_6 : decode cX6_leastBitsOfSums 6 = .ok (.iconst 0, 1) := by decide +kernel
theorem dX6_leastBitsOfSums_7 : decode cX6_leastBitsOfSums 7 = .ok (.iconst 0, 1) := by decide +kernel
theorem dX6_leastBitsOfSums_8 : decode cX6_leastBitsOfSums 8 = .ok (.iastore, 1) := by decide +kernel
theorem dX6_leastBitsOfSums_9 : decode cX6_leastBitsOfSums 9 = .ok (.iconst 1, 1) := by decide +kernel
theorem dX6_leastBitsOfSums_10 : decode cX6_leastBitsOfSums 10 = .ok (.istore_n 3, 1) := by decide +kernel
theorem dX6_leastBitsOfSums_11 : decode cX6_leastBitsOfSums 11 = .ok (.iload_n 3, 1) := by decide +kernel
theorem dX6_leastBitsOfSums_12 : decode cX6_leastBitsOfSums 12 = .ok (.iload_n 1, 1) := by decide +kernel
theorem dX6_leastBitsOfSums_13 : decode cX6_leastBitsOfSums 13 = .ok (.if_icmp .ge 63, 3) := by decide +kernel
theorem dX6_leastBitsOfSums_16 : decode cX6_leastBitsOfSums 16 = .ok (.aload_n 2, 1) := by decide +kernel
theorem dX6_leastBitsOfSums_17 : decode cX6_leastBitsOfSums 17 = .ok (.arraylength, 1) := by decide +kernel
theorem dX6_leastBitsOfSums_18 : decode cX6_leastBitsOfSums 18 = .ok (.iconst 1, 1) := by decide +kernel
theorem dX6_leastBitsOfSums_19 : decode cX6_leastBitsOfSums 19 = .ok (.isub, 1) := by decide +kernel
theorem dX6_leastBitsOfSums_20 : decode cX6_leastBitsOfSums 20 = .ok (.istore 4, 2) := by decide +kernel
theorem dX6_leastBitsOfSums_22 : decode cX6_leastBitsOfSums 22 = .ok (.iload 4, 2) := by decide +kernel
theorem dX6_leastBitsOfSums_24 : decode cX6_leastBitsOfSums 24 = .ok (.aload_n 0, 1) := by decide +kernel
theorem dX6_leastBitsOfSums_25 : decode cX6_leastBitsOfSums 25 = .ok (.iload_n 3, 1) := by decide +kernel
theorem dX6_leastBitsOfSums_26 : decode cX6_leastBitsOfSums 26 = .ok (.iaload, 1) := by decide +kernel
theorem dX6_leastBitsOfSums_27 : decode cX6_leastBitsOfSums 27 = .ok (.if_icmp .lt 43, 3) := by decide +kernel
theorem dX6_leastBitsOfSums_30 : decode cX6_leastBitsOfSums 30 = .ok (.aload_n 2, 1) := by decide +kernel
theorem dX6_leastBitsOfSums_31 : decode cX6_leastBitsOfSums 31 = .ok (.iload 4, 2) := by decide +kernel
theorem dX6_leastBitsOfSums_33 : decode cX6_leastBitsOfSums 33 = .ok (.aload_n 0, 1) := by decide +kernel
theorem dX6_leastBitsOfSums_34 : decode cX6_leastBitsOfSums 34 = .ok (.iload_n 3, 1) := by decide +kernel
theorem dX6_leastBitsOfSums_35 : decode cX6_leastBitsOfSums 35 = .ok (.iaload, 1) := by decide +kernel
theorem dX6_leastBitsOfSums_36 : decode cX6_leastBitsOfSums 36 = .ok (.isub, 1) := by decide +kernel
theorem dX6_leastBitsOfSums_37 : decode cX6_leastBitsOfSums 37 = .ok (.iaload, 1) := by decide +kernel
theorem dX6_leastBitsOfSums_38 : decode cX6_leastBitsOfSums 38 = .ok (.istore 5, 2) := by decide +kernel
theorem dX6_leastBitsOfSums_40 : decode cX6_leastBitsOfSums 40 = .ok (.aload_n 2, 1) := by decide +kernel
theorem dX6_leastBitsOfSums_41 : decode cX6_leastBitsOfSums 41 = .ok (.iload 4, 2) := by decide +kernel
theorem dX6_leastBitsOfSums_43 : decode cX6_leastBitsOfSums 43 = .ok (.iaload, 1) := by decide +kernel
theorem dX6_leastBitsOfSums_44 : decode cX6_leastBitsOfSums 44 = .ok (.iconst (-1), 1) := by decide +kernel
theorem dX6_leastBitsOfSums_45 : decode cX6_leastBitsOfSums 45 = .ok (.if_icmp .ne 19, 3) := by decide +kernel
theorem dX6_leastBitsOfSums_48 : decode cX6_leastBitsOfSums 48 = .ok (.iload 5, 2) := by decide +kernel
theorem dX6_leastBitsOfSums_50 : decode cX6_leastBitsOfSums 50 = .ok (.iconst (-1), 1) := by decide +kernel
theorem dX6_leastBitsOfSums_51 : decode cX6_leastBitsOfSums 51 = .ok (.if_icmp .eq 13, 3) := by decide +kernel
theorem dX6_leastBitsOfSums_54 : decode cX6_leastBitsOfSums 54 = .ok (.aload_n 2, 1) := by decide +kernel
theorem dX6_leastBitsOfSums_55 : decode cX6_leastBitsOfSums 55 = .ok (.iload 4, 2) := by decide +kernel
theorem dX6_leastBitsOfSums_57 : decode cX6_leastBitsOfSums 57 = .ok (.iload 5, 2) := by decide +kernel
theorem dX6_leastBitsOfSums_59 : decode cX6_leastBitsOfSums 59 = .ok (.iconst 1, 1) := by decide +kernel
theorem dX6_leastBitsOfSums_60 : decode cX6_leastBitsOfSums 60 = .ok (.iload_n 3, 1) := by decide +kernel
theorem dX6_leastBitsOfSums_61 : decode cX6_leastBitsOfSums 61 = .ok (.ishl, 1) := by decide +kernel
theorem dX6_leastBitsOfSums_62 : decode cX6_leastBitsOfSums 62 = .ok (.ior, 1) := by decide +kernel
theorem dX6_leastBitsOfSums_63 : decode cX6_leastBitsOfSums 63 = .ok (.iastore, 1) := by decide +kernel
theorem dX6_leastBitsOfSums_64 : decode cX6_leastBitsOfSums 64 = .ok (.iinc 4 (-1), 3) := by decide +kernel
theorem dX6_leastBitsOfSums_67 : decode cX6_leastBitsOfSums 67 = .ok (.goto (-45), 3) := by decide +kernel
theorem dX6_leastBitsOfSums_70 : decode cX6_leastBitsOfSums 70 = .ok (.iinc 3 1, 3) := by decide +kernel
theorem dX6_leastBitsOfSums_73 : decode cX6_leastBitsOfSums 73 = .ok (.goto (-62), 3) := by decide +kernel
theorem dX6_leastBitsOfSums_76 : decode cX6_leastBitsOfSums 76 = .ok (.return_, 1) := by decide +kernel
theorem dX6_evenestSum_0 : decode cX6_evenestSum 0 = .ok (.iconst 0, 1) := by decide +kernel
theorem dX6_evenestSum_1 : decode cX6_evenestSum 1 = .ok (.istore_n 2, 1) := by decide +kernel
theorem dX6_evenestSum_2 : decode cX6_evenestSum 2 = .ok (.iconst 1, 1) := by decide +kernel
theorem dX6_evenestSum_3 : decode cX6_evenestSum 3 = .ok (.istore_n 3, 1) := by decide +kernel
theorem dX6_evenestSum_4 : decode cX6_evenestSum 4 = .ok (.iload_n 3, 1) := by decide +kernel
theorem dX6_evenestSum_5 : decode cX6_evenestSum 5 = .ok (.aload_n 0, 1) := by decide +kernel
theorem dX6_evenestSum_6 : decode cX6_evenestSum 6 = .ok (.arraylength, 1) := by decide +kernel
theorem dX6_evenestSum_7 : decode cX6_evenestSum 7 = .ok (.if_icmp .ge 56, 3) := by decide +kernel
theorem dX6_evenestSum_10 : decode cX6_evenestSum 10 = .ok (.aload_n 0, 1) := by decide +kernel
theorem dX6_evenestSum_11 : decode cX6_evenestSum 11 = .ok (.iload_n 3, 1) := by decide +kernel
theorem dX6_evenestSum_12 : decode cX6_evenestSum 12 = .ok (.iaload, 1) := by decide +kernel
theorem dX6_evenestSum_13 : decode cX6_evenestSum 13 = .ok (.iconst (-1), 1) := by decide +kernel
theorem dX6_evenestSum_14 : decode cX6_evenestSum 14 = .ok (.if_icmp .eq 43, 3) := by decide +kernel
theorem dX6_evenestSum_17 : decode cX6_evenestSum 17 = .ok (.iload_n 1, 1) := by decide +kernel
theorem dX6_evenestSum_18 : decode cX6_evenestSum 18 = .ok (.iconst 2, 1) := by decide +kernel
theorem dX6_evenestSum_19 : decode cX6_evenestSum 19 = .ok (.iload_n 2, 1) := by decide +kernel
theorem dX6_evenestSum_20 : decode cX6_evenestSum 20 = .ok (.imul, 1) := by decide +kernel
theorem dX6_evenestSum_21 : decode cX6_evenestSum 21 = .ok (.isub, 1) := by decide +kernel
theorem dX6_evenestSum_22 : decode cX6_evenestSum 22 = .ok (.invokestatic 28, 3) := by decide +kernel
theorem dX6_evenestSum_25 : decode cX6_evenestSum 25 = .ok (.iload_n 1, 1) := by decide +kernel
theorem dX6_evenestSum_26 : decode cX6_evenestSum 26 = .ok (.iconst 2, 1) := by decide +kernel
theorem dX6_evenestSum_27 : decode cX6_evenestSum 27 = .ok (.iload_n 3, 1) := by decide +kernel
theorem dX6_evenestSum_28 : decode cX6_evenestSum 28 = .ok (.imul, 1) := by decide +kernel
theorem dX6_evenestSum_29 : decode cX6_evenestSum 29 = .ok (.isub, 1) := by decide +kernel
theorem dX6_evenestSum_30 : decode cX6_evenestSum 30 = .ok (.invokestatic 28, 3) := by decide +kernel
theorem dX6_evenestSum_33 : decode cX6_evenestSum 33 = .ok (.isub, 1) := by decide +kernel
theorem dX6_evenestSum_34 : decode cX6_evenestSum 34 = .ok (.istore 4, 2) := by decide +kernel
theorem dX6_evenestSum_36 : decode cX6_evenestSum 36 = .ok (.iload 4, 2) := by decide +kernel
theorem dX6_evenestSum_38 : decode cX6_evenestSum 38 = .ok (.ifCond .gt 17, 3) := by decide +kernel
theorem dX6_evenestSum_41 : decode cX6_evenestSum 41 = .ok (.iload 4, 2) := by decide +kernel
theorem dX6_evenestSum_43 : decode cX6_evenestSum 43 = .ok (.ifCond .ne 14, 3) := by decide +kernel
theorem dX6_evenestSum_46 : decode cX6_evenestSum 46 = .ok (.aload_n 0, 1) := by decide +kernel
theorem dX6_evenestSum_47 : decode cX6_evenestSum 47 = .ok (.iload_n 3, 1) := by decide +kernel
theorem dX6_evenestSum_48 : decode cX6_evenestSum 48 = .ok (.iaload, 1) := by decide +kernel
theorem dX6_evenestSum_49 : decode cX6_evenestSum 49 = .ok (.aload_n 0, 1) := by decide +kernel
theorem dX6_evenestSum_50 : decode cX6_evenestSum 50 = .ok (.iload_n 2, 1) := by decide +kernel
theorem dX6_evenestSum_51 : decode cX6_evenestSum 51 = .ok (.iaload, 1) := by decide +kernel
theorem dX6_evenestSum_52 : decode cX6_evenestSum 52 = .ok (.if_icmp .ge 5, 3) := by decide +kernel
theorem dX6_evenestSum_55 : decode cX6_evenestSum 55 = .ok (.iload_n 3, 1) := by decide +kernel
theorem dX6_evenestSum_56 : decode cX6_evenestSum 56 = .ok (.istore_n 2, 1) := by decide +kernel
theorem dX6_evenestSum_57 : decode cX6_evenestSum 57 = .ok (.iinc 3 1, 3) := by decide +kernel
theorem dX6_evenestSum_60 : decode cX6_evenestSum 60 = .ok (.goto (-56), 3) := by decide +kernel
theorem dX6_evenestSum_63 : decode cX6_evenestSum 63 = .ok (.iload_n 2, 1) := by decide +kernel
theorem dX6_evenestSum_64 : decode cX6_evenestSum 64 = .ok (.ireturn, 1) := by decide +kernel
theorem dX6_longestSteady_0 : decode cX6_longestSteady 0 = .ok (.iconst 1, 1) := by decide +kernel
theorem dX6_longestSteady_1 : decode cX6_longestSteady 1 = .ok (.istore_n 2, 1) := by decide +kernel
theorem dX6_longestSteady_2 : decode cX6_longestSteady 2 = .ok (.iconst 0, 1) := by decide +kernel
theorem dX6_longestSteady_3 : decode cX6_longestSteady 3 = .ok (.istore_n 3, 1) := by decide +kernel
theorem dX6_longestSteady_4 : decode cX6_longestSteady 4 = .ok (.iload_n 3, 1) := by decide +kernel
theorem dX6_longestSteady_5 : decode cX6_longestSteady 5 = .ok (.iload_n 1, 1) := by decide +kernel
theorem dX6_longestSteady_6 : decode cX6_longestSteady 6 = .ok (.if_icmp .ge 39, 3) := by decide +kernel
theorem dX6_longestSteady_9 : decode cX6_longestSteady 9 = .ok (.iload_n 3, 1) := by decide +kernel
theorem dX6_longestSteady_10 : decode cX6_longestSteady 10 = .ok (.iconst 1, 1) := by decide +kernel
theorem dX6_longestSteady_11 : decode cX6_longestSteady 11 = .ok (.iadd, 1) := by decide +kernel
theorem dX6_longestSteady_12 : decode cX6_longestSteady 12 = .ok (.istore 4, 2) := by decide +kernel
theorem dX6_longestSteady_14 : decode cX6_longestSteady 14 = .ok (.iload 4, 2) := by decide +kernel
theorem dX6_longestSteady_16 : decode cX6_longestSteady 16 = .ok (.iload_n 1, 1) := by decide +kernel
theorem dX6_longestSteady_17 : decode cX6_longestSteady 17 = .ok (.if_icmp .ge 22, 3) := by decide +kernel
theorem dX6_longestSteady_20 : decode cX6_longestSteady 20 = .ok (.iload_n 2, 1) := by decide +kernel
theorem dX6_longestSteady_21 : decode cX6_longestSteady 21 = .ok (.aload_n 0, 1) := by decide +kernel
theorem dX6_longestSteady_22 : decode cX6_longestSteady 22 = .ok (.iload_n 1, 1) := by decide +kernel
theorem dX6_longestSteady_23 : decode cX6_longestSteady 23 = .ok (.iload_n 3, 1) := by decide +kernel
theorem dX6_longestSteady_24 : decode cX6_longestSteady 24 = .ok (.iload 4, 2) := by decide +kernel
theorem dX6_longestSteady_26 : decode cX6_longestSteady 26 = .ok (.invokestatic 45, 3) := by decide +kernel
theorem dX6_longestSteady_29 : decode cX6_longestSteady 29 = .ok (.invokestatic 19, 3) := by decide +kernel
theorem dX6_longestSteady_32 : decode cX6_longestSteady 32 = .ok (.istore_n 2, 1) := by decide +kernel
theorem dX6_longestSteady_33 : decode cX6_longestSteady 33 = .ok (.iinc 4 1, 3) := by decide +kernel
theorem dX6_longestSteady_36 : decode cX6_longestSteady 36 = .ok (.goto (-22), 3) := by decide +kernel
theorem dX6_longestSteady_39 : decode cX6_longestSteady 39 = .ok (.iinc 3 1, 3) := by decide +kernel
theorem dX6_longestSteady_42 : decode cX6_longestSteady 42 = .ok (.goto (-38), 3) := by decide +kernel
theorem dX6_longestSteady_45 : decode cX6_longestSteady 45 = .ok (.iload_n 2, 1) := by decide +kernel
theorem dX6_longestSteady_46 : decode cX6_longestSteady 46 = .ok (.ireturn, 1) := by decide +kernel
theorem dX6_steadyBy_0 : decode cX6_steadyBy 0 = .ok (.aload_n 0, 1) := by decide +kernel
theorem dX6_steadyBy_1 : decode cX6_steadyBy 1 = .ok (.iload_n 3, 1) := by decide +kernel
theorem dX6_steadyBy_2 : decode cX6_steadyBy 2 = .ok (.iaload, 1) := by decide +kernel
theorem dX6_steadyBy_3 : decode cX6_steadyBy 3 = .ok (.aload_n 0, 1) := by decide +kernel
theorem dX6_steadyBy_4 : decode cX6_steadyBy 4 = .ok (.iload_n 2, 1) := by decide +kernel
theorem dX6_steadyBy_5 : decode cX6_steadyBy 5 = .ok (.iaload, 1) := by decide +kernel
theorem dX6_steadyBy_6 : decode cX6_steadyBy 6 = .ok (.isub, 1) := by decide +kernel
theorem dX6_steadyBy_7 : decode cX6_steadyBy 7 = .ok (.istore 4, 2) := by decide +kernel
theorem dX6_steadyBy_9 : decode cX6_steadyBy 9 = .ok (.iconst 2, 1) := by decide +kernel
theorem dX6_steadyBy_10 : decode cX6_steadyBy 10 = .ok (.istore 5, 2) := by decide +kernel
theorem dX6_steadyBy_12 : decode cX6_steadyBy 12 = .ok (.aload_n 0, 1) := by decide +kernel
theorem dX6_steadyBy_13 : decode cX6_steadyBy 13 = .ok (.iload_n 3, 1) := by decide +kernel
theorem dX6_steadyBy_14 : decode cX6_steadyBy 14 = .ok (.iaload, 1) := by decide +kernel
theorem dX6_steadyBy_15 : decode cX6_steadyBy 15 = .ok (.istore 6, 2) := by decide +kernel
theorem dX6_steadyBy_17 : decode cX6_steadyBy 17 = .ok (.iload_n 3, 1) := by decide +kernel
theorem dX6_steadyBy_18 : decode cX6_steadyBy 18 = .ok (.iconst 1, 1) := by decide +kernel
theorem dX6_steadyBy_19 : decode cX6_steadyBy 19 = .ok (.iadd, 1) := by decide +kernel
theorem dX6_steadyBy_20 : decode cX6_steadyBy 20 = .ok (.istore 7, 2) := by decide +kernel
theorem dX6_steadyBy_22 : decode cX6_steadyBy 22 = .ok (.iload 7, 2) := by decide +kernel
theorem dX6_steadyBy_24 : decode cX6_steadyBy 24 = .ok (.iload_n 1, 1) := by decide +kernel
theorem dX6_steadyBy_25 : decode cX6_steadyBy 25 = .ok (.if_icmp .ge 30, 3) := by decide +kernel
theorem dX6_steadyBy_28 : decode cX6_steadyBy 28 = .ok (.aload_n 0, 1) := by decide +kernel
theorem dX6_steadyBy_29 : decode cX6_steadyBy 29 = .ok (.iload 7, 2) := by decide +kernel
theorem dX6_steadyBy_31 : decode cX6_steadyBy 31 = .ok (.iaload, 1) := by decide +kernel
theorem dX6_steadyBy_32 : decode cX6_steadyBy 32 = .ok (.iload 6, 2) := by decide +kernel
theorem dX6_steadyBy_34 : decode cX6_steadyBy 34 = .ok (.isub, 1) := by decide +kernel
theorem dX6_steadyBy_35 : decode cX6_steadyBy 35 = .ok (.iload 4, 2) := by decide +kernel
theorem dX6_steadyBy_37 : decode cX6_steadyBy 37 = .ok (.if_icmp .ne 12, 3) := by decide +kernel
theorem dX6_steadyBy_40 : decode cX6_steadyBy 40 = .ok (.iinc 5 1, 3) := by decide +kernel
theorem dX6_steadyBy_43 : decode cX6_steadyBy 43 = .ok (.aload_n 0, 1) := by decide +kernel
theorem dX6_steadyBy_44 : decode cX6_steadyBy 44 = .ok (.iload 7, 2) := by decide +kernel
theorem dX6_steadyBy_46 : decode cX6_steadyBy 46 = .ok (.iaload, 1) := by decide +kernel
theorem dX6_steadyBy_47 : decode cX6_steadyBy 47 = .ok (.istore 6, 2) := by decide +kernel
theorem dX6_steadyBy_49 : decode cX6_steadyBy 49 = .ok (.iinc 7 1, 3) := by decide +kernel
theorem dX6_steadyBy_52 : decode cX6_steadyBy 52 = .ok (.goto (-30), 3) := by decide +kernel
theorem dX6_steadyBy_55 : decode cX6_steadyBy 55 = .ok (.iload 5, 2) := by decide +kernel
theorem dX6_steadyBy_57 : decode cX6_steadyBy 57 = .ok (.ireturn, 1) := by decide +kernel
theorem dX6_longestUnsteady_0 : decode cX6_longestUnsteady 0 = .ok (.iconst 1, 1) := by decide +kernel
theorem dX6_longestUnsteady_1 : decode cX6_longestUnsteady 1 = .ok (.istore_n 2, 1) := by decide +kernel
theorem dX6_longestUnsteady_2 : decode cX6_longestUnsteady 2 = .ok (.iconst 1, 1) := by decide +kernel
theorem dX6_longestUnsteady_3 : decode cX6_longestUnsteady 3 = .ok (.istore_n 3, 1) := by decide +kernel
theorem dX6_longestUnsteady_4 : decode cX6_longestUnsteady 4 = .ok (.iconst 1, 1) := by decide +kernel
theorem dX6_longestUnsteady_5 : decode cX6_longestUnsteady 5 = .ok (.istore 4, 2) := by decide +kernel
theorem dX6_longestUnsteady_7 : decode cX6_longestUnsteady 7 = .ok (.iload 4, 2) := by decide +kernel
theorem dX6_longestUnsteady_9 : decode cX6_longestUnsteady 9 = .ok (.iload_n 1, 1) := by decide +kernel
theorem dX6_longestUnsteady_10 : decode cX6_longestUnsteady 10 = .ok (.if_icmp .ge 46, 3) := by decide +kernel
theorem dX6_longestUnsteady_13 : decode cX6_longestUnsteady 13 = .ok (.aload_n 0, 1) := by decide +kernel
theorem dX6_longestUnsteady_14 : decode cX6_longestUnsteady 14 = .ok (.iload 4, 2) := by decide +kernel
theorem dX6_longestUnsteady_16 : decode cX6_longestUnsteady 16 = .ok (.iaload, 1) := by decide +kernel
theorem dX6_longestUnsteady_17 : decode cX6_longestUnsteady 17 = .ok (.aload_n 0, 1) := by decide +kernel
theorem dX6_longestUnsteady_18 : decode cX6_longestUnsteady 18 = .ok (.iload 4, 2) := by decide +kernel
theorem dX6_longestUnsteady_20 : decode cX6_longestUnsteady 20 = .ok (.iconst 1, 1) := by decide +kernel
theorem dX6_longestUnsteady_21 : decode cX6_longestUnsteady 21 = .ok (.isub, 1) := by decide +kernel
theorem dX6_longestUnsteady_22 : decode cX6_longestUnsteady 22 = .ok (.iaload, 1) := by decide +kernel
theorem dX6_longestUnsteady_23 : decode cX6_longestUnsteady 23 = .ok (.if_icmp .le 10, 3) := by decide +kernel
theorem dX6_longestUnsteady_26 : decode cX6_longestUnsteady 26 = .ok (.iload_n 3, 1) := by decide +kernel
theorem dX6_longestUnsteady_27 : decode cX6_longestUnsteady 27 = .ok (.iconst 1, 1) := by decide +kernel
theorem dX6_longestUnsteady_28 : decode cX6_longestUnsteady 28 = .ok (.iadd, 1) := by decide +kernel
theorem dX6_longestUnsteady_29 : decode cX6_longestUnsteady 29 = .ok (.istore_n 2, 1) := by decide +kernel
theorem dX6_longestUnsteady_30 : decode cX6_longestUnsteady 30 = .ok (.goto 20, 3) := by decide +kernel
theorem dX6_longestUnsteady_33 : decode cX6_longestUnsteady 33 = .ok (.aload_n 0, 1) := by decide +kernel
theorem dX6_longestUnsteady_34 : decode cX6_longestUnsteady 34 = .ok (.iload 4, 2) := by decide +kernel
theorem dX6_longestUnsteady_36 : decode cX6_longestUnsteady 36 = .ok (.iaload, 1) := by decide +kernel
theorem dX6_longestUnsteady_37 : decode cX6_longestUnsteady 37 = .ok (.aload_n 0, 1) := by decide +kernel
theorem dX6_longestUnsteady_38 : decode cX6_longestUnsteady 38 = .ok (.iload 4, 2) := by decide +kernel
theorem dX6_longestUnsteady_40 : decode cX6_longestUnsteady 40 = .ok (.iconst 1, 1) := by decide +kernel
theorem dX6_longestUnsteady_41 : decode cX6_longestUnsteady 41 = .ok (.isub, 1) := by decide +kernel
theorem dX6_longestUnsteady_42 : decode cX6_longestUnsteady 42 = .ok (.iaload, 1) := by decide +kernel
theorem dX6_longestUnsteady_43 : decode cX6_longestUnsteady 43 = .ok (.if_icmp .ge 7, 3) := by decide +kernel
theorem dX6_longestUnsteady_46 : decode cX6_longestUnsteady 46 = .ok (.iload_n 2, 1) := by decide +kernel
theorem dX6_longestUnsteady_47 : decode cX6_longestUnsteady 47 = .ok (.iconst 1, 1) := by decide +kernel
theorem dX6_longestUnsteady_48 : decode cX6_longestUnsteady 48 = .ok (.iadd, 1) := by decide +kernel
theorem dX6_longestUnsteady_49 : decode cX6_longestUnsteady 49 = .ok (.istore_n 3, 1) := by decide +kernel
theorem dX6_longestUnsteady_50 : decode cX6_longestUnsteady 50 = .ok (.iinc 4 1, 3) := by decide +kernel
theorem dX6_longestUnsteady_53 : decode cX6_longestUnsteady 53 = .ok (.goto (-46), 3) := by decide +kernel
theorem dX6_longestUnsteady_56 : decode cX6_longestUnsteady 56 = .ok (.iload_n 2, 1) := by decide +kernel
theorem dX6_longestUnsteady_57 : decode cX6_longestUnsteady 57 = .ok (.iload_n 3, 1) := by decide +kernel
theorem dX6_longestUnsteady_58 : decode cX6_longestUnsteady 58 = .ok (.invokestatic 19, 3) := by decide +kernel
theorem dX6_longestUnsteady_61 : decode cX6_longestUnsteady 61 = .ok (.ireturn, 1) := by decide +kernel
theorem dX6_writtenOf_0 : decode cX6_writtenOf 0 = .ok (.iconst 0, 1) := by decide +kernel
theorem dX6_writtenOf_1 : decode cX6_writtenOf 1 = .ok (.istore_n 2, 1) := by decide +kernel
theorem dX6_writtenOf_2 : decode cX6_writtenOf 2 = .ok (.iconst 0, 1) := by decide +kernel
theorem dX6_writtenOf_3 : decode cX6_writtenOf 3 = .ok (.istore_n 3, 1) := by decide +kernel
theorem dX6_writtenOf_4 : decode cX6_writtenOf 4 = .ok (.iload_n 3, 1) := by decide +kernel
theorem dX6_writtenOf_5 : decode cX6_writtenOf 5 = .ok (.iload_n 1, 1) := by decide +kernel
theorem dX6_writtenOf_6 : decode cX6_writtenOf 6 = .ok (.if_icmp .ge 17, 3) := by decide +kernel
theorem dX6_writtenOf_9 : decode cX6_writtenOf 9 = .ok (.iload_n 2, 1) := by decide +kernel
theorem dX6_writtenOf_10 : decode cX6_writtenOf 10 = .ok (.aload_n 0, 1) := by decide +kernel
theorem dX6_writtenOf_11 : decode cX6_writtenOf 11 = .ok (.iload_n 3, 1) := by decide +kernel
theorem dX6_writtenOf_12 : decode cX6_writtenOf 12 = .ok (.iaload, 1) := by decide +kernel
theorem dX6_writtenOf_13 : decode cX6_writtenOf 13 = .ok (.invokestatic 49, 3) := by decide +kernel
theorem dX6_writtenOf_16 : decode cX6_writtenOf 16 = .ok (.istore_n 2, 1) := by decide +kernel
theorem dX6_writtenOf_17 : decode cX6_writtenOf 17 = .ok (.iinc 3 1, 3) := by decide +kernel
theorem dX6_writtenOf_20 : decode cX6_writtenOf 20 = .ok (.goto (-16), 3) := by decide +kernel
theorem dX6_writtenOf_23 : decode cX6_writtenOf 23 = .ok (.iload_n 2, 1) := by decide +kernel
theorem dX6_writtenOf_24 : decode cX6_writtenOf 24 = .ok (.ifCond .ne 7, 3) := by decide +kernel
theorem dX6_writtenOf_27 : decode cX6_writtenOf 27 = .ok (.iconst 0, 1) := by decide +kernel
theorem dX6_writtenOf_28 : decode cX6_writtenOf 28 = .ok (.goto 12, 3) := by decide +kernel
theorem dX6_writtenOf_31 : decode cX6_writtenOf 31 = .ok (.aload_n 0, 1) := by decide +kernel
theorem dX6_writtenOf_32 : decode cX6_writtenOf 32 = .ok (.iload_n 1, 1) := by decide +kernel
theorem dX6_writtenOf_33 : decode cX6_writtenOf 33 = .ok (.invokestatic 52, 3) := by decide +kernel
theorem dX6_writtenOf_36 : decode cX6_writtenOf 36 = .ok (.iload_n 2, 1) := by decide +kernel
theorem dX6_writtenOf_37 : decode cX6_writtenOf 37 = .ok (.idiv, 1) := by decide +kernel
theorem dX6_writtenOf_38 : decode cX6_writtenOf 38 = .ok (.iload_n 1, 1) := by decide +kernel
theorem dX6_writtenOf_39 : decode cX6_writtenOf 39 = .ok (.isub, 1) := by decide +kernel
theorem dX6_writtenOf_40 : decode cX6_writtenOf 40 = .ok (.ireturn, 1) := by decide +kernel
theorem dX6_commonMeasure_0 : decode cX6_commonMeasure 0 = .ok (.iload_n 0, 1) := by decide +kernel
theorem dX6_commonMeasure_1 : decode cX6_commonMeasure 1 = .ok (.istore_n 2, 1) := by decide +kernel
theorem dX6_commonMeasure_2 : decode cX6_commonMeasure 2 = .ok (.iload_n 1, 1) := by decide +kernel
theorem dX6_commonMeasure_3 : decode cX6_commonMeasure 3 = .ok (.istore_n 3, 1) := by decide +kernel
theorem dX6_commonMeasure_4 : decode cX6_commonMeasure 4 = .ok (.iconst 0, 1) := by decide +kernel
theorem dX6_commonMeasure_5 : decode cX6_commonMeasure 5 = .ok (.istore 4, 2) := by decide +kernel
theorem dX6_commonMeasure_7 : decode cX6_commonMeasure 7 = .ok (.iload 4, 2) := by decide +kernel
theorem dX6_commonMeasure_9 : decode cX6_commonMeasure 9 = .ok (.ldc 36, 2) := by decide +kernel
theorem dX6_commonMeasure_11 : decode cX6_commonMeasure 11 = .ok (.if_icmp .ge 23, 3) := by decide +kernel
theorem dX6_commonMeasure_14 : decode cX6_commonMeasure 14 = .ok (.iload_n 3, 1) := by decide +kernel
theorem dX6_commonMeasure_15 : decode cX6_commonMeasure 15 = .ok (.ifCond .eq 19, 3) := by decide +kernel
theorem dX6_commonMeasure_18 : decode cX6_commonMeasure 18 = .ok (.iload_n 2, 1) := by decide +kernel
theorem dX6_commonMeasure_19 : decode cX6_commonMeasure 19 = .ok (.iload_n 3, 1) := by decide +kernel
theorem dX6_commonMeasure_20 : decode cX6_commonMeasure 20 = .ok (.irem, 1) := by decide +kernel
theorem dX6_commonMeasure_21 : decode cX6_commonMeasure 21 = .ok (.istore 5, 2) := by decide +kernel
theorem dX6_commonMeasure_23 : decode cX6_commonMeasure 23 = .ok (.iload_n 3, 1) := by decide +kernel
theorem dX6_commonMeasure_24 : decode cX6_commonMeasure 24 = .ok (.istore_n 2, 1) := by decide +kernel
theorem dX6_commonMeasure_25 : decode cX6_commonMeasure 25 = .ok (.iload 5, 2) := by decide +kernel
theorem dX6_commonMeasure_27 : decode cX6_commonMeasure 27 = .ok (.istore_n 3, 1) := by decide +kernel
theorem dX6_commonMeasure_28 : decode cX6_commonMeasure 28 = .ok (.iinc 4 1, 3) := by decide +kernel
theorem dX6_commonMeasure_31 : decode cX6_commonMeasure 31 = .ok (.goto (-24), 3) := by decide +kernel
theorem dX6_commonMeasure_34 : decode cX6_commonMeasure 34 = .ok (.iload_n 2, 1) := by decide +kernel
theorem dX6_commonMeasure_35 : decode cX6_commonMeasure 35 = .ok (.ireturn, 1) := by decide +kernel
theorem dX6_countRests_0 : decode cX6_countRests 0 = .ok (.aload_n 3, 1) := by decide +kernel
theorem dX6_countRests_1 : decode cX6_countRests 1 = .ok (.iconst 0, 1) := by decide +kernel
theorem dX6_countRests_2 : decode cX6_countRests 2 = .ok (.iload_n 2, 1) := by decide +kernel
theorem dX6_countRests_3 : decode cX6_countRests 3 = .ok (.iconst 0, 1) := by decide +kernel
theorem dX6_countRests_4 : decode cX6_countRests 4 = .ok (.invokestatic 56, 3) := by decide +kernel
theorem dX6_countRests_7 : decode cX6_countRests 7 = .ok (.iconst 0, 1) := by decide +kernel
theorem dX6_countRests_8 : decode cX6_countRests 8 = .ok (.istore 4, 2) := by decide +kernel
theorem dX6_countRests_10 : decode cX6_countRests 10 = .ok (.iload 4, 2) := by decide +kernel
theorem dX6_countRests_12 : decode cX6_countRests 12 = .ok (.iload_n 1, 1) := by decide +kernel
theorem dX6_countRests_13 : decode cX6_countRests 13 = .ok (.if_icmp .ge 62, 3) := by decide +kernel
theorem dX6_countRests_16 : decode cX6_countRests 16 = .ok (.iconst 0, 1) := by decide +kernel
theorem dX6_countRests_17 : decode cX6_countRests 17 = .ok (.istore 5, 2) := by decide +kernel
theorem dX6_countRests_19 : decode cX6_countRests 19 = .ok (.iload 5, 2) := by decide +kernel
theorem dX6_countRests_21 : decode cX6_countRests 21 = .ok (.iload_n 1, 1) := by decide +kernel
theorem dX6_countRests_22 : decode cX6_countRests 22 = .ok (.if_icmp .ge 47, 3) := by decide +kernel
theorem dX6_countRests_25 : decode cX6_countRests 25 = .ok (.iload 4, 2) := by decide +kernel
theorem dX6_countRests_27 : decode cX6_countRests 27 = .ok (.iload 5, 2) := by decide +kernel
theorem dX6_countRests_29 : decode cX6_countRests 29 = .ok (.if_icmp .eq 34, 3) := by decide +kernel
theorem dX6_countRests_32 : decode cX6_countRests 32 = .ok (.aload_n 0, 1) := by decide +kernel
theorem dX6_countRests_33 : decode cX6_countRests 33 = .ok (.iload 4, 2) := by decide +kernel
theorem dX6_countRests_35 : decode cX6_countRests 35 = .ok (.iaload, 1) := by decide +kernel
theorem dX6_countRests_36 : decode cX6_countRests 36 = .ok (.aload_n 0, 1) := by decide +kernel
theorem dX6_countRests_37 : decode cX6_countRests 37 = .ok (.iload 5, 2) := by decide +kernel
theorem dX6_countRests_39 : decode cX6_countRests 39 = .ok (.iaload, 1) := by decide +kernel
theorem dX6_countRests_40 : decode cX6_countRests 40 = .ok (.isub, 1) := by decide +kernel
theorem dX6_countRests_41 : decode cX6_countRests 41 = .ok (.istore 6, 2) := by decide +kernel
theorem dX6_countRests_43 : decode cX6_countRests 43 = .ok (.aload_n 3, 1) := by decide +kernel
theorem dX6_countRests_44 : decode cX6_countRests 44 = .ok (.iload 6, 2) := by decide +kernel
theorem dX6_countRests_46 : decode cX6_countRests 46 = .ok (.ifCond .ge 10, 3) := by decide +kernel
theorem dX6_countRests_49 : decode cX6_countRests 49 = .ok (.iload 6, 2) := by decide +kernel
theorem dX6_countRests_51 : decode cX6_countRests 51 = .ok (.iload_n 2, 1) := by decide +kernel
theorem dX6_countRests_52 : decode cX6_countRests 52 = .ok (.iadd, 1) := by decide +kernel
theorem dX6_countRests_53 : decode cX6_countRests 53 = .ok (.goto 5, 3) := by decide +kernel
theorem dX6_countRests_56 : decode cX6_countRests 56 = .ok (.iload 6, 2) := by decide +kernel
theorem dX6_countRests_58 : decode cX6_countRests 58 = .ok (.dup2, 1) := by decide +kernel
theorem dX6_countRests_59 : decode cX6_countRests 59 = .ok (.iaload, 1) := by decide +kernel
theorem dX6_countRests_60 : decode cX6_countRests 60 = .ok (.iconst 1, 1) := by decide +kernel
theorem dX6_countRests_61 : decode cX6_countRests 61 = .ok (.iadd, 1) := by decide +kernel
theorem dX6_countRests_62 : decode cX6_countRests 62 = .ok (.iastore, 1) := by decide +kernel
theorem dX6_countRests_63 : decode cX6_countRests 63 = .ok (.iinc 5 1, 3) := by decide +kernel
theorem dX6_countRests_66 : decode cX6_countRests 66 = .ok (.goto (-47), 3) := by decide +kernel
theorem dX6_countRests_69 : decode cX6_countRests 69 = .ok (.iinc 4 1, 3) := by decide +kernel
theorem dX6_countRests_72 : decode cX6_countRests 72 = .ok (.goto (-62), 3) := by decide +kernel
theorem dX6_countRests_75 : decode cX6_countRests 75 = .ok (.return_, 1) := by decide +kernel
theorem dX6_leastRest_0 : decode cX6_leastRest 0 = .ok (.aload_n 0, 1) := by decide +kernel
theorem dX6_leastRest_1 : decode cX6_leastRest 1 = .ok (.iconst 1, 1) := by decide +kernel
theorem dX6_leastRest_2 : decode cX6_leastRest 2 = .ok (.iaload, 1) := by decide +kernel
theorem dX6_leastRest_3 : decode cX6_leastRest 3 = .ok (.istore_n 2, 1) := by decide +kernel
theorem dX6_leastRest_4 : decode cX6_leastRest 4 = .ok (.iconst 2, 1) := by decide +kernel
theorem dX6_leastRest_5 : decode cX6_leastRest 5 = .ok (.istore_n 3, 1) := by decide +kernel
theorem dX6_leastRest_6 : decode cX6_leastRest 6 = .ok (.iload_n 3, 1) := by decide +kernel
theorem dX6_leastRest_7 : decode cX6_leastRest 7 = .ok (.iload_n 1, 1) := by decide +kernel
theorem dX6_leastRest_8 : decode cX6_leastRest 8 = .ok (.if_icmp .ge 17, 3) := by decide +kernel
theorem dX6_leastRest_11 : decode cX6_leastRest 11 = .ok (.iload_n 2, 1) := by decide +kernel
theorem dX6_leastRest_12 : decode cX6_leastRest 12 = .ok (.aload_n 0, 1) := by decide +kernel
theorem dX6_leastRest_13 : decode cX6_leastRest 13 = .ok (.iload_n 3, 1) := by decide +kernel
theorem dX6_leastRest_14 : decode cX6_leastRest 14 = .ok (.iaload, 1) := by decide +kernel
theorem dX6_leastRest_15 : decode cX6_leastRest 15 = .ok (.invokestatic 25, 3) := by decide +kernel
theorem dX6_leastRest_18 : decode cX6_leastRest 18 = .ok (.istore_n 2, 1) := by decide +kernel
theorem dX6_leastRest_19 : decode cX6_leastRest 19 = .ok (.iinc 3 1, 3) := by decide +kernel
theorem dX6_leastRest_22 : decode cX6_leastRest 22 = .ok (.goto (-16), 3) := by decide +kernel
theorem dX6_leastRest_25 : decode cX6_leastRest 25 = .ok (.iload_n 2, 1) := by decide +kernel
theorem dX6_leastRest_26 : decode cX6_leastRest 26 = .ok (.ireturn, 1) := by decide +kernel
theorem dX6_mostRest_0 : decode cX6_mostRest 0 = .ok (.aload_n 0, 1) := by decide +kernel
theorem dX6_mostRest_1 : decode cX6_mostRest 1 = .ok (.iconst 1, 1) := by decide +kernel
theorem dX6_mostRest_2 : decode cX6_mostRest 2 = .ok (.iaload, 1) := by decide +kernel
theorem dX6_mostRest_3 : decode cX6_mostRest 3 = .ok (.istore_n 2, 1) := by decide +kernel
theorem dX6_mostRest_4 : decode cX6_mostRest 4 = .ok (.iconst 2, 1) := by decide +kernel
theorem dX6_mostRest_5 : decode cX6_mostRest 5 = .ok (.istore_n 3, 1) := by decide +kernel
theorem dX6_mostRest_6 : decode cX6_mostRest 6 = .ok (.iload_n 3, 1) := by decide +kernel
theorem dX6_mostRest_7 : decode cX6_mostRest 7 = .ok (.iload_n 1, 1) := by decide +kernel
theorem dX6_mostRest_8 : decode cX6_mostRest 8 = .ok (.if_icmp .ge 17, 3) := by decide +kernel
theorem dX6_mostRest_11 : decode cX6_mostRest 11 = .ok (.iload_n 2, 1) := by decide +kernel
theorem dX6_mostRest_12 : decode cX6_mostRest 12 = .ok (.aload_n 0, 1) := by decide +kernel
theorem dX6_mostRest_13 : decode cX6_mostRest 13 = .ok (.iload_n 3, 1) := by decide +kernel
theorem dX6_mostRest_14 : decode cX6_mostRest 14 = .ok (.iaload, 1) := by decide +kernel
theorem dX6_mostRest_15 : decode cX6_mostRest 15 = .ok (.invokestatic 19, 3) := by decide +kernel
theorem dX6_mostRest_18 : decode cX6_mostRest 18 = .ok (.istore_n 2, 1) := by decide +kernel
theorem dX6_mostRest_19 : decode cX6_mostRest 19 = .ok (.iinc 3 1, 3) := by decide +kernel
theorem dX6_mostRest_22 : decode cX6_mostRest 22 = .ok (.goto (-16), 3) := by decide +kernel
theorem dX6_mostRest_25 : decode cX6_mostRest 25 = .ok (.iload_n 2, 1) := by decide +kernel
theorem dX6_mostRest_26 : decode cX6_mostRest 26 = .ok (.ireturn, 1) := by decide +kernel
theorem dX6_sum_0 : decode cX6_sum 0 = .ok (.iconst 0, 1) := by decide +kernel
theorem dX6_sum_1 : decode cX6_sum 1 = .ok (.istore_n 2, 1) := by decide +kernel
theorem dX6_sum_2 : decode cX6_sum 2 = .ok (.iconst 0, 1) := by decide +kernel
theorem dX6_sum_3 : decode cX6_sum 3 = .ok (.istore_n 3, 1) := by decide +kernel
theorem dX6_sum_4 : decode cX6_sum 4 = .ok (.iload_n 3, 1) := by decide +kernel
theorem dX6_sum_5 : decode cX6_sum 5 = .ok (.iload_n 1, 1) := by decide +kernel
theorem dX6_sum_6 : decode cX6_sum 6 = .ok (.if_icmp .ge 15, 3) := by decide +kernel
theorem dX6_sum_9 : decode cX6_sum 9 = .ok (.iload_n 2, 1) := by decide +kernel
theorem dX6_sum_10 : decode cX6_sum 10 = .ok (.aload_n 0, 1) := by decide +kernel
theorem dX6_sum_11 : decode cX6_sum 11 = .ok (.iload_n 3, 1) := by decide +kernel
theorem dX6_sum_12 : decode cX6_sum 12 = .ok (.iaload, 1) := by decide +kernel
theorem dX6_sum_13 : decode cX6_sum 13 = .ok (.iadd, 1) := by decide +kernel
theorem dX6_sum_14 : decode cX6_sum 14 = .ok (.istore_n 2, 1) := by decide +kernel
theorem dX6_sum_15 : decode cX6_sum 15 = .ok (.iinc 3 1, 3) := by decide +kernel
theorem dX6_sum_18 : decode cX6_sum 18 = .ok (.goto (-14), 3) := by decide +kernel
theorem dX6_sum_21 : decode cX6_sum 21 = .ok (.iload_n 2, 1) := by decide +kernel
theorem dX6_sum_22 : decode cX6_sum 22 = .ok (.ireturn, 1) := by decide +kernel
theorem dX6_least_0 : decode cX6_least 0 = .ok (.aload_n 0, 1) := by decide +kernel
theorem dX6_least_1 : decode cX6_least 1 = .ok (.iconst 0, 1) := by decide +kernel
theorem dX6_least_2 : decode cX6_least 2 = .ok (.iaload, 1) := by decide +kernel
theorem dX6_least_3 : decode cX6_least 3 = .ok (.istore_n 2, 1) := by decide +kernel
theorem dX6_least_4 : decode cX6_least 4 = .ok (.iconst 1, 1) := by decide +kernel
theorem dX6_least_5 : decode cX6_least 5 = .ok (.istore_n 3, 1) := by decide +kernel
theorem dX6_least_6 : decode cX6_least 6 = .ok (.iload_n 3, 1) := by decide +kernel
theorem dX6_least_7 : decode cX6_least 7 = .ok (.iload_n 1, 1) := by decide +kernel
theorem dX6_least_8 : decode cX6_least 8 = .ok (.if_icmp .ge 17, 3) := by decide +kernel
theorem dX6_least_11 : decode cX6_least 11 = .ok (.iload_n 2, 1) := by decide +kernel
theorem dX6_least_12 : decode cX6_least 12 = .ok (.aload_n 0, 1) := by decide +kernel
theorem dX6_least_13 : decode cX6_least 13 = .ok (.iload_n 3, 1) := by decide +kernel
theorem dX6_least_14 : decode cX6_least 14 = .ok (.iaload, 1) := by decide +kernel
theorem dX6_least_15 : decode cX6_least 15 = .ok (.invokestatic 25, 3) := by decide +kernel
theorem dX6_least_18 : decode cX6_least 18 = .ok (.istore_n 2, 1) := by decide +kernel
theorem dX6_least_19 : decode cX6_least 19 = .ok (.iinc 3 1, 3) := by decide +kernel
theorem dX6_least_22 : decode cX6_least 22 = .ok (.goto (-16), 3) := by decide +kernel
theorem dX6_least_25 : decode cX6_least 25 = .ok (.iload_n 2, 1) := by decide +kernel
theorem dX6_least_26 : decode cX6_least 26 = .ok (.ireturn, 1) := by decide +kernel
theorem dX6_greatest_0 : decode cX6_greatest 0 = .ok (.aload_n 0, 1) := by decide +kernel
theorem dX6_greatest_1 : decode cX6_greatest 1 = .ok (.iconst 0, 1) := by decide +kernel
theorem dX6_greatest_2 : decode cX6_greatest 2 = .ok (.iaload, 1) := by decide +kernel
theorem dX6_greatest_3 : decode cX6_greatest 3 = .ok (.istore_n 2, 1) := by decide +kernel
theorem dX6_greatest_4 : decode cX6_greatest 4 = .ok (.iconst 1, 1) := by decide +kernel
theorem dX6_greatest_5 : decode cX6_greatest 5 = .ok (.istore_n 3, 1) := by decide +kernel
theorem dX6_greatest_6 : decode cX6_greatest 6 = .ok (.iload_n 3, 1) := by decide +kernel
theorem dX6_greatest_7 : decode cX6_greatest 7 = .ok (.iload_n 1, 1) := by decide +kernel
theorem dX6_greatest_8 : decode cX6_greatest 8 = .ok (.if_icmp .ge 17, 3) := by decide +kernel
theorem dX6_greatest_11 : decode cX6_greatest 11 = .ok (.iload_n 2, 1) := by decide +kernel
theorem dX6_greatest_12 : decode cX6_greatest 12 = .ok (.aload_n 0, 1) := by decide +kernel
theorem dX6_greatest_13 : decode cX6_greatest 13 = .ok (.iload_n 3, 1) := by decide +kernel
theorem dX6_greatest_14 : decode cX6_greatest 14 = .ok (.iaload, 1) := by decide +kernel
theorem dX6_greatest_15 : decode cX6_greatest 15 = .ok (.invokestatic 19, 3) := by decide +kernel
theorem dX6_greatest_18 : decode cX6_greatest 18 = .ok (.istore_n 2, 1) := by decide +kernel
theorem dX6_greatest_19 : decode cX6_greatest 19 = .ok (.iinc 3 1, 3) := by decide +kernel
theorem dX6_greatest_22 : decode cX6_greatest 22 = .ok (.goto (-16), 3) := by decide +kernel
theorem dX6_greatest_25 : decode cX6_greatest 25 = .ok (.iload_n 2, 1) := by decide +kernel
theorem dX6_greatest_26 : decode cX6_greatest 26 = .ok (.ireturn, 1) := by decide +kernel
theorem dX6_hasTwoAlike_0 : decode cX6_hasTwoAlike 0 = .ok (.aload_n 0, 1) := by decide +kernel
theorem dX6_hasTwoAlike_1 : decode cX6_hasTwoAlike 1 = .ok (.iload_n 1, 1) := by decide +kernel
theorem dX6_hasTwoAlike_2 : decode cX6_hasTwoAlike 2 = .ok (.iconst 0, 1) := by decide +kernel
theorem dX6_hasTwoAlike_3 : decode cX6_hasTwoAlike 3 = .ok (.invokestatic 59, 3) := by decide +kernel
theorem dX6_hasTwoAlike_6 : decode cX6_hasTwoAlike 6 = .ok (.ifCond .le 7, 3) := by decide +kernel
theorem dX6_hasTwoAlike_9 : decode cX6_hasTwoAlike 9 = .ok (.iconst 1, 1) := by decide +kernel
theorem dX6_hasTwoAlike_10 : decode cX6_hasTwoAlike 10 = .ok (.goto 4, 3) := by decide +kernel
theorem dX6_hasTwoAlike_13 : decode cX6_hasTwoAlike 13 = .ok (.iconst 0, 1) := by decide +kernel
theorem dX6_hasTwoAlike_14 : decode cX6_hasTwoAlike 14 = .ok (.ireturn, 1) := by decide +kernel
theorem dX7_init_0 : decode cX7_init 0 = .ok (.aload_n 0, 1) := by decide +kernel
theorem dX7_init_1 : decode cX7_init 1 = .ok (.invokespecial 3, 3) := by decide +kernel
theorem dX7_init_4 : decode cX7_init 4 = .ok (.aload_n 0, 1) := by decide +kernel
theorem dX7_init_5 : decode cX7_init 5 = .ok (.sipush 260, 3) := by decide +kernel
theorem dX7_init_8 : decode cX7_init 8 = .ok (.newarray .int, 2) := by decide +kernel
theorem dX7_init_10 : decode cX7_init 10 = .ok (.putfield 11, 3) := by decide +kernel
theorem dX7_init_13 : decode cX7_init 13 = .ok (.aload_n 0, 1) := by decide +kernel
theorem dX7_init_14 : decode cX7_init 14 = .ok (.bipush 20, 2) := by decide +kernel
theorem dX7_init_16 : decode cX7_init 16 = .ok (.newarray .int, 2) := by decide +kernel
theorem dX7_init_18 : decode cX7_init 18 = .ok (.putfield 15, 3) := by decide +kernel
theorem dX7_init_21 : decode cX7_init 21 = .ok (.aload_n 0, 1) := by decide +kernel
theorem dX7_init_22 : decode cX7_init 22 = .ok (.iconst 0, 1) := by decide +kernel
theorem dX7_init_23 : decode cX7_init 23 = .ok (.putfield 18, 3) := by decide +kernel
theorem dX7_init_26 : decode cX7_init 26 = .ok (.aload_n 0, 1) := by decide +kernel
theorem dX7_init_27 : decode cX7_init 27 = .ok (.iconst 0, 1) := by decide +kernel
theorem dX7_init_28 : decode cX7_init 28 = .ok (.putfield 22, 3) := by decide +kernel
theorem dX7_init_31 : decode cX7_init 31 = .ok (.aload_n 0, 1) := by decide +kernel
theorem dX7_init_32 : decode cX7_init 32 = .ok (.iconst 0, 1) := by decide +kernel
theorem dX7_init_33 : decode cX7_init 33 = .ok (.putfield 25, 3) := by decide +kernel
theorem dX7_init_36 : decode cX7_init 36 = .ok (.aload_n 0, 1) := by decide +kernel
theorem dX7_init_37 : decode cX7_init 37 = .ok (.iconst 0, 1) := by decide +kernel
theorem dX7_init_38 : decode cX7_init 38 = .ok (.putfield 28, 3) := by decide +kernel
theorem dX7_init_41 : decode cX7_init 41 = .ok (.aload_n 0, 1) := by decide +kernel
theorem dX7_init_42 : decode cX7_init 42 = .ok (.iconst 0, 1) := by decide +kernel
theorem dX7_init_43 : decode cX7_init 43 = .ok (.putfield 31, 3) := by decide +kernel
theorem dX7_init_46 : decode cX7_init 46 = .ok (.return_, 1) := by decide +kernel
theorem dX7_hasRoomFor_0 : decode cX7_hasRoomFor 0 = .ok (.aload_n 0, 1) := by decide +kernel
theorem dX7_hasRoomFor_1 : decode cX7_hasRoomFor 1 = .ok (.getfield 18, 3) := by decide +kernel
theorem dX7_hasRoomFor_4 : decode cX7_hasRoomFor 4 = .ok (.iload_n 1, 1) := by decide +kernel
theorem dX7_hasRoomFor_5 : decode cX7_hasRoomFor 5 = .ok (.iadd, 1) := by decide +kernel
theorem dX7_hasRoomFor_6 : decode cX7_hasRoomFor 6 = .ok (.sipush 260, 3) := by decide +kernel
theorem dX7_hasRoomFor_9 : decode cX7_hasRoomFor 9 = .ok (.if_icmp .gt 7, 3) := by decide +kernel
theorem dX7_hasRoomFor_12 : decode cX7_hasRoomFor 12 = .ok (.iconst 1, 1) := by decide +kernel
theorem dX7_hasRoomFor_13 : decode cX7_hasRoomFor 13 = .ok (.goto 4, 3) := by decide +kernel
theorem dX7_hasRoomFor_16 : decode cX7_hasRoomFor 16 = .ok (.iconst 0, 1) := by decide +kernel
theorem dX7_hasRoomFor_17 : decode cX7_hasRoomFor 17 = .ok (.ireturn, 1) := by decide +kernel
theorem dX7_has_0 : decode cX7_has 0 = .ok (.iload_n 1, 1) := by decide +kernel
theorem dX7_has_1 : decode cX7_has 1 = .ok (.iload_n 2, 1) := by decide +kernel
theorem dX7_has_2 : decode cX7_has 2 = .ok (.iload_n 3, 1) := by decide +kernel
theorem dX7_has_3 : decode cX7_has 3 = .ok (.invokestatic 34, 3) := by decide +kernel
theorem dX7_has_6 : decode cX7_has 6 = .ok (.ifCond .eq 15, 3) := by decide +kernel
theorem dX7_has_9 : decode cX7_has 9 = .ok (.iload_n 1, 1) := by decide +kernel
theorem dX7_has_10 : decode cX7_has 10 = .ok (.aload_n 0, 1) := by decide +kernel
theorem dX7_has_11 : decode cX7_has 11 = .ok (.getfield 18, 3) := by decide +kernel
theorem dX7_has_14 : decode cX7_has 14 = .ok (.if_icmp .gt 7, 3) := by decide +kernel
theorem dX7_has_17 : decode cX7_has 17 = .ok (.iconst 1, 1) := by decide +kernel
theorem dX7_has_18 : decode cX7_has 18 = .ok (.goto 4, 3) := by decide +kernel
theorem dX7_has_21 : decode cX7_has 21 = .ok (.iconst 0, 1) := by decide +kernel
theorem dX7_has_22 : decode cX7_has 22 = .ok (.ireturn, 1) := by decide +kernel
theorem dX7_write_0 : decode cX7_write 0 = .ok (.bipush 24, 2) := by decide +kernel
theorem dX7_write_2 : decode cX7_write 2 = .ok (.istore_n 2, 1) := by decide +kernel
theorem dX7_write_3 : decode cX7_write 3 = .ok (.iload_n 2, 1) := by decide +kernel
theorem dX7_write_4 : decode cX7_write 4 = .ok (.ifCond .lt 45, 3) := by decide +kernel
theorem dX7_write_7 : decode cX7_write 7 = .ok (.aload_n 0, 1) := by decide +kernel
theorem dX7_write_8 : decode cX7_write 8 = .ok (.getfield 18, 3) := by decide +kernel
theorem dX7_write_11 : decode cX7_write 11 = .ok (.sipush 260, 3) := by decide +kernel
theorem dX7_write_14 : decode cX7_write 14 = .ok (.if_icmp .ge 35, 3) := by decide +kernel
theorem dX7_write_17 : decode cX7_write 17 = .ok (.aload_n 0, 1) := by decide +kernel
theorem dX7_write_18 : decode cX7_write 18 = .ok (.getfield 11, 3) := by decide +kernel
theorem dX7_write_21 : decode cX7_write 21 = .ok (.aload_n 0, 1) := by decide +kernel
theorem dX7_write_22 : decode cX7_write 22 = .ok (.getfield 18, 3) := by decide +kernel
theorem dX7_write_25 : decode cX7_write 25 = .ok (.iload_n 1, 1) := by decide +kernel
theorem dX7_write_26 : decode cX7_write 26 = .ok (.iload_n 2, 1) := by decide +kernel
theorem dX7_write_27 : decode cX7_write 27 = .ok (.iushr, 1) := by decide +kernel
theorem dX7_write_28 : decode cX7_write 28 = .ok (.sipush 255, 3) := by decide +kernel
theorem dX7_write_31 : decode cX7_write 31 = .ok (.iand, 1) := by decide +kernel
theorem dX7_write_32 : decode cX7_write 32 = .ok (.iastore, 1) := by decide +kernel
theorem dX7_write_33 : decode cX7_write 33 = .ok (.aload_n 0, 1) := by decide +kernel
theorem dX7_write_34 : decode cX7_write 34 = .ok (.dup, 1) := by decide +kernel
theorem dX7_write_35 : decode cX7_write 35 = .ok (.getfield 18, 3) := by decide +kernel
theorem dX7_write_38 : decode cX7_write 38 = .ok (.iconst 1, 1) := by decide +kernel
theorem dX7_write_39 : decode cX7_write 39 = .ok (.iadd, 1) := by decide +kernel
theorem dX7_write_40 : decode cX7_write 40 = .ok (.putfield 18, 3) := by decide +kernel
theorem dX7_write_43 : decode cX7_write 43 = .ok (.iinc 2 (-8), 3) := by decide +kernel
theorem dX7_write_46 : decode cX7_write 46 = .ok (.goto (-43), 3) := by decide +kernel
theorem dX7_write_49 : decode cX7_write 49 = .ok (.return_, 1) := by decide +kernel
theorem dX7_empty_0 : decode cX7_empty 0 = .ok (.aload_n 0, 1) := by decide +kernel
theorem dX7_empty_1 : decode cX7_empty 1 = .ok (.iconst 0, 1) := by decide +kernel
theorem dX7_empty_2 : decode cX7_empty 2 = .ok (.putfield 18, 3) := by decide +kernel
theorem dX7_empty_5 : decode cX7_empty 5 = .ok (.return_, 1) := by decide +kernel
theorem dX7_take_0 : decode cX7_take 0 = .ok (.iconst 0, 1) := by decide +kernel
theorem dX7_take_1 : decode cX7_take 1 = .ok (.istore_n 2, 1) := by decide +kernel
theorem dX7_take_2 : decode cX7_take 2 = .ok (.iload_n 2, 1) := by decide +kernel
theorem dX7_take_3 : decode cX7_take 3 = .ok (.iload_n 1, 1) := by decide +kernel
theorem dX7_take_4 : decode cX7_take 4 = .ok (.if_icmp .ge 30, 3) := by decide +kernel
theorem dX7_take_7 : decode cX7_take 7 = .ok (.iload_n 2, 1) := by decide +kernel
theorem dX7_take_8 : decode cX7_take 8 = .ok (.aload_n 0, 1) := by decide +kernel
theorem dX7_take_9 : decode cX7_take 9 = .ok (.getfield 15, 3) := by decide +kernel
theorem dX7_take_12 : decode cX7_take 12 = .ok (.arraylength, 1) := by decide +kernel
theorem dX7_take_13 : decode cX7_take 13 = .ok (.if_icmp .ge 21, 3) := by decide +kernel
theorem dX7_take_16 : decode cX7_take 16 = .ok (.aload_n 0, 1) := by decide +kernel
theorem dX7_take_17 : decode cX7_take 17 = .ok (.getfield 15, 3) := by decide +kernel
theorem dX7_take_20 : decode cX7_take 20 = .ok (.iload_n 2, 1) := by decide +kernel
theorem dX7_take_21 : decode cX7_take 21 = .ok (.aload_n 0, 1) := by decide +kernel
theorem dX7_take_22 : decode cX7_take 22 = .ok (.getfield 11, 3) := by decide +kernel
theorem dX7_take_25 : decode cX7_take 25 = .ok (.iload_n 2, 1) := by decide +kernel
theorem dX7_take_26 : decode cX7_take 26 = .ok (.iaload, 1) := by decide +kernel
theorem dX7_take_27 : decode cX7_take 27 = .ok (.iastore, 1) := by decide +kernel
theorem dX7_take_28 : decode cX7_take 28 = .ok (.iinc 2 1, 3) := by decide +kernel
theorem dX7_take_31 : decode cX7_take 31 = .ok (.goto (-29), 3) := by decide +kernel
theorem dX7_take_34 : decode cX7_take 34 = .ok (.aload_n 0, 1) := by decide +kernel
theorem dX7_take_35 : decode cX7_take 35 = .ok (.invokevirtual 38, 3) := by decide +kernel
theorem dX7_take_38 : decode cX7_take 38 = .ok (.aload_n 0, 1) := by decide +kernel
theorem dX7_take_39 : decode cX7_take 39 = .ok (.getfield 15, 3) := by decide +kernel
theorem dX7_take_42 : decode cX7_take 42 = .ok (.areturn, 1) := by decide +kernel
theorem dX7_takeDoubles_0 : decode cX7_takeDoubles 0 = .ok (.iconst 0, 1) := by decide +kernel
theorem dX7_takeDoubles_1 : decode cX7_takeDoubles 1 = .ok (.istore_n 2, 1) := by decide +kernel
theorem dX7_takeDoubles_2 : decode cX7_takeDoubles 2 = .ok (.iload_n 2, 1) := by decide +kernel
theorem dX7_takeDoubles_3 : decode cX7_takeDoubles 3 = .ok (.iload_n 1, 1) := by decide +kernel
theorem dX7_takeDoubles_4 : decode cX7_takeDoubles 4 = .ok (.if_icmp .ge 46, 3) := by decide +kernel
theorem dX7_takeDoubles_7 : decode cX7_takeDoubles 7 = .ok (.iload_n 2, 1) := by decide +kernel
theorem dX7_takeDoubles_8 : decode cX7_takeDoubles 8 = .ok (.aload_n 0, 1) := by decide +kernel
theorem dX7_takeDoubles_9 : decode cX7_takeDoubles 9 = .ok (.getfield 15, 3) := by decide +kernel
theorem dX7_takeDoubles_12 : decode cX7_takeDoubles 12 = .ok (.arraylength, 1) := by decide +kernel
theorem dX7_takeDoubles_13 : decode cX7_takeDoubles 13 = .ok (.if_icmp .ge 37, 3) := by decide +kernel
theorem dX7_takeDoubles_16 : decode cX7_takeDoubles 16 = .ok (.aload_n 0, 1) := by decide +kernel
theorem dX7_takeDoubles_17 : decode cX7_takeDoubles 17 = .ok (.getfield 15, 3) := by decide +kernel
theorem dX7_takeDoubles_20 : decode cX7_takeDoubles 20 = .ok (.iload_n 2, 1) := by decide +kernel
theorem dX7_takeDoubles_21 : decode cX7_takeDoubles 21 = .ok (.aload_n 0, 1) := by decide +kernel
theorem dX7_takeDoubles_22 : decode cX7_takeDoubles 22 = .ok (.getfield 11, 3) := by decide +kernel
theorem dX7_takeDoubles_25 : decode cX7_takeDoubles 25 = .ok (.iconst 2, 1) := by decide +kernel
theorem dX7_takeDoubles_26 : decode cX7_takeDoubles 26 = .ok (.iload_n 2, 1) := by decide +kernel
theorem dX7_takeDoubles_27 : decode cX7_takeDoubles 27 = .ok (.imul, 1) := by decide +kernel
theorem dX7_takeDoubles_28 : decode cX7_takeDoubles 28 = .ok (.iaload, 1) := by decide +kernel
theorem dX7_takeDoubles_29 : decode cX7_takeDoubles 29 = .ok (.bipush 8, 2) := by decide +kernel
theorem dX7_takeDoubles_31 : decode cX7_takeDoubles 31 = .ok (.ishl, 1) := by decide +kernel
theorem dX7_takeDoubles_32 : decode cX7_takeDoubles 32 = .ok (.aload_n 0, 1) := by decide +kernel
theorem dX7_takeDoubles_33 : decode cX7_takeDoubles 33 = .ok (.getfield 11, 3) := by decide +kernel
theorem dX7_takeDoubles_36 : decode cX7_takeDoubles 36 = .ok (.iconst 2, 1) := by decide +kernel
theorem dX7_takeDoubles_37 : decode cX7_takeDoubles 37 = .ok (.iload_n 2, 1) := by decide +kernel
theorem dX7_takeDoubles_38 : decode cX7_takeDoubles 38 = .ok (.imul, 1) := by decide +kernel
theorem dX7_takeDoubles_39 : decode cX7_takeDoubles 39 = .ok (.iconst 1, 1) := by decide +kernel
theorem dX7_takeDoubles_40 : decode cX7_takeDoubles 40 = .ok (.iadd, 1) := by decide +kernel
theorem dX7_takeDoubles_41 : decode cX7_takeDoubles 41 = .ok (.iaload, 1) := by decide +kernel
theorem dX7_takeDoubles_42 : decode cX7_takeDoubles 42 = .ok (.ior, 1) := by decide +kernel
theorem dX7_takeDoubles_43 : decode cX7_takeDoubles 43 = .ok (.iastore, 1) := by decide +kernel
theorem dX7_takeDoubles_44 : decode cX7_takeDoubles 44 = .ok (.iinc 2 1, 3) := by decide +kernel
theorem dX7_takeDoubles_47 : decode cX7_takeDoubles 47 = .ok (.goto (-45), 3) := by decide +kernel
theorem dX7_takeDoubles_50 : decode cX7_takeDoubles 50 = .ok (.aload_n 0, 1) := by decide +kernel
theorem dX7_takeDoubles_51 : decode cX7_takeDoubles 51 = .ok (.invokevirtual 38, 3) := by decide +kernel
theorem dX7_takeDoubles_54 : decode cX7_takeDoubles 54 = .ok (.aload_n 0, 1) := by decide +kernel
theorem dX7_takeDoubles_55 : decode cX7_takeDoubles 55 = .ok (.getfield 15, 3) := by decide +kernel
theorem dX7_takeDoubles_58 : decode cX7_takeDoubles 58 = .ok (.areturn, 1) := by decide +kernel
theorem dX7_begin_0 : decode cX7_begin 0 = .ok (.aload_n 0, 1) := by decide +kernel
theorem dX7_begin_1 : decode cX7_begin 1 = .ok (.iload_n 1, 1) := by decide +kernel
theorem dX7_begin_2 : decode cX7_begin 2 = .ok (.aload_n 0, 1) := by decide +kernel
theorem dX7_begin_3 : decode cX7_begin 3 = .ok (.getfield 18, 3) := by decide +kernel
theorem dX7_begin_6 : decode cX7_begin 6 = .ok (.invokestatic 41, 3) := by decide +kernel
theorem dX7_begin_9 : decode cX7_begin 9 = .ok (.putfield 22, 3) := by decide +kernel
theorem dX7_begin_12 : decode cX7_begin 12 = .ok (.aload_n 0, 1) := by decide +kernel
theorem dX7_begin_13 : decode cX7_begin 13 = .ok (.iconst 0, 1) := by decide +kernel
theorem dX7_begin_14 : decode cX7_begin 14 = .ok (.putfield 25, 3) := by decide +kernel
theorem dX7_begin_17 : decode cX7_begin 17 = .ok (.aload_n 0, 1) := by decide +kernel
theorem dX7_begin_18 : decode cX7_begin 18 = .ok (.iconst 0, 1) := by decide +kernel
theorem dX7_begin_19 : decode cX7_begin 19 = .ok (.putfield 28, 3) := by decide +kernel
theorem dX7_begin_22 : decode cX7_begin 22 = .ok (.aload_n 0, 1) := by decide +kernel
theorem dX7_begin_23 : decode cX7_begin 23 = .ok (.iconst 0, 1) := by decide +kernel
theorem dX7_begin_24 : decode cX7_begin 24 = .ok (.putfield 31, 3) := by decide +kernel
theorem dX7_begin_27 : decode cX7_begin 27 = .ok (.return_, 1) := by decide +kernel
theorem dX7_sign_0 : decode cX7_sign 0 = .ok (.aload_n 0, 1) := by decide +kernel
theorem dX7_sign_1 : decode cX7_sign 1 = .ok (.getfield 28, 3) := by decide +kernel
theorem dX7_sign_4 : decode cX7_sign 4 = .ok (.ifCond .ne 14, 3) := by decide +kernel
theorem dX7_sign_7 : decode cX7_sign 7 = .ok (.aload_n 0, 1) := by decide +kernel
theorem dX7_sign_8 : decode cX7_sign 8 = .ok (.getfield 25, 3) := by decide +kernel
theorem dX7_sign_11 : decode cX7_sign 11 = .ok (.aload_n 0, 1) := by decide +kernel
theorem dX7_sign_12 : decode cX7_sign 12 = .ok (.getfield 22, 3) := by decide +kernel
theorem dX7_sign_15 : decode cX7_sign 15 = .ok (.if_icmp .lt 7, 3) := by decide +kernel
theorem dX7_sign_18 : decode cX7_sign 18 = .ok (.iconst (-1), 1) := by decide +kernel
theorem dX7_sign_19 : decode cX7_sign 19 = .ok (.goto 12, 3) := by decide +kernel
theorem dX7_sign_22 : decode cX7_sign 22 = .ok (.aload_n 0, 1) := by decide +kernel
theorem dX7_sign_23 : decode cX7_sign 23 = .ok (.getfield 11, 3) := by decide +kernel
theorem dX7_sign_26 : decode cX7_sign 26 = .ok (.aload_n 0, 1) := by decide +kernel
theorem dX7_sign_27 : decode cX7_sign 27 = .ok (.getfield 25, 3) := by decide +kernel
theorem dX7_sign_30 : decode cX7_sign 30 = .ok (.iaload, 1) := by decide +kernel
theorem dX7_sign_31 : decode cX7_sign 31 = .ok (.ireturn, 1) := by decide +kernel
theorem dX7_isOver_0 : decode cX7_isOver 0 = .ok (.aload_n 0, 1) := by decide +kernel
theorem dX7_isOver_1 : decode cX7_isOver 1 = .ok (.getfield 28, 3) := by decide +kernel
theorem dX7_isOver_4 : decode cX7_isOver 4 = .ok (.ifCond .ne 14, 3) := by decide +kernel
theorem dX7_isOver_7 : decode cX7_isOver 7 = .ok (.aload_n 0, 1) := by decide +kernel
theorem dX7_isOver_8 : decode cX7_isOver 8 = .ok (.getfield 25, 3) := by decide +kernel
theorem dX7_isOver_11 : decode cX7_isOver 11 = .ok (.aload_n 0, 1) := by decide +kernel
theorem dX7_isOver_12 : decode cX7_isOver 12 = .ok (.getfield 22, 3) := by decide +kernel
theorem dX7_isOver_15 : decode cX7_isOver 15 = .ok (.if_icmp .lt 7, 3) := by decide +kernel
theorem dX7_isOver_18 : decode cX7_isOver 18 = .ok (.iconst 1, 1) := by decide +kernel
theorem dX7_isOver_19 : decode cX7_isOver 19 = .ok (.goto 4, 3) := by decide +kernel
theorem dX7_isOver_22 : decode cX7_isOver 22 = .ok (.iconst 0, 1) := by decide +kernel
theorem dX7_isOver_23 : decode cX7_isOver 23 = .ok (.ireturn, 1) := by decide +kernel
theorem dX7_hasFailed_0 : decode cX7_hasFailed 0 = .ok (.aload_n 0, 1) := by decide +kernel
theorem dX7_hasFailed_1 : decode cX7_hasFailed 1 = .ok (.getfield 28, 3) := by decide +kernel
theorem dX7_hasFailed_4 : decode cX7_hasFailed 4 = .ok (.ifCond .eq 7, 3) := by decide +kernel
theorem dX7_hasFailed_7 : decode cX7_hasFailed 7 = .ok (.iconst 1, 1) := by decide +kernel
theorem dX7_hasFailed_8 : decode cX7_hasFailed 8 = .ok (.goto 4, 3) := by decide +kernel
theorem dX7_hasFailed_11 : decode cX7_hasFailed 11 = .ok (.iconst 0, 1) := by decide +kernel
theorem dX7_hasFailed_12 : decode cX7_hasFailed 12 = .ok (.ireturn, 1) := by decide +kernel
theorem dX7_step_0 : decode cX7_step 0 = .ok (.aload_n 0, 1) := by decide +kernel
theorem dX7_step_1 : decode cX7_step 1 = .ok (.getfield 28, 3) := by decide +kernel
theorem dX7_step_4 : decode cX7_step 4 = .ok (.ifCond .ne 24, 3) := by decide +kernel
theorem dX7_step_7 : decode cX7_step 7 = .ok (.aload_n 0, 1) := by decide +kernel
theorem dX7_step_8 : decode cX7_step 8 = .ok (.getfield 25, 3) := by decide +kernel
theorem dX7_step_11 : decode cX7_step 11 = .ok (.aload_n 0, 1) := by decide +kernel
theorem dX7_step_12 : decode cX7_step 12 = .ok (.getfield 22, 3) := by decide +kernel
theorem dX7_step_15 : decode cX7_step 15 = .ok (.if_icmp .ge 13, 3) := by decide +kernel
theorem dX7_step_18 : decode cX7_step 18 = .ok (.aload_n 0, 1) := by decide +kernel
theorem dX7_step_19 : decode cX7_step 19 = .ok (.dup, 1) := by decide +kernel
theorem dX7_step_20 : decode cX7_step 20 = .ok (.getfield 25, 3) := by decide +kernel
theorem dX7_step_23 : decode cX7_step 23 = .ok (.iconst 1, 1) := by decide +kernel
theorem dX7_step_24 : decode cX7_step 24 = .ok (.iadd, 1) := by decide +kernel
theorem dX7_step_25 : decode cX7_step 25 = .ok (.putfield 25, 3) := by decide +kernel
theorem dX7_step_28 : decode cX7_step 28 = .ok (.return_, 1) := by decide +kernel
theorem dX7_pass_0 : decode cX7_pass 0 = .ok (.aload_n 0, 1) := by decide +kernel
theorem dX7_pass_1 : decode cX7_pass 1 = .ok (.invokevirtual 47, 3) := by decide +kernel
theorem dX7_pass_4 : decode cX7_pass 4 = .ok (.iload_n 1, 1) := by decide +kernel
theorem dX7_pass_5 : decode cX7_pass 5 = .ok (.if_icmp .ne 10, 3) := by decide +kernel
theorem dX7_pass_8 : decode cX7_pass 8 = .ok (.aload_n 0, 1) := by decide +kernel
theorem dX7_pass_9 : decode cX7_pass 9 = .ok (.invokevirtual 51, 3) := by decide +kernel
theorem dX7_pass_12 : decode cX7_pass 12 = .ok (.goto 12, 3) := by decide +kernel
theorem dX7_pass_15 : decode cX7_pass 15 = .ok (.aload_n 0, 1) := by decide +kernel
theorem dX7_pass_16 : decode cX7_pass 16 = .ok (.iconst 1, 1) := by decide +kernel
theorem dX7_pass_17 : decode cX7_pass 17 = .ok (.aload_n 0, 1) := by decide +kernel
theorem dX7_pass_18 : decode cX7_pass 18 = .ok (.getfield 25, 3) := by decide +kernel
theorem dX7_pass_21 : decode cX7_pass 21 = .ok (.invokevirtual 54, 3) := by decide +kernel
theorem dX7_pass_24 : decode cX7_pass 24 = .ok (.return_, 1) := by decide +kernel
theorem dX7_fail_0 : decode cX7_fail 0 = .ok (.aload_n 0, 1) := by decide +kernel
theorem dX7_fail_1 : decode cX7_fail 1 = .ok (.getfield 28, 3) := by decide +kernel
theorem dX7_fail_4 : decode cX7_fail 4 = .ok (.ifCond .ne 13, 3) := by decide +kernel
theorem dX7_fail_7 : decode cX7_fail 7 = .ok (.aload_n 0, 1) := by decide +kernel
theorem dX7_fail_8 : decode cX7_fail 8 = .ok (.iload_n 1, 1) := by decide +kernel
theorem dX7_fail_9 : decode cX7_fail 9 = .ok (.putfield 28, 3) := by decide +kernel
theorem dX7_fail_12 : decode cX7_fail 12 = .ok (.aload_n 0, 1) := by decide +kernel
theorem dX7_fail_13 : decode cX7_fail 13 = .ok (.iload_n 2, 1) := by decide +kernel
theorem dX7_fail_14 : decode cX7_fail 14 = .ok (.putfield 31, 3) := by decide +kernel
theorem dX7_fail_17 : decode cX7_fail 17 = .ok (.return_, 1) := by decide +kernel
theorem dX7_oneOf_0 : decode cX7_oneOf 0 = .ok (.aload_n 0, 1) := by decide +kernel
theorem dX7_oneOf_1 : decode cX7_oneOf 1 = .ok (.invokevirtual 47, 3) := by decide +kernel
theorem dX7_oneOf_4 : decode cX7_oneOf 4 = .ok (.iload_n 1, 1) := by decide +kernel
theorem dX7_oneOf_5 : decode cX7_oneOf 5 = .ok (.isub, 1) := by decide +kernel
theorem dX7_oneOf_6 : decode cX7_oneOf 6 = .ok (.istore_n 3, 1) := by decide +kernel
theorem dX7_oneOf_7 : decode cX7_oneOf 7 = .ok (.iload_n 3, 1) := by decide +kernel
theorem dX7_oneOf_8 : decode cX7_oneOf 8 = .ok (.iconst 0, 1) := by decide +kernel
theorem dX7_oneOf_9 : decode cX7_oneOf 9 = .ok (.iload_n 2, 1) := by decide +kernel
theorem dX7_oneOf_10 : decode cX7_oneOf 10 = .ok (.iconst 1, 1) := by decide +kernel
theorem dX7_oneOf_11 : decode cX7_oneOf 11 = .ok (.isub, 1) := by decide +kernel
theorem dX7_oneOf_12 : decode cX7_oneOf 12 = .ok (.invokestatic 34, 3) := by decide +kernel
theorem dX7_oneOf_15 : decode cX7_oneOf 15 = .ok (.ifCond .ne 14, 3) := by decide +kernel
theorem dX7_oneOf_18 : decode cX7_oneOf 18 = .ok (.aload_n 0, 1) := by decide +kernel
theorem dX7_oneOf_19 : decode cX7_oneOf 19 = .ok (.iconst 1, 1) := by decide +kernel
theorem dX7_oneOf_20 : decode cX7_oneOf 20 = .ok (.aload_n 0, 1) := by decide +kernel
theorem dX7_oneOf_21 : decode cX7_oneOf 21 = .ok (.getfield 25, 3) := by decide +kernel
theorem dX7_oneOf_24 : decode cX7_oneOf 24 = .ok (.invokevirtual 54, 3) := by decide +kernel
theorem dX7_oneOf_27 : decode cX7_oneOf 27 = .ok (.iconst (-1), 1) := by decide +kernel
theorem dX7_oneOf_28 : decode cX7_oneOf 28 = .ok (.ireturn, 1) := by decide +kernel
theorem dX7_oneOf_29 : decode cX7_oneOf 29 = .ok (.aload_n 0, 1) := by decide +kernel
theorem dX7_oneOf_30 : decode cX7_oneOf 30 = .ok (.invokevirtual 51, 3) := by decide +kernel
theorem dX7_oneOf_33 : decode cX7_oneOf 33 = .ok (.iload_n 3, 1) := by decide +kernel
theorem dX7_oneOf_34 : decode cX7_oneOf 34 = .ok (.ireturn, 1) := by decide +kernel
theorem dX7_isDigit_0 : decode cX7_isDigit 0 = .ok (.iload_n 0, 1) := by decide +kernel
theorem dX7_isDigit_1 : decode cX7_isDigit 1 = .ok (.bipush 48, 2) := by decide +kernel
theorem dX7_isDigit_3 : decode cX7_isDigit 3 = .ok (.if_icmp .lt 13, 3) := by decide +kernel
theorem dX7_isDigit_6 : decode cX7_isDigit 6 = .ok (.iload_n 0, 1) := by decide +kernel
theorem dX7_isDigit_7 : decode cX7_isDigit 7 = .ok (.bipush 57, 2) := by decide +kernel
theorem dX7_isDigit_9 : decode cX7_isDigit 9 = .ok (.if_icmp .gt 7, 3) := by decide +kernel
theorem dX7_isDigit_12 : decode cX7_isDigit 12 = .ok (.iconst 1, 1) := by decide +kernel
theorem dX7_isDigit_13 : decode cX7_isDigit 13 = .ok (.goto 4, 3) := by decide +kernel
theorem dX7_isDigit_16 : decode cX7_isDigit 16 = .ok (.iconst 0, 1) := by decide +kernel
theorem dX7_isDigit_17 : decode cX7_isDigit 17 = .ok (.ireturn, 1) := by decide +kernel
theorem dX7_number_0 : decode cX7_number 0 = .ok (.iconst 0, 1) := by decide +kernel
theorem dX7_number_1 : decode cX7_number 1 = .ok (.istore_n 2, 1) := by decide +kernel
theorem dX7_number_2 : decode cX7_number 2 = .ok (.aload_n 0, 1) := by decide +kernel
theorem dX7_number_3 : decode cX7_number 3 = .ok (.invokevirtual 47, 3) := by decide +kernel
theorem dX7_number_6 : decode cX7_number 6 = .ok (.invokestatic 58, 3) := by decide +kernel
theorem dX7_number_9 : decode cX7_number 9 = .ok (.ifCond .ne 12, 3) := by decide +kernel
theorem dX7_number_12 : decode cX7_number 12 = .ok (.aload_n 0, 1) := by decide +kernel
theorem dX7_number_13 : decode cX7_number 13 = .ok (.iconst 1, 1) := by decide +kernel
theorem dX7_number_14 : decode cX7_number 14 = .ok (.aload_n 0, 1) := by decide +kernel
theorem dX7_number_15 : decode cX7_number 15 = .ok (.getfield 25, 3) := by decide +kernel
theorem dX7_number_18 : decode cX7_number 18 = .ok (.invokevirtual 54, 3) := by decide +kernel
theorem dX7_number_21 : decode cX7_number 21 = .ok (.iconst 0, 1) := by decide +kernel
theorem dX7_number_22 : decode cX7_number 22 = .ok (.istore_n 3, 1) := by decide +kernel
theorem dX7_number_23 : decode cX7_number 23 = .ok (.iload_n 3, 1) := by decide +kernel
theorem dX7_number_24 : decode cX7_number 24 = .ok (.iload_n 1, 1) := by decide +kernel
theorem dX7_number_25 : decode cX7_number 25 = .ok (.if_icmp .gt 53, 3) := by decide +kernel
theorem dX7_number_28 : decode cX7_number 28 = .ok (.aload_n 0, 1) := by decide +kernel
theorem dX7_number_29 : decode cX7_number 29 = .ok (.invokevirtual 47, 3) := by decide +kernel
theorem dX7_number_32 : decode cX7_number 32 = .ok (.invokestatic 58, 3) := by decide +kernel
theorem dX7_number_35 : decode cX7_number 35 = .ok (.ifCond .eq 43, 3) := by decide +kernel
theorem dX7_number_38 : decode cX7_number 38 = .ok (.iload_n 3, 1) := by decide +kernel
theorem dX7_number_39 : decode cX7_number 39 = .ok (.iload_n 1, 1) := by decide +kernel
theorem dX7_number_40 : decode cX7_number 40 = .ok (.if_icmp .ne 15, 3) := by decide +kernel
theorem dX7_number_43 : decode cX7_number 43 = .ok (.aload_n 0, 1) := by decide +kernel
theorem dX7_number_44 : decode cX7_number 44 = .ok (.iconst 2, 1) := by decide +kernel
theorem dX7_number_45 : decode cX7_number 45 = .ok (.aload_n 0, 1) := by decide +kernel
theorem dX7_number_46 : decode cX7_number 46 = .ok (.getfield 25, 3) := by decide +kernel
theorem dX7_number_49 : decode cX7_number 49 = .ok (.invokevirtual 54, 3) := by decide +kernel
theorem dX7_number_52 : decode cX7_number 52 = .ok (.goto 20, 3) := by decide +kernel
theorem dX7_number_55 : decode cX7_number 55 = .ok (.iload_n 2, 1) := by decide +kernel
theorem dX7_number_56 : decode cX7_number 56 = .ok (.bipush 10, 2) := by decide +kernel
theorem dX7_number_58 : decode cX7_number 58 = .ok (.imul, 1) := by decide +kernel
theorem dX7_number_59 : decode cX7_number 59 = .ok (.aload_n 0, 1) := by decide +kernel
theorem dX7_number_60 : decode cX7_number 60 = .ok (.invokevirtual 47, 3) := by decide +kernel
theorem dX7_number_63 : decode cX7_number 63 = .ok (.iadd, 1) := by decide +kernel
theorem dX7_number_64 : decode cX7_number 64 = .ok (.bipush 48, 2) := by decide +kernel
theorem dX7_number_66 : decode cX7_number 66 = .ok (.isub, 1) := by decide +kernel
theorem dX7_number_67 : decode cX7_number 67 = .ok (.istore_n 2, 1) := by decide +kernel
theorem dX7_number_68 : decode cX7_number 68 = .ok (.aload_n 0, 1) := by decide +kernel
theorem dX7_number_69 : decode cX7_number 69 = .ok (.invokevirtual 51, 3) := by decide +kernel
theorem dX7_number_72 : decode cX7_number 72 = .ok (.iinc 3 1, 3) := by decide +kernel
theorem dX7_number_75 : decode cX7_number 75 = .ok (.goto (-52), 3) := by decide +kernel
theorem dX7_number_78 : decode cX7_number 78 = .ok (.iload_n 2, 1) := by decide +kernel
theorem dX7_number_79 : decode cX7_number 79 = .ok (.ireturn, 1) := by decide +kernel
theorem dX7_answer_0 : decode cX7_answer 0 = .ok (.aload_n 0, 1) := by decide +kernel
theorem dX7_answer_1 : decode cX7_answer 1 = .ok (.invokevirtual 62, 3) := by decide +kernel
theorem dX7_answer_4 : decode cX7_answer 4 = .ok (.ifCond .eq 19, 3) := by decide +kernel
theorem dX7_answer_7 : decode cX7_answer 7 = .ok (.sipush (-1000), 3) := by decide +kernel
theorem dX7_answer_10 : decode cX7_answer 10 = .ok (.aload_n 0, 1) := by decide +kernel
theorem dX7_answer_11 : decode cX7_answer 11 = .ok (.getfield 28, 3) := by decide +kernel
theorem dX7_answer_14 : decode cX7_answer 14 = .ok (.imul, 1) := by decide +kernel
theorem dX7_answer_15 : decode cX7_answer 15 = .ok (.aload_n 0, 1) := by decide +kernel
theorem dX7_answer_16 : decode cX7_answer 16 = .ok (.getfield 31, 3) := by decide +kernel
theorem dX7_answer_19 : decode cX7_answer 19 = .ok (.isub, 1) := by decide +kernel
theorem dX7_answer_20 : decode cX7_answer 20 = .ok (.goto 4, 3) := by decide +kernel
theorem dX7_answer_23 : decode cX7_answer 23 = .ok (.iload_n 1, 1) := by decide +kernel
theorem dX7_answer_24 : decode cX7_answer 24 = .ok (.ireturn, 1) := by decide +kernel
theorem dX8_init_0 : decode cX8_init 0 = .ok (.aload_n 0, 1) := by decide +kernel
theorem dX8_init_1 : decode cX8_init 1 = .ok (.invokespecial 3, 3) := by decide +kernel
theorem dX8_init_4 : decode cX8_init 4 = .ok (.aload_n 0, 1) := by decide +kernel
theorem dX8_init_5 : decode cX8_init 5 = .ok (.iconst 0, 1) := by decide +kernel
theorem dX8_init_6 : decode cX8_init 6 = .ok (.putfield 9, 3) := by decide +kernel
theorem dX8_init_9 : decode cX8_init 9 = .ok (.aload_n 0, 1) := by decide +kernel
theorem dX8_init_10 : decode cX8_init 10 = .ok (.iconst 0, 1) := by decide +kernel
theorem dX8_init_11 : decode cX8_init 11 = .ok (.putfield 15, 3) := by decide +kernel
theorem dX8_init_14 : decode cX8_init 14 = .ok (.aload_n 0, 1) := by decide +kernel
theorem dX8_init_15 : decode cX8_init 15 = .ok (.iconst 4, 1) := by decide +kernel
theorem dX8_init_16 : decode cX8_init 16 = .ok (.newarray .int, 2) := by decide +kernel
theorem dX8_init_18 : decode cX8_init 18 = .ok (.putfield 18, 3) := by decide +kernel
theorem dX8_init_21 : decode cX8_init 21 = .ok (.aload_n 0, 1) := by decide +kernel
theorem dX8_init_22 : decode cX8_init 22 = .ok (.bipush 16, 2) := by decide +kernel
theorem dX8_init_24 : decode cX8_init 24 = .ok (.newarray .int, 2) := by decide +kernel
theorem dX8_init_26 : decode cX8_init 26 = .ok (.putfield 22, 3) := by decide +kernel
theorem dX8_init_29 : decode cX8_init 29 = .ok (.return_, 1) := by decide +kernel
theorem dX8_find_0 : decode cX8_find 0 = .ok (.aload_n 0, 1) := by decide +kernel
theorem dX8_find_1 : decode cX8_find 1 = .ok (.iload_n 1, 1) := by decide +kernel
theorem dX8_find_2 : decode cX8_find 2 = .ok (.putfield 9, 3) := by decide +kernel
theorem dX8_find_5 : decode cX8_find 5 = .ok (.aload_n 0, 1) := by decide +kernel
theorem dX8_find_6 : decode cX8_find 6 = .ok (.iconst 0, 1) := by decide +kernel
theorem dX8_find_7 : decode cX8_find 7 = .ok (.putfield 15, 3) := by decide +kernel
theorem dX8_find_10 : decode cX8_find 10 = .ok (.aload_n 0, 1) := by decide +kernel
theorem dX8_find_11 : decode cX8_find 11 = .ok (.iconst 0, 1) := by decide +kernel
theorem dX8_find_12 : decode cX8_find 12 = .ok (.iconst 0, 1) := by decide +kernel
theorem dX8_find_13 : decode cX8_find 13 = .ok (.invokestatic 25, 3) := by decide +kernel
theorem dX8_find_16 : decode cX8_find 16 = .ok (.return_, 1) := by decide +kernel
theorem dX8_grow_0 : decode cX8_grow 0 = .ok (.aload_n 0, 1) := by decide +kernel
theorem dX8_grow_1 : decode cX8_grow 1 = .ok (.getfield 9, 3) := by decide +kernel
theorem dX8_grow_4 : decode cX8_grow 4 = .ok (.aload_n 0, 1) := by decide +kernel
theorem dX8_grow_5 : decode cX8_grow 5 = .ok (.getfield 9, 3) := by decide +kernel
theorem dX8_grow_8 : decode cX8_grow 8 = .ok (.iconst 1, 1) := by decide +kernel
theorem dX8_grow_9 : decode cX8_grow 9 = .ok (.iadd, 1) := by decide +kernel
theorem dX8_grow_10 : decode cX8_grow 10 = .ok (.imul, 1) := by decide +kernel
theorem dX8_grow_11 : decode cX8_grow 11 = .ok (.iconst 2, 1) := by decide +kernel
theorem dX8_grow_12 : decode cX8_grow 12 = .ok (.idiv, 1) := by decide +kernel
theorem dX8_grow_13 : decode cX8_grow 13 = .ok (.istore_n 3, 1) := by decide +kernel
theorem dX8_grow_14 : decode cX8_grow 14 = .ok (.iconst 1, 1) := by decide +kernel
theorem dX8_grow_15 : decode cX8_grow 15 = .ok (.istore 4, 2) := by decide +kernel
theorem dX8_grow_17 : decode cX8_grow 17 = .ok (.iload 4, 2) := by decide +kernel
theorem dX8_grow_19 : decode cX8_grow 19 = .ok (.iload_n 3, 1) := by decide +kernel
theorem dX8_grow_20 : decode cX8_grow 20 = .ok (.if_icmp .gt 57, 3) := by decide +kernel
theorem dX8_grow_23 : decode cX8_grow 23 = .ok (.aload_n 0, 1) := by decide +kernel
theorem dX8_grow_24 : decode cX8_grow 24 = .ok (.iload_n 1, 1) := by decide +kernel
theorem dX8_grow_25 : decode cX8_grow 25 = .ok (.iload 4, 2) := by decide +kernel
theorem dX8_grow_27 : decode cX8_grow 27 = .ok (.iload_n 2, 1) := by decide +kernel
theorem dX8_grow_28 : decode cX8_grow 28 = .ok (.invokevirtual 29, 3) := by decide +kernel
theorem dX8_grow_31 : decode cX8_grow 31 = .ok (.istore 5, 2) := by decide +kernel
theorem dX8_grow_33 : decode cX8_grow 33 = .ok (.iload 5, 2) := by decide +kernel
theorem dX8_grow_35 : decode cX8_grow 35 = .ok (.iconst (-1), 1) := by decide +kernel
theorem dX8_grow_36 : decode cX8_grow 36 = .ok (.if_icmp .eq 20, 3) := by decide +kernel
theorem dX8_grow_39 : decode cX8_grow 39 = .ok (.iload_n 1, 1) := by decide +kernel
theorem dX8_grow_40 : decode cX8_grow 40 = .ok (.iconst 1, 1) := by decide +kernel
theorem dX8_grow_41 : decode cX8_grow 41 = .ok (.iadd, 1) := by decide +kernel
theorem dX8_grow_42 : decode cX8_grow 42 = .ok (.aload_n 0, 1) := by decide +kernel
theorem dX8_grow_43 : decode cX8_grow 43 = .ok (.getfield 9, 3) := by decide +kernel
theorem dX8_grow_46 : decode cX8_grow 46 = .ok (.if_icmp .ne 10, 3) := by decide +kernel
theorem dX8_grow_49 : decode cX8_grow 49 = .ok (.aload_n 0, 1) := by decide +kernel
theorem dX8_grow_50 : decode cX8_grow 50 = .ok (.invokevirtual 33, 3) := by decide +kernel
theorem dX8_grow_53 : decode cX8_grow 53 = .ok (.goto 18, 3) := by decide +kernel
theorem dX8_grow_56 : decode cX8_grow 56 = .ok (.iload 5, 2) := by decide +kernel
theorem dX8_grow_58 : decode cX8_grow 58 = .ok (.iconst (-1), 1) := by decide +kernel
theorem dX8_grow_59 : decode cX8_grow 59 = .ok (.if_icmp .eq 12, 3) := by decide +kernel
theorem dX8_grow_62 : decode cX8_grow 62 = .ok (.aload_n 0, 1) := by decide +kernel
theorem dX8_grow_63 : decode cX8_grow 63 = .ok (.iload_n 1, 1) := by decide +kernel
theorem dX8_grow_64 : decode cX8_grow 64 = .ok (.iconst 1, 1) := by decide +kernel
theorem dX8_grow_65 : decode cX8_grow 65 = .ok (.iadd, 1) := by decide +kernel
theorem dX8_grow_66 : decode cX8_grow 66 = .ok (.iload 5, 2) := by decide +kernel
theorem dX8_grow_68 : decode cX8_grow 68 = .ok (.invokestatic 25, 3) := by decide +kernel
theorem dX8_grow_71 : decode cX8_grow 71 = .ok (.iinc 4 1, 3) := by decide +kernel
theorem dX8_grow_74 : decode cX8_grow 74 = .ok (.goto (-57), 3) := by decide +kernel
theorem dX8_grow_77 : decode cX8_grow 77 = .ok (.return_, 1) := by decide +kernel
theorem dX8_put_0 : decode cX8_put 0 = .ok (.iload_n 3, 1) := by decide +kernel
theorem dX8_put_1 : decode cX8_put 1 = .ok (.istore 4, 2) := by decide +kernel
theorem dX8_put_3 : decode cX8_put 3 = .ok (.iload_n 2, 1) := by decide +kernel
theorem dX8_put_4 : decode cX8_put 4 = .ok (.istore 5, 2) := by decide +kernel
theorem dX8_put_6 : decode cX8_put 6 = .ok (.iconst 0, 1) := by decide +kernel
theorem dX8_put_7 : decode cX8_put 7 = .ok (.istore 6, 2) := by decide +kernel
theorem dX8_put_9 : decode cX8_put 9 = .ok (.iload 6, 2) := by decide +kernel
theorem dX8_put_11 : decode cX8_put 11 = .ok (.iload_n 1, 1) := by decide +kernel
theorem dX8_put_12 : decode cX8_put 12 = .ok (.if_icmp .gt 76, 3) := by decide +kernel
theorem dX8_put_15 : decode cX8_put 15 = .ok (.iload 6, 2) := by decide +kernel
theorem dX8_put_17 : decode cX8_put 17 = .ok (.ifCond .le 26, 3) := by decide +kernel
theorem dX8_put_20 : decode cX8_put 20 = .ok (.iload 5, 2) := by decide +kernel
theorem dX8_put_22 : decode cX8_put 22 = .ok (.aload_n 0, 1) := by decide +kernel
theorem dX8_put_23 : decode cX8_put 23 = .ok (.getfield 22, 3) := by decide +kernel
theorem dX8_put_26 : decode cX8_put 26 = .ok (.iload_n 1, 1) := by decide +kernel
theorem dX8_put_27 : decode cX8_put 27 = .ok (.iconst 1, 1) := by decide +kernel
theorem dX8_put_28 : decode cX8_put 28 = .ok (.isub, 1) := by decide +kernel
theorem dX8_put_29 : decode cX8_put 29 = .ok (.iconst 4, 1) := by decide +kernel
theorem dX8_put_30 : decode cX8_put 30 = .ok (.imul, 1) := by decide +kernel
theorem dX8_put_31 : decode cX8_put 31 = .ok (.iload 6, 2) := by decide +kernel
theorem dX8_put_33 : decode cX8_put 33 = .ok (.iadd, 1) := by decide +kernel
theorem dX8_put_34 : decode cX8_put 34 = .ok (.iconst 1, 1) := by decide +kernel
theorem dX8_put_35 : decode cX8_put 35 = .ok (.isub, 1) := by decide +kernel
theorem dX8_put_36 : decode cX8_put 36 = .ok (.iaload, 1) := by decide +kernel
theorem dX8_put_37 : decode cX8_put 37 = .ok (.isub, 1) := by decide +kernel
theorem dX8_put_38 : decode cX8_put 38 = .ok (.invokestatic 36, 3) := by decide +kernel
theorem dX8_put_41 : decode cX8_put 41 = .ok (.istore 5, 2) := by decide +kernel
theorem dX8_put_43 : decode cX8_put 43 = .ok (.iload 5, 2) := by decide +kernel
theorem dX8_put_45 : decode cX8_put 45 = .ok (.ifCond .eq 13, 3) := by decide +kernel
theorem dX8_put_48 : decode cX8_put 48 = .ok (.iload 4, 2) := by decide +kernel
theorem dX8_put_50 : decode cX8_put 50 = .ok (.iload 5, 2) := by decide +kernel
theorem dX8_put_52 : decode cX8_put 52 = .ok (.invokestatic 42, 3) := by decide +kernel
theorem dX8_put_55 : decode cX8_put 55 = .ok (.ifCond .eq 5, 3) := by decide +kernel
theorem dX8_put_58 : decode cX8_put 58 = .ok (.iconst (-1), 1) := by decide +kernel
theorem dX8_put_59 : decode cX8_put 59 = .ok (.ireturn, 1) := by decide +kernel
theorem dX8_put_60 : decode cX8_put 60 = .ok (.iload 4, 2) := by decide +kernel
theorem dX8_put_62 : decode cX8_put 62 = .ok (.iconst 1, 1) := by decide +kernel
theorem dX8_put_63 : decode cX8_put 63 = .ok (.iload 5, 2) := by decide +kernel
theorem dX8_put_65 : decode cX8_put 65 = .ok (.ishl, 1) := by decide +kernel
theorem dX8_put_66 : decode cX8_put 66 = .ok (.ior, 1) := by decide +kernel
theorem dX8_put_67 : decode cX8_put 67 = .ok (.istore 4, 2) := by decide +kernel
theorem dX8_put_69 : decode cX8_put 69 = .ok (.aload_n 0, 1) := by decide +kernel
theorem dX8_put_70 : decode cX8_put 70 = .ok (.getfield 22, 3) := by decide +kernel
theorem dX8_put_73 : decode cX8_put 73 = .ok (.iload_n 1, 1) := by decide +kernel
theorem dX8_put_74 : decode cX8_put 74 = .ok (.iconst 4, 1) := by decide +kernel
theorem dX8_put_75 : decode cX8_put 75 = .ok (.imul, 1) := by decide +kernel
theorem dX8_put_76 : decode cX8_put 76 = .ok (.iload 6, 2) := by decide +kernel
theorem dX8_put_78 : decode cX8_put 78 = .ok (.iadd, 1) := by decide +kernel
theorem dX8_put_79 : decode cX8_put 79 = .ok (.iload 5, 2) := by decide +kernel
theorem dX8_put_81 : decode cX8_put 81 = .ok (.iastore, 1) := by decide +kernel
theorem dX8_put_82 : decode cX8_put 82 = .ok (.iinc 6 1, 3) := by decide +kernel
theorem dX8_put_85 : decode cX8_put 85 = .ok (.goto (-76), 3) := by decide +kernel
theorem dX8_put_88 : decode cX8_put 88 = .ok (.iload 4, 2) := by decide +kernel
theorem dX8_put_90 : decode cX8_put 90 = .ok (.ireturn, 1) := by decide +kernel
theorem dX8_countThis_0 : decode cX8_countThis 0 = .ok (.iconst 0, 1) := by decide +kernel
theorem dX8_countThis_1 : decode cX8_countThis 1 = .ok (.istore_n 1, 1) := by decide +kernel
theorem dX8_countThis_2 : decode cX8_countThis 2 = .ok (.iload_n 1, 1) := by decide +kernel
theorem dX8_countThis_3 : decode cX8_countThis 3 = .ok (.aload_n 0, 1) := by decide +kernel
theorem dX8_countThis_4 : decode cX8_countThis 4 = .ok (.getfield 9, 3) := by decide +kernel
theorem dX8_countThis_7 : decode cX8_countThis 7 = .ok (.if_icmp .ge 30, 3) := by decide +kernel
theorem dX8_countThis_10 : decode cX8_countThis 10 = .ok (.aload_n 0, 1) := by decide +kernel
theorem dX8_countThis_11 : decode cX8_countThis 11 = .ok (.getfield 15, 3) := by decide +kernel
theorem dX8_countThis_14 : decode cX8_countThis 14 = .ok (.ifCond .ne 23, 3) := by decide +kernel
theorem dX8_countThis_17 : decode cX8_countThis 17 = .ok (.aload_n 0, 1) := by decide +kernel
theorem dX8_countThis_18 : decode cX8_countThis 18 = .ok (.getfield 18, 3) := by decide +kernel
theorem dX8_countThis_21 : decode cX8_countThis 21 = .ok (.iload_n 1, 1) := by decide +kernel
theorem dX8_countThis_22 : decode cX8_countThis 22 = .ok (.aload_n 0, 1) := by decide +kernel
theorem dX8_countThis_23 : decode cX8_countThis 23 = .ok (.getfield 22, 3) := by decide +kernel
theorem dX8_countThis_26 : decode cX8_countThis 26 = .ok (.iload_n 1, 1) := by decide +kernel
theorem dX8_countThis_27 : decode cX8_countThis 27 = .ok (.iconst 4, 1) := by decide +kernel
theorem dX8_countThis_28 : decode cX8_countThis 28 = .ok (.imul, 1) := by decide +kernel
theorem dX8_countThis_29 : decode cX8_countThis 29 = .ok (.iaload, 1) := by decide +kernel
theorem dX8_countThis_30 : decode cX8_countThis 30 = .ok (.iastore, 1) := by decide +kernel
theorem dX8_countThis_31 : decode cX8_countThis 31 = .ok (.iinc 1 1, 3) := by decide +kernel
theorem dX8_countThis_34 : decode cX8_countThis 34 = .ok (.goto (-32), 3) := by decide +kernel
theorem dX8_countThis_37 : decode cX8_countThis 37 = .ok (.aload_n 0, 1) := by decide +kernel
theorem dX8_countThis_38 : decode cX8_countThis 38 = .ok (.dup, 1) := by decide +kernel
theorem dX8_countThis_39 : decode cX8_countThis 39 = .ok (.getfield 15, 3) := by decide +kernel
theorem dX8_countThis_42 : decode cX8_countThis 42 = .ok (.iconst 1, 1) := by decide +kernel
theorem dX8_countThis_43 : decode cX8_countThis 43 = .ok (.iadd, 1) := by decide +kernel
theorem dX8_countThis_44 : decode cX8_countThis 44 = .ok (.putfield 15, 3) := by decide +kernel
theorem dX8_countThis_47 : decode cX8_countThis 47 = .ok (.return_, 1) := by decide +kernel
theorem dX9_init_0 : decode cX9_init 0 = .ok (.aload_n 0, 1) := by decide +kernel
theorem dX9_init_1 : decode cX9_init 1 = .ok (.invokespecial 3, 3) := by decide +kernel
theorem dX9_init_4 : decode cX9_init 4 = .ok (.aload_n 0, 1) := by decide +kernel
theorem dX9_init_5 : decode cX9_init 5 = .ok (.new 9, 3) := by decide +kernel
theorem dX9_init_8 : decode cX9_init 8 = .ok (.dup, 1) := by decide +kernel
theorem dX9_init_9 : decode cX9_init 9 = .ok (.invokespecial 11, 3) := by decide +kernel
theorem dX9_init_12 : decode cX9_init 12 = .ok (.putfield 12, 3) := by decide +kernel
theorem dX9_init_15 : decode cX9_init 15 = .ok (.aload_n 0, 1) := by decide +kernel
theorem dX9_init_16 : decode cX9_init 16 = .ok (.new 16, 3) := by decide +kernel
theorem dX9_init_19 : decode cX9_init 19 = .ok (.dup, 1) := by decide +kernel
theorem dX9_init_20 : decode cX9_init 20 = .ok (.invokespecial 18, 3) := by decide +kernel
theorem dX9_init_23 : decode cX9_init 23 = .ok (.putfield 19, 3) := by decide +kernel
theorem dX9_init_26 : decode cX9_init 26 = .ok (.aload_n 0, 1) := by decide +kernel
theorem dX9_init_27 : decode cX9_init 27 = .ok (.new 16, 3) := by decide +kernel
theorem dX9_init_30 : decode cX9_init 30 = .ok (.dup, 1) := by decide +kernel
theorem dX9_init_31 : decode cX9_init 31 = .ok (.invokespecial 18, 3) := by decide +kernel
theorem dX9_init_34 : decode cX9_init 34 = .ok (.putfield 23, 3) := by decide +kernel
theorem dX9_init_37 : decode cX9_init 37 = .ok (.aload_n 0, 1) := by decide +kernel
theorem dX9_init_38 : decode cX9_init 38 = .ok (.new 26, 3) := by decide +kernel
theorem dX9_init_41 : decode cX9_init 41 = .ok (.dup, 1) := by decide +kernel
theorem dX9_init_42 : decode cX9_init 42 = .ok (.invokespecial 28, 3) := by decide +kernel
theorem dX9_init_45 : decode cX9_init 45 = .ok (.putfield 29, 3) := by decide +kernel
theorem dX9_init_48 : decode cX9_init 48 = .ok (.aload_n 0, 1) := by decide +kernel
theorem dX9_init_49 : decode cX9_init 49 = .ok (.new 26, 3) := by decide +kernel
theorem dX9_init_52 : decode cX9_init 52 = .ok (.dup, 1) := by decide +kernel
theorem dX9_init_53 : decode cX9_init 53 = .ok (.invokespecial 28, 3) := by decide +kernel
theorem dX9_init_56 : decode cX9_init 56 = .ok (.putfield 33, 3) := by decide +kernel
theorem dX9_init_59 : decode cX9_init 59 = .ok (.aload_n 0, 1) := by decide +kernel
theorem dX9_init_60 : decode cX9_init 60 = .ok (.new 36, 3) := by decide +kernel
theorem dX9_init_63 : decode cX9_init 63 = .ok (.dup, 1) := by decide +kernel
theorem dX9_init_64 : decode cX9_init 64 = .ok (.invokespecial 38, 3) := by decide +kernel
theorem dX9_init_67 : decode cX9_init 67 = .ok (.putfield 39, 3) := by decide +kernel
theorem dX9_init_70 : decode cX9_init 70 = .ok (.aload_n 0, 1) := by decide +kernel
theorem dX9_init_71 : decode cX9_init 71 = .ok (.new 43, 3) := by decide +kernel
theorem dX9_init_74 : decode cX9_init 74 = .ok (.dup, 1) := by decide +kernel
theorem dX9_init_75 : decode cX9_init 75 = .ok (.aload_n 0, 1) := by decide +kernel
theorem dX9_init_76 : decode cX9_init 76 = .ok (.getfield 12, 3) := by decide +kernel
theorem dX9_init_79 : decode cX9_init 79 = .ok (.invokespecial 45, 3) := by decide +kernel
theorem dX9_init_82 : decode cX9_init 82 = .ok (.putfield 48, 3) := by decide +kernel
theorem dX9_init_85 : decode cX9_init 85 = .ok (.aload_n 0, 1) := by decide +kernel
theorem dX9_init_86 : decode cX9_init 86 = .ok (.new 52, 3) := by decide +kernel
theorem dX9_init_89 : decode cX9_init 89 = .ok (.dup, 1) := by decide +kernel
theorem dX9_init_90 : decode cX9_init 90 = .ok (.invokespecial 54, 3) := by decide +kernel
theorem dX9_init_93 : decode cX9_init 93 = .ok (.putfield 55, 3) := by decide +kernel
theorem dX9_init_96 : decode cX9_init 96 = .ok (.aload_n 0, 1) := by decide +kernel
theorem dX9_init_97 : decode cX9_init 97 = .ok (.new 52, 3) := by decide +kernel
theorem dX9_init_100 : decode cX9_init 100 = .ok (.dup, 1) := by decide +kernel
theorem dX9_init_101 : decode cX9_init 101 = .ok (.invokespecial 54, 3) := by decide +kernel
theorem dX9_init_104 : decode cX9_init 104 = .ok (.putfield 59, 3) := by decide +kernel
theorem dX9_init_107 : decode cX9_init 107 = .ok (.aload_n 0, 1) := by decide +kernel
theorem dX9_init_108 : decode cX9_init 108 = .ok (.new 62, 3) := by decide +kernel
theorem dX9_init_111 : decode cX9_init 111 = .ok (.dup, 1) := by decide +kernel
theorem dX9_init_112 : decode cX9_init 112 = .ok (.invokespecial 64, 3) := by decide +kernel
theorem dX9_init_115 : decode cX9_init 115 = .ok (.putfield 65, 3) := by decide +kernel
theorem dX9_init_118 : decode cX9_init 118 = .ok (.aload_n 0, 1) := by decide +kernel
theorem dX9_init_119 : decode cX9_init 119 = .ok (.new 62, 3) := by decide +kernel
theorem dX9_init_122 : decode cX9_init 122 = .ok (.dup, 1) := by decide +kernel
theorem dX9_init_123 : decode cX9_init 123 = .ok (.invokespecial 64, 3) := by decide +kernel
theorem dX9_init_126 : decode cX9_init 126 = .ok (.putfield 69, 3) := by decide +kernel
theorem dX9_init_129 : decode cX9_init 129 = .ok (.aload_n 0, 1) := by decide +kernel
theorem dX9_init_130 : decode cX9_init 130 = .ok (.new 62, 3) := by decide +kernel
theorem dX9_init_133 : decode cX9_init 133 = .ok (.dup, 1) := by decide +kernel
theorem dX9_init_134 : decode cX9_init 134 = .ok (.invokespecial 64, 3) := by decide +kernel
theorem dX9_init_137 : decode cX9_init 137 = .ok (.putfield 72, 3) := by decide +kernel
theorem dX9_init_140 : decode cX9_init 140 = .ok (.aload_n 0, 1) := by decide +kernel
theorem dX9_init_141 : decode cX9_init 141 = .ok (.iconst 0, 1) := by decide +kernel
theorem dX9_init_142 : decode cX9_init 142 = .ok (.putfield 75, 3) := by decide +kernel
theorem dX9_init_145 : decode cX9_init 145 = .ok (.aload_n 0, 1) := by decide +kernel
theorem dX9_init_146 : decode cX9_init 146 = .ok (.new 79, 3) := by decide +kernel
theorem dX9_init_149 : decode cX9_init 149 = .ok (.dup, 1) := by decide +kernel
theorem dX9_init_150 : decode cX9_init 150 = .ok (.invokespecial 81, 3) := by decide +kernel
theorem dX9_init_153 : decode cX9_init 153 = .ok (.putfield 82, 3) := by decide +kernel
theorem dX9_init_156 : decode cX9_init 156 = .ok (.aload_n 0, 1) := by decide +kernel
theorem dX9_init_157 : decode cX9_init 157 = .ok (.sipush 4096, 3) := by decide +kernel
theorem dX9_init_160 : decode cX9_init 160 = .ok (.newarray .int, 2) := by decide +kernel
theorem dX9_init_162 : decode cX9_init 162 = .ok (.putfield 86, 3) := by decide +kernel
theorem dX9_init_165 : decode cX9_init 165 = .ok (.aload_n 0, 1) := by decide +kernel
theorem dX9_init_166 : decode cX9_init 166 = .ok (.getfield 29, 3) := by decide +kernel
theorem dX9_init_169 : decode cX9_init 169 = .ok (.aload_n 0, 1) := by decide +kernel
theorem dX9_init_170 : decode cX9_init 170 = .ok (.getfield 19, 3) := by decide +kernel
theorem dX9_init_173 : decode cX9_init 173 = .ok (.iconst (-1), 1) := by decide +kernel
theorem dX9_init_174 : decode cX9_init 174 = .ok (.invokevirtual 90, 3) := by decide +kernel
theorem dX9_init_177 : decode cX9_init 177 = .ok (.return_, 1) := by decide +kernel
theorem dX9_feed_0 : decode cX9_feed 0 = .ok (.aload_n 0, 1) := by decide +kernel
theorem dX9_feed_1 : decode cX9_feed 1 = .ok (.getfield 12, 3) := by decide +kernel
theorem dX9_feed_4 : decode cX9_feed 4 = .ok (.bipush 20, 2) := by decide +kernel
theorem dX9_feed_6 : decode cX9_feed 6 = .ok (.invokevirtual 94, 3) := by decide +kernel
theorem dX9_feed_9 : decode cX9_feed 9 = .ok (.ifCond .ne 5, 3) := by decide +kernel
theorem dX9_feed_12 : decode cX9_feed 12 = .ok (.iconst (-1), 1) := by decide +kernel
theorem dX9_feed_13 : decode cX9_feed 13 = .ok (.ireturn, 1) := by decide +kernel
theorem dX9_feed_14 : decode cX9_feed 14 = .ok (.aload_n 0, 1) := by decide +kernel
theorem dX9_feed_15 : decode cX9_feed 15 = .ok (.getfield 12, 3) := by decide +kernel
theorem dX9_feed_18 : decode cX9_feed 18 = .ok (.iload_n 1, 1) := by decide +kernel
theorem dX9_feed_19 : decode cX9_feed 19 = .ok (.invokevirtual 98, 3) := by decide +kernel
theorem dX9_feed_22 : decode cX9_feed 22 = .ok (.aload_n 0, 1) := by decide +kernel
theorem dX9_feed_23 : decode cX9_feed 23 = .ok (.getfield 12, 3) := by decide +kernel
theorem dX9_feed_26 : decode cX9_feed 26 = .ok (.iload_n 2, 1) := by decide +kernel
theorem dX9_feed_27 : decode cX9_feed 27 = .ok (.invokevirtual 98, 3) := by decide +kernel
theorem dX9_feed_30 : decode cX9_feed 30 = .ok (.aload_n 0, 1) := by decide +kernel
theorem dX9_feed_31 : decode cX9_feed 31 = .ok (.getfield 12, 3) := by decide +kernel
theorem dX9_feed_34 : decode cX9_feed 34 = .ok (.iload_n 3, 1) := by decide +kernel
theorem dX9_feed_35 : decode cX9_feed 35 = .ok (.invokevirtual 98, 3) := by decide +kernel
theorem dX9_feed_38 : decode cX9_feed 38 = .ok (.aload_n 0, 1) := by decide +kernel
theorem dX9_feed_39 : decode cX9_feed 39 = .ok (.getfield 12, 3) := by decide +kernel
theorem dX9_feed_42 : decode cX9_feed 42 = .ok (.iload 4, 2) := by decide +kernel
theorem dX9_feed_44 : decode cX9_feed 44 = .ok (.invokevirtual 98, 3) := by decide +kernel
theorem dX9_feed_47 : decode cX9_feed 47 = .ok (.aload_n 0, 1) := by decide +kernel
theorem dX9_feed_48 : decode cX9_feed 48 = .ok (.getfield 12, 3) := by decide +kernel
theorem dX9_feed_51 : decode cX9_feed 51 = .ok (.iload 5, 2) := by decide +kernel
theorem dX9_feed_53 : decode cX9_feed 53 = .ok (.invokevirtual 98, 3) := by decide +kernel
theorem dX9_feed_56 : decode cX9_feed 56 = .ok (.aload_n 0, 1) := by decide +kernel
theorem dX9_feed_57 : decode cX9_feed 57 = .ok (.getfield 12, 3) := by decide +kernel
theorem dX9_feed_60 : decode cX9_feed 60 = .ok (.getfield 102, 3) := by decide +kernel
theorem dX9_feed_63 : decode cX9_feed 63 = .ok (.ireturn, 1) := by decide +kernel
theorem dX9_law_0 : decode cX9_law 0 = .ok (.aload_n 0, 1) := by decide +kernel
theorem dX9_law_1 : decode cX9_law 1 = .ok (.getfield 12, 3) := by decide +kernel
theorem dX9_law_4 : decode cX9_law 4 = .ok (.iload_n 1, 1) := by decide +kernel
theorem dX9_law_5 : decode cX9_law 5 = .ok (.iconst 1, 1) := by decide +kernel
theorem dX9_law_6 : decode cX9_law 6 = .ok (.sipush 240, 3) := by decide +kernel
theorem dX9_law_9 : decode cX9_law 9 = .ok (.invokevirtual 106, 3) := by decide +kernel
theorem dX9_law_12 : decode cX9_law 12 = .ok (.ifCond .ne 5, 3) := by decide +kernel
theorem dX9_law_15 : decode cX9_law 15 = .ok (.iconst (-1), 1) := by decide +kernel
theorem dX9_law_16 : decode cX9_law 16 = .ok (.ireturn, 1) := by decide +kernel
theorem dX9_law_17 : decode cX9_law 17 = .ok (.aload_n 0, 1) := by decide +kernel
theorem dX9_law_18 : decode cX9_law 18 = .ok (.getfield 48, 3) := by decide +kernel
theorem dX9_law_21 : decode cX9_law 21 = .ok (.aload_n 0, 1) := by decide +kernel
theorem dX9_law_22 : decode cX9_law 22 = .ok (.getfield 59, 3) := by decide +kernel
theorem dX9_law_25 : decode cX9_law 25 = .ok (.iload_n 1, 1) := by decide +kernel
theorem dX9_law_26 : decode cX9_law 26 = .ok (.invokevirtual 110, 3) := by decide +kernel
theorem dX9_law_29 : decode cX9_law 29 = .ok (.istore_n 2, 1) := by decide +kernel
theorem dX9_law_30 : decode cX9_law 30 = .ok (.aload_n 0, 1) := by decide +kernel
theorem dX9_law_31 : decode cX9_law 31 = .ok (.getfield 12, 3) := by decide +kernel
theorem dX9_law_34 : decode cX9_law 34 = .ok (.invokevirtual 114, 3) := by decide +kernel
theorem dX9_law_37 : decode cX9_law 37 = .ok (.iload_n 2, 1) := by decide +kernel
theorem dX9_law_38 : decode cX9_law 38 = .ok (.ifCond .lt 21, 3) := by decide +kernel
