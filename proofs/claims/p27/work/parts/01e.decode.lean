theorem dX10_lessThan_13 : decode cX10_lessThan 13 = .ok (.invokevirtual 337, 3) := by decide +kernel
theorem dX10_lessThan_16 : decode cX10_lessThan 16 = .ok (.ifCond .ge 9, 3) := by decide +kernel
theorem dX10_lessThan_19 : decode cX10_lessThan 19 = .ok (.iload_n 2, 1) := by decide +kernel
theorem dX10_lessThan_20 : decode cX10_lessThan 20 = .ok (.iconst 1, 1) := by decide +kernel
theorem dX10_lessThan_21 : decode cX10_lessThan 21 = .ok (.iload_n 3, 1) := by decide +kernel
theorem dX10_lessThan_22 : decode cX10_lessThan 22 = .ok (.ishl, 1) := by decide +kernel
theorem dX10_lessThan_23 : decode cX10_lessThan 23 = .ok (.ior, 1) := by decide +kernel
theorem dX10_lessThan_24 : decode cX10_lessThan 24 = .ok (.istore_n 2, 1) := by decide +kernel
theorem dX10_lessThan_25 : decode cX10_lessThan 25 = .ok (.iinc 3 1, 3) := by decide +kernel
theorem dX10_lessThan_28 : decode cX10_lessThan 28 = .ok (.goto (-24), 3) := by decide +kernel
theorem dX10_lessThan_31 : decode cX10_lessThan 31 = .ok (.iload_n 2, 1) := by decide +kernel
theorem dX10_lessThan_32 : decode cX10_lessThan 32 = .ok (.ireturn, 1) := by decide +kernel
theorem dX10_surely_0 : decode cX10_surely 0 = .ok (.iload_n 1, 1) := by decide +kernel
theorem dX10_surely_1 : decode cX10_surely 1 = .ok (.invokestatic 281, 3) := by decide +kernel
theorem dX10_surely_4 : decode cX10_surely 4 = .ok (.ifCond .eq 12, 3) := by decide +kernel
theorem dX10_surely_7 : decode cX10_surely 7 = .ok (.iload_n 2, 1) := by decide +kernel
theorem dX10_surely_8 : decode cX10_surely 8 = .ok (.iconst 0, 1) := by decide +kernel
theorem dX10_surely_9 : decode cX10_surely 9 = .ok (.iconst 1, 1) := by decide +kernel
theorem dX10_surely_10 : decode cX10_surely 10 = .ok (.invokestatic 161, 3) := by decide +kernel
theorem dX10_surely_13 : decode cX10_surely 13 = .ok (.ifCond .ne 5, 3) := by decide +kernel
theorem dX10_surely_16 : decode cX10_surely 16 = .ok (.iconst (-1), 1) := by decide +kernel
theorem dX10_surely_17 : decode cX10_surely 17 = .ok (.ireturn, 1) := by decide +kernel
theorem dX10_surely_18 : decode cX10_surely 18 = .ok (.aload_n 0, 1) := by decide +kernel
theorem dX10_surely_19 : decode cX10_surely 19 = .ok (.iconst (-1), 1) := by decide +kernel
theorem dX10_surely_20 : decode cX10_surely 20 = .ok (.invokevirtual 331, 3) := by decide +kernel
theorem dX10_surely_23 : decode cX10_surely 23 = .ok (.aload_n 0, 1) := by decide +kernel
theorem dX10_surely_24 : decode cX10_surely 24 = .ok (.invokevirtual 334, 3) := by decide +kernel
theorem dX10_surely_27 : decode cX10_surely 27 = .ok (.ifCond .ne 8, 3) := by decide +kernel
theorem dX10_surely_30 : decode cX10_surely 30 = .ok (.bipush (-3), 2) := by decide +kernel
theorem dX10_surely_32 : decode cX10_surely 32 = .ok (.goto 20, 3) := by decide +kernel
theorem dX10_surely_35 : decode cX10_surely 35 = .ok (.iload_n 2, 1) := by decide +kernel
theorem dX10_surely_36 : decode cX10_surely 36 = .ok (.ifCond .ne 11, 3) := by decide +kernel
theorem dX10_surely_39 : decode cX10_surely 39 = .ok (.aload_n 0, 1) := by decide +kernel
theorem dX10_surely_40 : decode cX10_surely 40 = .ok (.iload_n 1, 1) := by decide +kernel
theorem dX10_surely_41 : decode cX10_surely 41 = .ok (.invokevirtual 361, 3) := by decide +kernel
theorem dX10_surely_44 : decode cX10_surely 44 = .ok (.goto 8, 3) := by decide +kernel
theorem dX10_surely_47 : decode cX10_surely 47 = .ok (.aload_n 0, 1) := by decide +kernel
theorem dX10_surely_48 : decode cX10_surely 48 = .ok (.iload_n 1, 1) := by decide +kernel
theorem dX10_surely_49 : decode cX10_surely 49 = .ok (.invokevirtual 364, 3) := by decide +kernel
theorem dX10_surely_52 : decode cX10_surely 52 = .ok (.ireturn, 1) := by decide +kernel
theorem dX10_lightest_0 : decode cX10_lightest 0 = .ok (.iload_n 1, 1) := by decide +kernel
theorem dX10_lightest_1 : decode cX10_lightest 1 = .ok (.invokestatic 281, 3) := by decide +kernel
theorem dX10_lightest_4 : decode cX10_lightest 4 = .ok (.ifCond .ne 5, 3) := by decide +kernel
theorem dX10_lightest_7 : decode cX10_lightest 7 = .ok (.iconst (-1), 1) := by decide +kernel
theorem dX10_lightest_8 : decode cX10_lightest 8 = .ok (.ireturn, 1) := by decide +kernel
theorem dX10_lightest_9 : decode cX10_lightest 9 = .ok (.aload_n 0, 1) := by decide +kernel
theorem dX10_lightest_10 : decode cX10_lightest 10 = .ok (.iconst (-1), 1) := by decide +kernel
theorem dX10_lightest_11 : decode cX10_lightest 11 = .ok (.invokevirtual 331, 3) := by decide +kernel
theorem dX10_lightest_14 : decode cX10_lightest 14 = .ok (.aload_n 0, 1) := by decide +kernel
theorem dX10_lightest_15 : decode cX10_lightest 15 = .ok (.invokevirtual 334, 3) := by decide +kernel
theorem dX10_lightest_18 : decode cX10_lightest 18 = .ok (.ifCond .ne 6, 3) := by decide +kernel
theorem dX10_lightest_21 : decode cX10_lightest 21 = .ok (.bipush (-3), 2) := by decide +kernel
theorem dX10_lightest_23 : decode cX10_lightest 23 = .ok (.ireturn, 1) := by decide +kernel
theorem dX10_lightest_24 : decode cX10_lightest 24 = .ok (.iconst 0, 1) := by decide +kernel
theorem dX10_lightest_25 : decode cX10_lightest 25 = .ok (.istore_n 2, 1) := by decide +kernel
theorem dX10_lightest_26 : decode cX10_lightest 26 = .ok (.iconst 0, 1) := by decide +kernel
theorem dX10_lightest_27 : decode cX10_lightest 27 = .ok (.istore_n 3, 1) := by decide +kernel
theorem dX10_lightest_28 : decode cX10_lightest 28 = .ok (.iload_n 3, 1) := by decide +kernel
theorem dX10_lightest_29 : decode cX10_lightest 29 = .ok (.bipush 12, 2) := by decide +kernel
theorem dX10_lightest_31 : decode cX10_lightest 31 = .ok (.if_icmp .ge 21, 3) := by decide +kernel
theorem dX10_lightest_34 : decode cX10_lightest 34 = .ok (.iload_n 2, 1) := by decide +kernel
theorem dX10_lightest_35 : decode cX10_lightest 35 = .ok (.aload_n 0, 1) := by decide +kernel
theorem dX10_lightest_36 : decode cX10_lightest 36 = .ok (.iload_n 3, 1) := by decide +kernel
theorem dX10_lightest_37 : decode cX10_lightest 37 = .ok (.iload_n 1, 1) := by decide +kernel
theorem dX10_lightest_38 : decode cX10_lightest 38 = .ok (.invokevirtual 337, 3) := by decide +kernel
theorem dX10_lightest_41 : decode cX10_lightest 41 = .ok (.ineg, 1) := by decide +kernel
theorem dX10_lightest_42 : decode cX10_lightest 42 = .ok (.invokestatic 328, 3) := by decide +kernel
theorem dX10_lightest_45 : decode cX10_lightest 45 = .ok (.istore_n 2, 1) := by decide +kernel
theorem dX10_lightest_46 : decode cX10_lightest 46 = .ok (.iinc 3 1, 3) := by decide +kernel
theorem dX10_lightest_49 : decode cX10_lightest 49 = .ok (.goto (-21), 3) := by decide +kernel
theorem dX10_lightest_52 : decode cX10_lightest 52 = .ok (.iload_n 2, 1) := by decide +kernel
theorem dX10_lightest_53 : decode cX10_lightest 53 = .ok (.ireturn, 1) := by decide +kernel
theorem dX10_slack_0 : decode cX10_slack 0 = .ok (.aload_n 0, 1) := by decide +kernel
theorem dX10_slack_1 : decode cX10_slack 1 = .ok (.iconst (-1), 1) := by decide +kernel
theorem dX10_slack_2 : decode cX10_slack 2 = .ok (.invokevirtual 331, 3) := by decide +kernel
theorem dX10_slack_5 : decode cX10_slack 5 = .ok (.iload_n 1, 1) := by decide +kernel
theorem dX10_slack_6 : decode cX10_slack 6 = .ok (.iconst 0, 1) := by decide +kernel
theorem dX10_slack_7 : decode cX10_slack 7 = .ok (.aload_n 0, 1) := by decide +kernel
theorem dX10_slack_8 : decode cX10_slack 8 = .ok (.getfield 307, 3) := by decide +kernel
theorem dX10_slack_11 : decode cX10_slack 11 = .ok (.iconst 1, 1) := by decide +kernel
theorem dX10_slack_12 : decode cX10_slack 12 = .ok (.isub, 1) := by decide +kernel
theorem dX10_slack_13 : decode cX10_slack 13 = .ok (.invokestatic 161, 3) := by decide +kernel
theorem dX10_slack_16 : decode cX10_slack 16 = .ok (.ifCond .eq 10, 3) := by decide +kernel
theorem dX10_slack_19 : decode cX10_slack 19 = .ok (.aload_n 0, 1) := by decide +kernel
theorem dX10_slack_20 : decode cX10_slack 20 = .ok (.invokevirtual 334, 3) := by decide +kernel
theorem dX10_slack_23 : decode cX10_slack 23 = .ok (.ifCond .ne 7, 3) := by decide +kernel
theorem dX10_slack_26 : decode cX10_slack 26 = .ok (.ldc_w 311, 3) := by decide +kernel
theorem dX10_slack_29 : decode cX10_slack 29 = .ok (.ireturn, 1) := by decide +kernel
theorem dX10_slack_30 : decode cX10_slack 30 = .ok (.aload_n 0, 1) := by decide +kernel
theorem dX10_slack_31 : decode cX10_slack 31 = .ok (.getfield 25, 3) := by decide +kernel
theorem dX10_slack_34 : decode cX10_slack 34 = .ok (.iload_n 1, 1) := by decide +kernel
theorem dX10_slack_35 : decode cX10_slack 35 = .ok (.iaload, 1) := by decide +kernel
theorem dX10_slack_36 : decode cX10_slack 36 = .ok (.ifCond .ne 5, 3) := by decide +kernel
theorem dX10_slack_39 : decode cX10_slack 39 = .ok (.iconst 0, 1) := by decide +kernel
theorem dX10_slack_40 : decode cX10_slack 40 = .ok (.ireturn, 1) := by decide +kernel
theorem dX10_slack_41 : decode cX10_slack 41 = .ok (.aload_n 0, 1) := by decide +kernel
theorem dX10_slack_42 : decode cX10_slack 42 = .ok (.getfield 25, 3) := by decide +kernel
theorem dX10_slack_45 : decode cX10_slack 45 = .ok (.iload_n 1, 1) := by decide +kernel
theorem dX10_slack_46 : decode cX10_slack 46 = .ok (.iaload, 1) := by decide +kernel
theorem dX10_slack_47 : decode cX10_slack 47 = .ok (.iconst 1, 1) := by decide +kernel
theorem dX10_slack_48 : decode cX10_slack 48 = .ok (.if_icmp .ne 29, 3) := by decide +kernel
theorem dX10_slack_51 : decode cX10_slack 51 = .ok (.aload_n 0, 1) := by decide +kernel
theorem dX10_slack_52 : decode cX10_slack 52 = .ok (.getfield 28, 3) := by decide +kernel
theorem dX10_slack_55 : decode cX10_slack 55 = .ok (.iload_n 1, 1) := by decide +kernel
theorem dX10_slack_56 : decode cX10_slack 56 = .ok (.iaload, 1) := by decide +kernel
theorem dX10_slack_57 : decode cX10_slack 57 = .ok (.aload_n 0, 1) := by decide +kernel
theorem dX10_slack_58 : decode cX10_slack 58 = .ok (.aload_n 0, 1) := by decide +kernel
theorem dX10_slack_59 : decode cX10_slack 59 = .ok (.getfield 19, 3) := by decide +kernel
theorem dX10_slack_62 : decode cX10_slack 62 = .ok (.iload_n 1, 1) := by decide +kernel
theorem dX10_slack_63 : decode cX10_slack 63 = .ok (.iaload, 1) := by decide +kernel
theorem dX10_slack_64 : decode cX10_slack 64 = .ok (.aload_n 0, 1) := by decide +kernel
theorem dX10_slack_65 : decode cX10_slack 65 = .ok (.getfield 22, 3) := by decide +kernel
theorem dX10_slack_68 : decode cX10_slack 68 = .ok (.iload_n 1, 1) := by decide +kernel
theorem dX10_slack_69 : decode cX10_slack 69 = .ok (.iaload, 1) := by decide +kernel
theorem dX10_slack_70 : decode cX10_slack 70 = .ok (.invokevirtual 337, 3) := by decide +kernel
theorem dX10_slack_73 : decode cX10_slack 73 = .ok (.isub, 1) := by decide +kernel
theorem dX10_slack_74 : decode cX10_slack 74 = .ok (.goto 27, 3) := by decide +kernel
theorem dX10_slack_77 : decode cX10_slack 77 = .ok (.aload_n 0, 1) := by decide +kernel
theorem dX10_slack_78 : decode cX10_slack 78 = .ok (.getfield 28, 3) := by decide +kernel
theorem dX10_slack_81 : decode cX10_slack 81 = .ok (.iload_n 1, 1) := by decide +kernel
theorem dX10_slack_82 : decode cX10_slack 82 = .ok (.iaload, 1) := by decide +kernel
theorem dX10_slack_83 : decode cX10_slack 83 = .ok (.ineg, 1) := by decide +kernel
theorem dX10_slack_84 : decode cX10_slack 84 = .ok (.aload_n 0, 1) := by decide +kernel
theorem dX10_slack_85 : decode cX10_slack 85 = .ok (.aload_n 0, 1) := by decide +kernel
theorem dX10_slack_86 : decode cX10_slack 86 = .ok (.getfield 22, 3) := by decide +kernel
theorem dX10_slack_89 : decode cX10_slack 89 = .ok (.iload_n 1, 1) := by decide +kernel
theorem dX10_slack_90 : decode cX10_slack 90 = .ok (.iaload, 1) := by decide +kernel
theorem dX10_slack_91 : decode cX10_slack 91 = .ok (.aload_n 0, 1) := by decide +kernel
theorem dX10_slack_92 : decode cX10_slack 92 = .ok (.getfield 19, 3) := by decide +kernel
theorem dX10_slack_95 : decode cX10_slack 95 = .ok (.iload_n 1, 1) := by decide +kernel
theorem dX10_slack_96 : decode cX10_slack 96 = .ok (.iaload, 1) := by decide +kernel
theorem dX10_slack_97 : decode cX10_slack 97 = .ok (.invokevirtual 337, 3) := by decide +kernel
theorem dX10_slack_100 : decode cX10_slack 100 = .ok (.isub, 1) := by decide +kernel
theorem dX10_slack_101 : decode cX10_slack 101 = .ok (.ireturn, 1) := by decide +kernel
theorem dX10_chain_0 : decode cX10_chain 0 = .ok (.iload_n 1, 1) := by decide +kernel
theorem dX10_chain_1 : decode cX10_chain 1 = .ok (.iconst 0, 1) := by decide +kernel
theorem dX10_chain_2 : decode cX10_chain 2 = .ok (.iconst 1, 1) := by decide +kernel
theorem dX10_chain_3 : decode cX10_chain 3 = .ok (.invokestatic 161, 3) := by decide +kernel
theorem dX10_chain_6 : decode cX10_chain 6 = .ok (.ifCond .ne 5, 3) := by decide +kernel
theorem dX10_chain_9 : decode cX10_chain 9 = .ok (.iconst (-1), 1) := by decide +kernel
theorem dX10_chain_10 : decode cX10_chain 10 = .ok (.ireturn, 1) := by decide +kernel
theorem dX10_chain_11 : decode cX10_chain 11 = .ok (.aload_n 0, 1) := by decide +kernel
theorem dX10_chain_12 : decode cX10_chain 12 = .ok (.iconst (-1), 1) := by decide +kernel
theorem dX10_chain_13 : decode cX10_chain 13 = .ok (.invokevirtual 331, 3) := by decide +kernel
theorem dX10_chain_16 : decode cX10_chain 16 = .ok (.aload_n 0, 1) := by decide +kernel
theorem dX10_chain_17 : decode cX10_chain 17 = .ok (.invokevirtual 334, 3) := by decide +kernel
theorem dX10_chain_20 : decode cX10_chain 20 = .ok (.ifCond .ne 6, 3) := by decide +kernel
theorem dX10_chain_23 : decode cX10_chain 23 = .ok (.bipush (-3), 2) := by decide +kernel
theorem dX10_chain_25 : decode cX10_chain 25 = .ok (.ireturn, 1) := by decide +kernel
theorem dX10_chain_26 : decode cX10_chain 26 = .ok (.iconst 0, 1) := by decide +kernel
theorem dX10_chain_27 : decode cX10_chain 27 = .ok (.istore_n 2, 1) := by decide +kernel
theorem dX10_chain_28 : decode cX10_chain 28 = .ok (.iload_n 2, 1) := by decide +kernel
theorem dX10_chain_29 : decode cX10_chain 29 = .ok (.bipush 12, 2) := by decide +kernel
theorem dX10_chain_31 : decode cX10_chain 31 = .ok (.if_icmp .ge 16, 3) := by decide +kernel
theorem dX10_chain_34 : decode cX10_chain 34 = .ok (.aload_n 0, 1) := by decide +kernel
theorem dX10_chain_35 : decode cX10_chain 35 = .ok (.getfield 105, 3) := by decide +kernel
theorem dX10_chain_38 : decode cX10_chain 38 = .ok (.iload_n 2, 1) := by decide +kernel
theorem dX10_chain_39 : decode cX10_chain 39 = .ok (.iconst 1, 1) := by decide +kernel
theorem dX10_chain_40 : decode cX10_chain 40 = .ok (.iastore, 1) := by decide +kernel
theorem dX10_chain_41 : decode cX10_chain 41 = .ok (.iinc 2 1, 3) := by decide +kernel
theorem dX10_chain_44 : decode cX10_chain 44 = .ok (.goto (-16), 3) := by decide +kernel
theorem dX10_chain_47 : decode cX10_chain 47 = .ok (.iconst 0, 1) := by decide +kernel
theorem dX10_chain_48 : decode cX10_chain 48 = .ok (.istore_n 2, 1) := by decide +kernel
theorem dX10_chain_49 : decode cX10_chain 49 = .ok (.iload_n 2, 1) := by decide +kernel
theorem dX10_chain_50 : decode cX10_chain 50 = .ok (.sipush 1728, 3) := by decide +kernel
theorem dX10_chain_53 : decode cX10_chain 53 = .ok (.if_icmp .ge 58, 3) := by decide +kernel
theorem dX10_chain_56 : decode cX10_chain 56 = .ok (.iload_n 2, 1) := by decide +kernel
theorem dX10_chain_57 : decode cX10_chain 57 = .ok (.bipush 12, 2) := by decide +kernel
theorem dX10_chain_59 : decode cX10_chain 59 = .ok (.idiv, 1) := by decide +kernel
theorem dX10_chain_60 : decode cX10_chain 60 = .ok (.bipush 12, 2) := by decide +kernel
theorem dX10_chain_62 : decode cX10_chain 62 = .ok (.irem, 1) := by decide +kernel
theorem dX10_chain_63 : decode cX10_chain 63 = .ok (.istore_n 3, 1) := by decide +kernel
theorem dX10_chain_64 : decode cX10_chain 64 = .ok (.aload_n 0, 1) := by decide +kernel
theorem dX10_chain_65 : decode cX10_chain 65 = .ok (.iload_n 3, 1) := by decide +kernel
theorem dX10_chain_66 : decode cX10_chain 66 = .ok (.invokevirtual 361, 3) := by decide +kernel
theorem dX10_chain_69 : decode cX10_chain 69 = .ok (.iload_n 2, 1) := by decide +kernel
theorem dX10_chain_70 : decode cX10_chain 70 = .ok (.bipush 12, 2) := by decide +kernel
theorem dX10_chain_72 : decode cX10_chain 72 = .ok (.irem, 1) := by decide +kernel
theorem dX10_chain_73 : decode cX10_chain 73 = .ok (.invokestatic 157, 3) := by decide +kernel
theorem dX10_chain_76 : decode cX10_chain 76 = .ok (.ifCond .eq 29, 3) := by decide +kernel
theorem dX10_chain_79 : decode cX10_chain 79 = .ok (.aload_n 0, 1) := by decide +kernel
theorem dX10_chain_80 : decode cX10_chain 80 = .ok (.getfield 105, 3) := by decide +kernel
theorem dX10_chain_83 : decode cX10_chain 83 = .ok (.iload_n 3, 1) := by decide +kernel
theorem dX10_chain_84 : decode cX10_chain 84 = .ok (.aload_n 0, 1) := by decide +kernel
theorem dX10_chain_85 : decode cX10_chain 85 = .ok (.getfield 105, 3) := by decide +kernel
theorem dX10_chain_88 : decode cX10_chain 88 = .ok (.iload_n 3, 1) := by decide +kernel
theorem dX10_chain_89 : decode cX10_chain 89 = .ok (.iaload, 1) := by decide +kernel
theorem dX10_chain_90 : decode cX10_chain 90 = .ok (.aload_n 0, 1) := by decide +kernel
theorem dX10_chain_91 : decode cX10_chain 91 = .ok (.getfield 105, 3) := by decide +kernel
theorem dX10_chain_94 : decode cX10_chain 94 = .ok (.iload_n 2, 1) := by decide +kernel
theorem dX10_chain_95 : decode cX10_chain 95 = .ok (.bipush 12, 2) := by decide +kernel
theorem dX10_chain_97 : decode cX10_chain 97 = .ok (.irem, 1) := by decide +kernel
theorem dX10_chain_98 : decode cX10_chain 98 = .ok (.iaload, 1) := by decide +kernel
theorem dX10_chain_99 : decode cX10_chain 99 = .ok (.iconst 1, 1) := by decide +kernel
theorem dX10_chain_100 : decode cX10_chain 100 = .ok (.iadd, 1) := by decide +kernel
theorem dX10_chain_101 : decode cX10_chain 101 = .ok (.invokestatic 328, 3) := by decide +kernel
theorem dX10_chain_104 : decode cX10_chain 104 = .ok (.iastore, 1) := by decide +kernel
theorem dX10_chain_105 : decode cX10_chain 105 = .ok (.iinc 2 1, 3) := by decide +kernel
theorem dX10_chain_108 : decode cX10_chain 108 = .ok (.goto (-59), 3) := by decide +kernel
theorem dX10_chain_111 : decode cX10_chain 111 = .ok (.iconst 0, 1) := by decide +kernel
theorem dX10_chain_112 : decode cX10_chain 112 = .ok (.istore_n 2, 1) := by decide +kernel
theorem dX10_chain_113 : decode cX10_chain 113 = .ok (.iconst 1, 1) := by decide +kernel
theorem dX10_chain_114 : decode cX10_chain 114 = .ok (.istore_n 3, 1) := by decide +kernel
theorem dX10_chain_115 : decode cX10_chain 115 = .ok (.iload_n 3, 1) := by decide +kernel
theorem dX10_chain_116 : decode cX10_chain 116 = .ok (.bipush 12, 2) := by decide +kernel
theorem dX10_chain_118 : decode cX10_chain 118 = .ok (.if_icmp .ge 26, 3) := by decide +kernel
theorem dX10_chain_121 : decode cX10_chain 121 = .ok (.aload_n 0, 1) := by decide +kernel
theorem dX10_chain_122 : decode cX10_chain 122 = .ok (.getfield 105, 3) := by decide +kernel
theorem dX10_chain_125 : decode cX10_chain 125 = .ok (.iload_n 3, 1) := by decide +kernel
theorem dX10_chain_126 : decode cX10_chain 126 = .ok (.iaload, 1) := by decide +kernel
theorem dX10_chain_127 : decode cX10_chain 127 = .ok (.aload_n 0, 1) := by decide +kernel
theorem dX10_chain_128 : decode cX10_chain 128 = .ok (.getfield 105, 3) := by decide +kernel
theorem dX10_chain_131 : decode cX10_chain 131 = .ok (.iload_n 2, 1) := by decide +kernel
theorem dX10_chain_132 : decode cX10_chain 132 = .ok (.iaload, 1) := by decide +kernel
theorem dX10_chain_133 : decode cX10_chain 133 = .ok (.if_icmp .le 5, 3) := by decide +kernel
theorem dX10_chain_136 : decode cX10_chain 136 = .ok (.iload_n 3, 1) := by decide +kernel
theorem dX10_chain_137 : decode cX10_chain 137 = .ok (.istore_n 2, 1) := by decide +kernel
theorem dX10_chain_138 : decode cX10_chain 138 = .ok (.iinc 3 1, 3) := by decide +kernel
theorem dX10_chain_141 : decode cX10_chain 141 = .ok (.goto (-26), 3) := by decide +kernel
theorem dX10_chain_144 : decode cX10_chain 144 = .ok (.iload_n 1, 1) := by decide +kernel
theorem dX10_chain_145 : decode cX10_chain 145 = .ok (.ifCond .ne 12, 3) := by decide +kernel
theorem dX10_chain_148 : decode cX10_chain 148 = .ok (.aload_n 0, 1) := by decide +kernel
theorem dX10_chain_149 : decode cX10_chain 149 = .ok (.getfield 105, 3) := by decide +kernel
theorem dX10_chain_152 : decode cX10_chain 152 = .ok (.iload_n 2, 1) := by decide +kernel
theorem dX10_chain_153 : decode cX10_chain 153 = .ok (.iaload, 1) := by decide +kernel
theorem dX10_chain_154 : decode cX10_chain 154 = .ok (.goto 4, 3) := by decide +kernel
theorem dX10_chain_157 : decode cX10_chain 157 = .ok (.iload_n 2, 1) := by decide +kernel
theorem dX10_chain_158 : decode cX10_chain 158 = .ok (.ireturn, 1) := by decide +kernel
theorem dX10_orders_0 : decode cX10_orders 0 = .ok (.iload_n 1, 1) := by decide +kernel
theorem dX10_orders_1 : decode cX10_orders 1 = .ok (.iconst 0, 1) := by decide +kernel
theorem dX10_orders_2 : decode cX10_orders 2 = .ok (.sipush 4095, 3) := by decide +kernel
theorem dX10_orders_5 : decode cX10_orders 5 = .ok (.invokestatic 161, 3) := by decide +kernel
theorem dX10_orders_8 : decode cX10_orders 8 = .ok (.ifCond .ne 5, 3) := by decide +kernel
theorem dX10_orders_11 : decode cX10_orders 11 = .ok (.iconst (-1), 1) := by decide +kernel
theorem dX10_orders_12 : decode cX10_orders 12 = .ok (.ireturn, 1) := by decide +kernel
theorem dX10_orders_13 : decode cX10_orders 13 = .ok (.aload_n 0, 1) := by decide +kernel
theorem dX10_orders_14 : decode cX10_orders 14 = .ok (.iconst (-1), 1) := by decide +kernel
theorem dX10_orders_15 : decode cX10_orders 15 = .ok (.invokevirtual 331, 3) := by decide +kernel
theorem dX10_orders_18 : decode cX10_orders 18 = .ok (.aload_n 0, 1) := by decide +kernel
theorem dX10_orders_19 : decode cX10_orders 19 = .ok (.invokevirtual 334, 3) := by decide +kernel
theorem dX10_orders_22 : decode cX10_orders 22 = .ok (.ifCond .ne 6, 3) := by decide +kernel
theorem dX10_orders_25 : decode cX10_orders 25 = .ok (.bipush (-3), 2) := by decide +kernel
theorem dX10_orders_27 : decode cX10_orders 27 = .ok (.ireturn, 1) := by decide +kernel
theorem dX10_orders_28 : decode cX10_orders 28 = .ok (.iconst 0, 1) := by decide +kernel
theorem dX10_orders_29 : decode cX10_orders 29 = .ok (.istore_n 2, 1) := by decide +kernel
theorem dX10_orders_30 : decode cX10_orders 30 = .ok (.iload_n 2, 1) := by decide +kernel
theorem dX10_orders_31 : decode cX10_orders 31 = .ok (.bipush 12, 2) := by decide +kernel
theorem dX10_orders_33 : decode cX10_orders 33 = .ok (.if_icmp .ge 22, 3) := by decide +kernel
theorem dX10_orders_36 : decode cX10_orders 36 = .ok (.aload_n 0, 1) := by decide +kernel
theorem dX10_orders_37 : decode cX10_orders 37 = .ok (.getfield 111, 3) := by decide +kernel
theorem dX10_orders_40 : decode cX10_orders 40 = .ok (.iload_n 2, 1) := by decide +kernel
theorem dX10_orders_41 : decode cX10_orders 41 = .ok (.aload_n 0, 1) := by decide +kernel
theorem dX10_orders_42 : decode cX10_orders 42 = .ok (.iload_n 2, 1) := by decide +kernel
theorem dX10_orders_43 : decode cX10_orders 43 = .ok (.invokevirtual 364, 3) := by decide +kernel
theorem dX10_orders_46 : decode cX10_orders 46 = .ok (.iload_n 1, 1) := by decide +kernel
theorem dX10_orders_47 : decode cX10_orders 47 = .ok (.iand, 1) := by decide +kernel
theorem dX10_orders_48 : decode cX10_orders 48 = .ok (.iastore, 1) := by decide +kernel
theorem dX10_orders_49 : decode cX10_orders 49 = .ok (.iinc 2 1, 3) := by decide +kernel
theorem dX10_orders_52 : decode cX10_orders 52 = .ok (.goto (-22), 3) := by decide +kernel
theorem dX10_orders_55 : decode cX10_orders 55 = .ok (.iconst 0, 1) := by decide +kernel
theorem dX10_orders_56 : decode cX10_orders 56 = .ok (.istore_n 2, 1) := by decide +kernel
theorem dX10_orders_57 : decode cX10_orders 57 = .ok (.iload_n 2, 1) := by decide +kernel
theorem dX10_orders_58 : decode cX10_orders 58 = .ok (.iload_n 1, 1) := by decide +kernel
theorem dX10_orders_59 : decode cX10_orders 59 = .ok (.if_icmp .gt 97, 3) := by decide +kernel
theorem dX10_orders_62 : decode cX10_orders 62 = .ok (.aload_n 0, 1) := by decide +kernel
theorem dX10_orders_63 : decode cX10_orders 63 = .ok (.getfield 108, 3) := by decide +kernel
theorem dX10_orders_66 : decode cX10_orders 66 = .ok (.iload_n 2, 1) := by decide +kernel
theorem dX10_orders_67 : decode cX10_orders 67 = .ok (.iload_n 2, 1) := by decide +kernel
theorem dX10_orders_68 : decode cX10_orders 68 = .ok (.ifCond .ne 7, 3) := by decide +kernel
theorem dX10_orders_71 : decode cX10_orders 71 = .ok (.iconst 1, 1) := by decide +kernel
theorem dX10_orders_72 : decode cX10_orders 72 = .ok (.goto 4, 3) := by decide +kernel
theorem dX10_orders_75 : decode cX10_orders 75 = .ok (.iconst 0, 1) := by decide +kernel
theorem dX10_orders_76 : decode cX10_orders 76 = .ok (.iastore, 1) := by decide +kernel
theorem dX10_orders_77 : decode cX10_orders 77 = .ok (.iconst 0, 1) := by decide +kernel
theorem dX10_orders_78 : decode cX10_orders 78 = .ok (.istore_n 3, 1) := by decide +kernel
theorem dX10_orders_79 : decode cX10_orders 79 = .ok (.iload_n 3, 1) := by decide +kernel
theorem dX10_orders_80 : decode cX10_orders 80 = .ok (.bipush 12, 2) := by decide +kernel
theorem dX10_orders_82 : decode cX10_orders 82 = .ok (.if_icmp .ge 68, 3) := by decide +kernel
theorem dX10_orders_85 : decode cX10_orders 85 = .ok (.iload_n 2, 1) := by decide +kernel
theorem dX10_orders_86 : decode cX10_orders 86 = .ok (.iconst 1, 1) := by decide +kernel
theorem dX10_orders_87 : decode cX10_orders 87 = .ok (.iload_n 3, 1) := by decide +kernel
theorem dX10_orders_88 : decode cX10_orders 88 = .ok (.ishl, 1) := by decide +kernel
theorem dX10_orders_89 : decode cX10_orders 89 = .ok (.iconst (-1), 1) := by decide +kernel
theorem dX10_orders_90 : decode cX10_orders 90 = .ok (.ixor, 1) := by decide +kernel
theorem dX10_orders_91 : decode cX10_orders 91 = .ok (.iand, 1) := by decide +kernel
theorem dX10_orders_92 : decode cX10_orders 92 = .ok (.istore 4, 2) := by decide +kernel
theorem dX10_orders_94 : decode cX10_orders 94 = .ok (.iload_n 2, 1) := by decide +kernel
theorem dX10_orders_95 : decode cX10_orders 95 = .ok (.iload_n 3, 1) := by decide +kernel
theorem dX10_orders_96 : decode cX10_orders 96 = .ok (.invokestatic 157, 3) := by decide +kernel
theorem dX10_orders_99 : decode cX10_orders 99 = .ok (.ifCond .eq 45, 3) := by decide +kernel
theorem dX10_orders_102 : decode cX10_orders 102 = .ok (.iload_n 2, 1) := by decide +kernel
theorem dX10_orders_103 : decode cX10_orders 103 = .ok (.iload_n 1, 1) := by decide +kernel
theorem dX10_orders_104 : decode cX10_orders 104 = .ok (.iconst (-1), 1) := by decide +kernel
theorem dX10_orders_105 : decode cX10_orders 105 = .ok (.ixor, 1) := by decide +kernel
theorem dX10_orders_106 : decode cX10_orders 106 = .ok (.iand, 1) := by decide +kernel
theorem dX10_orders_107 : decode cX10_orders 107 = .ok (.ifCond .ne 37, 3) := by decide +kernel
theorem dX10_orders_110 : decode cX10_orders 110 = .ok (.aload_n 0, 1) := by decide +kernel
theorem dX10_orders_111 : decode cX10_orders 111 = .ok (.getfield 111, 3) := by decide +kernel
theorem dX10_orders_114 : decode cX10_orders 114 = .ok (.iload_n 3, 1) := by decide +kernel
theorem dX10_orders_115 : decode cX10_orders 115 = .ok (.iaload, 1) := by decide +kernel
theorem dX10_orders_116 : decode cX10_orders 116 = .ok (.iload 4, 2) := by decide +kernel
theorem dX10_orders_118 : decode cX10_orders 118 = .ok (.iconst (-1), 1) := by decide +kernel
theorem dX10_orders_119 : decode cX10_orders 119 = .ok (.ixor, 1) := by decide +kernel
theorem dX10_orders_120 : decode cX10_orders 120 = .ok (.iand, 1) := by decide +kernel
theorem dX10_orders_121 : decode cX10_orders 121 = .ok (.ifCond .ne 23, 3) := by decide +kernel
theorem dX10_orders_124 : decode cX10_orders 124 = .ok (.aload_n 0, 1) := by decide +kernel
theorem dX10_orders_125 : decode cX10_orders 125 = .ok (.getfield 108, 3) := by decide +kernel
theorem dX10_orders_128 : decode cX10_orders 128 = .ok (.iload_n 2, 1) := by decide +kernel
theorem dX10_orders_129 : decode cX10_orders 129 = .ok (.aload_n 0, 1) := by decide +kernel
theorem dX10_orders_130 : decode cX10_orders 130 = .ok (.getfield 108, 3) := by decide +kernel
theorem dX10_orders_133 : decode cX10_orders 133 = .ok (.iload_n 2, 1) := by decide +kernel
theorem dX10_orders_134 : decode cX10_orders 134 = .ok (.iaload, 1) := by decide +kernel
theorem dX10_orders_135 : decode cX10_orders 135 = .ok (.aload_n 0, 1) := by decide +kernel
theorem dX10_orders_136 : decode cX10_orders 136 = .ok (.getfield 108, 3) := by decide +kernel
theorem dX10_orders_139 : decode cX10_orders 139 = .ok (.iload 4, 2) := by decide +kernel
theorem dX10_orders_141 : decode cX10_orders 141 = .ok (.iaload, 1) := by decide +kernel
theorem dX10_orders_142 : decode cX10_orders 142 = .ok (.iadd, 1) := by decide +kernel
theorem dX10_orders_143 : decode cX10_orders 143 = .ok (.iastore, 1) := by decide +kernel
theorem dX10_orders_144 : decode cX10_orders 144 = .ok (.iinc 3 1, 3) := by decide +kernel
theorem dX10_orders_147 : decode cX10_orders 147 = .ok (.goto (-68), 3) := by decide +kernel
theorem dX10_orders_150 : decode cX10_orders 150 = .ok (.iinc 2 1, 3) := by decide +kernel
theorem dX10_orders_153 : decode cX10_orders 153 = .ok (.goto (-96), 3) := by decide +kernel
theorem dX10_orders_156 : decode cX10_orders 156 = .ok (.aload_n 0, 1) := by decide +kernel
theorem dX10_orders_157 : decode cX10_orders 157 = .ok (.getfield 108, 3) := by decide +kernel
theorem dX10_orders_160 : decode cX10_orders 160 = .ok (.iload_n 1, 1) := by decide +kernel
theorem dX10_orders_161 : decode cX10_orders 161 = .ok (.iaload, 1) := by decide +kernel
theorem dX10_orders_162 : decode cX10_orders 162 = .ok (.ireturn, 1) := by decide +kernel
theorem dX10_claimHolds_0 : decode cX10_claimHolds 0 = .ok (.aload_n 0, 1) := by decide +kernel
theorem dX10_claimHolds_1 : decode cX10_claimHolds 1 = .ok (.getfield 114, 3) := by decide +kernel
theorem dX10_claimHolds_4 : decode cX10_claimHolds 4 = .ok (.aload_n 0, 1) := by decide +kernel
theorem dX10_claimHolds_5 : decode cX10_claimHolds 5 = .ok (.getfield 19, 3) := by decide +kernel
theorem dX10_claimHolds_8 : decode cX10_claimHolds 8 = .ok (.iload_n 1, 1) := by decide +kernel
theorem dX10_claimHolds_9 : decode cX10_claimHolds 9 = .ok (.iaload, 1) := by decide +kernel
theorem dX10_claimHolds_10 : decode cX10_claimHolds 10 = .ok (.iaload, 1) := by decide +kernel
theorem dX10_claimHolds_11 : decode cX10_claimHolds 11 = .ok (.aload_n 0, 1) := by decide +kernel
theorem dX10_claimHolds_12 : decode cX10_claimHolds 12 = .ok (.getfield 114, 3) := by decide +kernel
theorem dX10_claimHolds_15 : decode cX10_claimHolds 15 = .ok (.aload_n 0, 1) := by decide +kernel
theorem dX10_claimHolds_16 : decode cX10_claimHolds 16 = .ok (.getfield 22, 3) := by decide +kernel
theorem dX10_claimHolds_19 : decode cX10_claimHolds 19 = .ok (.iload_n 1, 1) := by decide +kernel
theorem dX10_claimHolds_20 : decode cX10_claimHolds 20 = .ok (.iaload, 1) := by decide +kernel
theorem dX10_claimHolds_21 : decode cX10_claimHolds 21 = .ok (.iaload, 1) := by decide +kernel
theorem dX10_claimHolds_22 : decode cX10_claimHolds 22 = .ok (.isub, 1) := by decide +kernel
theorem dX10_claimHolds_23 : decode cX10_claimHolds 23 = .ok (.istore_n 2, 1) := by decide +kernel
theorem dX10_claimHolds_24 : decode cX10_claimHolds 24 = .ok (.aload_n 0, 1) := by decide +kernel
theorem dX10_claimHolds_25 : decode cX10_claimHolds 25 = .ok (.getfield 25, 3) := by decide +kernel
theorem dX10_claimHolds_28 : decode cX10_claimHolds 28 = .ok (.iload_n 1, 1) := by decide +kernel
theorem dX10_claimHolds_29 : decode cX10_claimHolds 29 = .ok (.iaload, 1) := by decide +kernel
theorem dX10_claimHolds_30 : decode cX10_claimHolds 30 = .ok (.ifCond .ne 21, 3) := by decide +kernel
theorem dX10_claimHolds_33 : decode cX10_claimHolds 33 = .ok (.iload_n 2, 1) := by decide +kernel
theorem dX10_claimHolds_34 : decode cX10_claimHolds 34 = .ok (.aload_n 0, 1) := by decide +kernel
theorem dX10_claimHolds_35 : decode cX10_claimHolds 35 = .ok (.getfield 28, 3) := by decide +kernel
theorem dX10_claimHolds_38 : decode cX10_claimHolds 38 = .ok (.iload_n 1, 1) := by decide +kernel
theorem dX10_claimHolds_39 : decode cX10_claimHolds 39 = .ok (.iaload, 1) := by decide +kernel
theorem dX10_claimHolds_40 : decode cX10_claimHolds 40 = .ok (.if_icmp .ne 7, 3) := by decide +kernel
theorem dX10_claimHolds_43 : decode cX10_claimHolds 43 = .ok (.iconst 1, 1) := by decide +kernel
theorem dX10_claimHolds_44 : decode cX10_claimHolds 44 = .ok (.goto 50, 3) := by decide +kernel
theorem dX10_claimHolds_47 : decode cX10_claimHolds 47 = .ok (.iconst 0, 1) := by decide +kernel
theorem dX10_claimHolds_48 : decode cX10_claimHolds 48 = .ok (.goto 46, 3) := by decide +kernel
theorem dX10_claimHolds_51 : decode cX10_claimHolds 51 = .ok (.aload_n 0, 1) := by decide +kernel
theorem dX10_claimHolds_52 : decode cX10_claimHolds 52 = .ok (.getfield 25, 3) := by decide +kernel
theorem dX10_claimHolds_55 : decode cX10_claimHolds 55 = .ok (.iload_n 1, 1) := by decide +kernel
theorem dX10_claimHolds_56 : decode cX10_claimHolds 56 = .ok (.iaload, 1) := by decide +kernel
theorem dX10_claimHolds_57 : decode cX10_claimHolds 57 = .ok (.iconst 1, 1) := by decide +kernel
theorem dX10_claimHolds_58 : decode cX10_claimHolds 58 = .ok (.if_icmp .ne 21, 3) := by decide +kernel
theorem dX10_claimHolds_61 : decode cX10_claimHolds 61 = .ok (.iload_n 2, 1) := by decide +kernel
theorem dX10_claimHolds_62 : decode cX10_claimHolds 62 = .ok (.aload_n 0, 1) := by decide +kernel
theorem dX10_claimHolds_63 : decode cX10_claimHolds 63 = .ok (.getfield 28, 3) := by decide +kernel
theorem dX10_claimHolds_66 : decode cX10_claimHolds 66 = .ok (.iload_n 1, 1) := by decide +kernel
theorem dX10_claimHolds_67 : decode cX10_claimHolds 67 = .ok (.iaload, 1) := by decide +kernel
theorem dX10_claimHolds_68 : decode cX10_claimHolds 68 = .ok (.if_icmp .gt 7, 3) := by decide +kernel
theorem dX10_claimHolds_71 : decode cX10_claimHolds 71 = .ok (.iconst 1, 1) := by decide +kernel
theorem dX10_claimHolds_72 : decode cX10_claimHolds 72 = .ok (.goto 22, 3) := by decide +kernel
theorem dX10_claimHolds_75 : decode cX10_claimHolds 75 = .ok (.iconst 0, 1) := by decide +kernel
theorem dX10_claimHolds_76 : decode cX10_claimHolds 76 = .ok (.goto 18, 3) := by decide +kernel
theorem dX10_claimHolds_79 : decode cX10_claimHolds 79 = .ok (.iload_n 2, 1) := by decide +kernel
theorem dX10_claimHolds_80 : decode cX10_claimHolds 80 = .ok (.aload_n 0, 1) := by decide +kernel
theorem dX10_claimHolds_81 : decode cX10_claimHolds 81 = .ok (.getfield 28, 3) := by decide +kernel
theorem dX10_claimHolds_84 : decode cX10_claimHolds 84 = .ok (.iload_n 1, 1) := by decide +kernel
theorem dX10_claimHolds_85 : decode cX10_claimHolds 85 = .ok (.iaload, 1) := by decide +kernel
theorem dX10_claimHolds_86 : decode cX10_claimHolds 86 = .ok (.if_icmp .lt 7, 3) := by decide +kernel
theorem dX10_claimHolds_89 : decode cX10_claimHolds 89 = .ok (.iconst 1, 1) := by decide +kernel
theorem dX10_claimHolds_90 : decode cX10_claimHolds 90 = .ok (.goto 4, 3) := by decide +kernel
theorem dX10_claimHolds_93 : decode cX10_claimHolds 93 = .ok (.iconst 0, 1) := by decide +kernel
theorem dX10_claimHolds_94 : decode cX10_claimHolds 94 = .ok (.ireturn, 1) := by decide +kernel
theorem dX10_weighings_0 : decode cX10_weighings 0 = .ok (.iload_n 1, 1) := by decide +kernel
theorem dX10_weighings_1 : decode cX10_weighings 1 = .ok (.iconst 1, 1) := by decide +kernel
theorem dX10_weighings_2 : decode cX10_weighings 2 = .ok (.sipush 4095, 3) := by decide +kernel
theorem dX10_weighings_5 : decode cX10_weighings 5 = .ok (.invokestatic 161, 3) := by decide +kernel
theorem dX10_weighings_8 : decode cX10_weighings 8 = .ok (.ifCond .eq 21, 3) := by decide +kernel
theorem dX10_weighings_11 : decode cX10_weighings 11 = .ok (.iload_n 1, 1) := by decide +kernel
theorem dX10_weighings_12 : decode cX10_weighings 12 = .ok (.invokestatic 349, 3) := by decide +kernel
theorem dX10_weighings_15 : decode cX10_weighings 15 = .ok (.iconst 4, 1) := by decide +kernel
theorem dX10_weighings_16 : decode cX10_weighings 16 = .ok (.if_icmp .gt 13, 3) := by decide +kernel
theorem dX10_weighings_19 : decode cX10_weighings 19 = .ok (.iload_n 2, 1) := by decide +kernel
theorem dX10_weighings_20 : decode cX10_weighings 20 = .ok (.iconst 0, 1) := by decide +kernel
theorem dX10_weighings_21 : decode cX10_weighings 21 = .ok (.bipush 9, 2) := by decide +kernel
theorem dX10_weighings_23 : decode cX10_weighings 23 = .ok (.invokestatic 161, 3) := by decide +kernel
theorem dX10_weighings_26 : decode cX10_weighings 26 = .ok (.ifCond .ne 5, 3) := by decide +kernel
theorem dX10_weighings_29 : decode cX10_weighings 29 = .ok (.iconst (-1), 1) := by decide +kernel
theorem dX10_weighings_30 : decode cX10_weighings 30 = .ok (.ireturn, 1) := by decide +kernel
theorem dX10_weighings_31 : decode cX10_weighings 31 = .ok (.iconst 1, 1) := by decide +kernel
theorem dX10_weighings_32 : decode cX10_weighings 32 = .ok (.istore_n 3, 1) := by decide +kernel
theorem dX10_weighings_33 : decode cX10_weighings 33 = .ok (.iconst 0, 1) := by decide +kernel
theorem dX10_weighings_34 : decode cX10_weighings 34 = .ok (.istore 4, 2) := by decide +kernel
theorem dX10_weighings_36 : decode cX10_weighings 36 = .ok (.iload 4, 2) := by decide +kernel
theorem dX10_weighings_38 : decode cX10_weighings 38 = .ok (.iload_n 1, 1) := by decide +kernel
theorem dX10_weighings_39 : decode cX10_weighings 39 = .ok (.invokestatic 349, 3) := by decide +kernel
theorem dX10_weighings_42 : decode cX10_weighings 42 = .ok (.if_icmp .ge 15, 3) := by decide +kernel
theorem dX10_weighings_45 : decode cX10_weighings 45 = .ok (.iload_n 3, 1) := by decide +kernel
theorem dX10_weighings_46 : decode cX10_weighings 46 = .ok (.iload_n 2, 1) := by decide +kernel
theorem dX10_weighings_47 : decode cX10_weighings 47 = .ok (.iconst 1, 1) := by decide +kernel
theorem dX10_weighings_48 : decode cX10_weighings 48 = .ok (.iadd, 1) := by decide +kernel
theorem dX10_weighings_49 : decode cX10_weighings 49 = .ok (.imul, 1) := by decide +kernel
theorem dX10_weighings_50 : decode cX10_weighings 50 = .ok (.istore_n 3, 1) := by decide +kernel
theorem dX10_weighings_51 : decode cX10_weighings 51 = .ok (.iinc 4 1, 3) := by decide +kernel
theorem dX10_weighings_54 : decode cX10_weighings 54 = .ok (.goto (-18), 3) := by decide +kernel
theorem dX10_weighings_57 : decode cX10_weighings 57 = .ok (.iconst 0, 1) := by decide +kernel
theorem dX10_weighings_58 : decode cX10_weighings 58 = .ok (.istore 4, 2) := by decide +kernel
theorem dX10_weighings_60 : decode cX10_weighings 60 = .ok (.iconst 0, 1) := by decide +kernel
theorem dX10_weighings_61 : decode cX10_weighings 61 = .ok (.istore 5, 2) := by decide +kernel
theorem dX10_weighings_63 : decode cX10_weighings 63 = .ok (.iload 5, 2) := by decide +kernel
theorem dX10_weighings_65 : decode cX10_weighings 65 = .ok (.iload_n 3, 1) := by decide +kernel
theorem dX10_weighings_66 : decode cX10_weighings 66 = .ok (.if_icmp .ge 143, 3) := by decide +kernel
theorem dX10_weighings_69 : decode cX10_weighings 69 = .ok (.iload 5, 2) := by decide +kernel
theorem dX10_weighings_71 : decode cX10_weighings 71 = .ok (.istore 6, 2) := by decide +kernel
theorem dX10_weighings_73 : decode cX10_weighings 73 = .ok (.iconst 0, 1) := by decide +kernel
theorem dX10_weighings_74 : decode cX10_weighings 74 = .ok (.istore 7, 2) := by decide +kernel
theorem dX10_weighings_76 : decode cX10_weighings 76 = .ok (.iload 7, 2) := by decide +kernel
theorem dX10_weighings_78 : decode cX10_weighings 78 = .ok (.bipush 12, 2) := by decide +kernel
theorem dX10_weighings_80 : decode cX10_weighings 80 = .ok (.if_icmp .ge 42, 3) := by decide +kernel
theorem dX10_weighings_83 : decode cX10_weighings 83 = .ok (.iload_n 1, 1) := by decide +kernel
theorem dX10_weighings_84 : decode cX10_weighings 84 = .ok (.iload 7, 2) := by decide +kernel
theorem dX10_weighings_86 : decode cX10_weighings 86 = .ok (.invokestatic 157, 3) := by decide +kernel
theorem dX10_weighings_89 : decode cX10_weighings 89 = .ok (.ifCond .ne 6, 3) := by decide +kernel
theorem dX10_weighings_92 : decode cX10_weighings 92 = .ok (.goto 24, 3) := by decide +kernel
theorem dX10_weighings_95 : decode cX10_weighings 95 = .ok (.aload_n 0, 1) := by decide +kernel
theorem dX10_weighings_96 : decode cX10_weighings 96 = .ok (.getfield 114, 3) := by decide +kernel
theorem dX10_weighings_99 : decode cX10_weighings 99 = .ok (.iload 7, 2) := by decide +kernel
theorem dX10_weighings_101 : decode cX10_weighings 101 = .ok (.iload 6, 2) := by decide +kernel
theorem dX10_weighings_103 : decode cX10_weighings 103 = .ok (.iload_n 2, 1) := by decide +kernel
theorem dX10_weighings_104 : decode cX10_weighings 104 = .ok (.iconst 1, 1) := by decide +kernel
theorem dX10_weighings_105 : decode cX10_weighings 105 = .ok (.iadd, 1) := by decide +kernel
theorem dX10_weighings_106 : decode cX10_weighings 106 = .ok (.irem, 1) := by decide +kernel
theorem dX10_weighings_107 : decode cX10_weighings 107 = .ok (.iastore, 1) := by decide +kernel
theorem dX10_weighings_108 : decode cX10_weighings 108 = .ok (.iload 6, 2) := by decide +kernel
theorem dX10_weighings_110 : decode cX10_weighings 110 = .ok (.iload_n 2, 1) := by decide +kernel
theorem dX10_weighings_111 : decode cX10_weighings 111 = .ok (.iconst 1, 1) := by decide +kernel
theorem dX10_weighings_112 : decode cX10_weighings 112 = .ok (.iadd, 1) := by decide +kernel
theorem dX10_weighings_113 : decode cX10_weighings 113 = .ok (.idiv, 1) := by decide +kernel
theorem dX10_weighings_114 : decode cX10_weighings 114 = .ok (.istore 6, 2) := by decide +kernel
theorem dX10_weighings_116 : decode cX10_weighings 116 = .ok (.iinc 7 1, 3) := by decide +kernel
theorem dX10_weighings_119 : decode cX10_weighings 119 = .ok (.goto (-43), 3) := by decide +kernel
theorem dX10_weighings_122 : decode cX10_weighings 122 = .ok (.iconst 1, 1) := by decide +kernel
theorem dX10_weighings_123 : decode cX10_weighings 123 = .ok (.istore 7, 2) := by decide +kernel
theorem dX10_weighings_125 : decode cX10_weighings 125 = .ok (.iconst 0, 1) := by decide +kernel
theorem dX10_weighings_126 : decode cX10_weighings 126 = .ok (.istore 8, 2) := by decide +kernel
theorem dX10_weighings_128 : decode cX10_weighings 128 = .ok (.iload 8, 2) := by decide +kernel
theorem dX10_weighings_130 : decode cX10_weighings 130 = .ok (.aload_n 0, 1) := by decide +kernel
theorem dX10_weighings_131 : decode cX10_weighings 131 = .ok (.getfield 307, 3) := by decide +kernel
theorem dX10_weighings_134 : decode cX10_weighings 134 = .ok (.if_icmp .ge 58, 3) := by decide +kernel
theorem dX10_weighings_137 : decode cX10_weighings 137 = .ok (.iload 7, 2) := by decide +kernel
theorem dX10_weighings_139 : decode cX10_weighings 139 = .ok (.ifCond .eq 53, 3) := by decide +kernel
theorem dX10_weighings_142 : decode cX10_weighings 142 = .ok (.iload_n 1, 1) := by decide +kernel
theorem dX10_weighings_143 : decode cX10_weighings 143 = .ok (.aload_n 0, 1) := by decide +kernel
theorem dX10_weighings_144 : decode cX10_weighings 144 = .ok (.getfield 19, 3) := by decide +kernel
theorem dX10_weighings_147 : decode cX10_weighings 147 = .ok (.iload 8, 2) := by decide +kernel
theorem dX10_weighings_149 : decode cX10_weighings 149 = .ok (.iaload, 1) := by decide +kernel
theorem dX10_weighings_150 : decode cX10_weighings 150 = .ok (.invokestatic 157, 3) := by decide +kernel
theorem dX10_weighings_153 : decode cX10_weighings 153 = .ok (.ifCond .eq 26, 3) := by decide +kernel
theorem dX10_weighings_156 : decode cX10_weighings 156 = .ok (.iload_n 1, 1) := by decide +kernel
theorem dX10_weighings_157 : decode cX10_weighings 157 = .ok (.aload_n 0, 1) := by decide +kernel
theorem dX10_weighings_158 : decode cX10_weighings 158 = .ok (.getfield 22, 3) := by decide +kernel
theorem dX10_weighings_161 : decode cX10_weighings 161 = .ok (.iload 8, 2) := by decide +kernel
theorem dX10_weighings_163 : decode cX10_weighings 163 = .ok (.iaload, 1) := by decide +kernel
theorem dX10_weighings_164 : decode cX10_weighings 164 = .ok (.invokestatic 157, 3) := by decide +kernel
theorem dX10_weighings_167 : decode cX10_weighings 167 = .ok (.ifCond .eq 12, 3) := by decide +kernel
theorem dX10_weighings_170 : decode cX10_weighings 170 = .ok (.aload_n 0, 1) := by decide +kernel
theorem dX10_weighings_171 : decode cX10_weighings 171 = .ok (.iload 8, 2) := by decide +kernel
theorem dX10_weighings_173 : decode cX10_weighings 173 = .ok (.invokevirtual 367, 3) := by decide +kernel
theorem dX10_weighings_176 : decode cX10_weighings 176 = .ok (.ifCond .eq 7, 3) := by decide +kernel
theorem dX10_weighings_179 : decode cX10_weighings 179 = .ok (.iconst 1, 1) := by decide +kernel
theorem dX10_weighings_180 : decode cX10_weighings 180 = .ok (.goto 4, 3) := by decide +kernel
theorem dX10_weighings_183 : decode cX10_weighings 183 = .ok (.iconst 0, 1) := by decide +kernel
theorem dX10_weighings_184 : decode cX10_weighings 184 = .ok (.istore 7, 2) := by decide +kernel
theorem dX10_weighings_186 : decode cX10_weighings 186 = .ok (.iinc 8 1, 3) := by decide +kernel
theorem dX10_weighings_189 : decode cX10_weighings 189 = .ok (.goto (-61), 3) := by decide +kernel
theorem dX10_weighings_192 : decode cX10_weighings 192 = .ok (.iload 7, 2) := by decide +kernel
theorem dX10_weighings_194 : decode cX10_weighings 194 = .ok (.ifCond .eq 9, 3) := by decide +kernel
theorem dX10_weighings_197 : decode cX10_weighings 197 = .ok (.iload 4, 2) := by decide +kernel
theorem dX10_weighings_199 : decode cX10_weighings 199 = .ok (.iconst 1, 1) := by decide +kernel
theorem dX10_weighings_200 : decode cX10_weighings 200 = .ok (.iadd, 1) := by decide +kernel
theorem dX10_weighings_201 : decode cX10_weighings 201 = .ok (.istore 4, 2) := by decide +kernel
theorem dX10_weighings_203 : decode cX10_weighings 203 = .ok (.iinc 5 1, 3) := by decide +kernel
theorem dX10_weighings_206 : decode cX10_weighings 206 = .ok (.goto (-143), 3) := by decide +kernel
theorem dX10_weighings_209 : decode cX10_weighings 209 = .ok (.iload 4, 2) := by decide +kernel
theorem dX10_weighings_211 : decode cX10_weighings 211 = .ok (.ireturn, 1) := by decide +kernel
theorem dX10_areAlike_0 : decode cX10_areAlike 0 = .ok (.iconst 1, 1) := by decide +kernel
theorem dX10_areAlike_1 : decode cX10_areAlike 1 = .ok (.istore_n 2, 1) := by decide +kernel
theorem dX10_areAlike_2 : decode cX10_areAlike 2 = .ok (.iload_n 2, 1) := by decide +kernel
theorem dX10_areAlike_3 : decode cX10_areAlike 3 = .ok (.iload_n 1, 1) := by decide +kernel
theorem dX10_areAlike_4 : decode cX10_areAlike 4 = .ok (.if_icmp .ge 27, 3) := by decide +kernel
theorem dX10_areAlike_7 : decode cX10_areAlike 7 = .ok (.aload_n 0, 1) := by decide +kernel
theorem dX10_areAlike_8 : decode cX10_areAlike 8 = .ok (.getfield 117, 3) := by decide +kernel
theorem dX10_areAlike_11 : decode cX10_areAlike 11 = .ok (.iload_n 2, 1) := by decide +kernel
theorem dX10_areAlike_12 : decode cX10_areAlike 12 = .ok (.laload, 1) := by decide +kernel
theorem dX10_areAlike_13 : decode cX10_areAlike 13 = .ok (.aload_n 0, 1) := by decide +kernel
theorem dX10_areAlike_14 : decode cX10_areAlike 14 = .ok (.getfield 117, 3) := by decide +kernel
theorem dX10_areAlike_17 : decode cX10_areAlike 17 = .ok (.iconst 0, 1) := by decide +kernel
theorem dX10_areAlike_18 : decode cX10_areAlike 18 = .ok (.laload, 1) := by decide +kernel
theorem dX10_areAlike_19 : decode cX10_areAlike 19 = .ok (.lcmp, 1) := by decide +kernel
theorem dX10_areAlike_20 : decode cX10_areAlike 20 = .ok (.ifCond .eq 5, 3) := by decide +kernel
theorem dX10_areAlike_23 : decode cX10_areAlike 23 = .ok (.iconst 0, 1) := by decide +kernel
theorem dX10_areAlike_24 : decode cX10_areAlike 24 = .ok (.ireturn, 1) := by decide +kernel
theorem dX10_areAlike_25 : decode cX10_areAlike 25 = .ok (.iinc 2 1, 3) := by decide +kernel
theorem dX10_areAlike_28 : decode cX10_areAlike 28 = .ok (.goto (-26), 3) := by decide +kernel
theorem dX10_areAlike_31 : decode cX10_areAlike 31 = .ok (.iconst 1, 1) := by decide +kernel
theorem dX10_areAlike_32 : decode cX10_areAlike 32 = .ok (.ireturn, 1) := by decide +kernel
theorem dX10_row_0 : decode cX10_row 0 = .ok (.iload_n 1, 1) := by decide +kernel
theorem dX10_row_1 : decode cX10_row 1 = .ok (.iconst 2, 1) := by decide +kernel
theorem dX10_row_2 : decode cX10_row 2 = .ok (.bipush 12, 2) := by decide +kernel
theorem dX10_row_4 : decode cX10_row 4 = .ok (.invokestatic 161, 3) := by decide +kernel
theorem dX10_row_7 : decode cX10_row 7 = .ok (.ifCond .eq 22, 3) := by decide +kernel
theorem dX10_row_10 : decode cX10_row 10 = .ok (.iload_n 2, 1) := by decide +kernel
theorem dX10_row_11 : decode cX10_row 11 = .ok (.iconst 0, 1) := by decide +kernel
theorem dX10_row_12 : decode cX10_row 12 = .ok (.iconst 1, 1) := by decide +kernel
theorem dX10_row_13 : decode cX10_row 13 = .ok (.invokestatic 161, 3) := by decide +kernel
theorem dX10_row_16 : decode cX10_row 16 = .ok (.ifCond .eq 13, 3) := by decide +kernel
theorem dX10_row_19 : decode cX10_row 19 = .ok (.iconst 2, 1) := by decide +kernel
theorem dX10_row_20 : decode cX10_row 20 = .ok (.iload_n 1, 1) := by decide +kernel
theorem dX10_row_21 : decode cX10_row 21 = .ok (.imul, 1) := by decide +kernel
theorem dX10_row_22 : decode cX10_row 22 = .ok (.aload_n 0, 1) := by decide +kernel
theorem dX10_row_23 : decode cX10_row 23 = .ok (.getfield 169, 3) := by decide +kernel
theorem dX10_row_26 : decode cX10_row 26 = .ok (.if_icmp .le 7, 3) := by decide +kernel
theorem dX10_row_29 : decode cX10_row 29 = .ok (.ldc2_w 370, 3) := by decide +kernel
theorem dX10_row_32 : decode cX10_row 32 = .ok (.lreturn, 1) := by decide +kernel
theorem dX10_row_33 : decode cX10_row 33 = .ok (.aload_n 0, 1) := by decide +kernel
theorem dX10_row_34 : decode cX10_row 34 = .ok (.iconst 0, 1) := by decide +kernel
theorem dX10_row_35 : decode cX10_row 35 = .ok (.putfield 169, 3) := by decide +kernel
theorem dX10_row_38 : decode cX10_row 38 = .ok (.iconst 0, 1) := by decide +kernel
theorem dX10_row_39 : decode cX10_row 39 = .ok (.istore_n 3, 1) := by decide +kernel
theorem dX10_row_40 : decode cX10_row 40 = .ok (.iload_n 3, 1) := by decide +kernel
theorem dX10_row_41 : decode cX10_row 41 = .ok (.iload_n 1, 1) := by decide +kernel
theorem dX10_row_42 : decode cX10_row 42 = .ok (.if_icmp .ge 37, 3) := by decide +kernel
theorem dX10_row_45 : decode cX10_row 45 = .ok (.aload_n 0, 1) := by decide +kernel
theorem dX10_row_46 : decode cX10_row 46 = .ok (.getfield 117, 3) := by decide +kernel
theorem dX10_row_49 : decode cX10_row 49 = .ok (.iload_n 3, 1) := by decide +kernel
theorem dX10_row_50 : decode cX10_row 50 = .ok (.aload_n 0, 1) := by decide +kernel
theorem dX10_row_51 : decode cX10_row 51 = .ok (.iconst 2, 1) := by decide +kernel
theorem dX10_row_52 : decode cX10_row 52 = .ok (.iload_n 3, 1) := by decide +kernel
theorem dX10_row_53 : decode cX10_row 53 = .ok (.imul, 1) := by decide +kernel
theorem dX10_row_54 : decode cX10_row 54 = .ok (.invokevirtual 372, 3) := by decide +kernel
theorem dX10_row_57 : decode cX10_row 57 = .ok (.sipush 256, 3) := by decide +kernel
theorem dX10_row_60 : decode cX10_row 60 = .ok (.imul, 1) := by decide +kernel
theorem dX10_row_61 : decode cX10_row 61 = .ok (.aload_n 0, 1) := by decide +kernel
theorem dX10_row_62 : decode cX10_row 62 = .ok (.iconst 2, 1) := by decide +kernel
theorem dX10_row_63 : decode cX10_row 63 = .ok (.iload_n 3, 1) := by decide +kernel
theorem dX10_row_64 : decode cX10_row 64 = .ok (.imul, 1) := by decide +kernel
theorem dX10_row_65 : decode cX10_row 65 = .ok (.iconst 1, 1) := by decide +kernel
theorem dX10_row_66 : decode cX10_row 66 = .ok (.iadd, 1) := by decide +kernel
theorem dX10_row_67 : decode cX10_row 67 = .ok (.invokevirtual 372, 3) := by decide +kernel
theorem dX10_row_70 : decode cX10_row 70 = .ok (.iadd, 1) := by decide +kernel
theorem dX10_row_71 : decode cX10_row 71 = .ok (.i2l, 1) := by decide +kernel
theorem dX10_row_72 : decode cX10_row 72 = .ok (.lastore, 1) := by decide +kernel
theorem dX10_row_73 : decode cX10_row 73 = .ok (.iinc 3 1, 3) := by decide +kernel
theorem dX10_row_76 : decode cX10_row 76 = .ok (.goto (-36), 3) := by decide +kernel
theorem dX10_row_79 : decode cX10_row 79 = .ok (.iload_n 1, 1) := by decide +kernel
theorem dX10_row_80 : decode cX10_row 80 = .ok (.istore_n 3, 1) := by decide +kernel
theorem dX10_row_81 : decode cX10_row 81 = .ok (.lconst 0, 1) := by decide +kernel
theorem dX10_row_82 : decode cX10_row 82 = .ok (.lstore 4, 2) := by decide +kernel
theorem dX10_row_84 : decode cX10_row 84 = .ok (.aload_n 0, 1) := by decide +kernel
theorem dX10_row_85 : decode cX10_row 85 = .ok (.iload_n 3, 1) := by decide +kernel
theorem dX10_row_86 : decode cX10_row 86 = .ok (.invokevirtual 375, 3) := by decide +kernel
theorem dX10_row_89 : decode cX10_row 89 = .ok (.ifCond .ne 60, 3) := by decide +kernel
theorem dX10_row_92 : decode cX10_row 92 = .ok (.iload_n 3, 1) := by decide +kernel
theorem dX10_row_93 : decode cX10_row 93 = .ok (.iconst 1, 1) := by decide +kernel
theorem dX10_row_94 : decode cX10_row 94 = .ok (.isub, 1) := by decide +kernel
theorem dX10_row_95 : decode cX10_row 95 = .ok (.istore_n 3, 1) := by decide +kernel
theorem dX10_row_96 : decode cX10_row 96 = .ok (.lload 4, 2) := by decide +kernel
theorem dX10_row_98 : decode cX10_row 98 = .ok (.aload_n 0, 1) := by decide +kernel
theorem dX10_row_99 : decode cX10_row 99 = .ok (.getfield 117, 3) := by decide +kernel
theorem dX10_row_102 : decode cX10_row 102 = .ok (.iload_n 3, 1) := by decide +kernel
theorem dX10_row_103 : decode cX10_row 103 = .ok (.laload, 1) := by decide +kernel
theorem dX10_row_104 : decode cX10_row 104 = .ok (.ladd, 1) := by decide +kernel
theorem dX10_row_105 : decode cX10_row 105 = .ok (.lstore 4, 2) := by decide +kernel
theorem dX10_row_107 : decode cX10_row 107 = .ok (.iconst 0, 1) := by decide +kernel
theorem dX10_row_108 : decode cX10_row 108 = .ok (.istore 6, 2) := by decide +kernel
theorem dX10_row_110 : decode cX10_row 110 = .ok (.iload 6, 2) := by decide +kernel
theorem dX10_row_112 : decode cX10_row 112 = .ok (.iload_n 3, 1) := by decide +kernel
theorem dX10_row_113 : decode cX10_row 113 = .ok (.if_icmp .ge 33, 3) := by decide +kernel
theorem dX10_row_116 : decode cX10_row 116 = .ok (.aload_n 0, 1) := by decide +kernel
theorem dX10_row_117 : decode cX10_row 117 = .ok (.getfield 117, 3) := by decide +kernel
theorem dX10_row_120 : decode cX10_row 120 = .ok (.iload 6, 2) := by decide +kernel
theorem dX10_row_122 : decode cX10_row 122 = .ok (.aload_n 0, 1) := by decide +kernel
theorem dX10_row_123 : decode cX10_row 123 = .ok (.getfield 117, 3) := by decide +kernel
theorem dX10_row_126 : decode cX10_row 126 = .ok (.iload 6, 2) := by decide +kernel
theorem dX10_row_128 : decode cX10_row 128 = .ok (.iconst 1, 1) := by decide +kernel
theorem dX10_row_129 : decode cX10_row 129 = .ok (.iadd, 1) := by decide +kernel
theorem dX10_row_130 : decode cX10_row 130 = .ok (.laload, 1) := by decide +kernel
theorem dX10_row_131 : decode cX10_row 131 = .ok (.aload_n 0, 1) := by decide +kernel
theorem dX10_row_132 : decode cX10_row 132 = .ok (.getfield 117, 3) := by decide +kernel
theorem dX10_row_135 : decode cX10_row 135 = .ok (.iload 6, 2) := by decide +kernel
theorem dX10_row_137 : decode cX10_row 137 = .ok (.laload, 1) := by decide +kernel
theorem dX10_row_138 : decode cX10_row 138 = .ok (.lsub, 1) := by decide +kernel
theorem dX10_row_139 : decode cX10_row 139 = .ok (.lastore, 1) := by decide +kernel
theorem dX10_row_140 : decode cX10_row 140 = .ok (.iinc 6 1, 3) := by decide +kernel
theorem dX10_row_143 : decode cX10_row 143 = .ok (.goto (-33), 3) := by decide +kernel
theorem dX10_row_146 : decode cX10_row 146 = .ok (.goto (-62), 3) := by decide +kernel
theorem dX10_row_149 : decode cX10_row 149 = .ok (.iload_n 2, 1) := by decide +kernel
theorem dX10_row_150 : decode cX10_row 150 = .ok (.ifCond .ne 10, 3) := by decide +kernel
theorem dX10_row_153 : decode cX10_row 153 = .ok (.iload_n 1, 1) := by decide +kernel
theorem dX10_row_154 : decode cX10_row 154 = .ok (.iload_n 3, 1) := by decide +kernel
theorem dX10_row_155 : decode cX10_row 155 = .ok (.isub, 1) := by decide +kernel
theorem dX10_row_156 : decode cX10_row 156 = .ok (.i2l, 1) := by decide +kernel
theorem dX10_row_157 : decode cX10_row 157 = .ok (.goto 12, 3) := by decide +kernel
theorem dX10_row_160 : decode cX10_row 160 = .ok (.lload 4, 2) := by decide +kernel
theorem dX10_row_162 : decode cX10_row 162 = .ok (.aload_n 0, 1) := by decide +kernel
theorem dX10_row_163 : decode cX10_row 163 = .ok (.getfield 117, 3) := by decide +kernel
theorem dX10_row_166 : decode cX10_row 166 = .ok (.iconst 0, 1) := by decide +kernel
theorem dX10_row_167 : decode cX10_row 167 = .ok (.laload, 1) := by decide +kernel
theorem dX10_row_168 : decode cX10_row 168 = .ok (.ladd, 1) := by decide +kernel
theorem dX10_row_169 : decode cX10_row 169 = .ok (.lreturn, 1) := by decide +kernel
theorem dX10_signed_0 : decode cX10_signed 0 = .ok (.aload_n 0, 1) := by decide +kernel
theorem dX10_signed_1 : decode cX10_signed 1 = .ok (.iload_n 1, 1) := by decide +kernel
theorem dX10_signed_2 : decode cX10_signed 2 = .ok (.invokevirtual 372, 3) := by decide +kernel
theorem dX10_signed_5 : decode cX10_signed 5 = .ok (.bipush 127, 2) := by decide +kernel
theorem dX10_signed_7 : decode cX10_signed 7 = .ok (.if_icmp .le 15, 3) := by decide +kernel
theorem dX10_signed_10 : decode cX10_signed 10 = .ok (.aload_n 0, 1) := by decide +kernel
theorem dX10_signed_11 : decode cX10_signed 11 = .ok (.iload_n 1, 1) := by decide +kernel
theorem dX10_signed_12 : decode cX10_signed 12 = .ok (.invokevirtual 372, 3) := by decide +kernel
theorem dX10_signed_15 : decode cX10_signed 15 = .ok (.sipush 256, 3) := by decide +kernel
theorem dX10_signed_18 : decode cX10_signed 18 = .ok (.isub, 1) := by decide +kernel
theorem dX10_signed_19 : decode cX10_signed 19 = .ok (.goto 8, 3) := by decide +kernel
theorem dX10_signed_22 : decode cX10_signed 22 = .ok (.aload_n 0, 1) := by decide +kernel
theorem dX10_signed_23 : decode cX10_signed 23 = .ok (.iload_n 1, 1) := by decide +kernel
theorem dX10_signed_24 : decode cX10_signed 24 = .ok (.invokevirtual 372, 3) := by decide +kernel
theorem dX10_signed_27 : decode cX10_signed 27 = .ok (.ireturn, 1) := by decide +kernel
theorem dX10_walk_0 : decode cX10_walk 0 = .ok (.iload_n 1, 1) := by decide +kernel
theorem dX10_walk_1 : decode cX10_walk 1 = .ok (.iconst 1, 1) := by decide +kernel
theorem dX10_walk_2 : decode cX10_walk 2 = .ok (.bipush 20, 2) := by decide +kernel
theorem dX10_walk_4 : decode cX10_walk 4 = .ok (.invokestatic 161, 3) := by decide +kernel
theorem dX10_walk_7 : decode cX10_walk 7 = .ok (.ifCond .eq 20, 3) := by decide +kernel
theorem dX10_walk_10 : decode cX10_walk 10 = .ok (.iload_n 2, 1) := by decide +kernel
theorem dX10_walk_11 : decode cX10_walk 11 = .ok (.iconst 0, 1) := by decide +kernel
theorem dX10_walk_12 : decode cX10_walk 12 = .ok (.iconst 3, 1) := by decide +kernel
theorem dX10_walk_13 : decode cX10_walk 13 = .ok (.invokestatic 161, 3) := by decide +kernel
theorem dX10_walk_16 : decode cX10_walk 16 = .ok (.ifCond .eq 11, 3) := by decide +kernel
theorem dX10_walk_19 : decode cX10_walk 19 = .ok (.iload_n 1, 1) := by decide +kernel
theorem dX10_walk_20 : decode cX10_walk 20 = .ok (.aload_n 0, 1) := by decide +kernel
theorem dX10_walk_21 : decode cX10_walk 21 = .ok (.getfield 169, 3) := by decide +kernel
theorem dX10_walk_24 : decode cX10_walk 24 = .ok (.if_icmp .le 7, 3) := by decide +kernel
theorem dX10_walk_27 : decode cX10_walk 27 = .ok (.ldc_w 311, 3) := by decide +kernel
theorem dX10_walk_30 : decode cX10_walk 30 = .ok (.ireturn, 1) := by decide +kernel
theorem dX10_walk_31 : decode cX10_walk 31 = .ok (.aload_n 0, 1) := by decide +kernel
theorem dX10_walk_32 : decode cX10_walk 32 = .ok (.iconst 0, 1) := by decide +kernel
theorem dX10_walk_33 : decode cX10_walk 33 = .ok (.putfield 169, 3) := by decide +kernel
theorem dX10_walk_36 : decode cX10_walk 36 = .ok (.iconst 0, 1) := by decide +kernel
theorem dX10_walk_37 : decode cX10_walk 37 = .ok (.istore_n 3, 1) := by decide +kernel
theorem dX10_walk_38 : decode cX10_walk 38 = .ok (.iconst 0, 1) := by decide +kernel
theorem dX10_walk_39 : decode cX10_walk 39 = .ok (.istore 4, 2) := by decide +kernel
theorem dX10_walk_41 : decode cX10_walk 41 = .ok (.iconst 0, 1) := by decide +kernel
theorem dX10_walk_42 : decode cX10_walk 42 = .ok (.istore 5, 2) := by decide +kernel
theorem dX10_walk_44 : decode cX10_walk 44 = .ok (.iconst 0, 1) := by decide +kernel
theorem dX10_walk_45 : decode cX10_walk 45 = .ok (.istore 6, 2) := by decide +kernel
theorem dX10_walk_47 : decode cX10_walk 47 = .ok (.iconst 0, 1) := by decide +kernel
theorem dX10_walk_48 : decode cX10_walk 48 = .ok (.istore 7, 2) := by decide +kernel
theorem dX10_walk_50 : decode cX10_walk 50 = .ok (.iconst 0, 1) := by decide +kernel
theorem dX10_walk_51 : decode cX10_walk 51 = .ok (.istore 8, 2) := by decide +kernel
theorem dX10_walk_53 : decode cX10_walk 53 = .ok (.iload 8, 2) := by decide +kernel
theorem dX10_walk_55 : decode cX10_walk 55 = .ok (.iload_n 1, 1) := by decide +kernel
theorem dX10_walk_56 : decode cX10_walk 56 = .ok (.if_icmp .ge 80, 3) := by decide +kernel
theorem dX10_walk_59 : decode cX10_walk 59 = .ok (.aload_n 0, 1) := by decide +kernel
theorem dX10_walk_60 : decode cX10_walk 60 = .ok (.iload 8, 2) := by decide +kernel
theorem dX10_walk_62 : decode cX10_walk 62 = .ok (.invokevirtual 378, 3) := by decide +kernel
theorem dX10_walk_65 : decode cX10_walk 65 = .ok (.istore 9, 2) := by decide +kernel
theorem dX10_walk_67 : decode cX10_walk 67 = .ok (.iload_n 3, 1) := by decide +kernel
theorem dX10_walk_68 : decode cX10_walk 68 = .ok (.iload 9, 2) := by decide +kernel
theorem dX10_walk_70 : decode cX10_walk 70 = .ok (.iadd, 1) := by decide +kernel
theorem dX10_walk_71 : decode cX10_walk 71 = .ok (.istore_n 3, 1) := by decide +kernel
theorem dX10_walk_72 : decode cX10_walk 72 = .ok (.iload 4, 2) := by decide +kernel
theorem dX10_walk_74 : decode cX10_walk 74 = .ok (.iload_n 3, 1) := by decide +kernel
theorem dX10_walk_75 : decode cX10_walk 75 = .ok (.invokestatic 328, 3) := by decide +kernel
theorem dX10_walk_78 : decode cX10_walk 78 = .ok (.istore 4, 2) := by decide +kernel
theorem dX10_walk_80 : decode cX10_walk 80 = .ok (.iload 5, 2) := by decide +kernel
theorem dX10_walk_82 : decode cX10_walk 82 = .ok (.iload_n 3, 1) := by decide +kernel
theorem dX10_walk_83 : decode cX10_walk 83 = .ok (.invokestatic 318, 3) := by decide +kernel
theorem dX10_walk_86 : decode cX10_walk 86 = .ok (.istore 5, 2) := by decide +kernel
theorem dX10_walk_88 : decode cX10_walk 88 = .ok (.iload 9, 2) := by decide +kernel
theorem dX10_walk_90 : decode cX10_walk 90 = .ok (.ifCond .ne 6, 3) := by decide +kernel
theorem dX10_walk_93 : decode cX10_walk 93 = .ok (.goto 37, 3) := by decide +kernel
theorem dX10_walk_96 : decode cX10_walk 96 = .ok (.iload 9, 2) := by decide +kernel
theorem dX10_walk_98 : decode cX10_walk 98 = .ok (.ifCond .le 7, 3) := by decide +kernel
theorem dX10_walk_101 : decode cX10_walk 101 = .ok (.iconst 1, 1) := by decide +kernel
theorem dX10_walk_102 : decode cX10_walk 102 = .ok (.goto 4, 3) := by decide +kernel
theorem dX10_walk_105 : decode cX10_walk 105 = .ok (.iconst (-1), 1) := by decide +kernel
theorem dX10_walk_106 : decode cX10_walk 106 = .ok (.istore 10, 2) := by decide +kernel
theorem dX10_walk_108 : decode cX10_walk 108 = .ok (.iload 7, 2) := by decide +kernel
theorem dX10_walk_110 : decode cX10_walk 110 = .ok (.ifCond .eq 16, 3) := by decide +kernel
theorem dX10_walk_113 : decode cX10_walk 113 = .ok (.iload 7, 2) := by decide +kernel
theorem dX10_walk_115 : decode cX10_walk 115 = .ok (.iload 10, 2) := by decide +kernel
theorem dX10_walk_117 : decode cX10_walk 117 = .ok (.if_icmp .eq 9, 3) := by decide +kernel
theorem dX10_walk_120 : decode cX10_walk 120 = .ok (.iload 6, 2) := by decide +kernel
theorem dX10_walk_122 : decode cX10_walk 122 = .ok (.iconst 1, 1) := by decide +kernel
theorem dX10_walk_123 : decode cX10_walk 123 = .ok (.iadd, 1) := by decide +kernel
theorem dX10_walk_124 : decode cX10_walk 124 = .ok (.istore 6, 2) := by decide +kernel
theorem dX10_walk_126 : decode cX10_walk 126 = .ok (.iload 10, 2) := by decide +kernel
theorem dX10_walk_128 : decode cX10_walk 128 = .ok (.istore 7, 2) := by decide +kernel
theorem dX10_walk_130 : decode cX10_walk 130 = .ok (.iinc 8 1, 3) := by decide +kernel
theorem dX10_walk_133 : decode cX10_walk 133 = .ok (.goto (-80), 3) := by decide +kernel
theorem dX10_walk_136 : decode cX10_walk 136 = .ok (.iload_n 2, 1) := by decide +kernel
theorem dX10_walk_137 : decode cX10_walk 137 = .ok (.ifCond .ne 7, 3) := by decide +kernel
theorem dX10_walk_140 : decode cX10_walk 140 = .ok (.iload_n 3, 1) := by decide +kernel
theorem dX10_walk_141 : decode cX10_walk 141 = .ok (.goto 25, 3) := by decide +kernel
theorem dX10_walk_144 : decode cX10_walk 144 = .ok (.iload_n 2, 1) := by decide +kernel
theorem dX10_walk_145 : decode cX10_walk 145 = .ok (.iconst 1, 1) := by decide +kernel
theorem dX10_walk_146 : decode cX10_walk 146 = .ok (.if_icmp .ne 8, 3) := by decide +kernel
theorem dX10_walk_149 : decode cX10_walk 149 = .ok (.iload 4, 2) := by decide +kernel
theorem dX10_walk_151 : decode cX10_walk 151 = .ok (.goto 15, 3) := by decide +kernel
theorem dX10_walk_154 : decode cX10_walk 154 = .ok (.iload_n 2, 1) := by decide +kernel
theorem dX10_walk_155 : decode cX10_walk 155 = .ok (.iconst 2, 1) := by decide +kernel
theorem dX10_walk_156 : decode cX10_walk 156 = .ok (.if_icmp .ne 8, 3) := by decide +kernel
theorem dX10_walk_159 : decode cX10_walk 159 = .ok (.iload 5, 2) := by decide +kernel
theorem dX10_walk_161 : decode cX10_walk 161 = .ok (.goto 5, 3) := by decide +kernel
theorem dX10_walk_164 : decode cX10_walk 164 = .ok (.iload 6, 2) := by decide +kernel
theorem dX10_walk_166 : decode cX10_walk 166 = .ok (.ireturn, 1) := by decide +kernel
theorem dX10_begins_0 : decode cX10_begins 0 = .ok (.iconst 0, 1) := by decide +kernel
theorem dX10_begins_1 : decode cX10_begins 1 = .ok (.istore_n 3, 1) := by decide +kernel
theorem dX10_begins_2 : decode cX10_begins 2 = .ok (.iload_n 3, 1) := by decide +kernel
theorem dX10_begins_3 : decode cX10_begins 3 = .ok (.iload_n 2, 1) := by decide +kernel
theorem dX10_begins_4 : decode cX10_begins 4 = .ok (.if_icmp .ge 17, 3) := by decide +kernel
theorem dX10_begins_7 : decode cX10_begins 7 = .ok (.aload_n 1, 1) := by decide +kernel
theorem dX10_begins_8 : decode cX10_begins 8 = .ok (.iload_n 3, 1) := by decide +kernel
theorem dX10_begins_9 : decode cX10_begins 9 = .ok (.aload_n 0, 1) := by decide +kernel
theorem dX10_begins_10 : decode cX10_begins 10 = .ok (.iload_n 3, 1) := by decide +kernel
theorem dX10_begins_11 : decode cX10_begins 11 = .ok (.invokevirtual 372, 3) := by decide +kernel
theorem dX10_begins_14 : decode cX10_begins 14 = .ok (.iastore, 1) := by decide +kernel
theorem dX10_begins_15 : decode cX10_begins 15 = .ok (.iinc 3 1, 3) := by decide +kernel
theorem dX10_begins_18 : decode cX10_begins 18 = .ok (.goto (-16), 3) := by decide +kernel
theorem dX10_begins_21 : decode cX10_begins 21 = .ok (.return_, 1) := by decide +kernel
theorem dX10_goesRound_0 : decode cX10_goesRound 0 = .ok (.aload_n 0, 1) := by decide +kernel
theorem dX10_goesRound_1 : decode cX10_goesRound 1 = .ok (.iconst 0, 1) := by decide +kernel
theorem dX10_goesRound_2 : decode cX10_goesRound 2 = .ok (.iaload, 1) := by decide +kernel
theorem dX10_goesRound_3 : decode cX10_goesRound 3 = .ok (.istore_n 2, 1) := by decide +kernel
theorem dX10_goesRound_4 : decode cX10_goesRound 4 = .ok (.iconst 0, 1) := by decide +kernel
theorem dX10_goesRound_5 : decode cX10_goesRound 5 = .ok (.istore_n 3, 1) := by decide +kernel
theorem dX10_goesRound_6 : decode cX10_goesRound 6 = .ok (.iload_n 3, 1) := by decide +kernel
theorem dX10_goesRound_7 : decode cX10_goesRound 7 = .ok (.iload_n 1, 1) := by decide +kernel
theorem dX10_goesRound_8 : decode cX10_goesRound 8 = .ok (.if_icmp .ge 35, 3) := by decide +kernel
theorem dX10_goesRound_11 : decode cX10_goesRound 11 = .ok (.aload_n 0, 1) := by decide +kernel
theorem dX10_goesRound_12 : decode cX10_goesRound 12 = .ok (.iload_n 3, 1) := by decide +kernel
theorem dX10_goesRound_13 : decode cX10_goesRound 13 = .ok (.aload_n 0, 1) := by decide +kernel
theorem dX10_goesRound_14 : decode cX10_goesRound 14 = .ok (.iload_n 3, 1) := by decide +kernel
theorem dX10_goesRound_15 : decode cX10_goesRound 15 = .ok (.iaload, 1) := by decide +kernel
theorem dX10_goesRound_16 : decode cX10_goesRound 16 = .ok (.iload_n 3, 1) := by decide +kernel
theorem dX10_goesRound_17 : decode cX10_goesRound 17 = .ok (.iload_n 1, 1) := by decide +kernel
theorem dX10_goesRound_18 : decode cX10_goesRound 18 = .ok (.iconst 1, 1) := by decide +kernel
theorem dX10_goesRound_19 : decode cX10_goesRound 19 = .ok (.isub, 1) := by decide +kernel
theorem dX10_goesRound_20 : decode cX10_goesRound 20 = .ok (.if_icmp .ne 7, 3) := by decide +kernel
theorem dX10_goesRound_23 : decode cX10_goesRound 23 = .ok (.iload_n 2, 1) := by decide +kernel
theorem dX10_goesRound_24 : decode cX10_goesRound 24 = .ok (.goto 8, 3) := by decide +kernel
theorem dX10_goesRound_27 : decode cX10_goesRound 27 = .ok (.aload_n 0, 1) := by decide +kernel
theorem dX10_goesRound_28 : decode cX10_goesRound 28 = .ok (.iload_n 3, 1) := by decide +kernel
theorem dX10_goesRound_29 : decode cX10_goesRound 29 = .ok (.iconst 1, 1) := by decide +kernel
theorem dX10_goesRound_30 : decode cX10_goesRound 30 = .ok (.iadd, 1) := by decide +kernel
theorem dX10_goesRound_31 : decode cX10_goesRound 31 = .ok (.iaload, 1) := by decide +kernel
theorem dX10_goesRound_32 : decode cX10_goesRound 32 = .ok (.isub, 1) := by decide +kernel
theorem dX10_goesRound_33 : decode cX10_goesRound 33 = .ok (.invokestatic 381, 3) := by decide +kernel
theorem dX10_goesRound_36 : decode cX10_goesRound 36 = .ok (.iastore, 1) := by decide +kernel
theorem dX10_goesRound_37 : decode cX10_goesRound 37 = .ok (.iinc 3 1, 3) := by decide +kernel
theorem dX10_goesRound_40 : decode cX10_goesRound 40 = .ok (.goto (-34), 3) := by decide +kernel
theorem dX10_goesRound_43 : decode cX10_goesRound 43 = .ok (.return_, 1) := by decide +kernel
theorem dX10_areSame_0 : decode cX10_areSame 0 = .ok (.iconst 0, 1) := by decide +kernel
theorem dX10_areSame_1 : decode cX10_areSame 1 = .ok (.istore_n 3, 1) := by decide +kernel
theorem dX10_areSame_2 : decode cX10_areSame 2 = .ok (.iload_n 3, 1) := by decide +kernel
theorem dX10_areSame_3 : decode cX10_areSame 3 = .ok (.iload_n 2, 1) := by decide +kernel
theorem dX10_areSame_4 : decode cX10_areSame 4 = .ok (.if_icmp .ge 20, 3) := by decide +kernel
theorem dX10_areSame_7 : decode cX10_areSame 7 = .ok (.aload_n 0, 1) := by decide +kernel
theorem dX10_areSame_8 : decode cX10_areSame 8 = .ok (.iload_n 3, 1) := by decide +kernel
theorem dX10_areSame_9 : decode cX10_areSame 9 = .ok (.iaload, 1) := by decide +kernel
theorem dX10_areSame_10 : decode cX10_areSame 10 = .ok (.aload_n 1, 1) := by decide +kernel
theorem dX10_areSame_11 : decode cX10_areSame 11 = .ok (.iload_n 3, 1) := by decide +kernel
theorem dX10_areSame_12 : decode cX10_areSame 12 = .ok (.iaload, 1) := by decide +kernel
theorem dX10_areSame_13 : decode cX10_areSame 13 = .ok (.if_icmp .eq 5, 3) := by decide +kernel
theorem dX10_areSame_16 : decode cX10_areSame 16 = .ok (.iconst 0, 1) := by decide +kernel
theorem dX10_areSame_17 : decode cX10_areSame 17 = .ok (.ireturn, 1) := by decide +kernel
theorem dX10_areSame_18 : decode cX10_areSame 18 = .ok (.iinc 3 1, 3) := by decide +kernel
theorem dX10_areSame_21 : decode cX10_areSame 21 = .ok (.goto (-19), 3) := by decide +kernel
theorem dX10_areSame_24 : decode cX10_areSame 24 = .ok (.iconst 1, 1) := by decide +kernel
theorem dX10_areSame_25 : decode cX10_areSame 25 = .ok (.ireturn, 1) := by decide +kernel
theorem dX10_ringOf_0 : decode cX10_ringOf 0 = .ok (.aload_n 0, 1) := by decide +kernel
theorem dX10_ringOf_1 : decode cX10_ringOf 1 = .ok (.aload_n 0, 1) := by decide +kernel
theorem dX10_ringOf_2 : decode cX10_ringOf 2 = .ok (.getfield 121, 3) := by decide +kernel
theorem dX10_ringOf_5 : decode cX10_ringOf 5 = .ok (.iload_n 1, 1) := by decide +kernel
theorem dX10_ringOf_6 : decode cX10_ringOf 6 = .ok (.invokevirtual 384, 3) := by decide +kernel
theorem dX10_ringOf_9 : decode cX10_ringOf 9 = .ok (.aload_n 0, 1) := by decide +kernel
theorem dX10_ringOf_10 : decode cX10_ringOf 10 = .ok (.aload_n 0, 1) := by decide +kernel
theorem dX10_ringOf_11 : decode cX10_ringOf 11 = .ok (.getfield 124, 3) := by decide +kernel
theorem dX10_ringOf_14 : decode cX10_ringOf 14 = .ok (.iload_n 1, 1) := by decide +kernel
theorem dX10_ringOf_15 : decode cX10_ringOf 15 = .ok (.invokevirtual 384, 3) := by decide +kernel
theorem dX10_ringOf_18 : decode cX10_ringOf 18 = .ok (.aload_n 0, 1) := by decide +kernel
theorem dX10_ringOf_19 : decode cX10_ringOf 19 = .ok (.getfield 124, 3) := by decide +kernel
theorem dX10_ringOf_22 : decode cX10_ringOf 22 = .ok (.iload_n 1, 1) := by decide +kernel
theorem dX10_ringOf_23 : decode cX10_ringOf 23 = .ok (.invokestatic 388, 3) := by decide +kernel
theorem dX10_ringOf_26 : decode cX10_ringOf 26 = .ok (.iconst 1, 1) := by decide +kernel
theorem dX10_ringOf_27 : decode cX10_ringOf 27 = .ok (.istore_n 2, 1) := by decide +kernel
theorem dX10_ringOf_28 : decode cX10_ringOf 28 = .ok (.iconst 1, 1) := by decide +kernel
theorem dX10_ringOf_29 : decode cX10_ringOf 29 = .ok (.istore_n 3, 1) := by decide +kernel
theorem dX10_ringOf_30 : decode cX10_ringOf 30 = .ok (.aload_n 0, 1) := by decide +kernel
theorem dX10_ringOf_31 : decode cX10_ringOf 31 = .ok (.getfield 121, 3) := by decide +kernel
theorem dX10_ringOf_34 : decode cX10_ringOf 34 = .ok (.aload_n 0, 1) := by decide +kernel
theorem dX10_ringOf_35 : decode cX10_ringOf 35 = .ok (.getfield 124, 3) := by decide +kernel
theorem dX10_ringOf_38 : decode cX10_ringOf 38 = .ok (.iload_n 1, 1) := by decide +kernel
theorem dX10_ringOf_39 : decode cX10_ringOf 39 = .ok (.invokestatic 391, 3) := by decide +kernel
theorem dX10_ringOf_42 : decode cX10_ringOf 42 = .ok (.ifCond .ne 58, 3) := by decide +kernel
theorem dX10_ringOf_45 : decode cX10_ringOf 45 = .ok (.iload_n 2, 1) := by decide +kernel
theorem dX10_ringOf_46 : decode cX10_ringOf 46 = .ok (.iload_n 3, 1) := by decide +kernel
theorem dX10_ringOf_47 : decode cX10_ringOf 47 = .ok (.if_icmp .ne 38, 3) := by decide +kernel
theorem dX10_ringOf_50 : decode cX10_ringOf 50 = .ok (.iconst 0, 1) := by decide +kernel
theorem dX10_ringOf_51 : decode cX10_ringOf 51 = .ok (.istore 4, 2) := by decide +kernel
theorem dX10_ringOf_53 : decode cX10_ringOf 53 = .ok (.iload 4, 2) := by decide +kernel
theorem dX10_ringOf_55 : decode cX10_ringOf 55 = .ok (.iload_n 1, 1) := by decide +kernel
theorem dX10_ringOf_56 : decode cX10_ringOf 56 = .ok (.if_icmp .ge 23, 3) := by decide +kernel
theorem dX10_ringOf_59 : decode cX10_ringOf 59 = .ok (.aload_n 0, 1) := by decide +kernel
theorem dX10_ringOf_60 : decode cX10_ringOf 60 = .ok (.getfield 121, 3) := by decide +kernel
theorem dX10_ringOf_63 : decode cX10_ringOf 63 = .ok (.iload 4, 2) := by decide +kernel
theorem dX10_ringOf_65 : decode cX10_ringOf 65 = .ok (.aload_n 0, 1) := by decide +kernel
theorem dX10_ringOf_66 : decode cX10_ringOf 66 = .ok (.getfield 124, 3) := by decide +kernel
theorem dX10_ringOf_69 : decode cX10_ringOf 69 = .ok (.iload 4, 2) := by decide +kernel
theorem dX10_ringOf_71 : decode cX10_ringOf 71 = .ok (.iaload, 1) := by decide +kernel
theorem dX10_ringOf_72 : decode cX10_ringOf 72 = .ok (.iastore, 1) := by decide +kernel
theorem dX10_ringOf_73 : decode cX10_ringOf 73 = .ok (.iinc 4 1, 3) := by decide +kernel
theorem dX10_ringOf_76 : decode cX10_ringOf 76 = .ok (.goto (-23), 3) := by decide +kernel
theorem dX10_ringOf_79 : decode cX10_ringOf 79 = .ok (.iconst 2, 1) := by decide +kernel
theorem dX10_ringOf_80 : decode cX10_ringOf 80 = .ok (.iload_n 2, 1) := by decide +kernel
theorem dX10_ringOf_81 : decode cX10_ringOf 81 = .ok (.imul, 1) := by decide +kernel
theorem dX10_ringOf_82 : decode cX10_ringOf 82 = .ok (.istore_n 2, 1) := by decide +kernel
theorem dX10_ringOf_83 : decode cX10_ringOf 83 = .ok (.iconst 0, 1) := by decide +kernel
theorem dX10_ringOf_84 : decode cX10_ringOf 84 = .ok (.istore_n 3, 1) := by decide +kernel
theorem dX10_ringOf_85 : decode cX10_ringOf 85 = .ok (.aload_n 0, 1) := by decide +kernel
theorem dX10_ringOf_86 : decode cX10_ringOf 86 = .ok (.getfield 124, 3) := by decide +kernel
theorem dX10_ringOf_89 : decode cX10_ringOf 89 = .ok (.iload_n 1, 1) := by decide +kernel
theorem dX10_ringOf_90 : decode cX10_ringOf 90 = .ok (.invokestatic 388, 3) := by decide +kernel
theorem dX10_ringOf_93 : decode cX10_ringOf 93 = .ok (.iload_n 3, 1) := by decide +kernel
theorem dX10_ringOf_94 : decode cX10_ringOf 94 = .ok (.iconst 1, 1) := by decide +kernel
theorem dX10_ringOf_95 : decode cX10_ringOf 95 = .ok (.iadd, 1) := by decide +kernel
theorem dX10_ringOf_96 : decode cX10_ringOf 96 = .ok (.istore_n 3, 1) := by decide +kernel
theorem dX10_ringOf_97 : decode cX10_ringOf 97 = .ok (.goto (-67), 3) := by decide +kernel
theorem dX10_ringOf_100 : decode cX10_ringOf 100 = .ok (.iload_n 3, 1) := by decide +kernel
theorem dX10_ringOf_101 : decode cX10_ringOf 101 = .ok (.ireturn, 1) := by decide +kernel
theorem dX10_aheadOf_0 : decode cX10_aheadOf 0 = .ok (.aload_n 0, 1) := by decide +kernel
theorem dX10_aheadOf_1 : decode cX10_aheadOf 1 = .ok (.aload_n 0, 1) := by decide +kernel
theorem dX10_aheadOf_2 : decode cX10_aheadOf 2 = .ok (.getfield 121, 3) := by decide +kernel
theorem dX10_aheadOf_5 : decode cX10_aheadOf 5 = .ok (.iload_n 1, 1) := by decide +kernel
theorem dX10_aheadOf_6 : decode cX10_aheadOf 6 = .ok (.invokevirtual 384, 3) := by decide +kernel
theorem dX10_aheadOf_9 : decode cX10_aheadOf 9 = .ok (.aload_n 0, 1) := by decide +kernel
theorem dX10_aheadOf_10 : decode cX10_aheadOf 10 = .ok (.aload_n 0, 1) := by decide +kernel
theorem dX10_aheadOf_11 : decode cX10_aheadOf 11 = .ok (.getfield 124, 3) := by decide +kernel
theorem dX10_aheadOf_14 : decode cX10_aheadOf 14 = .ok (.iload_n 1, 1) := by decide +kernel
theorem dX10_aheadOf_15 : decode cX10_aheadOf 15 = .ok (.invokevirtual 384, 3) := by decide +kernel
theorem dX10_aheadOf_18 : decode cX10_aheadOf 18 = .ok (.iconst 0, 1) := by decide +kernel
theorem dX10_aheadOf_19 : decode cX10_aheadOf 19 = .ok (.istore_n 3, 1) := by decide +kernel
theorem dX10_aheadOf_20 : decode cX10_aheadOf 20 = .ok (.iload_n 3, 1) := by decide +kernel
theorem dX10_aheadOf_21 : decode cX10_aheadOf 21 = .ok (.iload_n 2, 1) := by decide +kernel
theorem dX10_aheadOf_22 : decode cX10_aheadOf 22 = .ok (.if_icmp .ge 17, 3) := by decide +kernel
theorem dX10_aheadOf_25 : decode cX10_aheadOf 25 = .ok (.aload_n 0, 1) := by decide +kernel
theorem dX10_aheadOf_26 : decode cX10_aheadOf 26 = .ok (.getfield 124, 3) := by decide +kernel
theorem dX10_aheadOf_29 : decode cX10_aheadOf 29 = .ok (.iload_n 1, 1) := by decide +kernel
theorem dX10_aheadOf_30 : decode cX10_aheadOf 30 = .ok (.invokestatic 388, 3) := by decide +kernel
theorem dX10_aheadOf_33 : decode cX10_aheadOf 33 = .ok (.iinc 3 1, 3) := by decide +kernel
theorem dX10_aheadOf_36 : decode cX10_aheadOf 36 = .ok (.goto (-16), 3) := by decide +kernel
theorem dX10_aheadOf_39 : decode cX10_aheadOf 39 = .ok (.iconst 0, 1) := by decide +kernel
theorem dX10_aheadOf_40 : decode cX10_aheadOf 40 = .ok (.istore_n 3, 1) := by decide +kernel
theorem dX10_aheadOf_41 : decode cX10_aheadOf 41 = .ok (.aload_n 0, 1) := by decide +kernel
theorem dX10_aheadOf_42 : decode cX10_aheadOf 42 = .ok (.getfield 121, 3) := by decide +kernel
theorem dX10_aheadOf_45 : decode cX10_aheadOf 45 = .ok (.aload_n 0, 1) := by decide +kernel
theorem dX10_aheadOf_46 : decode cX10_aheadOf 46 = .ok (.getfield 124, 3) := by decide +kernel
theorem dX10_aheadOf_49 : decode cX10_aheadOf 49 = .ok (.iload_n 1, 1) := by decide +kernel
theorem dX10_aheadOf_50 : decode cX10_aheadOf 50 = .ok (.invokestatic 391, 3) := by decide +kernel
theorem dX10_aheadOf_53 : decode cX10_aheadOf 53 = .ok (.ifCond .ne 26, 3) := by decide +kernel
theorem dX10_aheadOf_56 : decode cX10_aheadOf 56 = .ok (.aload_n 0, 1) := by decide +kernel
theorem dX10_aheadOf_57 : decode cX10_aheadOf 57 = .ok (.getfield 121, 3) := by decide +kernel
theorem dX10_aheadOf_60 : decode cX10_aheadOf 60 = .ok (.iload_n 1, 1) := by decide +kernel
theorem dX10_aheadOf_61 : decode cX10_aheadOf 61 = .ok (.invokestatic 388, 3) := by decide +kernel
theorem dX10_aheadOf_64 : decode cX10_aheadOf 64 = .ok (.aload_n 0, 1) := by decide +kernel
theorem dX10_aheadOf_65 : decode cX10_aheadOf 65 = .ok (.getfield 124, 3) := by decide +kernel
theorem dX10_aheadOf_68 : decode cX10_aheadOf 68 = .ok (.iload_n 1, 1) := by decide +kernel
theorem dX10_aheadOf_69 : decode cX10_aheadOf 69 = .ok (.invokestatic 388, 3) := by decide +kernel
theorem dX10_aheadOf_72 : decode cX10_aheadOf 72 = .ok (.iload_n 3, 1) := by decide +kernel
theorem dX10_aheadOf_73 : decode cX10_aheadOf 73 = .ok (.iconst 1, 1) := by decide +kernel
theorem dX10_aheadOf_74 : decode cX10_aheadOf 74 = .ok (.iadd, 1) := by decide +kernel
theorem dX10_aheadOf_75 : decode cX10_aheadOf 75 = .ok (.istore_n 3, 1) := by decide +kernel
theorem dX10_aheadOf_76 : decode cX10_aheadOf 76 = .ok (.goto (-35), 3) := by decide +kernel
theorem dX10_aheadOf_79 : decode cX10_aheadOf 79 = .ok (.iload_n 3, 1) := by decide +kernel
theorem dX10_aheadOf_80 : decode cX10_aheadOf 80 = .ok (.ireturn, 1) := by decide +kernel
theorem dX10_round_0 : decode cX10_round 0 = .ok (.iload_n 1, 1) := by decide +kernel
theorem dX10_round_1 : decode cX10_round 1 = .ok (.iconst 2, 1) := by decide +kernel
theorem dX10_round_2 : decode cX10_round 2 = .ok (.bipush 8, 2) := by decide +kernel
theorem dX10_round_4 : decode cX10_round 4 = .ok (.invokestatic 161, 3) := by decide +kernel
theorem dX10_round_7 : decode cX10_round 7 = .ok (.ifCond .eq 20, 3) := by decide +kernel
theorem dX10_round_10 : decode cX10_round 10 = .ok (.iload_n 2, 1) := by decide +kernel
theorem dX10_round_11 : decode cX10_round 11 = .ok (.iconst 0, 1) := by decide +kernel
theorem dX10_round_12 : decode cX10_round 12 = .ok (.iconst 2, 1) := by decide +kernel
theorem dX10_round_13 : decode cX10_round 13 = .ok (.invokestatic 161, 3) := by decide +kernel
theorem dX10_round_16 : decode cX10_round 16 = .ok (.ifCond .eq 11, 3) := by decide +kernel
theorem dX10_round_19 : decode cX10_round 19 = .ok (.iload_n 1, 1) := by decide +kernel
theorem dX10_round_20 : decode cX10_round 20 = .ok (.aload_n 0, 1) := by decide +kernel
theorem dX10_round_21 : decode cX10_round 21 = .ok (.getfield 169, 3) := by decide +kernel
theorem dX10_round_24 : decode cX10_round 24 = .ok (.if_icmp .le 5, 3) := by decide +kernel
theorem dX10_round_27 : decode cX10_round 27 = .ok (.iconst (-1), 1) := by decide +kernel
theorem dX10_round_28 : decode cX10_round 28 = .ok (.ireturn, 1) := by decide +kernel
theorem dX10_round_29 : decode cX10_round 29 = .ok (.aload_n 0, 1) := by decide +kernel
theorem dX10_round_30 : decode cX10_round 30 = .ok (.iconst 0, 1) := by decide +kernel
theorem dX10_round_31 : decode cX10_round 31 = .ok (.putfield 169, 3) := by decide +kernel
theorem dX10_round_34 : decode cX10_round 34 = .ok (.aload_n 0, 1) := by decide +kernel
theorem dX10_round_35 : decode cX10_round 35 = .ok (.iload_n 1, 1) := by decide +kernel
theorem dX10_round_36 : decode cX10_round 36 = .ok (.invokevirtual 395, 3) := by decide +kernel
theorem dX10_round_39 : decode cX10_round 39 = .ok (.istore_n 3, 1) := by decide +kernel
theorem dX10_round_40 : decode cX10_round 40 = .ok (.iload_n 2, 1) := by decide +kernel
theorem dX10_round_41 : decode cX10_round 41 = .ok (.iconst 1, 1) := by decide +kernel
theorem dX10_round_42 : decode cX10_round 42 = .ok (.if_icmp .ne 5, 3) := by decide +kernel
theorem dX10_round_45 : decode cX10_round 45 = .ok (.iload_n 3, 1) := by decide +kernel
theorem dX10_round_46 : decode cX10_round 46 = .ok (.ireturn, 1) := by decide +kernel
theorem dX10_round_47 : decode cX10_round 47 = .ok (.iload_n 2, 1) := by decide +kernel
theorem dX10_round_48 : decode cX10_round 48 = .ok (.ifCond .ne 13, 3) := by decide +kernel
theorem dX10_round_51 : decode cX10_round 51 = .ok (.iload_n 3, 1) := by decide +kernel
theorem dX10_round_52 : decode cX10_round 52 = .ok (.iconst 1, 1) := by decide +kernel
theorem dX10_round_53 : decode cX10_round 53 = .ok (.if_icmp .le 8, 3) := by decide +kernel
theorem dX10_round_56 : decode cX10_round 56 = .ok (.bipush (-2), 2) := by decide +kernel
theorem dX10_round_58 : decode cX10_round 58 = .ok (.goto 9, 3) := by decide +kernel
theorem dX10_round_61 : decode cX10_round 61 = .ok (.aload_n 0, 1) := by decide +kernel
theorem dX10_round_62 : decode cX10_round 62 = .ok (.iload_n 1, 1) := by decide +kernel
theorem dX10_round_63 : decode cX10_round 63 = .ok (.iload_n 3, 1) := by decide +kernel
theorem dX10_round_64 : decode cX10_round 64 = .ok (.invokevirtual 398, 3) := by decide +kernel
theorem dX10_round_67 : decode cX10_round 67 = .ok (.ireturn, 1) := by decide +kernel
theorem dX10_isTriangle_0 : decode cX10_isTriangle 0 = .ok (.iload_n 2, 1) := by decide +kernel
theorem dX10_isTriangle_1 : decode cX10_isTriangle 1 = .ok (.istore 4, 2) := by decide +kernel
theorem dX10_isTriangle_3 : decode cX10_isTriangle 3 = .ok (.iload_n 1, 1) := by decide +kernel
theorem dX10_isTriangle_4 : decode cX10_isTriangle 4 = .ok (.iconst 1, 1) := by decide +kernel
theorem dX10_isTriangle_5 : decode cX10_isTriangle 5 = .ok (.isub, 1) := by decide +kernel
theorem dX10_isTriangle_6 : decode cX10_isTriangle 6 = .ok (.istore 5, 2) := by decide +kernel
theorem dX10_isTriangle_8 : decode cX10_isTriangle 8 = .ok (.iload 5, 2) := by decide +kernel
theorem dX10_isTriangle_10 : decode cX10_isTriangle 10 = .ok (.ifCond .lt 28, 3) := by decide +kernel
theorem dX10_isTriangle_13 : decode cX10_isTriangle 13 = .ok (.aload_n 0, 1) := by decide +kernel
theorem dX10_isTriangle_14 : decode cX10_isTriangle 14 = .ok (.getfield 127, 3) := by decide +kernel
theorem dX10_isTriangle_17 : decode cX10_isTriangle 17 = .ok (.iload 5, 2) := by decide +kernel
theorem dX10_isTriangle_19 : decode cX10_isTriangle 19 = .ok (.iload 4, 2) := by decide +kernel
theorem dX10_isTriangle_21 : decode cX10_isTriangle 21 = .ok (.iload_n 3, 1) := by decide +kernel
theorem dX10_isTriangle_22 : decode cX10_isTriangle 22 = .ok (.irem, 1) := by decide +kernel
theorem dX10_isTriangle_23 : decode cX10_isTriangle 23 = .ok (.iconst 1, 1) := by decide +kernel
theorem dX10_isTriangle_24 : decode cX10_isTriangle 24 = .ok (.iadd, 1) := by decide +kernel
theorem dX10_isTriangle_25 : decode cX10_isTriangle 25 = .ok (.iastore, 1) := by decide +kernel
theorem dX10_isTriangle_26 : decode cX10_isTriangle 26 = .ok (.iload 4, 2) := by decide +kernel
theorem dX10_isTriangle_28 : decode cX10_isTriangle 28 = .ok (.iload_n 3, 1) := by decide +kernel
theorem dX10_isTriangle_29 : decode cX10_isTriangle 29 = .ok (.idiv, 1) := by decide +kernel
theorem dX10_isTriangle_30 : decode cX10_isTriangle 30 = .ok (.istore 4, 2) := by decide +kernel
theorem dX10_isTriangle_32 : decode cX10_isTriangle 32 = .ok (.iinc 5 (-1), 3) := by decide +kernel
theorem dX10_isTriangle_35 : decode cX10_isTriangle 35 = .ok (.goto (-27), 3) := by decide +kernel
theorem dX10_isTriangle_38 : decode cX10_isTriangle 38 = .ok (.iconst 0, 1) := by decide +kernel
theorem dX10_isTriangle_39 : decode cX10_isTriangle 39 = .ok (.istore 5, 2) := by decide +kernel
theorem dX10_isTriangle_41 : decode cX10_isTriangle 41 = .ok (.iload_n 1, 1) := by decide +kernel
theorem dX10_isTriangle_42 : decode cX10_isTriangle 42 = .ok (.istore 6, 2) := by decide +kernel
theorem dX10_isTriangle_44 : decode cX10_isTriangle 44 = .ok (.iload 6, 2) := by decide +kernel
theorem dX10_isTriangle_46 : decode cX10_isTriangle 46 = .ok (.ifCond .le 111, 3) := by decide +kernel
theorem dX10_isTriangle_49 : decode cX10_isTriangle 49 = .ok (.iconst 0, 1) := by decide +kernel
theorem dX10_isTriangle_50 : decode cX10_isTriangle 50 = .ok (.istore 7, 2) := by decide +kernel
theorem dX10_isTriangle_52 : decode cX10_isTriangle 52 = .ok (.iload 7, 2) := by decide +kernel
theorem dX10_isTriangle_54 : decode cX10_isTriangle 54 = .ok (.iload 6, 2) := by decide +kernel
theorem dX10_isTriangle_56 : decode cX10_isTriangle 56 = .ok (.if_icmp .ge 50, 3) := by decide +kernel
theorem dX10_isTriangle_59 : decode cX10_isTriangle 59 = .ok (.aload_n 0, 1) := by decide +kernel
theorem dX10_isTriangle_60 : decode cX10_isTriangle 60 = .ok (.getfield 127, 3) := by decide +kernel
theorem dX10_isTriangle_63 : decode cX10_isTriangle 63 = .ok (.iload 7, 2) := by decide +kernel
theorem dX10_isTriangle_65 : decode cX10_isTriangle 65 = .ok (.iaload, 1) := by decide +kernel
theorem dX10_isTriangle_66 : decode cX10_isTriangle 66 = .ok (.ifCond .eq 18, 3) := by decide +kernel
theorem dX10_isTriangle_69 : decode cX10_isTriangle 69 = .ok (.iload 5, 2) := by decide +kernel
theorem dX10_isTriangle_71 : decode cX10_isTriangle 71 = .ok (.aload_n 0, 1) := by decide +kernel
theorem dX10_isTriangle_72 : decode cX10_isTriangle 72 = .ok (.getfield 127, 3) := by decide +kernel
theorem dX10_isTriangle_75 : decode cX10_isTriangle 75 = .ok (.iload 7, 2) := by decide +kernel
theorem dX10_isTriangle_77 : decode cX10_isTriangle 77 = .ok (.iaload, 1) := by decide +kernel
theorem dX10_isTriangle_78 : decode cX10_isTriangle 78 = .ok (.invokestatic 157, 3) := by decide +kernel
theorem dX10_isTriangle_81 : decode cX10_isTriangle 81 = .ok (.ifCond .eq 5, 3) := by decide +kernel
theorem dX10_isTriangle_84 : decode cX10_isTriangle 84 = .ok (.iconst 0, 1) := by decide +kernel
theorem dX10_isTriangle_85 : decode cX10_isTriangle 85 = .ok (.ireturn, 1) := by decide +kernel
theorem dX10_isTriangle_86 : decode cX10_isTriangle 86 = .ok (.iload 5, 2) := by decide +kernel
theorem dX10_isTriangle_88 : decode cX10_isTriangle 88 = .ok (.iconst 1, 1) := by decide +kernel
theorem dX10_isTriangle_89 : decode cX10_isTriangle 89 = .ok (.aload_n 0, 1) := by decide +kernel
theorem dX10_isTriangle_90 : decode cX10_isTriangle 90 = .ok (.getfield 127, 3) := by decide +kernel
theorem dX10_isTriangle_93 : decode cX10_isTriangle 93 = .ok (.iload 7, 2) := by decide +kernel
theorem dX10_isTriangle_95 : decode cX10_isTriangle 95 = .ok (.iaload, 1) := by decide +kernel
theorem dX10_isTriangle_96 : decode cX10_isTriangle 96 = .ok (.ishl, 1) := by decide +kernel
theorem dX10_isTriangle_97 : decode cX10_isTriangle 97 = .ok (.ior, 1) := by decide +kernel
theorem dX10_isTriangle_98 : decode cX10_isTriangle 98 = .ok (.istore 5, 2) := by decide +kernel
theorem dX10_isTriangle_100 : decode cX10_isTriangle 100 = .ok (.iinc 7 1, 3) := by decide +kernel
theorem dX10_isTriangle_103 : decode cX10_isTriangle 103 = .ok (.goto (-51), 3) := by decide +kernel
theorem dX10_isTriangle_106 : decode cX10_isTriangle 106 = .ok (.iconst 0, 1) := by decide +kernel
theorem dX10_isTriangle_107 : decode cX10_isTriangle 107 = .ok (.istore 7, 2) := by decide +kernel
theorem dX10_isTriangle_109 : decode cX10_isTriangle 109 = .ok (.iload 7, 2) := by decide +kernel
theorem dX10_isTriangle_111 : decode cX10_isTriangle 111 = .ok (.iconst 1, 1) := by decide +kernel
theorem dX10_isTriangle_112 : decode cX10_isTriangle 112 = .ok (.iadd, 1) := by decide +kernel
theorem dX10_isTriangle_113 : decode cX10_isTriangle 113 = .ok (.iload 6, 2) := by decide +kernel
theorem dX10_isTriangle_115 : decode cX10_isTriangle 115 = .ok (.if_icmp .ge 36, 3) := by decide +kernel
theorem dX10_isTriangle_118 : decode cX10_isTriangle 118 = .ok (.aload_n 0, 1) := by decide +kernel
theorem dX10_isTriangle_119 : decode cX10_isTriangle 119 = .ok (.getfield 127, 3) := by decide +kernel
theorem dX10_isTriangle_122 : decode cX10_isTriangle 122 = .ok (.iload 7, 2) := by decide +kernel
theorem dX10_isTriangle_124 : decode cX10_isTriangle 124 = .ok (.aload_n 0, 1) := by decide +kernel
theorem dX10_isTriangle_125 : decode cX10_isTriangle 125 = .ok (.getfield 127, 3) := by decide +kernel
theorem dX10_isTriangle_128 : decode cX10_isTriangle 128 = .ok (.iload 7, 2) := by decide +kernel
theorem dX10_isTriangle_130 : decode cX10_isTriangle 130 = .ok (.iaload, 1) := by decide +kernel
theorem dX10_isTriangle_131 : decode cX10_isTriangle 131 = .ok (.aload_n 0, 1) := by decide +kernel
theorem dX10_isTriangle_132 : decode cX10_isTriangle 132 = .ok (.getfield 127, 3) := by decide +kernel
theorem dX10_isTriangle_135 : decode cX10_isTriangle 135 = .ok (.iload 7, 2) := by decide +kernel
theorem dX10_isTriangle_137 : decode cX10_isTriangle 137 = .ok (.iconst 1, 1) := by decide +kernel
theorem dX10_isTriangle_138 : decode cX10_isTriangle 138 = .ok (.iadd, 1) := by decide +kernel
theorem dX10_isTriangle_139 : decode cX10_isTriangle 139 = .ok (.iaload, 1) := by decide +kernel
theorem dX10_isTriangle_140 : decode cX10_isTriangle 140 = .ok (.isub, 1) := by decide +kernel
theorem dX10_isTriangle_141 : decode cX10_isTriangle 141 = .ok (.invokestatic 381, 3) := by decide +kernel
theorem dX10_isTriangle_144 : decode cX10_isTriangle 144 = .ok (.iastore, 1) := by decide +kernel
theorem dX10_isTriangle_145 : decode cX10_isTriangle 145 = .ok (.iinc 7 1, 3) := by decide +kernel
theorem dX10_isTriangle_148 : decode cX10_isTriangle 148 = .ok (.goto (-39), 3) := by decide +kernel
theorem dX10_isTriangle_151 : decode cX10_isTriangle 151 = .ok (.iinc 6 (-1), 3) := by decide +kernel
theorem dX10_isTriangle_154 : decode cX10_isTriangle 154 = .ok (.goto (-110), 3) := by decide +kernel
theorem dX10_isTriangle_157 : decode cX10_isTriangle 157 = .ok (.iconst 1, 1) := by decide +kernel
theorem dX10_isTriangle_158 : decode cX10_isTriangle 158 = .ok (.ireturn, 1) := by decide +kernel
theorem dX10_triangle_0 : decode cX10_triangle 0 = .ok (.iload_n 1, 1) := by decide +kernel
theorem dX10_triangle_1 : decode cX10_triangle 1 = .ok (.iconst 1, 1) := by decide +kernel
theorem dX10_triangle_2 : decode cX10_triangle 2 = .ok (.iconst 4, 1) := by decide +kernel
theorem dX10_triangle_3 : decode cX10_triangle 3 = .ok (.invokestatic 161, 3) := by decide +kernel
theorem dX10_triangle_6 : decode cX10_triangle 6 = .ok (.ifCond .eq 18, 3) := by decide +kernel
theorem dX10_triangle_9 : decode cX10_triangle 9 = .ok (.iload_n 2, 1) := by decide +kernel
theorem dX10_triangle_10 : decode cX10_triangle 10 = .ok (.iconst 0, 1) := by decide +kernel
theorem dX10_triangle_11 : decode cX10_triangle 11 = .ok (.iconst 3, 1) := by decide +kernel
theorem dX10_triangle_12 : decode cX10_triangle 12 = .ok (.invokestatic 161, 3) := by decide +kernel
theorem dX10_triangle_15 : decode cX10_triangle 15 = .ok (.ifCond .ne 11, 3) := by decide +kernel
theorem dX10_triangle_18 : decode cX10_triangle 18 = .ok (.iload_n 2, 1) := by decide +kernel
theorem dX10_triangle_19 : decode cX10_triangle 19 = .ok (.bipush 100, 2) := by decide +kernel
theorem dX10_triangle_21 : decode cX10_triangle 21 = .ok (.if_icmp .eq 5, 3) := by decide +kernel
theorem dX10_triangle_24 : decode cX10_triangle 24 = .ok (.iconst (-1), 1) := by decide +kernel
theorem dX10_triangle_25 : decode cX10_triangle 25 = .ok (.ireturn, 1) := by decide +kernel
theorem dX10_triangle_26 : decode cX10_triangle 26 = .ok (.iload_n 2, 1) := by decide +kernel
theorem dX10_triangle_27 : decode cX10_triangle 27 = .ok (.bipush 100, 2) := by decide +kernel
theorem dX10_triangle_29 : decode cX10_triangle 29 = .ok (.if_icmp .eq 11, 3) := by decide +kernel
theorem dX10_triangle_32 : decode cX10_triangle 32 = .ok (.iload_n 2, 1) := by decide +kernel
theorem dX10_triangle_33 : decode cX10_triangle 33 = .ok (.iload_n 1, 1) := by decide +kernel
theorem dX10_triangle_34 : decode cX10_triangle 34 = .ok (.if_icmp .lt 6, 3) := by decide +kernel
theorem dX10_triangle_37 : decode cX10_triangle 37 = .ok (.bipush (-4), 2) := by decide +kernel
theorem dX10_triangle_39 : decode cX10_triangle 39 = .ok (.ireturn, 1) := by decide +kernel
theorem dX10_triangle_40 : decode cX10_triangle 40 = .ok (.iload_n 1, 1) := by decide +kernel
theorem dX10_triangle_41 : decode cX10_triangle 41 = .ok (.iload_n 1, 1) := by decide +kernel
theorem dX10_triangle_42 : decode cX10_triangle 42 = .ok (.iconst 1, 1) := by decide +kernel
theorem dX10_triangle_43 : decode cX10_triangle 43 = .ok (.iadd, 1) := by decide +kernel
theorem dX10_triangle_44 : decode cX10_triangle 44 = .ok (.imul, 1) := by decide +kernel
theorem dX10_triangle_45 : decode cX10_triangle 45 = .ok (.iconst 2, 1) := by decide +kernel
theorem dX10_triangle_46 : decode cX10_triangle 46 = .ok (.idiv, 1) := by decide +kernel
theorem dX10_triangle_47 : decode cX10_triangle 47 = .ok (.istore_n 3, 1) := by decide +kernel
theorem dX10_triangle_48 : decode cX10_triangle 48 = .ok (.iconst 1, 1) := by decide +kernel
theorem dX10_triangle_49 : decode cX10_triangle 49 = .ok (.istore 4, 2) := by decide +kernel
theorem dX10_triangle_51 : decode cX10_triangle 51 = .ok (.iconst 0, 1) := by decide +kernel
theorem dX10_triangle_52 : decode cX10_triangle 52 = .ok (.istore 5, 2) := by decide +kernel
theorem dX10_triangle_54 : decode cX10_triangle 54 = .ok (.iload 5, 2) := by decide +kernel
theorem dX10_triangle_56 : decode cX10_triangle 56 = .ok (.iload_n 1, 1) := by decide +kernel
theorem dX10_triangle_57 : decode cX10_triangle 57 = .ok (.if_icmp .ge 15, 3) := by decide +kernel
theorem dX10_triangle_60 : decode cX10_triangle 60 = .ok (.iload 4, 2) := by decide +kernel
theorem dX10_triangle_62 : decode cX10_triangle 62 = .ok (.iload_n 3, 1) := by decide +kernel
theorem dX10_triangle_63 : decode cX10_triangle 63 = .ok (.imul, 1) := by decide +kernel
theorem dX10_triangle_64 : decode cX10_triangle 64 = .ok (.istore 4, 2) := by decide +kernel
theorem dX10_triangle_66 : decode cX10_triangle 66 = .ok (.iinc 5 1, 3) := by decide +kernel
theorem dX10_triangle_69 : decode cX10_triangle 69 = .ok (.goto (-15), 3) := by decide +kernel
theorem dX10_triangle_72 : decode cX10_triangle 72 = .ok (.iconst 0, 1) := by decide +kernel
theorem dX10_triangle_73 : decode cX10_triangle 73 = .ok (.istore 5, 2) := by decide +kernel
theorem dX10_triangle_75 : decode cX10_triangle 75 = .ok (.iconst (-1), 1) := by decide +kernel
theorem dX10_triangle_76 : decode cX10_triangle 76 = .ok (.istore 6, 2) := by decide +kernel
theorem dX10_triangle_78 : decode cX10_triangle 78 = .ok (.iload 4, 2) := by decide +kernel
theorem dX10_triangle_80 : decode cX10_triangle 80 = .ok (.iconst 1, 1) := by decide +kernel
theorem dX10_triangle_81 : decode cX10_triangle 81 = .ok (.isub, 1) := by decide +kernel
theorem dX10_triangle_82 : decode cX10_triangle 82 = .ok (.istore 7, 2) := by decide +kernel
theorem dX10_triangle_84 : decode cX10_triangle 84 = .ok (.iload 7, 2) := by decide +kernel
theorem dX10_triangle_86 : decode cX10_triangle 86 = .ok (.ifCond .lt 33, 3) := by decide +kernel
theorem dX10_triangle_89 : decode cX10_triangle 89 = .ok (.aload_n 0, 1) := by decide +kernel
theorem dX10_triangle_90 : decode cX10_triangle 90 = .ok (.iload_n 1, 1) := by decide +kernel
theorem dX10_triangle_91 : decode cX10_triangle 91 = .ok (.iload 7, 2) := by decide +kernel
theorem dX10_triangle_93 : decode cX10_triangle 93 = .ok (.iload_n 3, 1) := by decide +kernel
theorem dX10_triangle_94 : decode cX10_triangle 94 = .ok (.invokevirtual 401, 3) := by decide +kernel
theorem dX10_triangle_97 : decode cX10_triangle 97 = .ok (.ifCond .ne 6, 3) := by decide +kernel
theorem dX10_triangle_100 : decode cX10_triangle 100 = .ok (.goto 13, 3) := by decide +kernel
theorem dX10_triangle_103 : decode cX10_triangle 103 = .ok (.iload 5, 2) := by decide +kernel
theorem dX10_triangle_105 : decode cX10_triangle 105 = .ok (.iconst 1, 1) := by decide +kernel
theorem dX10_triangle_106 : decode cX10_triangle 106 = .ok (.iadd, 1) := by decide +kernel
theorem dX10_triangle_107 : decode cX10_triangle 107 = .ok (.istore 5, 2) := by decide +kernel
theorem dX10_triangle_109 : decode cX10_triangle 109 = .ok (.iload 7, 2) := by decide +kernel
theorem dX10_triangle_111 : decode cX10_triangle 111 = .ok (.istore 6, 2) := by decide +kernel
theorem dX10_triangle_113 : decode cX10_triangle 113 = .ok (.iinc 7 (-1), 3) := by decide +kernel
theorem dX10_triangle_116 : decode cX10_triangle 116 = .ok (.goto (-32), 3) := by decide +kernel
theorem dX10_triangle_119 : decode cX10_triangle 119 = .ok (.iload_n 2, 1) := by decide +kernel
theorem dX10_triangle_120 : decode cX10_triangle 120 = .ok (.bipush 100, 2) := by decide +kernel
theorem dX10_triangle_122 : decode cX10_triangle 122 = .ok (.if_icmp .ne 6, 3) := by decide +kernel
theorem dX10_triangle_125 : decode cX10_triangle 125 = .ok (.iload 5, 2) := by decide +kernel
theorem dX10_triangle_127 : decode cX10_triangle 127 = .ok (.ireturn, 1) := by decide +kernel
theorem dX10_triangle_128 : decode cX10_triangle 128 = .ok (.iload_n 1, 1) := by decide +kernel
theorem dX10_triangle_129 : decode cX10_triangle 129 = .ok (.iconst 1, 1) := by decide +kernel
theorem dX10_triangle_130 : decode cX10_triangle 130 = .ok (.isub, 1) := by decide +kernel
theorem dX10_triangle_131 : decode cX10_triangle 131 = .ok (.istore 7, 2) := by decide +kernel
theorem dX10_triangle_133 : decode cX10_triangle 133 = .ok (.iload 7, 2) := by decide +kernel
theorem dX10_triangle_135 : decode cX10_triangle 135 = .ok (.iload_n 2, 1) := by decide +kernel
theorem dX10_triangle_136 : decode cX10_triangle 136 = .ok (.if_icmp .le 15, 3) := by decide +kernel
theorem dX10_triangle_139 : decode cX10_triangle 139 = .ok (.iload 6, 2) := by decide +kernel
theorem dX10_triangle_141 : decode cX10_triangle 141 = .ok (.iload_n 3, 1) := by decide +kernel
theorem dX10_triangle_142 : decode cX10_triangle 142 = .ok (.idiv, 1) := by decide +kernel
theorem dX10_triangle_143 : decode cX10_triangle 143 = .ok (.istore 6, 2) := by decide +kernel
theorem dX10_triangle_145 : decode cX10_triangle 145 = .ok (.iinc 7 (-1), 3) := by decide +kernel
theorem dX10_triangle_148 : decode cX10_triangle 148 = .ok (.goto (-15), 3) := by decide +kernel
theorem dX10_triangle_151 : decode cX10_triangle 151 = .ok (.iload 6, 2) := by decide +kernel
theorem dX10_triangle_153 : decode cX10_triangle 153 = .ok (.iload_n 3, 1) := by decide +kernel
theorem dX10_triangle_154 : decode cX10_triangle 154 = .ok (.irem, 1) := by decide +kernel
theorem dX10_triangle_155 : decode cX10_triangle 155 = .ok (.iconst 1, 1) := by decide +kernel
theorem dX10_triangle_156 : decode cX10_triangle 156 = .ok (.iadd, 1) := by decide +kernel
theorem dX10_triangle_157 : decode cX10_triangle 157 = .ok (.ireturn, 1) := by decide +kernel
theorem dX10_bestRise_0 : decode cX10_bestRise 0 = .ok (.iload_n 1, 1) := by decide +kernel
theorem dX10_bestRise_1 : decode cX10_bestRise 1 = .ok (.iconst 1, 1) := by decide +kernel
theorem dX10_bestRise_2 : decode cX10_bestRise 2 = .ok (.bipush 20, 2) := by decide +kernel
theorem dX10_bestRise_4 : decode cX10_bestRise 4 = .ok (.invokestatic 161, 3) := by decide +kernel
theorem dX10_bestRise_7 : decode cX10_bestRise 7 = .ok (.ifCond .eq 20, 3) := by decide +kernel
theorem dX10_bestRise_10 : decode cX10_bestRise 10 = .ok (.iload_n 2, 1) := by decide +kernel
theorem dX10_bestRise_11 : decode cX10_bestRise 11 = .ok (.iconst 1, 1) := by decide +kernel
theorem dX10_bestRise_12 : decode cX10_bestRise 12 = .ok (.iconst 3, 1) := by decide +kernel
theorem dX10_bestRise_13 : decode cX10_bestRise 13 = .ok (.invokestatic 161, 3) := by decide +kernel
theorem dX10_bestRise_16 : decode cX10_bestRise 16 = .ok (.ifCond .eq 11, 3) := by decide +kernel
theorem dX10_bestRise_19 : decode cX10_bestRise 19 = .ok (.iload_n 1, 1) := by decide +kernel
theorem dX10_bestRise_20 : decode cX10_bestRise 20 = .ok (.aload_n 0, 1) := by decide +kernel
theorem dX10_bestRise_21 : decode cX10_bestRise 21 = .ok (.getfield 169, 3) := by decide +kernel
theorem dX10_bestRise_24 : decode cX10_bestRise 24 = .ok (.if_icmp .le 5, 3) := by decide +kernel
theorem dX10_bestRise_27 : decode cX10_bestRise 27 = .ok (.iconst (-1), 1) := by decide +kernel
theorem dX10_bestRise_28 : decode cX10_bestRise 28 = .ok (.ireturn, 1) := by decide +kernel
theorem dX10_bestRise_29 : decode cX10_bestRise 29 = .ok (.aload_n 0, 1) := by decide +kernel
theorem dX10_bestRise_30 : decode cX10_bestRise 30 = .ok (.iconst 0, 1) := by decide +kernel
theorem dX10_bestRise_31 : decode cX10_bestRise 31 = .ok (.putfield 169, 3) := by decide +kernel
theorem dX10_bestRise_34 : decode cX10_bestRise 34 = .ok (.iconst 0, 1) := by decide +kernel
theorem dX10_bestRise_35 : decode cX10_bestRise 35 = .ok (.istore_n 3, 1) := by decide +kernel
theorem dX10_bestRise_36 : decode cX10_bestRise 36 = .ok (.iload_n 3, 1) := by decide +kernel
theorem dX10_bestRise_37 : decode cX10_bestRise 37 = .ok (.iload_n 2, 1) := by decide +kernel
theorem dX10_bestRise_38 : decode cX10_bestRise 38 = .ok (.if_icmp .gt 25, 3) := by decide +kernel
theorem dX10_bestRise_41 : decode cX10_bestRise 41 = .ok (.aload_n 0, 1) := by decide +kernel
theorem dX10_bestRise_42 : decode cX10_bestRise 42 = .ok (.getfield 133, 3) := by decide +kernel
theorem dX10_bestRise_45 : decode cX10_bestRise 45 = .ok (.iload_n 3, 1) := by decide +kernel
theorem dX10_bestRise_46 : decode cX10_bestRise 46 = .ok (.iconst 0, 1) := by decide +kernel
theorem dX10_bestRise_47 : decode cX10_bestRise 47 = .ok (.iastore, 1) := by decide +kernel
theorem dX10_bestRise_48 : decode cX10_bestRise 48 = .ok (.aload_n 0, 1) := by decide +kernel
theorem dX10_bestRise_49 : decode cX10_bestRise 49 = .ok (.getfield 136, 3) := by decide +kernel
theorem dX10_bestRise_52 : decode cX10_bestRise 52 = .ok (.iload_n 3, 1) := by decide +kernel
theorem dX10_bestRise_53 : decode cX10_bestRise 53 = .ok (.ldc_w 311, 3) := by decide +kernel
theorem dX10_bestRise_56 : decode cX10_bestRise 56 = .ok (.iastore, 1) := by decide +kernel
theorem dX10_bestRise_57 : decode cX10_bestRise 57 = .ok (.iinc 3 1, 3) := by decide +kernel
theorem dX10_bestRise_60 : decode cX10_bestRise 60 = .ok (.goto (-24), 3) := by decide +kernel
theorem dX10_bestRise_63 : decode cX10_bestRise 63 = .ok (.iconst 0, 1) := by decide +kernel
theorem dX10_bestRise_64 : decode cX10_bestRise 64 = .ok (.istore_n 3, 1) := by decide +kernel
theorem dX10_bestRise_65 : decode cX10_bestRise 65 = .ok (.iload_n 3, 1) := by decide +kernel
theorem dX10_bestRise_66 : decode cX10_bestRise 66 = .ok (.iload_n 1, 1) := by decide +kernel
theorem dX10_bestRise_67 : decode cX10_bestRise 67 = .ok (.if_icmp .ge 112, 3) := by decide +kernel
theorem dX10_bestRise_70 : decode cX10_bestRise 70 = .ok (.iload_n 2, 1) := by decide +kernel
theorem dX10_bestRise_71 : decode cX10_bestRise 71 = .ok (.istore 4, 2) := by decide +kernel
theorem dX10_bestRise_73 : decode cX10_bestRise 73 = .ok (.iload 4, 2) := by decide +kernel
theorem dX10_bestRise_75 : decode cX10_bestRise 75 = .ok (.ifCond .le 53, 3) := by decide +kernel
theorem dX10_bestRise_78 : decode cX10_bestRise 78 = .ok (.aload_n 0, 1) := by decide +kernel
theorem dX10_bestRise_79 : decode cX10_bestRise 79 = .ok (.getfield 133, 3) := by decide +kernel
theorem dX10_bestRise_82 : decode cX10_bestRise 82 = .ok (.iload 4, 2) := by decide +kernel
theorem dX10_bestRise_84 : decode cX10_bestRise 84 = .ok (.aload_n 0, 1) := by decide +kernel
theorem dX10_bestRise_85 : decode cX10_bestRise 85 = .ok (.getfield 133, 3) := by decide +kernel
theorem dX10_bestRise_88 : decode cX10_bestRise 88 = .ok (.iload 4, 2) := by decide +kernel
theorem dX10_bestRise_90 : decode cX10_bestRise 90 = .ok (.iaload, 1) := by decide +kernel
theorem dX10_bestRise_91 : decode cX10_bestRise 91 = .ok (.aload_n 0, 1) := by decide +kernel
theorem dX10_bestRise_92 : decode cX10_bestRise 92 = .ok (.getfield 133, 3) := by decide +kernel
theorem dX10_bestRise_95 : decode cX10_bestRise 95 = .ok (.iload 4, 2) := by decide +kernel
theorem dX10_bestRise_97 : decode cX10_bestRise 97 = .ok (.iconst 1, 1) := by decide +kernel
theorem dX10_bestRise_98 : decode cX10_bestRise 98 = .ok (.isub, 1) := by decide +kernel
theorem dX10_bestRise_99 : decode cX10_bestRise 99 = .ok (.iaload, 1) := by decide +kernel
theorem dX10_bestRise_100 : decode cX10_bestRise 100 = .ok (.aload_n 0, 1) := by decide +kernel
theorem dX10_bestRise_101 : decode cX10_bestRise 101 = .ok (.getfield 136, 3) := by decide +kernel
theorem dX10_bestRise_104 : decode cX10_bestRise 104 = .ok (.iload 4, 2) := by decide +kernel
theorem dX10_bestRise_106 : decode cX10_bestRise 106 = .ok (.iconst 1, 1) := by decide +kernel
theorem dX10_bestRise_107 : decode cX10_bestRise 107 = .ok (.isub, 1) := by decide +kernel
theorem dX10_bestRise_108 : decode cX10_bestRise 108 = .ok (.iaload, 1) := by decide +kernel
theorem dX10_bestRise_109 : decode cX10_bestRise 109 = .ok (.aload_n 0, 1) := by decide +kernel
theorem dX10_bestRise_110 : decode cX10_bestRise 110 = .ok (.iload_n 3, 1) := by decide +kernel
theorem dX10_bestRise_111 : decode cX10_bestRise 111 = .ok (.invokevirtual 372, 3) := by decide +kernel
theorem dX10_bestRise_114 : decode cX10_bestRise 114 = .ok (.iadd, 1) := by decide +kernel
theorem dX10_bestRise_115 : decode cX10_bestRise 115 = .ok (.invokestatic 328, 3) := by decide +kernel
theorem dX10_bestRise_118 : decode cX10_bestRise 118 = .ok (.invokestatic 328, 3) := by decide +kernel
theorem dX10_bestRise_121 : decode cX10_bestRise 121 = .ok (.iastore, 1) := by decide +kernel
theorem dX10_bestRise_122 : decode cX10_bestRise 122 = .ok (.iinc 4 (-1), 3) := by decide +kernel
theorem dX10_bestRise_125 : decode cX10_bestRise 125 = .ok (.goto (-52), 3) := by decide +kernel
theorem dX10_bestRise_128 : decode cX10_bestRise 128 = .ok (.iconst 0, 1) := by decide +kernel
theorem dX10_bestRise_129 : decode cX10_bestRise 129 = .ok (.istore 4, 2) := by decide +kernel
theorem dX10_bestRise_131 : decode cX10_bestRise 131 = .ok (.iload 4, 2) := by decide +kernel
theorem dX10_bestRise_133 : decode cX10_bestRise 133 = .ok (.iload_n 2, 1) := by decide +kernel
theorem dX10_bestRise_134 : decode cX10_bestRise 134 = .ok (.if_icmp .ge 39, 3) := by decide +kernel
theorem dX10_bestRise_137 : decode cX10_bestRise 137 = .ok (.aload_n 0, 1) := by decide +kernel
theorem dX10_bestRise_138 : decode cX10_bestRise 138 = .ok (.getfield 136, 3) := by decide +kernel
theorem dX10_bestRise_141 : decode cX10_bestRise 141 = .ok (.iload 4, 2) := by decide +kernel
theorem dX10_bestRise_143 : decode cX10_bestRise 143 = .ok (.aload_n 0, 1) := by decide +kernel
theorem dX10_bestRise_144 : decode cX10_bestRise 144 = .ok (.getfield 136, 3) := by decide +kernel
theorem dX10_bestRise_147 : decode cX10_bestRise 147 = .ok (.iload 4, 2) := by decide +kernel
theorem dX10_bestRise_149 : decode cX10_bestRise 149 = .ok (.iaload, 1) := by decide +kernel
theorem dX10_bestRise_150 : decode cX10_bestRise 150 = .ok (.aload_n 0, 1) := by decide +kernel
theorem dX10_bestRise_151 : decode cX10_bestRise 151 = .ok (.getfield 133, 3) := by decide +kernel
theorem dX10_bestRise_154 : decode cX10_bestRise 154 = .ok (.iload 4, 2) := by decide +kernel
theorem dX10_bestRise_156 : decode cX10_bestRise 156 = .ok (.iaload, 1) := by decide +kernel
theorem dX10_bestRise_157 : decode cX10_bestRise 157 = .ok (.aload_n 0, 1) := by decide +kernel
theorem dX10_bestRise_158 : decode cX10_bestRise 158 = .ok (.iload_n 3, 1) := by decide +kernel
theorem dX10_bestRise_159 : decode cX10_bestRise 159 = .ok (.invokevirtual 372, 3) := by decide +kernel
theorem dX10_bestRise_162 : decode cX10_bestRise 162 = .ok (.isub, 1) := by decide +kernel
theorem dX10_bestRise_163 : decode cX10_bestRise 163 = .ok (.invokestatic 328, 3) := by decide +kernel
theorem dX10_bestRise_166 : decode cX10_bestRise 166 = .ok (.iastore, 1) := by decide +kernel
theorem dX10_bestRise_167 : decode cX10_bestRise 167 = .ok (.iinc 4 1, 3) := by decide +kernel
theorem dX10_bestRise_170 : decode cX10_bestRise 170 = .ok (.goto (-39), 3) := by decide +kernel
theorem dX10_bestRise_173 : decode cX10_bestRise 173 = .ok (.iinc 3 1, 3) := by decide +kernel
theorem dX10_bestRise_176 : decode cX10_bestRise 176 = .ok (.goto (-111), 3) := by decide +kernel
theorem dX10_bestRise_179 : decode cX10_bestRise 179 = .ok (.aload_n 0, 1) := by decide +kernel
theorem dX10_bestRise_180 : decode cX10_bestRise 180 = .ok (.getfield 133, 3) := by decide +kernel
theorem dX10_bestRise_183 : decode cX10_bestRise 183 = .ok (.iload_n 2, 1) := by decide +kernel
theorem dX10_bestRise_184 : decode cX10_bestRise 184 = .ok (.iaload, 1) := by decide +kernel
theorem dX10_bestRise_185 : decode cX10_bestRise 185 = .ok (.ireturn, 1) := by decide +kernel
theorem dX10_laysHeights_0 : decode cX10_laysHeights 0 = .ok (.iconst 0, 1) := by decide +kernel
theorem dX10_laysHeights_1 : decode cX10_laysHeights 1 = .ok (.istore_n 2, 1) := by decide +kernel
theorem dX10_laysHeights_2 : decode cX10_laysHeights 2 = .ok (.iload_n 2, 1) := by decide +kernel
theorem dX10_laysHeights_3 : decode cX10_laysHeights 3 = .ok (.iload_n 1, 1) := by decide +kernel
theorem dX10_laysHeights_4 : decode cX10_laysHeights 4 = .ok (.if_icmp .ge 63, 3) := by decide +kernel
theorem dX10_laysHeights_7 : decode cX10_laysHeights 7 = .ok (.iload_n 2, 1) := by decide +kernel
theorem dX10_laysHeights_8 : decode cX10_laysHeights 8 = .ok (.istore_n 3, 1) := by decide +kernel
theorem dX10_laysHeights_9 : decode cX10_laysHeights 9 = .ok (.iload_n 3, 1) := by decide +kernel
theorem dX10_laysHeights_10 : decode cX10_laysHeights 10 = .ok (.ifCond .le 40, 3) := by decide +kernel
theorem dX10_laysHeights_13 : decode cX10_laysHeights 13 = .ok (.aload_n 0, 1) := by decide +kernel
theorem dX10_laysHeights_14 : decode cX10_laysHeights 14 = .ok (.getfield 139, 3) := by decide +kernel
theorem dX10_laysHeights_17 : decode cX10_laysHeights 17 = .ok (.iload_n 3, 1) := by decide +kernel
theorem dX10_laysHeights_18 : decode cX10_laysHeights 18 = .ok (.iconst 1, 1) := by decide +kernel
theorem dX10_laysHeights_19 : decode cX10_laysHeights 19 = .ok (.isub, 1) := by decide +kernel
theorem dX10_laysHeights_20 : decode cX10_laysHeights 20 = .ok (.iaload, 1) := by decide +kernel
theorem dX10_laysHeights_21 : decode cX10_laysHeights 21 = .ok (.aload_n 0, 1) := by decide +kernel
theorem dX10_laysHeights_22 : decode cX10_laysHeights 22 = .ok (.iload_n 2, 1) := by decide +kernel
theorem dX10_laysHeights_23 : decode cX10_laysHeights 23 = .ok (.invokevirtual 372, 3) := by decide +kernel
theorem dX10_laysHeights_26 : decode cX10_laysHeights 26 = .ok (.if_icmp .le 24, 3) := by decide +kernel
theorem dX10_laysHeights_29 : decode cX10_laysHeights 29 = .ok (.aload_n 0, 1) := by decide +kernel
theorem dX10_laysHeights_30 : decode cX10_laysHeights 30 = .ok (.getfield 139, 3) := by decide +kernel
theorem dX10_laysHeights_33 : decode cX10_laysHeights 33 = .ok (.iload_n 3, 1) := by decide +kernel
theorem dX10_laysHeights_34 : decode cX10_laysHeights 34 = .ok (.aload_n 0, 1) := by decide +kernel
theorem dX10_laysHeights_35 : decode cX10_laysHeights 35 = .ok (.getfield 139, 3) := by decide +kernel
theorem dX10_laysHeights_38 : decode cX10_laysHeights 38 = .ok (.iload_n 3, 1) := by decide +kernel
theorem dX10_laysHeights_39 : decode cX10_laysHeights 39 = .ok (.iconst 1, 1) := by decide +kernel
theorem dX10_laysHeights_40 : decode cX10_laysHeights 40 = .ok (.isub, 1) := by decide +kernel
theorem dX10_laysHeights_41 : decode cX10_laysHeights 41 = .ok (.iaload, 1) := by decide +kernel
theorem dX10_laysHeights_42 : decode cX10_laysHeights 42 = .ok (.iastore, 1) := by decide +kernel
theorem dX10_laysHeights_43 : decode cX10_laysHeights 43 = .ok (.iload_n 3, 1) := by decide +kernel
theorem dX10_laysHeights_44 : decode cX10_laysHeights 44 = .ok (.iconst 1, 1) := by decide +kernel
theorem dX10_laysHeights_45 : decode cX10_laysHeights 45 = .ok (.isub, 1) := by decide +kernel
theorem dX10_laysHeights_46 : decode cX10_laysHeights 46 = .ok (.istore_n 3, 1) := by decide +kernel
theorem dX10_laysHeights_47 : decode cX10_laysHeights 47 = .ok (.goto (-38), 3) := by decide +kernel
theorem dX10_laysHeights_50 : decode cX10_laysHeights 50 = .ok (.aload_n 0, 1) := by decide +kernel
theorem dX10_laysHeights_51 : decode cX10_laysHeights 51 = .ok (.getfield 139, 3) := by decide +kernel
theorem dX10_laysHeights_54 : decode cX10_laysHeights 54 = .ok (.iload_n 3, 1) := by decide +kernel
theorem dX10_laysHeights_55 : decode cX10_laysHeights 55 = .ok (.aload_n 0, 1) := by decide +kernel
theorem dX10_laysHeights_56 : decode cX10_laysHeights 56 = .ok (.iload_n 2, 1) := by decide +kernel
theorem dX10_laysHeights_57 : decode cX10_laysHeights 57 = .ok (.invokevirtual 372, 3) := by decide +kernel
theorem dX10_laysHeights_60 : decode cX10_laysHeights 60 = .ok (.iastore, 1) := by decide +kernel
theorem dX10_laysHeights_61 : decode cX10_laysHeights 61 = .ok (.iinc 2 1, 3) := by decide +kernel
theorem dX10_laysHeights_64 : decode cX10_laysHeights 64 = .ok (.goto (-62), 3) := by decide +kernel
theorem dX10_laysHeights_67 : decode cX10_laysHeights 67 = .ok (.return_, 1) := by decide +kernel
theorem dX10_narrowest_0 : decode cX10_narrowest 0 = .ok (.iload_n 1, 1) := by decide +kernel
theorem dX10_narrowest_1 : decode cX10_narrowest 1 = .ok (.iconst 1, 1) := by decide +kernel
theorem dX10_narrowest_2 : decode cX10_narrowest 2 = .ok (.bipush 20, 2) := by decide +kernel
theorem dX10_narrowest_4 : decode cX10_narrowest 4 = .ok (.invokestatic 161, 3) := by decide +kernel
theorem dX10_narrowest_7 : decode cX10_narrowest 7 = .ok (.ifCond .eq 22, 3) := by decide +kernel
theorem dX10_narrowest_10 : decode cX10_narrowest 10 = .ok (.iload_n 2, 1) := by decide +kernel
theorem dX10_narrowest_11 : decode cX10_narrowest 11 = .ok (.iconst 0, 1) := by decide +kernel
theorem dX10_narrowest_12 : decode cX10_narrowest 12 = .ok (.iload_n 1, 1) := by decide +kernel
theorem dX10_narrowest_13 : decode cX10_narrowest 13 = .ok (.iconst 1, 1) := by decide +kernel
theorem dX10_narrowest_14 : decode cX10_narrowest 14 = .ok (.isub, 1) := by decide +kernel
theorem dX10_narrowest_15 : decode cX10_narrowest 15 = .ok (.invokestatic 161, 3) := by decide +kernel
theorem dX10_narrowest_18 : decode cX10_narrowest 18 = .ok (.ifCond .eq 11, 3) := by decide +kernel
theorem dX10_narrowest_21 : decode cX10_narrowest 21 = .ok (.iload_n 1, 1) := by decide +kernel
theorem dX10_narrowest_22 : decode cX10_narrowest 22 = .ok (.aload_n 0, 1) := by decide +kernel
theorem dX10_narrowest_23 : decode cX10_narrowest 23 = .ok (.getfield 169, 3) := by decide +kernel
theorem dX10_narrowest_26 : decode cX10_narrowest 26 = .ok (.if_icmp .le 5, 3) := by decide +kernel
theorem dX10_narrowest_29 : decode cX10_narrowest 29 = .ok (.iconst (-1), 1) := by decide +kernel
theorem dX10_narrowest_30 : decode cX10_narrowest 30 = .ok (.ireturn, 1) := by decide +kernel
theorem dX10_narrowest_31 : decode cX10_narrowest 31 = .ok (.aload_n 0, 1) := by decide +kernel
theorem dX10_narrowest_32 : decode cX10_narrowest 32 = .ok (.iconst 0, 1) := by decide +kernel
theorem dX10_narrowest_33 : decode cX10_narrowest 33 = .ok (.putfield 169, 3) := by decide +kernel
theorem dX10_narrowest_36 : decode cX10_narrowest 36 = .ok (.aload_n 0, 1) := by decide +kernel
theorem dX10_narrowest_37 : decode cX10_narrowest 37 = .ok (.iload_n 1, 1) := by decide +kernel
theorem dX10_narrowest_38 : decode cX10_narrowest 38 = .ok (.invokevirtual 404, 3) := by decide +kernel
theorem dX10_narrowest_41 : decode cX10_narrowest 41 = .ok (.ldc_w 321, 3) := by decide +kernel
theorem dX10_narrowest_44 : decode cX10_narrowest 44 = .ok (.istore_n 3, 1) := by decide +kernel
theorem dX10_narrowest_45 : decode cX10_narrowest 45 = .ok (.iconst 0, 1) := by decide +kernel
theorem dX10_narrowest_46 : decode cX10_narrowest 46 = .ok (.istore 4, 2) := by decide +kernel
theorem dX10_narrowest_48 : decode cX10_narrowest 48 = .ok (.iload 4, 2) := by decide +kernel
theorem dX10_narrowest_50 : decode cX10_narrowest 50 = .ok (.iload_n 2, 1) := by decide +kernel
theorem dX10_narrowest_51 : decode cX10_narrowest 51 = .ok (.if_icmp .gt 35, 3) := by decide +kernel
theorem dX10_narrowest_54 : decode cX10_narrowest 54 = .ok (.iload_n 3, 1) := by decide +kernel
theorem dX10_narrowest_55 : decode cX10_narrowest 55 = .ok (.aload_n 0, 1) := by decide +kernel
theorem dX10_narrowest_56 : decode cX10_narrowest 56 = .ok (.getfield 139, 3) := by decide +kernel
theorem dX10_narrowest_59 : decode cX10_narrowest 59 = .ok (.iload 4, 2) := by decide +kernel
theorem dX10_narrowest_61 : decode cX10_narrowest 61 = .ok (.iload_n 1, 1) := by decide +kernel
theorem dX10_narrowest_62 : decode cX10_narrowest 62 = .ok (.iadd, 1) := by decide +kernel
theorem dX10_narrowest_63 : decode cX10_narrowest 63 = .ok (.iload_n 2, 1) := by decide +kernel
theorem dX10_narrowest_64 : decode cX10_narrowest 64 = .ok (.isub, 1) := by decide +kernel
theorem dX10_narrowest_65 : decode cX10_narrowest 65 = .ok (.iconst 1, 1) := by decide +kernel
theorem dX10_narrowest_66 : decode cX10_narrowest 66 = .ok (.isub, 1) := by decide +kernel
theorem dX10_narrowest_67 : decode cX10_narrowest 67 = .ok (.iaload, 1) := by decide +kernel
theorem dX10_narrowest_68 : decode cX10_narrowest 68 = .ok (.aload_n 0, 1) := by decide +kernel
theorem dX10_narrowest_69 : decode cX10_narrowest 69 = .ok (.getfield 139, 3) := by decide +kernel
theorem dX10_narrowest_72 : decode cX10_narrowest 72 = .ok (.iload 4, 2) := by decide +kernel
theorem dX10_narrowest_74 : decode cX10_narrowest 74 = .ok (.iaload, 1) := by decide +kernel
theorem dX10_narrowest_75 : decode cX10_narrowest 75 = .ok (.isub, 1) := by decide +kernel
theorem dX10_narrowest_76 : decode cX10_narrowest 76 = .ok (.invokestatic 318, 3) := by decide +kernel
theorem dX10_narrowest_79 : decode cX10_narrowest 79 = .ok (.istore_n 3, 1) := by decide +kernel
theorem dX10_narrowest_80 : decode cX10_narrowest 80 = .ok (.iinc 4 1, 3) := by decide +kernel
theorem dX10_narrowest_83 : decode cX10_narrowest 83 = .ok (.goto (-35), 3) := by decide +kernel
theorem dX10_narrowest_86 : decode cX10_narrowest 86 = .ok (.iload_n 3, 1) := by decide +kernel
theorem dX10_narrowest_87 : decode cX10_narrowest 87 = .ok (.ireturn, 1) := by decide +kernel
theorem dX10_twos_0 : decode cX10_twos 0 = .ok (.iload_n 1, 1) := by decide +kernel
theorem dX10_twos_1 : decode cX10_twos 1 = .ok (.iconst 1, 1) := by decide +kernel
theorem dX10_twos_2 : decode cX10_twos 2 = .ok (.bipush 20, 2) := by decide +kernel
theorem dX10_twos_4 : decode cX10_twos 4 = .ok (.invokestatic 161, 3) := by decide +kernel
theorem dX10_twos_7 : decode cX10_twos 7 = .ok (.ifCond .eq 22, 3) := by decide +kernel
theorem dX10_twos_10 : decode cX10_twos 10 = .ok (.iload_n 2, 1) := by decide +kernel
theorem dX10_twos_11 : decode cX10_twos 11 = .ok (.iconst 0, 1) := by decide +kernel
theorem dX10_twos_12 : decode cX10_twos 12 = .ok (.sipush 255, 3) := by decide +kernel
theorem dX10_twos_15 : decode cX10_twos 15 = .ok (.invokestatic 161, 3) := by decide +kernel
theorem dX10_twos_18 : decode cX10_twos 18 = .ok (.ifCond .eq 11, 3) := by decide +kernel
theorem dX10_twos_21 : decode cX10_twos 21 = .ok (.iload_n 1, 1) := by decide +kernel
theorem dX10_twos_22 : decode cX10_twos 22 = .ok (.aload_n 0, 1) := by decide +kernel
theorem dX10_twos_23 : decode cX10_twos 23 = .ok (.getfield 169, 3) := by decide +kernel
theorem dX10_twos_26 : decode cX10_twos 26 = .ok (.if_icmp .le 5, 3) := by decide +kernel
theorem dX10_twos_29 : decode cX10_twos 29 = .ok (.iconst (-1), 1) := by decide +kernel
theorem dX10_twos_30 : decode cX10_twos 30 = .ok (.ireturn, 1) := by decide +kernel
theorem dX10_twos_31 : decode cX10_twos 31 = .ok (.aload_n 0, 1) := by decide +kernel
theorem dX10_twos_32 : decode cX10_twos 32 = .ok (.iconst 0, 1) := by decide +kernel
theorem dX10_twos_33 : decode cX10_twos 33 = .ok (.putfield 169, 3) := by decide +kernel
theorem dX10_twos_36 : decode cX10_twos 36 = .ok (.iconst 0, 1) := by decide +kernel
theorem dX10_twos_37 : decode cX10_twos 37 = .ok (.istore_n 3, 1) := by decide +kernel
theorem dX10_twos_38 : decode cX10_twos 38 = .ok (.iconst 0, 1) := by decide +kernel
theorem dX10_twos_39 : decode cX10_twos 39 = .ok (.istore 4, 2) := by decide +kernel
theorem dX10_twos_41 : decode cX10_twos 41 = .ok (.iload 4, 2) := by decide +kernel
theorem dX10_twos_43 : decode cX10_twos 43 = .ok (.iload_n 1, 1) := by decide +kernel
theorem dX10_twos_44 : decode cX10_twos 44 = .ok (.if_icmp .ge 49, 3) := by decide +kernel
theorem dX10_twos_47 : decode cX10_twos 47 = .ok (.iconst 0, 1) := by decide +kernel
theorem dX10_twos_48 : decode cX10_twos 48 = .ok (.istore 5, 2) := by decide +kernel
theorem dX10_twos_50 : decode cX10_twos 50 = .ok (.iload 5, 2) := by decide +kernel
theorem dX10_twos_52 : decode cX10_twos 52 = .ok (.iload 4, 2) := by decide +kernel
theorem dX10_twos_54 : decode cX10_twos 54 = .ok (.if_icmp .ge 33, 3) := by decide +kernel
theorem dX10_twos_57 : decode cX10_twos 57 = .ok (.aload_n 0, 1) := by decide +kernel
theorem dX10_twos_58 : decode cX10_twos 58 = .ok (.iload 4, 2) := by decide +kernel
theorem dX10_twos_60 : decode cX10_twos 60 = .ok (.invokevirtual 372, 3) := by decide +kernel
theorem dX10_twos_63 : decode cX10_twos 63 = .ok (.aload_n 0, 1) := by decide +kernel
theorem dX10_twos_64 : decode cX10_twos 64 = .ok (.iload 5, 2) := by decide +kernel
theorem dX10_twos_66 : decode cX10_twos 66 = .ok (.invokevirtual 372, 3) := by decide +kernel
theorem dX10_twos_69 : decode cX10_twos 69 = .ok (.isub, 1) := by decide +kernel
theorem dX10_twos_70 : decode cX10_twos 70 = .ok (.invokestatic 381, 3) := by decide +kernel
theorem dX10_twos_73 : decode cX10_twos 73 = .ok (.iload_n 2, 1) := by decide +kernel
theorem dX10_twos_74 : decode cX10_twos 74 = .ok (.if_icmp .ne 7, 3) := by decide +kernel
theorem dX10_twos_77 : decode cX10_twos 77 = .ok (.iload_n 3, 1) := by decide +kernel
theorem dX10_twos_78 : decode cX10_twos 78 = .ok (.iconst 1, 1) := by decide +kernel
theorem dX10_twos_79 : decode cX10_twos 79 = .ok (.iadd, 1) := by decide +kernel
theorem dX10_twos_80 : decode cX10_twos 80 = .ok (.istore_n 3, 1) := by decide +kernel
theorem dX10_twos_81 : decode cX10_twos 81 = .ok (.iinc 5 1, 3) := by decide +kernel
theorem dX10_twos_84 : decode cX10_twos 84 = .ok (.goto (-34), 3) := by decide +kernel
theorem dX10_twos_87 : decode cX10_twos 87 = .ok (.iinc 4 1, 3) := by decide +kernel
theorem dX10_twos_90 : decode cX10_twos 90 = .ok (.goto (-49), 3) := by decide +kernel
theorem dX10_twos_93 : decode cX10_twos 93 = .ok (.iload_n 3, 1) := by decide +kernel
theorem dX10_twos_94 : decode cX10_twos 94 = .ok (.ireturn, 1) := by decide +kernel
theorem dX10_paired_0 : decode cX10_paired 0 = .ok (.iload_n 1, 1) := by decide +kernel
theorem dX10_paired_1 : decode cX10_paired 1 = .ok (.iconst 2, 1) := by decide +kernel
theorem dX10_paired_2 : decode cX10_paired 2 = .ok (.bipush 16, 2) := by decide +kernel
theorem dX10_paired_4 : decode cX10_paired 4 = .ok (.invokestatic 161, 3) := by decide +kernel
theorem dX10_paired_7 : decode cX10_paired 7 = .ok (.ifCond .eq 27, 3) := by decide +kernel
theorem dX10_paired_10 : decode cX10_paired 10 = .ok (.iload_n 1, 1) := by decide +kernel
theorem dX10_paired_11 : decode cX10_paired 11 = .ok (.iconst 2, 1) := by decide +kernel
theorem dX10_paired_12 : decode cX10_paired 12 = .ok (.irem, 1) := by decide +kernel
theorem dX10_paired_13 : decode cX10_paired 13 = .ok (.iconst 1, 1) := by decide +kernel
theorem dX10_paired_14 : decode cX10_paired 14 = .ok (.if_icmp .eq 20, 3) := by decide +kernel
theorem dX10_paired_17 : decode cX10_paired 17 = .ok (.iload_n 2, 1) := by decide +kernel
theorem dX10_paired_18 : decode cX10_paired 18 = .ok (.iconst 0, 1) := by decide +kernel
theorem dX10_paired_19 : decode cX10_paired 19 = .ok (.iconst 1, 1) := by decide +kernel
theorem dX10_paired_20 : decode cX10_paired 20 = .ok (.invokestatic 161, 3) := by decide +kernel
theorem dX10_paired_23 : decode cX10_paired 23 = .ok (.ifCond .eq 11, 3) := by decide +kernel
theorem dX10_paired_26 : decode cX10_paired 26 = .ok (.iload_n 1, 1) := by decide +kernel
theorem dX10_paired_27 : decode cX10_paired 27 = .ok (.aload_n 0, 1) := by decide +kernel
theorem dX10_paired_28 : decode cX10_paired 28 = .ok (.getfield 169, 3) := by decide +kernel
theorem dX10_paired_31 : decode cX10_paired 31 = .ok (.if_icmp .le 5, 3) := by decide +kernel
theorem dX10_paired_34 : decode cX10_paired 34 = .ok (.iconst (-1), 1) := by decide +kernel
theorem dX10_paired_35 : decode cX10_paired 35 = .ok (.ireturn, 1) := by decide +kernel
theorem dX10_paired_36 : decode cX10_paired 36 = .ok (.aload_n 0, 1) := by decide +kernel
theorem dX10_paired_37 : decode cX10_paired 37 = .ok (.iconst 0, 1) := by decide +kernel
theorem dX10_paired_38 : decode cX10_paired 38 = .ok (.putfield 169, 3) := by decide +kernel
theorem dX10_paired_41 : decode cX10_paired 41 = .ok (.aload_n 0, 1) := by decide +kernel
theorem dX10_paired_42 : decode cX10_paired 42 = .ok (.iload_n 1, 1) := by decide +kernel
theorem dX10_paired_43 : decode cX10_paired 43 = .ok (.invokevirtual 404, 3) := by decide +kernel
theorem dX10_paired_46 : decode cX10_paired 46 = .ok (.iconst 0, 1) := by decide +kernel
theorem dX10_paired_47 : decode cX10_paired 47 = .ok (.istore_n 3, 1) := by decide +kernel
theorem dX10_paired_48 : decode cX10_paired 48 = .ok (.iconst 0, 1) := by decide +kernel
theorem dX10_paired_49 : decode cX10_paired 49 = .ok (.istore 4, 2) := by decide +kernel
theorem dX10_paired_51 : decode cX10_paired 51 = .ok (.iconst 0, 1) := by decide +kernel
theorem dX10_paired_52 : decode cX10_paired 52 = .ok (.istore 5, 2) := by decide +kernel
theorem dX10_paired_54 : decode cX10_paired 54 = .ok (.iload 5, 2) := by decide +kernel
theorem dX10_paired_56 : decode cX10_paired 56 = .ok (.iload_n 1, 1) := by decide +kernel
theorem dX10_paired_57 : decode cX10_paired 57 = .ok (.if_icmp .ge 56, 3) := by decide +kernel
theorem dX10_paired_60 : decode cX10_paired 60 = .ok (.iload_n 3, 1) := by decide +kernel
theorem dX10_paired_61 : decode cX10_paired 61 = .ok (.aload_n 0, 1) := by decide +kernel
theorem dX10_paired_62 : decode cX10_paired 62 = .ok (.getfield 139, 3) := by decide +kernel
theorem dX10_paired_65 : decode cX10_paired 65 = .ok (.iload 5, 2) := by decide +kernel
theorem dX10_paired_67 : decode cX10_paired 67 = .ok (.iconst 1, 1) := by decide +kernel
theorem dX10_paired_68 : decode cX10_paired 68 = .ok (.iadd, 1) := by decide +kernel
theorem dX10_paired_69 : decode cX10_paired 69 = .ok (.iaload, 1) := by decide +kernel
theorem dX10_paired_70 : decode cX10_paired 70 = .ok (.iadd, 1) := by decide +kernel
theorem dX10_paired_71 : decode cX10_paired 71 = .ok (.aload_n 0, 1) := by decide +kernel
theorem dX10_paired_72 : decode cX10_paired 72 = .ok (.getfield 139, 3) := by decide +kernel
theorem dX10_paired_75 : decode cX10_paired 75 = .ok (.iload 5, 2) := by decide +kernel
theorem dX10_paired_77 : decode cX10_paired 77 = .ok (.iaload, 1) := by decide +kernel
theorem dX10_paired_78 : decode cX10_paired 78 = .ok (.isub, 1) := by decide +kernel
theorem dX10_paired_79 : decode cX10_paired 79 = .ok (.istore_n 3, 1) := by decide +kernel
theorem dX10_paired_80 : decode cX10_paired 80 = .ok (.iload 4, 2) := by decide +kernel
theorem dX10_paired_82 : decode cX10_paired 82 = .ok (.aload_n 0, 1) := by decide +kernel
theorem dX10_paired_83 : decode cX10_paired 83 = .ok (.getfield 139, 3) := by decide +kernel
theorem dX10_paired_86 : decode cX10_paired 86 = .ok (.iload 5, 2) := by decide +kernel
theorem dX10_paired_88 : decode cX10_paired 88 = .ok (.iconst 1, 1) := by decide +kernel
theorem dX10_paired_89 : decode cX10_paired 89 = .ok (.iadd, 1) := by decide +kernel
theorem dX10_paired_90 : decode cX10_paired 90 = .ok (.iaload, 1) := by decide +kernel
theorem dX10_paired_91 : decode cX10_paired 91 = .ok (.aload_n 0, 1) := by decide +kernel
theorem dX10_paired_92 : decode cX10_paired 92 = .ok (.getfield 139, 3) := by decide +kernel
theorem dX10_paired_95 : decode cX10_paired 95 = .ok (.iload 5, 2) := by decide +kernel
theorem dX10_paired_97 : decode cX10_paired 97 = .ok (.iaload, 1) := by decide +kernel
theorem dX10_paired_98 : decode cX10_paired 98 = .ok (.isub, 1) := by decide +kernel
theorem dX10_paired_99 : decode cX10_paired 99 = .ok (.invokestatic 328, 3) := by decide +kernel
theorem dX10_paired_102 : decode cX10_paired 102 = .ok (.istore 4, 2) := by decide +kernel
theorem dX10_paired_104 : decode cX10_paired 104 = .ok (.iload 5, 2) := by decide +kernel
theorem dX10_paired_106 : decode cX10_paired 106 = .ok (.iconst 2, 1) := by decide +kernel
theorem dX10_paired_107 : decode cX10_paired 107 = .ok (.iadd, 1) := by decide +kernel
theorem dX10_paired_108 : decode cX10_paired 108 = .ok (.istore 5, 2) := by decide +kernel
theorem dX10_paired_110 : decode cX10_paired 110 = .ok (.goto (-56), 3) := by decide +kernel
theorem dX10_paired_113 : decode cX10_paired 113 = .ok (.iload_n 2, 1) := by decide +kernel
theorem dX10_paired_114 : decode cX10_paired 114 = .ok (.ifCond .ne 7, 3) := by decide +kernel
theorem dX10_paired_117 : decode cX10_paired 117 = .ok (.iload_n 3, 1) := by decide +kernel
theorem dX10_paired_118 : decode cX10_paired 118 = .ok (.goto 5, 3) := by decide +kernel
theorem dX10_paired_121 : decode cX10_paired 121 = .ok (.iload 4, 2) := by decide +kernel
theorem dX10_paired_123 : decode cX10_paired 123 = .ok (.ireturn, 1) := by decide +kernel
theorem dX10_unlikeBy_0 : decode cX10_unlikeBy 0 = .ok (.iconst 0, 1) := by decide +kernel
theorem dX10_unlikeBy_1 : decode cX10_unlikeBy 1 = .ok (.istore_n 3, 1) := by decide +kernel
theorem dX10_unlikeBy_2 : decode cX10_unlikeBy 2 = .ok (.iconst 0, 1) := by decide +kernel
theorem dX10_unlikeBy_3 : decode cX10_unlikeBy 3 = .ok (.istore 4, 2) := by decide +kernel
theorem dX10_unlikeBy_5 : decode cX10_unlikeBy 5 = .ok (.iload 4, 2) := by decide +kernel
theorem dX10_unlikeBy_7 : decode cX10_unlikeBy 7 = .ok (.iload_n 2, 1) := by decide +kernel
theorem dX10_unlikeBy_8 : decode cX10_unlikeBy 8 = .ok (.if_icmp .ge 38, 3) := by decide +kernel
theorem dX10_unlikeBy_11 : decode cX10_unlikeBy 11 = .ok (.iload_n 1, 1) := by decide +kernel
theorem dX10_unlikeBy_12 : decode cX10_unlikeBy 12 = .ok (.iload 4, 2) := by decide +kernel
theorem dX10_unlikeBy_14 : decode cX10_unlikeBy 14 = .ok (.invokestatic 157, 3) := by decide +kernel
theorem dX10_unlikeBy_17 : decode cX10_unlikeBy 17 = .ok (.ifCond .eq 14, 3) := by decide +kernel
theorem dX10_unlikeBy_20 : decode cX10_unlikeBy 20 = .ok (.iload_n 3, 1) := by decide +kernel
theorem dX10_unlikeBy_21 : decode cX10_unlikeBy 21 = .ok (.aload_n 0, 1) := by decide +kernel
theorem dX10_unlikeBy_22 : decode cX10_unlikeBy 22 = .ok (.iload 4, 2) := by decide +kernel
theorem dX10_unlikeBy_24 : decode cX10_unlikeBy 24 = .ok (.invokevirtual 372, 3) := by decide +kernel
theorem dX10_unlikeBy_27 : decode cX10_unlikeBy 27 = .ok (.iadd, 1) := by decide +kernel
theorem dX10_unlikeBy_28 : decode cX10_unlikeBy 28 = .ok (.goto 11, 3) := by decide +kernel
theorem dX10_unlikeBy_31 : decode cX10_unlikeBy 31 = .ok (.iload_n 3, 1) := by decide +kernel
theorem dX10_unlikeBy_32 : decode cX10_unlikeBy 32 = .ok (.aload_n 0, 1) := by decide +kernel
theorem dX10_unlikeBy_33 : decode cX10_unlikeBy 33 = .ok (.iload 4, 2) := by decide +kernel
theorem dX10_unlikeBy_35 : decode cX10_unlikeBy 35 = .ok (.invokevirtual 372, 3) := by decide +kernel
theorem dX10_unlikeBy_38 : decode cX10_unlikeBy 38 = .ok (.isub, 1) := by decide +kernel
theorem dX10_unlikeBy_39 : decode cX10_unlikeBy 39 = .ok (.istore_n 3, 1) := by decide +kernel
theorem dX10_unlikeBy_40 : decode cX10_unlikeBy 40 = .ok (.iinc 4 1, 3) := by decide +kernel
theorem dX10_unlikeBy_43 : decode cX10_unlikeBy 43 = .ok (.goto (-38), 3) := by decide +kernel
theorem dX10_unlikeBy_46 : decode cX10_unlikeBy 46 = .ok (.iload_n 3, 1) := by decide +kernel
theorem dX10_unlikeBy_47 : decode cX10_unlikeBy 47 = .ok (.invokestatic 381, 3) := by decide +kernel
theorem dX10_unlikeBy_50 : decode cX10_unlikeBy 50 = .ok (.ireturn, 1) := by decide +kernel
theorem dX10_halves_0 : decode cX10_halves 0 = .ok (.iload_n 1, 1) := by decide +kernel
theorem dX10_halves_1 : decode cX10_halves 1 = .ok (.iconst 2, 1) := by decide +kernel
theorem dX10_halves_2 : decode cX10_halves 2 = .ok (.bipush 16, 2) := by decide +kernel
theorem dX10_halves_4 : decode cX10_halves 4 = .ok (.invokestatic 161, 3) := by decide +kernel
theorem dX10_halves_7 : decode cX10_halves 7 = .ok (.ifCond .eq 20, 3) := by decide +kernel
theorem dX10_halves_10 : decode cX10_halves 10 = .ok (.iload_n 2, 1) := by decide +kernel
theorem dX10_halves_11 : decode cX10_halves 11 = .ok (.iconst 0, 1) := by decide +kernel
theorem dX10_halves_12 : decode cX10_halves 12 = .ok (.iconst 1, 1) := by decide +kernel
theorem dX10_halves_13 : decode cX10_halves 13 = .ok (.invokestatic 161, 3) := by decide +kernel
theorem dX10_halves_16 : decode cX10_halves 16 = .ok (.ifCond .eq 11, 3) := by decide +kernel
theorem dX10_halves_19 : decode cX10_halves 19 = .ok (.iload_n 1, 1) := by decide +kernel
theorem dX10_halves_20 : decode cX10_halves 20 = .ok (.aload_n 0, 1) := by decide +kernel
theorem dX10_halves_21 : decode cX10_halves 21 = .ok (.getfield 169, 3) := by decide +kernel
theorem dX10_halves_24 : decode cX10_halves 24 = .ok (.if_icmp .le 5, 3) := by decide +kernel
theorem dX10_halves_27 : decode cX10_halves 27 = .ok (.iconst (-1), 1) := by decide +kernel
theorem dX10_halves_28 : decode cX10_halves 28 = .ok (.ireturn, 1) := by decide +kernel
theorem dX10_halves_29 : decode cX10_halves 29 = .ok (.aload_n 0, 1) := by decide +kernel
theorem dX10_halves_30 : decode cX10_halves 30 = .ok (.iconst 0, 1) := by decide +kernel
theorem dX10_halves_31 : decode cX10_halves 31 = .ok (.putfield 169, 3) := by decide +kernel
theorem dX10_halves_34 : decode cX10_halves 34 = .ok (.iconst 0, 1) := by decide +kernel
theorem dX10_halves_35 : decode cX10_halves 35 = .ok (.istore_n 3, 1) := by decide +kernel
theorem dX10_halves_36 : decode cX10_halves 36 = .ok (.aload_n 0, 1) := by decide +kernel
theorem dX10_halves_37 : decode cX10_halves 37 = .ok (.iconst 0, 1) := by decide +kernel
theorem dX10_halves_38 : decode cX10_halves 38 = .ok (.iload_n 1, 1) := by decide +kernel
theorem dX10_halves_39 : decode cX10_halves 39 = .ok (.invokevirtual 407, 3) := by decide +kernel
theorem dX10_halves_42 : decode cX10_halves 42 = .ok (.istore 4, 2) := by decide +kernel
theorem dX10_halves_44 : decode cX10_halves 44 = .ok (.iconst 2, 1) := by decide +kernel
theorem dX10_halves_45 : decode cX10_halves 45 = .ok (.istore 5, 2) := by decide +kernel
theorem dX10_halves_47 : decode cX10_halves 47 = .ok (.iload 5, 2) := by decide +kernel
theorem dX10_halves_49 : decode cX10_halves 49 = .ok (.iconst 1, 1) := by decide +kernel
theorem dX10_halves_50 : decode cX10_halves 50 = .ok (.iload_n 1, 1) := by decide +kernel
theorem dX10_halves_51 : decode cX10_halves 51 = .ok (.ishl, 1) := by decide +kernel
theorem dX10_halves_52 : decode cX10_halves 52 = .ok (.if_icmp .ge 38, 3) := by decide +kernel
theorem dX10_halves_55 : decode cX10_halves 55 = .ok (.aload_n 0, 1) := by decide +kernel
theorem dX10_halves_56 : decode cX10_halves 56 = .ok (.iload 5, 2) := by decide +kernel
theorem dX10_halves_58 : decode cX10_halves 58 = .ok (.iload_n 1, 1) := by decide +kernel
theorem dX10_halves_59 : decode cX10_halves 59 = .ok (.invokevirtual 407, 3) := by decide +kernel
theorem dX10_halves_62 : decode cX10_halves 62 = .ok (.istore 6, 2) := by decide +kernel
theorem dX10_halves_64 : decode cX10_halves 64 = .ok (.iload 6, 2) := by decide +kernel
theorem dX10_halves_66 : decode cX10_halves 66 = .ok (.iload 4, 2) := by decide +kernel
theorem dX10_halves_68 : decode cX10_halves 68 = .ok (.if_icmp .lt 6, 3) := by decide +kernel
theorem dX10_halves_71 : decode cX10_halves 71 = .ok (.goto 10, 3) := by decide +kernel
theorem dX10_halves_74 : decode cX10_halves 74 = .ok (.iload 6, 2) := by decide +kernel
theorem dX10_halves_76 : decode cX10_halves 76 = .ok (.istore 4, 2) := by decide +kernel
theorem dX10_halves_78 : decode cX10_halves 78 = .ok (.iload 5, 2) := by decide +kernel
theorem dX10_halves_80 : decode cX10_halves 80 = .ok (.istore_n 3, 1) := by decide +kernel
theorem dX10_halves_81 : decode cX10_halves 81 = .ok (.iload 5, 2) := by decide +kernel
theorem dX10_halves_83 : decode cX10_halves 83 = .ok (.iconst 2, 1) := by decide +kernel
theorem dX10_halves_84 : decode cX10_halves 84 = .ok (.iadd, 1) := by decide +kernel
theorem dX10_halves_85 : decode cX10_halves 85 = .ok (.istore 5, 2) := by decide +kernel
theorem dX10_halves_87 : decode cX10_halves 87 = .ok (.goto (-40), 3) := by decide +kernel
theorem dX10_halves_90 : decode cX10_halves 90 = .ok (.iload_n 2, 1) := by decide +kernel
theorem dX10_halves_91 : decode cX10_halves 91 = .ok (.ifCond .ne 8, 3) := by decide +kernel
theorem dX10_halves_94 : decode cX10_halves 94 = .ok (.iload 4, 2) := by decide +kernel
theorem dX10_halves_96 : decode cX10_halves 96 = .ok (.goto 4, 3) := by decide +kernel
theorem dX10_halves_99 : decode cX10_halves 99 = .ok (.iload_n 3, 1) := by decide +kernel
theorem dX10_halves_100 : decode cX10_halves 100 = .ok (.ireturn, 1) := by decide +kernel
theorem dX10_steadyBy_0 : decode cX10_steadyBy 0 = .ok (.iconst 1, 1) := by decide +kernel
theorem dX10_steadyBy_1 : decode cX10_steadyBy 1 = .ok (.istore_n 3, 1) := by decide +kernel
theorem dX10_steadyBy_2 : decode cX10_steadyBy 2 = .ok (.iconst 0, 1) := by decide +kernel
theorem dX10_steadyBy_3 : decode cX10_steadyBy 3 = .ok (.istore 4, 2) := by decide +kernel
theorem dX10_steadyBy_5 : decode cX10_steadyBy 5 = .ok (.iload 4, 2) := by decide +kernel
theorem dX10_steadyBy_7 : decode cX10_steadyBy 7 = .ok (.iload_n 1, 1) := by decide +kernel
theorem dX10_steadyBy_8 : decode cX10_steadyBy 8 = .ok (.if_icmp .ge 88, 3) := by decide +kernel
theorem dX10_steadyBy_11 : decode cX10_steadyBy 11 = .ok (.aload_n 0, 1) := by decide +kernel
theorem dX10_steadyBy_12 : decode cX10_steadyBy 12 = .ok (.getfield 142, 3) := by decide +kernel
theorem dX10_steadyBy_15 : decode cX10_steadyBy 15 = .ok (.iload 4, 2) := by decide +kernel
theorem dX10_steadyBy_17 : decode cX10_steadyBy 17 = .ok (.iconst 1, 1) := by decide +kernel
theorem dX10_steadyBy_18 : decode cX10_steadyBy 18 = .ok (.iastore, 1) := by decide +kernel
theorem dX10_steadyBy_19 : decode cX10_steadyBy 19 = .ok (.iconst 0, 1) := by decide +kernel
theorem dX10_steadyBy_20 : decode cX10_steadyBy 20 = .ok (.istore 5, 2) := by decide +kernel
theorem dX10_steadyBy_22 : decode cX10_steadyBy 22 = .ok (.iload 5, 2) := by decide +kernel
theorem dX10_steadyBy_24 : decode cX10_steadyBy 24 = .ok (.iload 4, 2) := by decide +kernel
theorem dX10_steadyBy_26 : decode cX10_steadyBy 26 = .ok (.if_icmp .ge 52, 3) := by decide +kernel
theorem dX10_steadyBy_29 : decode cX10_steadyBy 29 = .ok (.aload_n 0, 1) := by decide +kernel
theorem dX10_steadyBy_30 : decode cX10_steadyBy 30 = .ok (.iload 4, 2) := by decide +kernel
theorem dX10_steadyBy_32 : decode cX10_steadyBy 32 = .ok (.invokevirtual 372, 3) := by decide +kernel
theorem dX10_steadyBy_35 : decode cX10_steadyBy 35 = .ok (.aload_n 0, 1) := by decide +kernel
theorem dX10_steadyBy_36 : decode cX10_steadyBy 36 = .ok (.iload 5, 2) := by decide +kernel
theorem dX10_steadyBy_38 : decode cX10_steadyBy 38 = .ok (.invokevirtual 372, 3) := by decide +kernel
theorem dX10_steadyBy_41 : decode cX10_steadyBy 41 = .ok (.isub, 1) := by decide +kernel
theorem dX10_steadyBy_42 : decode cX10_steadyBy 42 = .ok (.iload_n 2, 1) := by decide +kernel
theorem dX10_steadyBy_43 : decode cX10_steadyBy 43 = .ok (.if_icmp .ne 29, 3) := by decide +kernel
theorem dX10_steadyBy_46 : decode cX10_steadyBy 46 = .ok (.aload_n 0, 1) := by decide +kernel
theorem dX10_steadyBy_47 : decode cX10_steadyBy 47 = .ok (.getfield 142, 3) := by decide +kernel
theorem dX10_steadyBy_50 : decode cX10_steadyBy 50 = .ok (.iload 4, 2) := by decide +kernel
theorem dX10_steadyBy_52 : decode cX10_steadyBy 52 = .ok (.aload_n 0, 1) := by decide +kernel
theorem dX10_steadyBy_53 : decode cX10_steadyBy 53 = .ok (.getfield 142, 3) := by decide +kernel
theorem dX10_steadyBy_56 : decode cX10_steadyBy 56 = .ok (.iload 4, 2) := by decide +kernel
theorem dX10_steadyBy_58 : decode cX10_steadyBy 58 = .ok (.iaload, 1) := by decide +kernel
theorem dX10_steadyBy_59 : decode cX10_steadyBy 59 = .ok (.aload_n 0, 1) := by decide +kernel
theorem dX10_steadyBy_60 : decode cX10_steadyBy 60 = .ok (.getfield 142, 3) := by decide +kernel
theorem dX10_steadyBy_63 : decode cX10_steadyBy 63 = .ok (.iload 5, 2) := by decide +kernel
theorem dX10_steadyBy_65 : decode cX10_steadyBy 65 = .ok (.iaload, 1) := by decide +kernel
theorem dX10_steadyBy_66 : decode cX10_steadyBy 66 = .ok (.iconst 1, 1) := by decide +kernel
theorem dX10_steadyBy_67 : decode cX10_steadyBy 67 = .ok (.iadd, 1) := by decide +kernel
theorem dX10_steadyBy_68 : decode cX10_steadyBy 68 = .ok (.invokestatic 328, 3) := by decide +kernel
theorem dX10_steadyBy_71 : decode cX10_steadyBy 71 = .ok (.iastore, 1) := by decide +kernel
theorem dX10_steadyBy_72 : decode cX10_steadyBy 72 = .ok (.iinc 5 1, 3) := by decide +kernel
theorem dX10_steadyBy_75 : decode cX10_steadyBy 75 = .ok (.goto (-53), 3) := by decide +kernel
theorem dX10_steadyBy_78 : decode cX10_steadyBy 78 = .ok (.iload_n 3, 1) := by decide +kernel
theorem dX10_steadyBy_79 : decode cX10_steadyBy 79 = .ok (.aload_n 0, 1) := by decide +kernel
theorem dX10_steadyBy_80 : decode cX10_steadyBy 80 = .ok (.getfield 142, 3) := by decide +kernel
theorem dX10_steadyBy_83 : decode cX10_steadyBy 83 = .ok (.iload 4, 2) := by decide +kernel
theorem dX10_steadyBy_85 : decode cX10_steadyBy 85 = .ok (.iaload, 1) := by decide +kernel
theorem dX10_steadyBy_86 : decode cX10_steadyBy 86 = .ok (.invokestatic 328, 3) := by decide +kernel
theorem dX10_steadyBy_89 : decode cX10_steadyBy 89 = .ok (.istore_n 3, 1) := by decide +kernel
theorem dX10_steadyBy_90 : decode cX10_steadyBy 90 = .ok (.iinc 4 1, 3) := by decide +kernel
theorem dX10_steadyBy_93 : decode cX10_steadyBy 93 = .ok (.goto (-88), 3) := by decide +kernel
theorem dX10_steadyBy_96 : decode cX10_steadyBy 96 = .ok (.iload_n 3, 1) := by decide +kernel
theorem dX10_steadyBy_97 : decode cX10_steadyBy 97 = .ok (.ireturn, 1) := by decide +kernel
theorem dX10_unsteady_0 : decode cX10_unsteady 0 = .ok (.iconst 1, 1) := by decide +kernel
theorem dX10_unsteady_1 : decode cX10_unsteady 1 = .ok (.istore_n 2, 1) := by decide +kernel
theorem dX10_unsteady_2 : decode cX10_unsteady 2 = .ok (.iconst 0, 1) := by decide +kernel
theorem dX10_unsteady_3 : decode cX10_unsteady 3 = .ok (.istore_n 3, 1) := by decide +kernel
theorem dX10_unsteady_4 : decode cX10_unsteady 4 = .ok (.iload_n 3, 1) := by decide +kernel
theorem dX10_unsteady_5 : decode cX10_unsteady 5 = .ok (.iload_n 1, 1) := by decide +kernel
theorem dX10_unsteady_6 : decode cX10_unsteady 6 = .ok (.if_icmp .ge 134, 3) := by decide +kernel
theorem dX10_unsteady_9 : decode cX10_unsteady 9 = .ok (.aload_n 0, 1) := by decide +kernel
theorem dX10_unsteady_10 : decode cX10_unsteady 10 = .ok (.getfield 142, 3) := by decide +kernel
theorem dX10_unsteady_13 : decode cX10_unsteady 13 = .ok (.iload_n 3, 1) := by decide +kernel
theorem dX10_unsteady_14 : decode cX10_unsteady 14 = .ok (.iconst 1, 1) := by decide +kernel
theorem dX10_unsteady_15 : decode cX10_unsteady 15 = .ok (.iastore, 1) := by decide +kernel
theorem dX10_unsteady_16 : decode cX10_unsteady 16 = .ok (.aload_n 0, 1) := by decide +kernel
theorem dX10_unsteady_17 : decode cX10_unsteady 17 = .ok (.getfield 145, 3) := by decide +kernel
theorem dX10_unsteady_20 : decode cX10_unsteady 20 = .ok (.iload_n 3, 1) := by decide +kernel
theorem dX10_unsteady_21 : decode cX10_unsteady 21 = .ok (.iconst 1, 1) := by decide +kernel
theorem dX10_unsteady_22 : decode cX10_unsteady 22 = .ok (.iastore, 1) := by decide +kernel
theorem dX10_unsteady_23 : decode cX10_unsteady 23 = .ok (.iconst 0, 1) := by decide +kernel
theorem dX10_unsteady_24 : decode cX10_unsteady 24 = .ok (.istore 4, 2) := by decide +kernel
theorem dX10_unsteady_26 : decode cX10_unsteady 26 = .ok (.iload 4, 2) := by decide +kernel
theorem dX10_unsteady_28 : decode cX10_unsteady 28 = .ok (.iload_n 3, 1) := by decide +kernel
theorem dX10_unsteady_29 : decode cX10_unsteady 29 = .ok (.if_icmp .ge 85, 3) := by decide +kernel
theorem dX10_unsteady_32 : decode cX10_unsteady 32 = .ok (.aload_n 0, 1) := by decide +kernel
theorem dX10_unsteady_33 : decode cX10_unsteady 33 = .ok (.iload_n 3, 1) := by decide +kernel
theorem dX10_unsteady_34 : decode cX10_unsteady 34 = .ok (.invokevirtual 372, 3) := by decide +kernel
theorem dX10_unsteady_37 : decode cX10_unsteady 37 = .ok (.aload_n 0, 1) := by decide +kernel
theorem dX10_unsteady_38 : decode cX10_unsteady 38 = .ok (.iload 4, 2) := by decide +kernel
theorem dX10_unsteady_40 : decode cX10_unsteady 40 = .ok (.invokevirtual 372, 3) := by decide +kernel
theorem dX10_unsteady_43 : decode cX10_unsteady 43 = .ok (.if_icmp .le 27, 3) := by decide +kernel
theorem dX10_unsteady_46 : decode cX10_unsteady 46 = .ok (.aload_n 0, 1) := by decide +kernel
theorem dX10_unsteady_47 : decode cX10_unsteady 47 = .ok (.getfield 142, 3) := by decide +kernel
theorem dX10_unsteady_50 : decode cX10_unsteady 50 = .ok (.iload_n 3, 1) := by decide +kernel
theorem dX10_unsteady_51 : decode cX10_unsteady 51 = .ok (.aload_n 0, 1) := by decide +kernel
theorem dX10_unsteady_52 : decode cX10_unsteady 52 = .ok (.getfield 142, 3) := by decide +kernel
theorem dX10_unsteady_55 : decode cX10_unsteady 55 = .ok (.iload_n 3, 1) := by decide +kernel
theorem dX10_unsteady_56 : decode cX10_unsteady 56 = .ok (.iaload, 1) := by decide +kernel
theorem dX10_unsteady_57 : decode cX10_unsteady 57 = .ok (.aload_n 0, 1) := by decide +kernel
theorem dX10_unsteady_58 : decode cX10_unsteady 58 = .ok (.getfield 145, 3) := by decide +kernel
theorem dX10_unsteady_61 : decode cX10_unsteady 61 = .ok (.iload 4, 2) := by decide +kernel
theorem dX10_unsteady_63 : decode cX10_unsteady 63 = .ok (.iaload, 1) := by decide +kernel
theorem dX10_unsteady_64 : decode cX10_unsteady 64 = .ok (.iconst 1, 1) := by decide +kernel
theorem dX10_unsteady_65 : decode cX10_unsteady 65 = .ok (.iadd, 1) := by decide +kernel
theorem dX10_unsteady_66 : decode cX10_unsteady 66 = .ok (.invokestatic 328, 3) := by decide +kernel
theorem dX10_unsteady_69 : decode cX10_unsteady 69 = .ok (.iastore, 1) := by decide +kernel
theorem dX10_unsteady_70 : decode cX10_unsteady 70 = .ok (.aload_n 0, 1) := by decide +kernel
theorem dX10_unsteady_71 : decode cX10_unsteady 71 = .ok (.iload_n 3, 1) := by decide +kernel
theorem dX10_unsteady_72 : decode cX10_unsteady 72 = .ok (.invokevirtual 372, 3) := by decide +kernel
theorem dX10_unsteady_75 : decode cX10_unsteady 75 = .ok (.aload_n 0, 1) := by decide +kernel
theorem dX10_unsteady_76 : decode cX10_unsteady 76 = .ok (.iload 4, 2) := by decide +kernel
theorem dX10_unsteady_78 : decode cX10_unsteady 78 = .ok (.invokevirtual 372, 3) := by decide +kernel
theorem dX10_unsteady_81 : decode cX10_unsteady 81 = .ok (.if_icmp .ge 27, 3) := by decide +kernel
theorem dX10_unsteady_84 : decode cX10_unsteady 84 = .ok (.aload_n 0, 1) := by decide +kernel
theorem dX10_unsteady_85 : decode cX10_unsteady 85 = .ok (.getfield 145, 3) := by decide +kernel
theorem dX10_unsteady_88 : decode cX10_unsteady 88 = .ok (.iload_n 3, 1) := by decide +kernel
theorem dX10_unsteady_89 : decode cX10_unsteady 89 = .ok (.aload_n 0, 1) := by decide +kernel
theorem dX10_unsteady_90 : decode cX10_unsteady 90 = .ok (.getfield 145, 3) := by decide +kernel
theorem dX10_unsteady_93 : decode cX10_unsteady 93 = .ok (.iload_n 3, 1) := by decide +kernel
theorem dX10_unsteady_94 : decode cX10_unsteady 94 = .ok (.iaload, 1) := by decide +kernel
theorem dX10_unsteady_95 : decode cX10_unsteady 95 = .ok (.aload_n 0, 1) := by decide +kernel
theorem dX10_unsteady_96 : decode cX10_unsteady 96 = .ok (.getfield 142, 3) := by decide +kernel
theorem dX10_unsteady_99 : decode cX10_unsteady 99 = .ok (.iload 4, 2) := by decide +kernel
theorem dX10_unsteady_101 : decode cX10_unsteady 101 = .ok (.iaload, 1) := by decide +kernel
theorem dX10_unsteady_102 : decode cX10_unsteady 102 = .ok (.iconst 1, 1) := by decide +kernel
theorem dX10_unsteady_103 : decode cX10_unsteady 103 = .ok (.iadd, 1) := by decide +kernel
theorem dX10_unsteady_104 : decode cX10_unsteady 104 = .ok (.invokestatic 328, 3) := by decide +kernel
theorem dX10_unsteady_107 : decode cX10_unsteady 107 = .ok (.iastore, 1) := by decide +kernel
theorem dX10_unsteady_108 : decode cX10_unsteady 108 = .ok (.iinc 4 1, 3) := by decide +kernel
theorem dX10_unsteady_111 : decode cX10_unsteady 111 = .ok (.goto (-85), 3) := by decide +kernel
theorem dX10_unsteady_114 : decode cX10_unsteady 114 = .ok (.iload_n 2, 1) := by decide +kernel
theorem dX10_unsteady_115 : decode cX10_unsteady 115 = .ok (.aload_n 0, 1) := by decide +kernel
theorem dX10_unsteady_116 : decode cX10_unsteady 116 = .ok (.getfield 142, 3) := by decide +kernel
theorem dX10_unsteady_119 : decode cX10_unsteady 119 = .ok (.iload_n 3, 1) := by decide +kernel
theorem dX10_unsteady_120 : decode cX10_unsteady 120 = .ok (.iaload, 1) := by decide +kernel
theorem dX10_unsteady_121 : decode cX10_unsteady 121 = .ok (.aload_n 0, 1) := by decide +kernel
theorem dX10_unsteady_122 : decode cX10_unsteady 122 = .ok (.getfield 145, 3) := by decide +kernel
theorem dX10_unsteady_125 : decode cX10_unsteady 125 = .ok (.iload_n 3, 1) := by decide +kernel
theorem dX10_unsteady_126 : decode cX10_unsteady 126 = .ok (.iaload, 1) := by decide +kernel
theorem dX10_unsteady_127 : decode cX10_unsteady 127 = .ok (.invokestatic 328, 3) := by decide +kernel
theorem dX10_unsteady_130 : decode cX10_unsteady 130 = .ok (.invokestatic 328, 3) := by decide +kernel
theorem dX10_unsteady_133 : decode cX10_unsteady 133 = .ok (.istore_n 2, 1) := by decide +kernel
theorem dX10_unsteady_134 : decode cX10_unsteady 134 = .ok (.iinc 3 1, 3) := by decide +kernel
theorem dX10_unsteady_137 : decode cX10_unsteady 137 = .ok (.goto (-133), 3) := by decide +kernel
theorem dX10_unsteady_140 : decode cX10_unsteady 140 = .ok (.iload_n 2, 1) := by decide +kernel
theorem dX10_unsteady_141 : decode cX10_unsteady 141 = .ok (.ireturn, 1) := by decide +kernel
theorem dX10_steady_0 : decode cX10_steady 0 = .ok (.iload_n 1, 1) := by decide +kernel
theorem dX10_steady_1 : decode cX10_steady 1 = .ok (.iconst 1, 1) := by decide +kernel
theorem dX10_steady_2 : decode cX10_steady 2 = .ok (.bipush 20, 2) := by decide +kernel
theorem dX10_steady_4 : decode cX10_steady 4 = .ok (.invokestatic 161, 3) := by decide +kernel
theorem dX10_steady_7 : decode cX10_steady 7 = .ok (.ifCond .eq 20, 3) := by decide +kernel
theorem dX10_steady_10 : decode cX10_steady 10 = .ok (.iload_n 2, 1) := by decide +kernel
theorem dX10_steady_11 : decode cX10_steady 11 = .ok (.iconst 0, 1) := by decide +kernel
theorem dX10_steady_12 : decode cX10_steady 12 = .ok (.iconst 1, 1) := by decide +kernel
theorem dX10_steady_13 : decode cX10_steady 13 = .ok (.invokestatic 161, 3) := by decide +kernel
theorem dX10_steady_16 : decode cX10_steady 16 = .ok (.ifCond .eq 11, 3) := by decide +kernel
theorem dX10_steady_19 : decode cX10_steady 19 = .ok (.iload_n 1, 1) := by decide +kernel
theorem dX10_steady_20 : decode cX10_steady 20 = .ok (.aload_n 0, 1) := by decide +kernel
theorem dX10_steady_21 : decode cX10_steady 21 = .ok (.getfield 169, 3) := by decide +kernel
theorem dX10_steady_24 : decode cX10_steady 24 = .ok (.if_icmp .le 5, 3) := by decide +kernel
theorem dX10_steady_27 : decode cX10_steady 27 = .ok (.iconst (-1), 1) := by decide +kernel
theorem dX10_steady_28 : decode cX10_steady 28 = .ok (.ireturn, 1) := by decide +kernel
theorem dX10_steady_29 : decode cX10_steady 29 = .ok (.aload_n 0, 1) := by decide +kernel
theorem dX10_steady_30 : decode cX10_steady 30 = .ok (.iconst 0, 1) := by decide +kernel
theorem dX10_steady_31 : decode cX10_steady 31 = .ok (.putfield 169, 3) := by decide +kernel
theorem dX10_steady_34 : decode cX10_steady 34 = .ok (.iload_n 2, 1) := by decide +kernel
theorem dX10_steady_35 : decode cX10_steady 35 = .ok (.iconst 1, 1) := by decide +kernel
theorem dX10_steady_36 : decode cX10_steady 36 = .ok (.if_icmp .ne 9, 3) := by decide +kernel
theorem dX10_steady_39 : decode cX10_steady 39 = .ok (.aload_n 0, 1) := by decide +kernel
theorem dX10_steady_40 : decode cX10_steady 40 = .ok (.iload_n 1, 1) := by decide +kernel
theorem dX10_steady_41 : decode cX10_steady 41 = .ok (.invokevirtual 410, 3) := by decide +kernel
theorem dX10_steady_44 : decode cX10_steady 44 = .ok (.ireturn, 1) := by decide +kernel
theorem dX10_steady_45 : decode cX10_steady 45 = .ok (.iconst 1, 1) := by decide +kernel
theorem dX10_steady_46 : decode cX10_steady 46 = .ok (.istore_n 3, 1) := by decide +kernel
theorem dX10_steady_47 : decode cX10_steady 47 = .ok (.sipush (-255), 3) := by decide +kernel
theorem dX10_steady_50 : decode cX10_steady 50 = .ok (.istore 4, 2) := by decide +kernel
theorem dX10_steady_52 : decode cX10_steady 52 = .ok (.iload 4, 2) := by decide +kernel
theorem dX10_steady_54 : decode cX10_steady 54 = .ok (.sipush 256, 3) := by decide +kernel
theorem dX10_steady_57 : decode cX10_steady 57 = .ok (.if_icmp .ge 21, 3) := by decide +kernel
theorem dX10_steady_60 : decode cX10_steady 60 = .ok (.iload_n 3, 1) := by decide +kernel
theorem dX10_steady_61 : decode cX10_steady 61 = .ok (.aload_n 0, 1) := by decide +kernel
theorem dX10_steady_62 : decode cX10_steady 62 = .ok (.iload_n 1, 1) := by decide +kernel
theorem dX10_steady_63 : decode cX10_steady 63 = .ok (.iload 4, 2) := by decide +kernel
theorem dX10_steady_65 : decode cX10_steady 65 = .ok (.invokevirtual 413, 3) := by decide +kernel
theorem dX10_steady_68 : decode cX10_steady 68 = .ok (.invokestatic 328, 3) := by decide +kernel
theorem dX10_steady_71 : decode cX10_steady 71 = .ok (.istore_n 3, 1) := by decide +kernel
theorem dX10_steady_72 : decode cX10_steady 72 = .ok (.iinc 4 1, 3) := by decide +kernel
theorem dX10_steady_75 : decode cX10_steady 75 = .ok (.goto (-23), 3) := by decide +kernel
theorem dX10_steady_78 : decode cX10_steady 78 = .ok (.iload_n 3, 1) := by decide +kernel
theorem dX10_steady_79 : decode cX10_steady 79 = .ok (.ireturn, 1) := by decide +kernel
theorem dX10_areUnlike_0 : decode cX10_areUnlike 0 = .ok (.iconst 0, 1) := by decide +kernel
theorem dX10_areUnlike_1 : decode cX10_areUnlike 1 = .ok (.istore_n 2, 1) := by decide +kernel
theorem dX10_areUnlike_2 : decode cX10_areUnlike 2 = .ok (.iload_n 2, 1) := by decide +kernel
theorem dX10_areUnlike_3 : decode cX10_areUnlike 3 = .ok (.iload_n 1, 1) := by decide +kernel
theorem dX10_areUnlike_4 : decode cX10_areUnlike 4 = .ok (.if_icmp .ge 37, 3) := by decide +kernel
theorem dX10_areUnlike_7 : decode cX10_areUnlike 7 = .ok (.iconst 0, 1) := by decide +kernel
theorem dX10_areUnlike_8 : decode cX10_areUnlike 8 = .ok (.istore_n 3, 1) := by decide +kernel
theorem dX10_areUnlike_9 : decode cX10_areUnlike 9 = .ok (.iload_n 3, 1) := by decide +kernel
theorem dX10_areUnlike_10 : decode cX10_areUnlike 10 = .ok (.iload_n 2, 1) := by decide +kernel
theorem dX10_areUnlike_11 : decode cX10_areUnlike 11 = .ok (.if_icmp .ge 24, 3) := by decide +kernel
theorem dX10_areUnlike_14 : decode cX10_areUnlike 14 = .ok (.aload_n 0, 1) := by decide +kernel
theorem dX10_areUnlike_15 : decode cX10_areUnlike 15 = .ok (.iload_n 2, 1) := by decide +kernel
theorem dX10_areUnlike_16 : decode cX10_areUnlike 16 = .ok (.invokevirtual 372, 3) := by decide +kernel
theorem dX10_areUnlike_19 : decode cX10_areUnlike 19 = .ok (.aload_n 0, 1) := by decide +kernel
theorem dX10_areUnlike_20 : decode cX10_areUnlike 20 = .ok (.iload_n 3, 1) := by decide +kernel
theorem dX10_areUnlike_21 : decode cX10_areUnlike 21 = .ok (.invokevirtual 372, 3) := by decide +kernel
theorem dX10_areUnlike_24 : decode cX10_areUnlike 24 = .ok (.if_icmp .ne 5, 3) := by decide +kernel
theorem dX10_areUnlike_27 : decode cX10_areUnlike 27 = .ok (.iconst 0, 1) := by decide +kernel
theorem dX10_areUnlike_28 : decode cX10_areUnlike 28 = .ok (.ireturn, 1) := by decide +kernel
theorem dX10_areUnlike_29 : decode cX10_areUnlike 29 = .ok (.iinc 3 1, 3) := by decide +kernel
theorem dX10_areUnlike_32 : decode cX10_areUnlike 32 = .ok (.goto (-23), 3) := by decide +kernel
theorem dX10_areUnlike_35 : decode cX10_areUnlike 35 = .ok (.iinc 2 1, 3) := by decide +kernel
theorem dX10_areUnlike_38 : decode cX10_areUnlike 38 = .ok (.goto (-36), 3) := by decide +kernel
theorem dX10_areUnlike_41 : decode cX10_areUnlike 41 = .ok (.iconst 1, 1) := by decide +kernel
theorem dX10_areUnlike_42 : decode cX10_areUnlike 42 = .ok (.ireturn, 1) := by decide +kernel
theorem dX10_comes_0 : decode cX10_comes 0 = .ok (.iload_n 1, 1) := by decide +kernel
theorem dX10_comes_1 : decode cX10_comes 1 = .ok (.iconst 1, 1) := by decide +kernel
theorem dX10_comes_2 : decode cX10_comes 2 = .ok (.bipush 8, 2) := by decide +kernel
theorem dX10_comes_4 : decode cX10_comes 4 = .ok (.invokestatic 161, 3) := by decide +kernel
theorem dX10_comes_7 : decode cX10_comes 7 = .ok (.ifCond .eq 20, 3) := by decide +kernel
theorem dX10_comes_10 : decode cX10_comes 10 = .ok (.iload_n 2, 1) := by decide +kernel
theorem dX10_comes_11 : decode cX10_comes 11 = .ok (.iconst 0, 1) := by decide +kernel
theorem dX10_comes_12 : decode cX10_comes 12 = .ok (.iconst 1, 1) := by decide +kernel
theorem dX10_comes_13 : decode cX10_comes 13 = .ok (.invokestatic 161, 3) := by decide +kernel
theorem dX10_comes_16 : decode cX10_comes 16 = .ok (.ifCond .eq 11, 3) := by decide +kernel
theorem dX10_comes_19 : decode cX10_comes 19 = .ok (.iload_n 1, 1) := by decide +kernel
theorem dX10_comes_20 : decode cX10_comes 20 = .ok (.aload_n 0, 1) := by decide +kernel
theorem dX10_comes_21 : decode cX10_comes 21 = .ok (.getfield 169, 3) := by decide +kernel
theorem dX10_comes_24 : decode cX10_comes 24 = .ok (.if_icmp .le 5, 3) := by decide +kernel
theorem dX10_comes_27 : decode cX10_comes 27 = .ok (.iconst (-1), 1) := by decide +kernel
theorem dX10_comes_28 : decode cX10_comes 28 = .ok (.ireturn, 1) := by decide +kernel
theorem dX10_comes_29 : decode cX10_comes 29 = .ok (.aload_n 0, 1) := by decide +kernel
theorem dX10_comes_30 : decode cX10_comes 30 = .ok (.iconst 0, 1) := by decide +kernel
theorem dX10_comes_31 : decode cX10_comes 31 = .ok (.putfield 169, 3) := by decide +kernel
theorem dX10_comes_34 : decode cX10_comes 34 = .ok (.iconst 0, 1) := by decide +kernel
theorem dX10_comes_35 : decode cX10_comes 35 = .ok (.istore_n 3, 1) := by decide +kernel
theorem dX10_comes_36 : decode cX10_comes 36 = .ok (.iconst 0, 1) := by decide +kernel
theorem dX10_comes_37 : decode cX10_comes 37 = .ok (.istore 4, 2) := by decide +kernel
theorem dX10_comes_39 : decode cX10_comes 39 = .ok (.iconst 0, 1) := by decide +kernel
theorem dX10_comes_40 : decode cX10_comes 40 = .ok (.istore 5, 2) := by decide +kernel
theorem dX10_comes_42 : decode cX10_comes 42 = .ok (.iload 5, 2) := by decide +kernel
theorem dX10_comes_44 : decode cX10_comes 44 = .ok (.iload_n 1, 1) := by decide +kernel
theorem dX10_comes_45 : decode cX10_comes 45 = .ok (.if_icmp .ge 45, 3) := by decide +kernel
theorem dX10_comes_48 : decode cX10_comes 48 = .ok (.aload_n 0, 1) := by decide +kernel
theorem dX10_comes_49 : decode cX10_comes 49 = .ok (.iload 5, 2) := by decide +kernel
theorem dX10_comes_51 : decode cX10_comes 51 = .ok (.invokevirtual 372, 3) := by decide +kernel
theorem dX10_comes_54 : decode cX10_comes 54 = .ok (.ifCond .ne 6, 3) := by decide +kernel
theorem dX10_comes_57 : decode cX10_comes 57 = .ok (.bipush (-3), 2) := by decide +kernel
theorem dX10_comes_59 : decode cX10_comes 59 = .ok (.ireturn, 1) := by decide +kernel
theorem dX10_comes_60 : decode cX10_comes 60 = .ok (.iload_n 3, 1) := by decide +kernel
theorem dX10_comes_61 : decode cX10_comes 61 = .ok (.aload_n 0, 1) := by decide +kernel
theorem dX10_comes_62 : decode cX10_comes 62 = .ok (.iload 5, 2) := by decide +kernel
theorem dX10_comes_64 : decode cX10_comes 64 = .ok (.invokevirtual 372, 3) := by decide +kernel
theorem dX10_comes_67 : decode cX10_comes 67 = .ok (.invokestatic 328, 3) := by decide +kernel
theorem dX10_comes_70 : decode cX10_comes 70 = .ok (.istore_n 3, 1) := by decide +kernel
theorem dX10_comes_71 : decode cX10_comes 71 = .ok (.iload 4, 2) := by decide +kernel
theorem dX10_comes_73 : decode cX10_comes 73 = .ok (.aload_n 0, 1) := by decide +kernel
theorem dX10_comes_74 : decode cX10_comes 74 = .ok (.iload 5, 2) := by decide +kernel
theorem dX10_comes_76 : decode cX10_comes 76 = .ok (.invokevirtual 372, 3) := by decide +kernel
theorem dX10_comes_79 : decode cX10_comes 79 = .ok (.invokestatic 416, 3) := by decide +kernel
theorem dX10_comes_82 : decode cX10_comes 82 = .ok (.istore 4, 2) := by decide +kernel
theorem dX10_comes_84 : decode cX10_comes 84 = .ok (.iinc 5 1, 3) := by decide +kernel
theorem dX10_comes_87 : decode cX10_comes 87 = .ok (.goto (-45), 3) := by decide +kernel
theorem dX10_comes_90 : decode cX10_comes 90 = .ok (.aload_n 0, 1) := by decide +kernel
theorem dX10_comes_91 : decode cX10_comes 91 = .ok (.iload_n 1, 1) := by decide +kernel
theorem dX10_comes_92 : decode cX10_comes 92 = .ok (.invokevirtual 419, 3) := by decide +kernel
theorem dX10_comes_95 : decode cX10_comes 95 = .ok (.ifCond .ne 6, 3) := by decide +kernel
theorem dX10_comes_98 : decode cX10_comes 98 = .ok (.bipush (-3), 2) := by decide +kernel
theorem dX10_comes_100 : decode cX10_comes 100 = .ok (.ireturn, 1) := by decide +kernel
theorem dX10_comes_101 : decode cX10_comes 101 = .ok (.iload_n 1, 1) := by decide +kernel
theorem dX10_comes_102 : decode cX10_comes 102 = .ok (.iconst 2, 1) := by decide +kernel
theorem dX10_comes_103 : decode cX10_comes 103 = .ok (.if_icmp .ge 7, 3) := by decide +kernel
theorem dX10_comes_106 : decode cX10_comes 106 = .ok (.iconst 0, 1) := by decide +kernel
theorem dX10_comes_107 : decode cX10_comes 107 = .ok (.goto 9, 3) := by decide +kernel
theorem dX10_comes_110 : decode cX10_comes 110 = .ok (.iload_n 3, 1) := by decide +kernel
theorem dX10_comes_111 : decode cX10_comes 111 = .ok (.iload 4, 2) := by decide +kernel
theorem dX10_comes_113 : decode cX10_comes 113 = .ok (.idiv, 1) := by decide +kernel
theorem dX10_comes_114 : decode cX10_comes 114 = .ok (.iload_n 1, 1) := by decide +kernel
theorem dX10_comes_115 : decode cX10_comes 115 = .ok (.isub, 1) := by decide +kernel
theorem dX10_comes_116 : decode cX10_comes 116 = .ok (.istore 5, 2) := by decide +kernel
theorem dX10_comes_118 : decode cX10_comes 118 = .ok (.iload_n 2, 1) := by decide +kernel
theorem dX10_comes_119 : decode cX10_comes 119 = .ok (.ifCond .ne 8, 3) := by decide +kernel
theorem dX10_comes_122 : decode cX10_comes 122 = .ok (.iload 5, 2) := by decide +kernel
theorem dX10_comes_124 : decode cX10_comes 124 = .ok (.goto 7, 3) := by decide +kernel
theorem dX10_comes_127 : decode cX10_comes 127 = .ok (.iload 5, 2) := by decide +kernel
theorem dX10_comes_129 : decode cX10_comes 129 = .ok (.iconst 2, 1) := by decide +kernel
theorem dX10_comes_130 : decode cX10_comes 130 = .ok (.irem, 1) := by decide +kernel
theorem dX10_comes_131 : decode cX10_comes 131 = .ok (.ireturn, 1) := by decide +kernel
theorem dX10_rests_0 : decode cX10_rests 0 = .ok (.iload_n 1, 1) := by decide +kernel
theorem dX10_rests_1 : decode cX10_rests 1 = .ok (.iconst 2, 1) := by decide +kernel
theorem dX10_rests_2 : decode cX10_rests 2 = .ok (.bipush 12, 2) := by decide +kernel
theorem dX10_rests_4 : decode cX10_rests 4 = .ok (.invokestatic 161, 3) := by decide +kernel
theorem dX10_rests_7 : decode cX10_rests 7 = .ok (.ifCond .eq 30, 3) := by decide +kernel
theorem dX10_rests_10 : decode cX10_rests 10 = .ok (.iload_n 2, 1) := by decide +kernel
theorem dX10_rests_11 : decode cX10_rests 11 = .ok (.iconst 2, 1) := by decide +kernel
theorem dX10_rests_12 : decode cX10_rests 12 = .ok (.bipush 60, 2) := by decide +kernel
theorem dX10_rests_14 : decode cX10_rests 14 = .ok (.invokestatic 161, 3) := by decide +kernel
theorem dX10_rests_17 : decode cX10_rests 17 = .ok (.ifCond .eq 20, 3) := by decide +kernel
theorem dX10_rests_20 : decode cX10_rests 20 = .ok (.iload_n 3, 1) := by decide +kernel
theorem dX10_rests_21 : decode cX10_rests 21 = .ok (.iconst 0, 1) := by decide +kernel
theorem dX10_rests_22 : decode cX10_rests 22 = .ok (.iconst 1, 1) := by decide +kernel
theorem dX10_rests_23 : decode cX10_rests 23 = .ok (.invokestatic 161, 3) := by decide +kernel
theorem dX10_rests_26 : decode cX10_rests 26 = .ok (.ifCond .eq 11, 3) := by decide +kernel
theorem dX10_rests_29 : decode cX10_rests 29 = .ok (.iload_n 1, 1) := by decide +kernel
theorem dX10_rests_30 : decode cX10_rests 30 = .ok (.aload_n 0, 1) := by decide +kernel
theorem dX10_rests_31 : decode cX10_rests 31 = .ok (.getfield 169, 3) := by decide +kernel
theorem dX10_rests_34 : decode cX10_rests 34 = .ok (.if_icmp .le 5, 3) := by decide +kernel
theorem dX10_rests_37 : decode cX10_rests 37 = .ok (.iconst (-1), 1) := by decide +kernel
theorem dX10_rests_38 : decode cX10_rests 38 = .ok (.ireturn, 1) := by decide +kernel
theorem dX10_rests_39 : decode cX10_rests 39 = .ok (.aload_n 0, 1) := by decide +kernel
theorem dX10_rests_40 : decode cX10_rests 40 = .ok (.iconst 0, 1) := by decide +kernel
theorem dX10_rests_41 : decode cX10_rests 41 = .ok (.putfield 169, 3) := by decide +kernel
theorem dX10_rests_44 : decode cX10_rests 44 = .ok (.iconst 0, 1) := by decide +kernel
theorem dX10_rests_45 : decode cX10_rests 45 = .ok (.istore 4, 2) := by decide +kernel
theorem dX10_rests_47 : decode cX10_rests 47 = .ok (.iload 4, 2) := by decide +kernel
theorem dX10_rests_49 : decode cX10_rests 49 = .ok (.iload_n 1, 1) := by decide +kernel
theorem dX10_rests_50 : decode cX10_rests 50 = .ok (.if_icmp .ge 22, 3) := by decide +kernel
theorem dX10_rests_53 : decode cX10_rests 53 = .ok (.aload_n 0, 1) := by decide +kernel
theorem dX10_rests_54 : decode cX10_rests 54 = .ok (.iload 4, 2) := by decide +kernel
theorem dX10_rests_56 : decode cX10_rests 56 = .ok (.invokevirtual 372, 3) := by decide +kernel
theorem dX10_rests_59 : decode cX10_rests 59 = .ok (.iload_n 2, 1) := by decide +kernel
theorem dX10_rests_60 : decode cX10_rests 60 = .ok (.if_icmp .lt 6, 3) := by decide +kernel
theorem dX10_rests_63 : decode cX10_rests 63 = .ok (.bipush (-3), 2) := by decide +kernel
theorem dX10_rests_65 : decode cX10_rests 65 = .ok (.ireturn, 1) := by decide +kernel
theorem dX10_rests_66 : decode cX10_rests 66 = .ok (.iinc 4 1, 3) := by decide +kernel
theorem dX10_rests_69 : decode cX10_rests 69 = .ok (.goto (-22), 3) := by decide +kernel
theorem dX10_rests_72 : decode cX10_rests 72 = .ok (.aload_n 0, 1) := by decide +kernel
theorem dX10_rests_73 : decode cX10_rests 73 = .ok (.iload_n 1, 1) := by decide +kernel
theorem dX10_rests_74 : decode cX10_rests 74 = .ok (.invokevirtual 419, 3) := by decide +kernel
theorem dX10_rests_77 : decode cX10_rests 77 = .ok (.ifCond .ne 6, 3) := by decide +kernel
theorem dX10_rests_80 : decode cX10_rests 80 = .ok (.bipush (-3), 2) := by decide +kernel
theorem dX10_rests_82 : decode cX10_rests 82 = .ok (.ireturn, 1) := by decide +kernel
theorem dX10_rests_83 : decode cX10_rests 83 = .ok (.iconst 0, 1) := by decide +kernel
theorem dX10_rests_84 : decode cX10_rests 84 = .ok (.istore 4, 2) := by decide +kernel
theorem dX10_rests_86 : decode cX10_rests 86 = .ok (.iload 4, 2) := by decide +kernel
theorem dX10_rests_88 : decode cX10_rests 88 = .ok (.iload_n 2, 1) := by decide +kernel
theorem dX10_rests_89 : decode cX10_rests 89 = .ok (.if_icmp .ge 17, 3) := by decide +kernel
theorem dX10_rests_92 : decode cX10_rests 92 = .ok (.aload_n 0, 1) := by decide +kernel
theorem dX10_rests_93 : decode cX10_rests 93 = .ok (.getfield 148, 3) := by decide +kernel
theorem dX10_rests_96 : decode cX10_rests 96 = .ok (.iload 4, 2) := by decide +kernel
theorem dX10_rests_98 : decode cX10_rests 98 = .ok (.iconst 0, 1) := by decide +kernel
theorem dX10_rests_99 : decode cX10_rests 99 = .ok (.iastore, 1) := by decide +kernel
theorem dX10_rests_100 : decode cX10_rests 100 = .ok (.iinc 4 1, 3) := by decide +kernel
theorem dX10_rests_103 : decode cX10_rests 103 = .ok (.goto (-17), 3) := by decide +kernel
theorem dX10_rests_106 : decode cX10_rests 106 = .ok (.iconst 0, 1) := by decide +kernel
theorem dX10_rests_107 : decode cX10_rests 107 = .ok (.istore 4, 2) := by decide +kernel
theorem dX10_rests_109 : decode cX10_rests 109 = .ok (.iload 4, 2) := by decide +kernel
theorem dX10_rests_111 : decode cX10_rests 111 = .ok (.iload_n 1, 1) := by decide +kernel
theorem dX10_rests_112 : decode cX10_rests 112 = .ok (.iload_n 1, 1) := by decide +kernel
theorem dX10_rests_113 : decode cX10_rests 113 = .ok (.imul, 1) := by decide +kernel
theorem dX10_rests_114 : decode cX10_rests 114 = .ok (.if_icmp .ge 48, 3) := by decide +kernel
theorem dX10_rests_117 : decode cX10_rests 117 = .ok (.aload_n 0, 1) := by decide +kernel
theorem dX10_rests_118 : decode cX10_rests 118 = .ok (.iload 4, 2) := by decide +kernel
theorem dX10_rests_120 : decode cX10_rests 120 = .ok (.iload_n 1, 1) := by decide +kernel
theorem dX10_rests_121 : decode cX10_rests 121 = .ok (.idiv, 1) := by decide +kernel
theorem dX10_rests_122 : decode cX10_rests 122 = .ok (.invokevirtual 372, 3) := by decide +kernel
theorem dX10_rests_125 : decode cX10_rests 125 = .ok (.aload_n 0, 1) := by decide +kernel
theorem dX10_rests_126 : decode cX10_rests 126 = .ok (.iload 4, 2) := by decide +kernel
theorem dX10_rests_128 : decode cX10_rests 128 = .ok (.iload_n 1, 1) := by decide +kernel
theorem dX10_rests_129 : decode cX10_rests 129 = .ok (.irem, 1) := by decide +kernel
theorem dX10_rests_130 : decode cX10_rests 130 = .ok (.invokevirtual 372, 3) := by decide +kernel
theorem dX10_rests_133 : decode cX10_rests 133 = .ok (.isub, 1) := by decide +kernel
theorem dX10_rests_134 : decode cX10_rests 134 = .ok (.iload_n 2, 1) := by decide +kernel
theorem dX10_rests_135 : decode cX10_rests 135 = .ok (.iadd, 1) := by decide +kernel
theorem dX10_rests_136 : decode cX10_rests 136 = .ok (.iload_n 2, 1) := by decide +kernel
theorem dX10_rests_137 : decode cX10_rests 137 = .ok (.irem, 1) := by decide +kernel
theorem dX10_rests_138 : decode cX10_rests 138 = .ok (.istore 5, 2) := by decide +kernel
theorem dX10_rests_140 : decode cX10_rests 140 = .ok (.aload_n 0, 1) := by decide +kernel
theorem dX10_rests_141 : decode cX10_rests 141 = .ok (.getfield 148, 3) := by decide +kernel
theorem dX10_rests_144 : decode cX10_rests 144 = .ok (.iload 5, 2) := by decide +kernel
theorem dX10_rests_146 : decode cX10_rests 146 = .ok (.aload_n 0, 1) := by decide +kernel
theorem dX10_rests_147 : decode cX10_rests 147 = .ok (.getfield 148, 3) := by decide +kernel
theorem dX10_rests_150 : decode cX10_rests 150 = .ok (.iload 5, 2) := by decide +kernel
theorem dX10_rests_152 : decode cX10_rests 152 = .ok (.iaload, 1) := by decide +kernel
theorem dX10_rests_153 : decode cX10_rests 153 = .ok (.iconst 1, 1) := by decide +kernel
theorem dX10_rests_154 : decode cX10_rests 154 = .ok (.iadd, 1) := by decide +kernel
theorem dX10_rests_155 : decode cX10_rests 155 = .ok (.iastore, 1) := by decide +kernel
theorem dX10_rests_156 : decode cX10_rests 156 = .ok (.iinc 4 1, 3) := by decide +kernel
theorem dX10_rests_159 : decode cX10_rests 159 = .ok (.goto (-50), 3) := by decide +kernel
theorem dX10_rests_162 : decode cX10_rests 162 = .ok (.ldc_w 321, 3) := by decide +kernel
theorem dX10_rests_165 : decode cX10_rests 165 = .ok (.istore 4, 2) := by decide +kernel
theorem dX10_rests_167 : decode cX10_rests 167 = .ok (.iconst 0, 1) := by decide +kernel
theorem dX10_rests_168 : decode cX10_rests 168 = .ok (.istore 5, 2) := by decide +kernel
theorem dX10_rests_170 : decode cX10_rests 170 = .ok (.iconst 1, 1) := by decide +kernel
theorem dX10_rests_171 : decode cX10_rests 171 = .ok (.istore 6, 2) := by decide +kernel
theorem dX10_rests_173 : decode cX10_rests 173 = .ok (.iload 6, 2) := by decide +kernel
theorem dX10_rests_175 : decode cX10_rests 175 = .ok (.iload_n 2, 1) := by decide +kernel
theorem dX10_rests_176 : decode cX10_rests 176 = .ok (.if_icmp .ge 37, 3) := by decide +kernel
theorem dX10_rests_179 : decode cX10_rests 179 = .ok (.iload 4, 2) := by decide +kernel
theorem dX10_rests_181 : decode cX10_rests 181 = .ok (.aload_n 0, 1) := by decide +kernel
theorem dX10_rests_182 : decode cX10_rests 182 = .ok (.getfield 148, 3) := by decide +kernel
theorem dX10_rests_185 : decode cX10_rests 185 = .ok (.iload 6, 2) := by decide +kernel
theorem dX10_rests_187 : decode cX10_rests 187 = .ok (.iaload, 1) := by decide +kernel
theorem dX10_rests_188 : decode cX10_rests 188 = .ok (.invokestatic 318, 3) := by decide +kernel
theorem dX10_rests_191 : decode cX10_rests 191 = .ok (.istore 4, 2) := by decide +kernel
theorem dX10_rests_193 : decode cX10_rests 193 = .ok (.iload 5, 2) := by decide +kernel
theorem dX10_rests_195 : decode cX10_rests 195 = .ok (.aload_n 0, 1) := by decide +kernel
theorem dX10_rests_196 : decode cX10_rests 196 = .ok (.getfield 148, 3) := by decide +kernel
theorem dX10_rests_199 : decode cX10_rests 199 = .ok (.iload 6, 2) := by decide +kernel
theorem dX10_rests_201 : decode cX10_rests 201 = .ok (.iaload, 1) := by decide +kernel
theorem dX10_rests_202 : decode cX10_rests 202 = .ok (.invokestatic 328, 3) := by decide +kernel
theorem dX10_rests_205 : decode cX10_rests 205 = .ok (.istore 5, 2) := by decide +kernel
theorem dX10_rests_207 : decode cX10_rests 207 = .ok (.iinc 6 1, 3) := by decide +kernel
theorem dX10_rests_210 : decode cX10_rests 210 = .ok (.goto (-37), 3) := by decide +kernel
theorem dX10_rests_213 : decode cX10_rests 213 = .ok (.iload_n 3, 1) := by decide +kernel
theorem dX10_rests_214 : decode cX10_rests 214 = .ok (.ifCond .ne 8, 3) := by decide +kernel
theorem dX10_rests_217 : decode cX10_rests 217 = .ok (.iload 4, 2) := by decide +kernel
theorem dX10_rests_219 : decode cX10_rests 219 = .ok (.goto 5, 3) := by decide +kernel
theorem dX10_rests_222 : decode cX10_rests 222 = .ok (.iload 5, 2) := by decide +kernel
theorem dX10_rests_224 : decode cX10_rests 224 = .ok (.ireturn, 1) := by decide +kernel
theorem dX10_readsStall_0 : decode cX10_readsStall 0 = .ok (.aload_n 0, 1) := by decide +kernel
theorem dX10_readsStall_1 : decode cX10_readsStall 1 = .ok (.invokevirtual 182, 3) := by decide +kernel
theorem dX10_readsStall_4 : decode cX10_readsStall 4 = .ok (.bipush 48, 2) := by decide +kernel
theorem dX10_readsStall_6 : decode cX10_readsStall 6 = .ok (.isub, 1) := by decide +kernel
theorem dX10_readsStall_7 : decode cX10_readsStall 7 = .ok (.istore_n 1, 1) := by decide +kernel
theorem dX10_readsStall_8 : decode cX10_readsStall 8 = .ok (.iload_n 1, 1) := by decide +kernel
theorem dX10_readsStall_9 : decode cX10_readsStall 9 = .ok (.iconst 0, 1) := by decide +kernel
theorem dX10_readsStall_10 : decode cX10_readsStall 10 = .ok (.bipush 7, 2) := by decide +kernel
theorem dX10_readsStall_12 : decode cX10_readsStall 12 = .ok (.invokestatic 161, 3) := by decide +kernel
theorem dX10_readsStall_15 : decode cX10_readsStall 15 = .ok (.ifCond .ne 13, 3) := by decide +kernel
theorem dX10_readsStall_18 : decode cX10_readsStall 18 = .ok (.aload_n 0, 1) := by decide +kernel
theorem dX10_readsStall_19 : decode cX10_readsStall 19 = .ok (.iconst 1, 1) := by decide +kernel
theorem dX10_readsStall_20 : decode cX10_readsStall 20 = .ok (.aload_n 0, 1) := by decide +kernel
theorem dX10_readsStall_21 : decode cX10_readsStall 21 = .ok (.getfield 176, 3) := by decide +kernel
theorem dX10_readsStall_24 : decode cX10_readsStall 24 = .ok (.invokevirtual 189, 3) := by decide +kernel
theorem dX10_readsStall_27 : decode cX10_readsStall 27 = .ok (.ireturn, 1) := by decide +kernel
theorem dX10_readsStall_28 : decode cX10_readsStall 28 = .ok (.aload_n 0, 1) := by decide +kernel
theorem dX10_readsStall_29 : decode cX10_readsStall 29 = .ok (.getfield 422, 3) := by decide +kernel
theorem dX10_readsStall_32 : decode cX10_readsStall 32 = .ok (.iload_n 1, 1) := by decide +kernel
theorem dX10_readsStall_33 : decode cX10_readsStall 33 = .ok (.invokestatic 157, 3) := by decide +kernel
theorem dX10_readsStall_36 : decode cX10_readsStall 36 = .ok (.ifCond .eq 14, 3) := by decide +kernel
theorem dX10_readsStall_39 : decode cX10_readsStall 39 = .ok (.aload_n 0, 1) := by decide +kernel
theorem dX10_readsStall_40 : decode cX10_readsStall 40 = .ok (.bipush 6, 2) := by decide +kernel
theorem dX10_readsStall_42 : decode cX10_readsStall 42 = .ok (.aload_n 0, 1) := by decide +kernel
theorem dX10_readsStall_43 : decode cX10_readsStall 43 = .ok (.getfield 176, 3) := by decide +kernel
theorem dX10_readsStall_46 : decode cX10_readsStall 46 = .ok (.invokevirtual 189, 3) := by decide +kernel
theorem dX10_readsStall_49 : decode cX10_readsStall 49 = .ok (.ireturn, 1) := by decide +kernel
theorem dX10_readsStall_50 : decode cX10_readsStall 50 = .ok (.aload_n 0, 1) := by decide +kernel
theorem dX10_readsStall_51 : decode cX10_readsStall 51 = .ok (.aload_n 0, 1) := by decide +kernel
theorem dX10_readsStall_52 : decode cX10_readsStall 52 = .ok (.getfield 176, 3) := by decide +kernel
theorem dX10_readsStall_55 : decode cX10_readsStall 55 = .ok (.iconst 1, 1) := by decide +kernel
theorem dX10_readsStall_56 : decode cX10_readsStall 56 = .ok (.iadd, 1) := by decide +kernel
theorem dX10_readsStall_57 : decode cX10_readsStall 57 = .ok (.putfield 176, 3) := by decide +kernel
theorem dX10_readsStall_60 : decode cX10_readsStall 60 = .ok (.aload_n 0, 1) := by decide +kernel
theorem dX10_readsStall_61 : decode cX10_readsStall 61 = .ok (.bipush 58, 2) := by decide +kernel
theorem dX10_readsStall_63 : decode cX10_readsStall 63 = .ok (.invokevirtual 267, 3) := by decide +kernel
theorem dX10_readsStall_66 : decode cX10_readsStall 66 = .ok (.ifCond .eq 10, 3) := by decide +kernel
theorem dX10_readsStall_69 : decode cX10_readsStall 69 = .ok (.aload_n 0, 1) := by decide +kernel
theorem dX10_readsStall_70 : decode cX10_readsStall 70 = .ok (.invokevirtual 290, 3) := by decide +kernel
theorem dX10_readsStall_73 : decode cX10_readsStall 73 = .ok (.ifCond .ne 5, 3) := by decide +kernel
theorem dX10_readsStall_76 : decode cX10_readsStall 76 = .ok (.iconst 0, 1) := by decide +kernel
theorem dX10_readsStall_77 : decode cX10_readsStall 77 = .ok (.ireturn, 1) := by decide +kernel
theorem dX10_readsStall_78 : decode cX10_readsStall 78 = .ok (.aload_n 0, 1) := by decide +kernel
theorem dX10_readsStall_79 : decode cX10_readsStall 79 = .ok (.getfield 151, 3) := by decide +kernel
theorem dX10_readsStall_82 : decode cX10_readsStall 82 = .ok (.iload_n 1, 1) := by decide +kernel
theorem dX10_readsStall_83 : decode cX10_readsStall 83 = .ok (.aload_n 0, 1) := by decide +kernel
theorem dX10_readsStall_84 : decode cX10_readsStall 84 = .ok (.getfield 192, 3) := by decide +kernel
theorem dX10_readsStall_87 : decode cX10_readsStall 87 = .ok (.iastore, 1) := by decide +kernel
theorem dX10_readsStall_88 : decode cX10_readsStall 88 = .ok (.aload_n 0, 1) := by decide +kernel
theorem dX10_readsStall_89 : decode cX10_readsStall 89 = .ok (.bipush 45, 2) := by decide +kernel
theorem dX10_readsStall_91 : decode cX10_readsStall 91 = .ok (.invokevirtual 267, 3) := by decide +kernel
theorem dX10_readsStall_94 : decode cX10_readsStall 94 = .ok (.ifCond .ne 5, 3) := by decide +kernel
theorem dX10_readsStall_97 : decode cX10_readsStall 97 = .ok (.iconst 0, 1) := by decide +kernel
theorem dX10_readsStall_98 : decode cX10_readsStall 98 = .ok (.ireturn, 1) := by decide +kernel
theorem dX10_readsStall_99 : decode cX10_readsStall 99 = .ok (.aload_n 0, 1) := by decide +kernel
theorem dX10_readsStall_100 : decode cX10_readsStall 100 = .ok (.getfield 176, 3) := by decide +kernel
theorem dX10_readsStall_103 : decode cX10_readsStall 103 = .ok (.istore_n 2, 1) := by decide +kernel
theorem dX10_readsStall_104 : decode cX10_readsStall 104 = .ok (.aload_n 0, 1) := by decide +kernel
theorem dX10_readsStall_105 : decode cX10_readsStall 105 = .ok (.invokevirtual 290, 3) := by decide +kernel
theorem dX10_readsStall_108 : decode cX10_readsStall 108 = .ok (.ifCond .ne 5, 3) := by decide +kernel
theorem dX10_readsStall_111 : decode cX10_readsStall 111 = .ok (.iconst 0, 1) := by decide +kernel
theorem dX10_readsStall_112 : decode cX10_readsStall 112 = .ok (.ireturn, 1) := by decide +kernel
theorem dX10_readsStall_113 : decode cX10_readsStall 113 = .ok (.aload_n 0, 1) := by decide +kernel
theorem dX10_readsStall_114 : decode cX10_readsStall 114 = .ok (.getfield 192, 3) := by decide +kernel
theorem dX10_readsStall_117 : decode cX10_readsStall 117 = .ok (.aload_n 0, 1) := by decide +kernel
theorem dX10_readsStall_118 : decode cX10_readsStall 118 = .ok (.getfield 151, 3) := by decide +kernel
theorem dX10_readsStall_121 : decode cX10_readsStall 121 = .ok (.iload_n 1, 1) := by decide +kernel
theorem dX10_readsStall_122 : decode cX10_readsStall 122 = .ok (.iaload, 1) := by decide +kernel
theorem dX10_readsStall_123 : decode cX10_readsStall 123 = .ok (.if_icmp .le 10, 3) := by decide +kernel
theorem dX10_readsStall_126 : decode cX10_readsStall 126 = .ok (.aload_n 0, 1) := by decide +kernel
theorem dX10_readsStall_127 : decode cX10_readsStall 127 = .ok (.iconst 3, 1) := by decide +kernel
theorem dX10_readsStall_128 : decode cX10_readsStall 128 = .ok (.iload_n 2, 1) := by decide +kernel
theorem dX10_readsStall_129 : decode cX10_readsStall 129 = .ok (.invokevirtual 189, 3) := by decide +kernel
theorem dX10_readsStall_132 : decode cX10_readsStall 132 = .ok (.ireturn, 1) := by decide +kernel
theorem dX10_readsStall_133 : decode cX10_readsStall 133 = .ok (.aload_n 0, 1) := by decide +kernel
theorem dX10_readsStall_134 : decode cX10_readsStall 134 = .ok (.getfield 154, 3) := by decide +kernel
theorem dX10_readsStall_137 : decode cX10_readsStall 137 = .ok (.iload_n 1, 1) := by decide +kernel
theorem dX10_readsStall_138 : decode cX10_readsStall 138 = .ok (.aload_n 0, 1) := by decide +kernel
theorem dX10_readsStall_139 : decode cX10_readsStall 139 = .ok (.getfield 192, 3) := by decide +kernel
theorem dX10_readsStall_142 : decode cX10_readsStall 142 = .ok (.iastore, 1) := by decide +kernel
theorem dX10_readsStall_143 : decode cX10_readsStall 143 = .ok (.aload_n 0, 1) := by decide +kernel
theorem dX10_readsStall_144 : decode cX10_readsStall 144 = .ok (.aload_n 0, 1) := by decide +kernel
theorem dX10_readsStall_145 : decode cX10_readsStall 145 = .ok (.getfield 422, 3) := by decide +kernel
theorem dX10_readsStall_148 : decode cX10_readsStall 148 = .ok (.iconst 1, 1) := by decide +kernel
theorem dX10_readsStall_149 : decode cX10_readsStall 149 = .ok (.iload_n 1, 1) := by decide +kernel
theorem dX10_readsStall_150 : decode cX10_readsStall 150 = .ok (.ishl, 1) := by decide +kernel
theorem dX10_readsStall_151 : decode cX10_readsStall 151 = .ok (.ior, 1) := by decide +kernel
theorem dX10_readsStall_152 : decode cX10_readsStall 152 = .ok (.putfield 422, 3) := by decide +kernel
theorem dX10_readsStall_155 : decode cX10_readsStall 155 = .ok (.aload_n 0, 1) := by decide +kernel
theorem dX10_readsStall_156 : decode cX10_readsStall 156 = .ok (.aload_n 0, 1) := by decide +kernel
theorem dX10_readsStall_157 : decode cX10_readsStall 157 = .ok (.getfield 425, 3) := by decide +kernel
theorem dX10_readsStall_160 : decode cX10_readsStall 160 = .ok (.iconst 1, 1) := by decide +kernel
theorem dX10_readsStall_161 : decode cX10_readsStall 161 = .ok (.iadd, 1) := by decide +kernel
theorem dX10_readsStall_162 : decode cX10_readsStall 162 = .ok (.putfield 425, 3) := by decide +kernel
theorem dX10_readsStall_165 : decode cX10_readsStall 165 = .ok (.iconst 1, 1) := by decide +kernel
theorem dX10_readsStall_166 : decode cX10_readsStall 166 = .ok (.ireturn, 1) := by decide +kernel
theorem dX10_stock_0 : decode cX10_stock 0 = .ok (.iload_n 1, 1) := by decide +kernel
theorem dX10_stock_1 : decode cX10_stock 1 = .ok (.iconst 1, 1) := by decide +kernel
theorem dX10_stock_2 : decode cX10_stock 2 = .ok (.sipush 160, 3) := by decide +kernel
theorem dX10_stock_5 : decode cX10_stock 5 = .ok (.invokestatic 161, 3) := by decide +kernel
theorem dX10_stock_8 : decode cX10_stock 8 = .ok (.ifCond .eq 11, 3) := by decide +kernel
theorem dX10_stock_11 : decode cX10_stock 11 = .ok (.iload_n 1, 1) := by decide +kernel
theorem dX10_stock_12 : decode cX10_stock 12 = .ok (.aload_n 0, 1) := by decide +kernel
theorem dX10_stock_13 : decode cX10_stock 13 = .ok (.getfield 169, 3) := by decide +kernel
theorem dX10_stock_16 : decode cX10_stock 16 = .ok (.if_icmp .le 5, 3) := by decide +kernel
theorem dX10_stock_19 : decode cX10_stock 19 = .ok (.iconst (-1), 1) := by decide +kernel
theorem dX10_stock_20 : decode cX10_stock 20 = .ok (.ireturn, 1) := by decide +kernel
theorem dX10_stock_21 : decode cX10_stock 21 = .ok (.aload_n 0, 1) := by decide +kernel
theorem dX10_stock_22 : decode cX10_stock 22 = .ok (.iload_n 1, 1) := by decide +kernel
theorem dX10_stock_23 : decode cX10_stock 23 = .ok (.invokevirtual 261, 3) := by decide +kernel
theorem dX10_stock_26 : decode cX10_stock 26 = .ok (.aload_n 0, 1) := by decide +kernel
theorem dX10_stock_27 : decode cX10_stock 27 = .ok (.iconst 0, 1) := by decide +kernel
theorem dX10_stock_28 : decode cX10_stock 28 = .ok (.putfield 422, 3) := by decide +kernel
theorem dX10_stock_31 : decode cX10_stock 31 = .ok (.aload_n 0, 1) := by decide +kernel
theorem dX10_stock_32 : decode cX10_stock 32 = .ok (.iconst 0, 1) := by decide +kernel
theorem dX10_stock_33 : decode cX10_stock 33 = .ok (.putfield 425, 3) := by decide +kernel
theorem dX10_stock_36 : decode cX10_stock 36 = .ok (.aload_n 0, 1) := by decide +kernel
theorem dX10_stock_37 : decode cX10_stock 37 = .ok (.invokevirtual 428, 3) := by decide +kernel
theorem dX10_stock_40 : decode cX10_stock 40 = .ok (.istore_n 2, 1) := by decide +kernel
theorem dX10_stock_41 : decode cX10_stock 41 = .ok (.iload_n 2, 1) := by decide +kernel
theorem dX10_stock_42 : decode cX10_stock 42 = .ok (.ifCond .eq 39, 3) := by decide +kernel
theorem dX10_stock_45 : decode cX10_stock 45 = .ok (.aload_n 0, 1) := by decide +kernel
theorem dX10_stock_46 : decode cX10_stock 46 = .ok (.getfield 176, 3) := by decide +kernel
theorem dX10_stock_49 : decode cX10_stock 49 = .ok (.aload_n 0, 1) := by decide +kernel
theorem dX10_stock_50 : decode cX10_stock 50 = .ok (.getfield 179, 3) := by decide +kernel
theorem dX10_stock_53 : decode cX10_stock 53 = .ok (.if_icmp .ge 28, 3) := by decide +kernel
theorem dX10_stock_56 : decode cX10_stock 56 = .ok (.aload_n 0, 1) := by decide +kernel
theorem dX10_stock_57 : decode cX10_stock 57 = .ok (.bipush 59, 2) := by decide +kernel
theorem dX10_stock_59 : decode cX10_stock 59 = .ok (.invokevirtual 267, 3) := by decide +kernel
theorem dX10_stock_62 : decode cX10_stock 62 = .ok (.ifCond .eq 14, 3) := by decide +kernel
theorem dX10_stock_65 : decode cX10_stock 65 = .ok (.aload_n 0, 1) := by decide +kernel
theorem dX10_stock_66 : decode cX10_stock 66 = .ok (.invokevirtual 428, 3) := by decide +kernel
theorem dX10_stock_69 : decode cX10_stock 69 = .ok (.ifCond .eq 7, 3) := by decide +kernel
theorem dX10_stock_72 : decode cX10_stock 72 = .ok (.iconst 1, 1) := by decide +kernel
theorem dX10_stock_73 : decode cX10_stock 73 = .ok (.goto 4, 3) := by decide +kernel
theorem dX10_stock_76 : decode cX10_stock 76 = .ok (.iconst 0, 1) := by decide +kernel
theorem dX10_stock_77 : decode cX10_stock 77 = .ok (.istore_n 2, 1) := by decide +kernel
theorem dX10_stock_78 : decode cX10_stock 78 = .ok (.goto (-37), 3) := by decide +kernel
theorem dX10_stock_81 : decode cX10_stock 81 = .ok (.aload_n 0, 1) := by decide +kernel
theorem dX10_stock_82 : decode cX10_stock 82 = .ok (.iconst 0, 1) := by decide +kernel
theorem dX10_stock_83 : decode cX10_stock 83 = .ok (.putfield 169, 3) := by decide +kernel
theorem dX10_stock_86 : decode cX10_stock 86 = .ok (.iload_n 2, 1) := by decide +kernel
theorem dX10_stock_87 : decode cX10_stock 87 = .ok (.ifCond .ne 8, 3) := by decide +kernel
theorem dX10_stock_90 : decode cX10_stock 90 = .ok (.aload_n 0, 1) := by decide +kernel
theorem dX10_stock_91 : decode cX10_stock 91 = .ok (.getfield 186, 3) := by decide +kernel
theorem dX10_stock_94 : decode cX10_stock 94 = .ok (.ireturn, 1) := by decide +kernel
theorem dX10_stock_95 : decode cX10_stock 95 = .ok (.aload_n 0, 1) := by decide +kernel
theorem dX10_stock_96 : decode cX10_stock 96 = .ok (.aload_n 0, 1) := by decide +kernel
theorem dX10_stock_97 : decode cX10_stock 97 = .ok (.getfield 422, 3) := by decide +kernel
theorem dX10_stock_100 : decode cX10_stock 100 = .ok (.putfield 165, 3) := by decide +kernel
theorem dX10_stock_103 : decode cX10_stock 103 = .ok (.iconst 0, 1) := by decide +kernel
theorem dX10_stock_104 : decode cX10_stock 104 = .ok (.istore_n 3, 1) := by decide +kernel
theorem dX10_stock_105 : decode cX10_stock 105 = .ok (.iload_n 3, 1) := by decide +kernel
theorem dX10_stock_106 : decode cX10_stock 106 = .ok (.bipush 8, 2) := by decide +kernel
theorem dX10_stock_108 : decode cX10_stock 108 = .ok (.if_icmp .ge 86, 3) := by decide +kernel
theorem dX10_stock_111 : decode cX10_stock 111 = .ok (.aload_n 0, 1) := by decide +kernel
theorem dX10_stock_112 : decode cX10_stock 112 = .ok (.getfield 165, 3) := by decide +kernel
theorem dX10_stock_115 : decode cX10_stock 115 = .ok (.iload_n 3, 1) := by decide +kernel
theorem dX10_stock_116 : decode cX10_stock 116 = .ok (.invokestatic 157, 3) := by decide +kernel
theorem dX10_stock_119 : decode cX10_stock 119 = .ok (.istore 4, 2) := by decide +kernel
theorem dX10_stock_121 : decode cX10_stock 121 = .ok (.aload_n 0, 1) := by decide +kernel
theorem dX10_stock_122 : decode cX10_stock 122 = .ok (.getfield 7, 3) := by decide +kernel
theorem dX10_stock_125 : decode cX10_stock 125 = .ok (.iconst 0, 1) := by decide +kernel
theorem dX10_stock_126 : decode cX10_stock 126 = .ok (.iload_n 3, 1) := by decide +kernel
theorem dX10_stock_127 : decode cX10_stock 127 = .ok (.iadd, 1) := by decide +kernel
theorem dX10_stock_128 : decode cX10_stock 128 = .ok (.iload 4, 2) := by decide +kernel
theorem dX10_stock_130 : decode cX10_stock 130 = .ok (.ifCond .eq 12, 3) := by decide +kernel
theorem dX10_stock_133 : decode cX10_stock 133 = .ok (.aload_n 0, 1) := by decide +kernel
theorem dX10_stock_134 : decode cX10_stock 134 = .ok (.getfield 151, 3) := by decide +kernel
theorem dX10_stock_137 : decode cX10_stock 137 = .ok (.iload_n 3, 1) := by decide +kernel
theorem dX10_stock_138 : decode cX10_stock 138 = .ok (.iaload, 1) := by decide +kernel
theorem dX10_stock_139 : decode cX10_stock 139 = .ok (.goto 4, 3) := by decide +kernel
theorem dX10_stock_142 : decode cX10_stock 142 = .ok (.iconst 0, 1) := by decide +kernel
theorem dX10_stock_143 : decode cX10_stock 143 = .ok (.iastore, 1) := by decide +kernel
theorem dX10_stock_144 : decode cX10_stock 144 = .ok (.aload_n 0, 1) := by decide +kernel
theorem dX10_stock_145 : decode cX10_stock 145 = .ok (.getfield 7, 3) := by decide +kernel
theorem dX10_stock_148 : decode cX10_stock 148 = .ok (.bipush 8, 2) := by decide +kernel
theorem dX10_stock_150 : decode cX10_stock 150 = .ok (.iload_n 3, 1) := by decide +kernel
theorem dX10_stock_151 : decode cX10_stock 151 = .ok (.iadd, 1) := by decide +kernel
theorem dX10_stock_152 : decode cX10_stock 152 = .ok (.iload 4, 2) := by decide +kernel
theorem dX10_stock_154 : decode cX10_stock 154 = .ok (.ifCond .eq 12, 3) := by decide +kernel
theorem dX10_stock_157 : decode cX10_stock 157 = .ok (.aload_n 0, 1) := by decide +kernel
theorem dX10_stock_158 : decode cX10_stock 158 = .ok (.getfield 154, 3) := by decide +kernel
theorem dX10_stock_161 : decode cX10_stock 161 = .ok (.iload_n 3, 1) := by decide +kernel
theorem dX10_stock_162 : decode cX10_stock 162 = .ok (.iaload, 1) := by decide +kernel
theorem dX10_stock_163 : decode cX10_stock 163 = .ok (.goto 4, 3) := by decide +kernel
theorem dX10_stock_166 : decode cX10_stock 166 = .ok (.iconst 0, 1) := by decide +kernel
theorem dX10_stock_167 : decode cX10_stock 167 = .ok (.iastore, 1) := by decide +kernel
theorem dX10_stock_168 : decode cX10_stock 168 = .ok (.aload_n 0, 1) := by decide +kernel
theorem dX10_stock_169 : decode cX10_stock 169 = .ok (.getfield 7, 3) := by decide +kernel
theorem dX10_stock_172 : decode cX10_stock 172 = .ok (.bipush 16, 2) := by decide +kernel
theorem dX10_stock_174 : decode cX10_stock 174 = .ok (.iload_n 3, 1) := by decide +kernel
theorem dX10_stock_175 : decode cX10_stock 175 = .ok (.iadd, 1) := by decide +kernel
theorem dX10_stock_176 : decode cX10_stock 176 = .ok (.iconst 0, 1) := by decide +kernel
theorem dX10_stock_177 : decode cX10_stock 177 = .ok (.iastore, 1) := by decide +kernel
theorem dX10_stock_178 : decode cX10_stock 178 = .ok (.aload_n 0, 1) := by decide +kernel
theorem dX10_stock_179 : decode cX10_stock 179 = .ok (.getfield 7, 3) := by decide +kernel
theorem dX10_stock_182 : decode cX10_stock 182 = .ok (.bipush 24, 2) := by decide +kernel
theorem dX10_stock_184 : decode cX10_stock 184 = .ok (.iload_n 3, 1) := by decide +kernel
theorem dX10_stock_185 : decode cX10_stock 185 = .ok (.iadd, 1) := by decide +kernel
theorem dX10_stock_186 : decode cX10_stock 186 = .ok (.iconst 0, 1) := by decide +kernel
theorem dX10_stock_187 : decode cX10_stock 187 = .ok (.iastore, 1) := by decide +kernel
theorem dX10_stock_188 : decode cX10_stock 188 = .ok (.iinc 3 1, 3) := by decide +kernel
theorem dX10_stock_191 : decode cX10_stock 191 = .ok (.goto (-86), 3) := by decide +kernel
theorem dX10_stock_194 : decode cX10_stock 194 = .ok (.aload_n 0, 1) := by decide +kernel
theorem dX10_stock_195 : decode cX10_stock 195 = .ok (.getfield 425, 3) := by decide +kernel
theorem dX10_stock_198 : decode cX10_stock 198 = .ok (.ireturn, 1) := by decide +kernel
theorem dX10_between_0 : decode cX10_between 0 = .ok (.aload_n 0, 1) := by decide +kernel
theorem dX10_between_1 : decode cX10_between 1 = .ok (.getfield 7, 3) := by decide +kernel
theorem dX10_between_4 : decode cX10_between 4 = .ok (.iconst 0, 1) := by decide +kernel
theorem dX10_between_5 : decode cX10_between 5 = .ok (.iload_n 1, 1) := by decide +kernel
theorem dX10_between_6 : decode cX10_between 6 = .ok (.iadd, 1) := by decide +kernel
theorem dX10_between_7 : decode cX10_between 7 = .ok (.iaload, 1) := by decide +kernel
theorem dX10_between_8 : decode cX10_between 8 = .ok (.aload_n 0, 1) := by decide +kernel
theorem dX10_between_9 : decode cX10_between 9 = .ok (.getfield 7, 3) := by decide +kernel
theorem dX10_between_12 : decode cX10_between 12 = .ok (.bipush 8, 2) := by decide +kernel
theorem dX10_between_14 : decode cX10_between 14 = .ok (.iload_n 1, 1) := by decide +kernel
theorem dX10_between_15 : decode cX10_between 15 = .ok (.iadd, 1) := by decide +kernel
theorem dX10_between_16 : decode cX10_between 16 = .ok (.iaload, 1) := by decide +kernel
theorem dX10_between_17 : decode cX10_between 17 = .ok (.isub, 1) := by decide +kernel
theorem dX10_between_18 : decode cX10_between 18 = .ok (.ireturn, 1) := by decide +kernel
theorem dX10_othersMore_0 : decode cX10_othersMore 0 = .ok (.iconst 0, 1) := by decide +kernel
theorem dX10_othersMore_1 : decode cX10_othersMore 1 = .ok (.istore_n 2, 1) := by decide +kernel
theorem dX10_othersMore_2 : decode cX10_othersMore 2 = .ok (.iconst 0, 1) := by decide +kernel
theorem dX10_othersMore_3 : decode cX10_othersMore 3 = .ok (.istore_n 3, 1) := by decide +kernel
theorem dX10_othersMore_4 : decode cX10_othersMore 4 = .ok (.iload_n 3, 1) := by decide +kernel
theorem dX10_othersMore_5 : decode cX10_othersMore 5 = .ok (.bipush 8, 2) := by decide +kernel
theorem dX10_othersMore_7 : decode cX10_othersMore 7 = .ok (.if_icmp .ge 34, 3) := by decide +kernel
theorem dX10_othersMore_10 : decode cX10_othersMore 10 = .ok (.aload_n 0, 1) := by decide +kernel
theorem dX10_othersMore_11 : decode cX10_othersMore 11 = .ok (.iload_n 3, 1) := by decide +kernel
theorem dX10_othersMore_12 : decode cX10_othersMore 12 = .ok (.invokevirtual 431, 3) := by decide +kernel
theorem dX10_othersMore_15 : decode cX10_othersMore 15 = .ok (.ifCond .eq 20, 3) := by decide +kernel
theorem dX10_othersMore_18 : decode cX10_othersMore 18 = .ok (.aload_n 0, 1) := by decide +kernel
theorem dX10_othersMore_19 : decode cX10_othersMore 19 = .ok (.iload_n 3, 1) := by decide +kernel
theorem dX10_othersMore_20 : decode cX10_othersMore 20 = .ok (.invokevirtual 434, 3) := by decide +kernel
theorem dX10_othersMore_23 : decode cX10_othersMore 23 = .ok (.aload_n 0, 1) := by decide +kernel
theorem dX10_othersMore_24 : decode cX10_othersMore 24 = .ok (.iload_n 1, 1) := by decide +kernel
theorem dX10_othersMore_25 : decode cX10_othersMore 25 = .ok (.invokevirtual 434, 3) := by decide +kernel
theorem dX10_othersMore_28 : decode cX10_othersMore 28 = .ok (.if_icmp .le 7, 3) := by decide +kernel
theorem dX10_othersMore_31 : decode cX10_othersMore 31 = .ok (.iload_n 2, 1) := by decide +kernel
theorem dX10_othersMore_32 : decode cX10_othersMore 32 = .ok (.iconst 1, 1) := by decide +kernel
theorem dX10_othersMore_33 : decode cX10_othersMore 33 = .ok (.iadd, 1) := by decide +kernel
theorem dX10_othersMore_34 : decode cX10_othersMore 34 = .ok (.istore_n 2, 1) := by decide +kernel
theorem dX10_othersMore_35 : decode cX10_othersMore 35 = .ok (.iinc 3 1, 3) := by decide +kernel
theorem dX10_othersMore_38 : decode cX10_othersMore 38 = .ok (.goto (-34), 3) := by decide +kernel
theorem dX10_othersMore_41 : decode cX10_othersMore 41 = .ok (.iload_n 2, 1) := by decide +kernel
theorem dX10_othersMore_42 : decode cX10_othersMore 42 = .ok (.ireturn, 1) := by decide +kernel
theorem dX10_feels_0 : decode cX10_feels 0 = .ok (.aload_n 0, 1) := by decide +kernel
theorem dX10_feels_1 : decode cX10_feels 1 = .ok (.getfield 71, 3) := by decide +kernel
theorem dX10_feels_4 : decode cX10_feels 4 = .ok (.iconst 0, 1) := by decide +kernel
theorem dX10_feels_5 : decode cX10_feels 5 = .ok (.iload_n 1, 1) := by decide +kernel
theorem dX10_feels_6 : decode cX10_feels 6 = .ok (.iastore, 1) := by decide +kernel
theorem dX10_feels_7 : decode cX10_feels 7 = .ok (.aload_n 0, 1) := by decide +kernel
theorem dX10_feels_8 : decode cX10_feels 8 = .ok (.getfield 71, 3) := by decide +kernel
theorem dX10_feels_11 : decode cX10_feels 11 = .ok (.iconst 1, 1) := by decide +kernel
theorem dX10_feels_12 : decode cX10_feels 12 = .ok (.aload_n 0, 1) := by decide +kernel
theorem dX10_feels_13 : decode cX10_feels 13 = .ok (.getfield 7, 3) := by decide +kernel
theorem dX10_feels_16 : decode cX10_feels 16 = .ok (.iconst 0, 1) := by decide +kernel
theorem dX10_feels_17 : decode cX10_feels 17 = .ok (.iload_n 1, 1) := by decide +kernel
theorem dX10_feels_18 : decode cX10_feels 18 = .ok (.iadd, 1) := by decide +kernel
theorem dX10_feels_19 : decode cX10_feels 19 = .ok (.iaload, 1) := by decide +kernel
theorem dX10_feels_20 : decode cX10_feels 20 = .ok (.iastore, 1) := by decide +kernel
theorem dX10_feels_21 : decode cX10_feels 21 = .ok (.aload_n 0, 1) := by decide +kernel
theorem dX10_feels_22 : decode cX10_feels 22 = .ok (.getfield 71, 3) := by decide +kernel
theorem dX10_feels_25 : decode cX10_feels 25 = .ok (.iconst 2, 1) := by decide +kernel
theorem dX10_feels_26 : decode cX10_feels 26 = .ok (.aload_n 0, 1) := by decide +kernel
theorem dX10_feels_27 : decode cX10_feels 27 = .ok (.getfield 7, 3) := by decide +kernel
theorem dX10_feels_30 : decode cX10_feels 30 = .ok (.bipush 8, 2) := by decide +kernel
theorem dX10_feels_32 : decode cX10_feels 32 = .ok (.iload_n 1, 1) := by decide +kernel
theorem dX10_feels_33 : decode cX10_feels 33 = .ok (.iadd, 1) := by decide +kernel
theorem dX10_feels_34 : decode cX10_feels 34 = .ok (.iaload, 1) := by decide +kernel
theorem dX10_feels_35 : decode cX10_feels 35 = .ok (.iastore, 1) := by decide +kernel
theorem dX10_feels_36 : decode cX10_feels 36 = .ok (.aload_n 0, 1) := by decide +kernel
theorem dX10_feels_37 : decode cX10_feels 37 = .ok (.getfield 71, 3) := by decide +kernel
theorem dX10_feels_40 : decode cX10_feels 40 = .ok (.iconst 3, 1) := by decide +kernel
theorem dX10_feels_41 : decode cX10_feels 41 = .ok (.aload_n 0, 1) := by decide +kernel
theorem dX10_feels_42 : decode cX10_feels 42 = .ok (.iload_n 1, 1) := by decide +kernel
theorem dX10_feels_43 : decode cX10_feels 43 = .ok (.invokevirtual 434, 3) := by decide +kernel
theorem dX10_feels_46 : decode cX10_feels 46 = .ok (.iastore, 1) := by decide +kernel
theorem dX10_feels_47 : decode cX10_feels 47 = .ok (.aload_n 0, 1) := by decide +kernel
theorem dX10_feels_48 : decode cX10_feels 48 = .ok (.getfield 71, 3) := by decide +kernel
theorem dX10_feels_51 : decode cX10_feels 51 = .ok (.iconst 4, 1) := by decide +kernel
theorem dX10_feels_52 : decode cX10_feels 52 = .ok (.aload_n 0, 1) := by decide +kernel
theorem dX10_feels_53 : decode cX10_feels 53 = .ok (.getfield 7, 3) := by decide +kernel
theorem dX10_feels_56 : decode cX10_feels 56 = .ok (.bipush 16, 2) := by decide +kernel
theorem dX10_feels_58 : decode cX10_feels 58 = .ok (.iload_n 1, 1) := by decide +kernel
theorem dX10_feels_59 : decode cX10_feels 59 = .ok (.iadd, 1) := by decide +kernel
theorem dX10_feels_60 : decode cX10_feels 60 = .ok (.iaload, 1) := by decide +kernel
theorem dX10_feels_61 : decode cX10_feels 61 = .ok (.bipush 100, 2) := by decide +kernel
theorem dX10_feels_63 : decode cX10_feels 63 = .ok (.idiv, 1) := by decide +kernel
theorem dX10_feels_64 : decode cX10_feels 64 = .ok (.iastore, 1) := by decide +kernel
theorem dX10_feels_65 : decode cX10_feels 65 = .ok (.aload_n 0, 1) := by decide +kernel
theorem dX10_feels_66 : decode cX10_feels 66 = .ok (.getfield 71, 3) := by decide +kernel
theorem dX10_feels_69 : decode cX10_feels 69 = .ok (.iconst 5, 1) := by decide +kernel
theorem dX10_feels_70 : decode cX10_feels 70 = .ok (.aload_n 0, 1) := by decide +kernel
theorem dX10_feels_71 : decode cX10_feels 71 = .ok (.getfield 7, 3) := by decide +kernel
theorem dX10_feels_74 : decode cX10_feels 74 = .ok (.bipush 24, 2) := by decide +kernel
theorem dX10_feels_76 : decode cX10_feels 76 = .ok (.iload_n 1, 1) := by decide +kernel
theorem dX10_feels_77 : decode cX10_feels 77 = .ok (.iadd, 1) := by decide +kernel
theorem dX10_feels_78 : decode cX10_feels 78 = .ok (.iaload, 1) := by decide +kernel
theorem dX10_feels_79 : decode cX10_feels 79 = .ok (.iastore, 1) := by decide +kernel
theorem dX10_feels_80 : decode cX10_feels 80 = .ok (.aload_n 0, 1) := by decide +kernel
theorem dX10_feels_81 : decode cX10_feels 81 = .ok (.getfield 71, 3) := by decide +kernel
theorem dX10_feels_84 : decode cX10_feels 84 = .ok (.bipush 6, 2) := by decide +kernel
theorem dX10_feels_86 : decode cX10_feels 86 = .ok (.aload_n 0, 1) := by decide +kernel
theorem dX10_feels_87 : decode cX10_feels 87 = .ok (.iload_n 1, 1) := by decide +kernel
theorem dX10_feels_88 : decode cX10_feels 88 = .ok (.invokevirtual 437, 3) := by decide +kernel
theorem dX10_feels_91 : decode cX10_feels 91 = .ok (.iastore, 1) := by decide +kernel
theorem dX10_feels_92 : decode cX10_feels 92 = .ok (.aload_n 0, 1) := by decide +kernel
theorem dX10_feels_93 : decode cX10_feels 93 = .ok (.getfield 71, 3) := by decide +kernel
theorem dX10_feels_96 : decode cX10_feels 96 = .ok (.bipush 7, 2) := by decide +kernel
theorem dX10_feels_98 : decode cX10_feels 98 = .ok (.aload_n 0, 1) := by decide +kernel
theorem dX10_feels_99 : decode cX10_feels 99 = .ok (.getfield 7, 3) := by decide +kernel
theorem dX10_feels_102 : decode cX10_feels 102 = .ok (.bipush 32, 2) := by decide +kernel
theorem dX10_feels_104 : decode cX10_feels 104 = .ok (.iaload, 1) := by decide +kernel
theorem dX10_feels_105 : decode cX10_feels 105 = .ok (.bipush 100, 2) := by decide +kernel
theorem dX10_feels_107 : decode cX10_feels 107 = .ok (.irem, 1) := by decide +kernel
theorem dX10_feels_108 : decode cX10_feels 108 = .ok (.iastore, 1) := by decide +kernel
theorem dX10_feels_109 : decode cX10_feels 109 = .ok (.aload_n 0, 1) := by decide +kernel
theorem dX10_feels_110 : decode cX10_feels 110 = .ok (.getfield 71, 3) := by decide +kernel
theorem dX10_feels_113 : decode cX10_feels 113 = .ok (.bipush 8, 2) := by decide +kernel
theorem dX10_feels_115 : decode cX10_feels 115 = .ok (.iload_n 2, 1) := by decide +kernel
theorem dX10_feels_116 : decode cX10_feels 116 = .ok (.iastore, 1) := by decide +kernel
theorem dX10_feels_117 : decode cX10_feels 117 = .ok (.return_, 1) := by decide +kernel
theorem dX10_sells_0 : decode cX10_sells 0 = .ok (.aload_n 0, 1) := by decide +kernel
theorem dX10_sells_1 : decode cX10_sells 1 = .ok (.getfield 7, 3) := by decide +kernel
theorem dX10_sells_4 : decode cX10_sells 4 = .ok (.bipush 33, 2) := by decide +kernel
theorem dX10_sells_6 : decode cX10_sells 6 = .ok (.sipush 25173, 3) := by decide +kernel
theorem dX10_sells_9 : decode cX10_sells 9 = .ok (.aload_n 0, 1) := by decide +kernel
theorem dX10_sells_10 : decode cX10_sells 10 = .ok (.getfield 7, 3) := by decide +kernel
theorem dX10_sells_13 : decode cX10_sells 13 = .ok (.bipush 33, 2) := by decide +kernel
theorem dX10_sells_15 : decode cX10_sells 15 = .ok (.iaload, 1) := by decide +kernel
theorem dX10_sells_16 : decode cX10_sells 16 = .ok (.imul, 1) := by decide +kernel
theorem dX10_sells_17 : decode cX10_sells 17 = .ok (.sipush 13849, 3) := by decide +kernel
theorem dX10_sells_20 : decode cX10_sells 20 = .ok (.iadd, 1) := by decide +kernel
theorem dX10_sells_21 : decode cX10_sells 21 = .ok (.ldc_w 440, 3) := by decide +kernel
theorem dX10_sells_24 : decode cX10_sells 24 = .ok (.irem, 1) := by decide +kernel
theorem dX10_sells_25 : decode cX10_sells 25 = .ok (.iastore, 1) := by decide +kernel
theorem dX10_sells_26 : decode cX10_sells 26 = .ok (.aload_n 0, 1) := by decide +kernel
theorem dX10_sells_27 : decode cX10_sells 27 = .ok (.getfield 7, 3) := by decide +kernel
theorem dX10_sells_30 : decode cX10_sells 30 = .ok (.bipush 33, 2) := by decide +kernel
theorem dX10_sells_32 : decode cX10_sells 32 = .ok (.iaload, 1) := by decide +kernel
theorem dX10_sells_33 : decode cX10_sells 33 = .ok (.bipush 10, 2) := by decide +kernel
theorem dX10_sells_35 : decode cX10_sells 35 = .ok (.irem, 1) := by decide +kernel
theorem dX10_sells_36 : decode cX10_sells 36 = .ok (.istore_n 2, 1) := by decide +kernel
theorem dX10_sells_37 : decode cX10_sells 37 = .ok (.aload_n 0, 1) := by decide +kernel
theorem dX10_sells_38 : decode cX10_sells 38 = .ok (.iload_n 1, 1) := by decide +kernel
theorem dX10_sells_39 : decode cX10_sells 39 = .ok (.invokevirtual 434, 3) := by decide +kernel
theorem dX10_sells_42 : decode cX10_sells 42 = .ok (.istore_n 3, 1) := by decide +kernel
theorem dX10_sells_43 : decode cX10_sells 43 = .ok (.aload_n 0, 1) := by decide +kernel
theorem dX10_sells_44 : decode cX10_sells 44 = .ok (.iload_n 1, 1) := by decide +kernel
theorem dX10_sells_45 : decode cX10_sells 45 = .ok (.iload_n 2, 1) := by decide +kernel
theorem dX10_sells_46 : decode cX10_sells 46 = .ok (.invokevirtual 441, 3) := by decide +kernel
theorem dX10_sells_49 : decode cX10_sells 49 = .ok (.aload_n 0, 1) := by decide +kernel
theorem dX10_sells_50 : decode cX10_sells 50 = .ok (.bipush 120, 2) := by decide +kernel
theorem dX10_sells_52 : decode cX10_sells 52 = .ok (.invokevirtual 444, 3) := by decide +kernel
theorem dX10_sells_55 : decode cX10_sells 55 = .ok (.ifCond .eq 4, 3) := by decide +kernel
theorem dX10_sells_58 : decode cX10_sells 58 = .ok (.return_, 1) := by decide +kernel
theorem dX10_sells_59 : decode cX10_sells 59 = .ok (.aload_n 0, 1) := by decide +kernel
theorem dX10_sells_60 : decode cX10_sells 60 = .ok (.bipush 118, 2) := by decide +kernel
theorem dX10_sells_62 : decode cX10_sells 62 = .ok (.sipush 999, 3) := by decide +kernel
theorem dX10_sells_65 : decode cX10_sells 65 = .ok (.iconst 5, 1) := by decide +kernel
theorem dX10_sells_66 : decode cX10_sells 66 = .ok (.invokevirtual 447, 3) := by decide +kernel
theorem dX10_sells_69 : decode cX10_sells 69 = .ok (.iload_n 3, 1) := by decide +kernel
theorem dX10_sells_70 : decode cX10_sells 70 = .ok (.invokestatic 318, 3) := by decide +kernel
theorem dX10_sells_73 : decode cX10_sells 73 = .ok (.istore 4, 2) := by decide +kernel
theorem dX10_sells_75 : decode cX10_sells 75 = .ok (.aload_n 0, 1) := by decide +kernel
theorem dX10_sells_76 : decode cX10_sells 76 = .ok (.bipush 121, 2) := by decide +kernel
theorem dX10_sells_78 : decode cX10_sells 78 = .ok (.bipush 99, 2) := by decide +kernel
theorem dX10_sells_80 : decode cX10_sells 80 = .ok (.iconst 1, 1) := by decide +kernel
theorem dX10_sells_81 : decode cX10_sells 81 = .ok (.invokevirtual 447, 3) := by decide +kernel
theorem dX10_sells_84 : decode cX10_sells 84 = .ok (.istore 5, 2) := by decide +kernel
theorem dX10_sells_86 : decode cX10_sells 86 = .ok (.aload_n 0, 1) := by decide +kernel
theorem dX10_sells_87 : decode cX10_sells 87 = .ok (.getfield 7, 3) := by decide +kernel
theorem dX10_sells_90 : decode cX10_sells 90 = .ok (.iconst 0, 1) := by decide +kernel
theorem dX10_sells_91 : decode cX10_sells 91 = .ok (.iload_n 1, 1) := by decide +kernel
theorem dX10_sells_92 : decode cX10_sells 92 = .ok (.iadd, 1) := by decide +kernel
theorem dX10_sells_93 : decode cX10_sells 93 = .ok (.aload_n 0, 1) := by decide +kernel
theorem dX10_sells_94 : decode cX10_sells 94 = .ok (.getfield 7, 3) := by decide +kernel
theorem dX10_sells_97 : decode cX10_sells 97 = .ok (.iconst 0, 1) := by decide +kernel
theorem dX10_sells_98 : decode cX10_sells 98 = .ok (.iload_n 1, 1) := by decide +kernel
theorem dX10_sells_99 : decode cX10_sells 99 = .ok (.iadd, 1) := by decide +kernel
theorem dX10_sells_100 : decode cX10_sells 100 = .ok (.iaload, 1) := by decide +kernel
theorem dX10_sells_101 : decode cX10_sells 101 = .ok (.iload 4, 2) := by decide +kernel
theorem dX10_sells_103 : decode cX10_sells 103 = .ok (.isub, 1) := by decide +kernel
theorem dX10_sells_104 : decode cX10_sells 104 = .ok (.iastore, 1) := by decide +kernel
theorem dX10_sells_105 : decode cX10_sells 105 = .ok (.aload_n 0, 1) := by decide +kernel
theorem dX10_sells_106 : decode cX10_sells 106 = .ok (.getfield 7, 3) := by decide +kernel
theorem dX10_sells_109 : decode cX10_sells 109 = .ok (.bipush 16, 2) := by decide +kernel
theorem dX10_sells_111 : decode cX10_sells 111 = .ok (.iload_n 1, 1) := by decide +kernel
theorem dX10_sells_112 : decode cX10_sells 112 = .ok (.iadd, 1) := by decide +kernel
theorem dX10_sells_113 : decode cX10_sells 113 = .ok (.ldc_w 450, 3) := by decide +kernel
theorem dX10_sells_116 : decode cX10_sells 116 = .ok (.aload_n 0, 1) := by decide +kernel
theorem dX10_sells_117 : decode cX10_sells 117 = .ok (.getfield 7, 3) := by decide +kernel
theorem dX10_sells_120 : decode cX10_sells 120 = .ok (.bipush 16, 2) := by decide +kernel
theorem dX10_sells_122 : decode cX10_sells 122 = .ok (.iload_n 1, 1) := by decide +kernel
theorem dX10_sells_123 : decode cX10_sells 123 = .ok (.iadd, 1) := by decide +kernel
theorem dX10_sells_124 : decode cX10_sells 124 = .ok (.iaload, 1) := by decide +kernel
theorem dX10_sells_125 : decode cX10_sells 125 = .ok (.iload 4, 2) := by decide +kernel
theorem dX10_sells_127 : decode cX10_sells 127 = .ok (.iload 5, 2) := by decide +kernel
theorem dX10_sells_129 : decode cX10_sells 129 = .ok (.imul, 1) := by decide +kernel
theorem dX10_sells_130 : decode cX10_sells 130 = .ok (.iadd, 1) := by decide +kernel
theorem dX10_sells_131 : decode cX10_sells 131 = .ok (.invokestatic 318, 3) := by decide +kernel
theorem dX10_sells_134 : decode cX10_sells 134 = .ok (.iastore, 1) := by decide +kernel
theorem dX10_sells_135 : decode cX10_sells 135 = .ok (.aload_n 0, 1) := by decide +kernel
theorem dX10_sells_136 : decode cX10_sells 136 = .ok (.aload_n 0, 1) := by decide +kernel
theorem dX10_sells_137 : decode cX10_sells 137 = .ok (.getfield 451, 3) := by decide +kernel
theorem dX10_sells_140 : decode cX10_sells 140 = .ok (.iload 4, 2) := by decide +kernel
theorem dX10_sells_142 : decode cX10_sells 142 = .ok (.iadd, 1) := by decide +kernel
theorem dX10_sells_143 : decode cX10_sells 143 = .ok (.putfield 451, 3) := by decide +kernel
theorem dX10_sells_146 : decode cX10_sells 146 = .ok (.iload_n 3, 1) := by decide +kernel
theorem dX10_sells_147 : decode cX10_sells 147 = .ok (.ifCond .eq 9, 3) := by decide +kernel
theorem dX10_sells_150 : decode cX10_sells 150 = .ok (.iload 4, 2) := by decide +kernel
theorem dX10_sells_152 : decode cX10_sells 152 = .ok (.iload_n 3, 1) := by decide +kernel
theorem dX10_sells_153 : decode cX10_sells 153 = .ok (.if_icmp .ge 4, 3) := by decide +kernel
theorem dX10_sells_156 : decode cX10_sells 156 = .ok (.return_, 1) := by decide +kernel
theorem dX10_sells_157 : decode cX10_sells 157 = .ok (.aload_n 0, 1) := by decide +kernel
theorem dX10_sells_158 : decode cX10_sells 158 = .ok (.getfield 7, 3) := by decide +kernel
theorem dX10_sells_161 : decode cX10_sells 161 = .ok (.bipush 24, 2) := by decide +kernel
theorem dX10_sells_163 : decode cX10_sells 163 = .ok (.iload_n 1, 1) := by decide +kernel
theorem dX10_sells_164 : decode cX10_sells 164 = .ok (.iadd, 1) := by decide +kernel
theorem dX10_sells_165 : decode cX10_sells 165 = .ok (.sipush 9999, 3) := by decide +kernel
theorem dX10_sells_168 : decode cX10_sells 168 = .ok (.aload_n 0, 1) := by decide +kernel
theorem dX10_sells_169 : decode cX10_sells 169 = .ok (.getfield 7, 3) := by decide +kernel
theorem dX10_sells_172 : decode cX10_sells 172 = .ok (.bipush 24, 2) := by decide +kernel
theorem dX10_sells_174 : decode cX10_sells 174 = .ok (.iload_n 1, 1) := by decide +kernel
theorem dX10_sells_175 : decode cX10_sells 175 = .ok (.iadd, 1) := by decide +kernel
theorem dX10_sells_176 : decode cX10_sells 176 = .ok (.iaload, 1) := by decide +kernel
theorem dX10_sells_177 : decode cX10_sells 177 = .ok (.iconst 1, 1) := by decide +kernel
theorem dX10_sells_178 : decode cX10_sells 178 = .ok (.iadd, 1) := by decide +kernel
theorem dX10_sells_179 : decode cX10_sells 179 = .ok (.invokestatic 318, 3) := by decide +kernel
theorem dX10_sells_182 : decode cX10_sells 182 = .ok (.iastore, 1) := by decide +kernel
theorem dX10_sells_183 : decode cX10_sells 183 = .ok (.aload_n 0, 1) := by decide +kernel
theorem dX10_sells_184 : decode cX10_sells 184 = .ok (.aload_n 0, 1) := by decide +kernel
theorem dX10_sells_185 : decode cX10_sells 185 = .ok (.getfield 454, 3) := by decide +kernel
theorem dX10_sells_188 : decode cX10_sells 188 = .ok (.iconst 1, 1) := by decide +kernel
theorem dX10_sells_189 : decode cX10_sells 189 = .ok (.iadd, 1) := by decide +kernel
theorem dX10_sells_190 : decode cX10_sells 190 = .ok (.putfield 454, 3) := by decide +kernel
theorem dX10_sells_193 : decode cX10_sells 193 = .ok (.aload_n 0, 1) := by decide +kernel
theorem dX10_sells_194 : decode cX10_sells 194 = .ok (.iload_n 1, 1) := by decide +kernel
theorem dX10_sells_195 : decode cX10_sells 195 = .ok (.iload_n 2, 1) := by decide +kernel
theorem dX10_sells_196 : decode cX10_sells 196 = .ok (.invokevirtual 441, 3) := by decide +kernel
theorem dX10_sells_199 : decode cX10_sells 199 = .ok (.aload_n 0, 1) := by decide +kernel
theorem dX10_sells_200 : decode cX10_sells 200 = .ok (.getfield 7, 3) := by decide +kernel
theorem dX10_sells_203 : decode cX10_sells 203 = .ok (.iconst 0, 1) := by decide +kernel
theorem dX10_sells_204 : decode cX10_sells 204 = .ok (.iload_n 1, 1) := by decide +kernel
theorem dX10_sells_205 : decode cX10_sells 205 = .ok (.iadd, 1) := by decide +kernel
theorem dX10_sells_206 : decode cX10_sells 206 = .ok (.sipush 9999, 3) := by decide +kernel
theorem dX10_sells_209 : decode cX10_sells 209 = .ok (.aload_n 0, 1) := by decide +kernel
theorem dX10_sells_210 : decode cX10_sells 210 = .ok (.getfield 7, 3) := by decide +kernel
theorem dX10_sells_213 : decode cX10_sells 213 = .ok (.iconst 0, 1) := by decide +kernel
theorem dX10_sells_214 : decode cX10_sells 214 = .ok (.iload_n 1, 1) := by decide +kernel
theorem dX10_sells_215 : decode cX10_sells 215 = .ok (.iadd, 1) := by decide +kernel
theorem dX10_sells_216 : decode cX10_sells 216 = .ok (.iaload, 1) := by decide +kernel
theorem dX10_sells_217 : decode cX10_sells 217 = .ok (.aload_n 0, 1) := by decide +kernel
theorem dX10_sells_218 : decode cX10_sells 218 = .ok (.bipush 114, 2) := by decide +kernel
theorem dX10_sells_220 : decode cX10_sells 220 = .ok (.sipush 999, 3) := by decide +kernel
theorem dX10_sells_223 : decode cX10_sells 223 = .ok (.iconst 0, 1) := by decide +kernel
theorem dX10_sells_224 : decode cX10_sells 224 = .ok (.invokevirtual 447, 3) := by decide +kernel
theorem dX10_sells_227 : decode cX10_sells 227 = .ok (.iadd, 1) := by decide +kernel
theorem dX10_sells_228 : decode cX10_sells 228 = .ok (.invokestatic 318, 3) := by decide +kernel
theorem dX10_sells_231 : decode cX10_sells 231 = .ok (.iastore, 1) := by decide +kernel
theorem dX10_sells_232 : decode cX10_sells 232 = .ok (.return_, 1) := by decide +kernel
theorem dX10_dayGoes_0 : decode cX10_dayGoes 0 = .ok (.iconst 0, 1) := by decide +kernel
theorem dX10_dayGoes_1 : decode cX10_dayGoes 1 = .ok (.istore_n 1, 1) := by decide +kernel
theorem dX10_dayGoes_2 : decode cX10_dayGoes 2 = .ok (.iload_n 1, 1) := by decide +kernel
theorem dX10_dayGoes_3 : decode cX10_dayGoes 3 = .ok (.bipush 8, 2) := by decide +kernel
theorem dX10_dayGoes_5 : decode cX10_dayGoes 5 = .ok (.if_icmp .ge 22, 3) := by decide +kernel
theorem dX10_dayGoes_8 : decode cX10_dayGoes 8 = .ok (.aload_n 0, 1) := by decide +kernel
theorem dX10_dayGoes_9 : decode cX10_dayGoes 9 = .ok (.iload_n 1, 1) := by decide +kernel
theorem dX10_dayGoes_10 : decode cX10_dayGoes 10 = .ok (.invokevirtual 431, 3) := by decide +kernel
theorem dX10_dayGoes_13 : decode cX10_dayGoes 13 = .ok (.ifCond .eq 8, 3) := by decide +kernel
theorem dX10_dayGoes_16 : decode cX10_dayGoes 16 = .ok (.aload_n 0, 1) := by decide +kernel
theorem dX10_dayGoes_17 : decode cX10_dayGoes 17 = .ok (.iload_n 1, 1) := by decide +kernel
theorem dX10_dayGoes_18 : decode cX10_dayGoes 18 = .ok (.invokevirtual 457, 3) := by decide +kernel
theorem dX10_dayGoes_21 : decode cX10_dayGoes 21 = .ok (.iinc 1 1, 3) := by decide +kernel
theorem dX10_dayGoes_24 : decode cX10_dayGoes 24 = .ok (.goto (-22), 3) := by decide +kernel
theorem dX10_dayGoes_27 : decode cX10_dayGoes 27 = .ok (.aload_n 0, 1) := by decide +kernel
theorem dX10_dayGoes_28 : decode cX10_dayGoes 28 = .ok (.getfield 7, 3) := by decide +kernel
theorem dX10_dayGoes_31 : decode cX10_dayGoes 31 = .ok (.bipush 32, 2) := by decide +kernel
theorem dX10_dayGoes_33 : decode cX10_dayGoes 33 = .ok (.aload_n 0, 1) := by decide +kernel
theorem dX10_dayGoes_34 : decode cX10_dayGoes 34 = .ok (.getfield 7, 3) := by decide +kernel
theorem dX10_dayGoes_37 : decode cX10_dayGoes 37 = .ok (.bipush 32, 2) := by decide +kernel
theorem dX10_dayGoes_39 : decode cX10_dayGoes 39 = .ok (.iaload, 1) := by decide +kernel
theorem dX10_dayGoes_40 : decode cX10_dayGoes 40 = .ok (.iconst 1, 1) := by decide +kernel
theorem dX10_dayGoes_41 : decode cX10_dayGoes 41 = .ok (.iadd, 1) := by decide +kernel
theorem dX10_dayGoes_42 : decode cX10_dayGoes 42 = .ok (.iastore, 1) := by decide +kernel
theorem dX10_dayGoes_43 : decode cX10_dayGoes 43 = .ok (.return_, 1) := by decide +kernel
theorem dX10_daysGo_0 : decode cX10_daysGo 0 = .ok (.aload_n 0, 1) := by decide +kernel
theorem dX10_daysGo_1 : decode cX10_daysGo 1 = .ok (.iconst 0, 1) := by decide +kernel
theorem dX10_daysGo_2 : decode cX10_daysGo 2 = .ok (.putfield 451, 3) := by decide +kernel
theorem dX10_daysGo_5 : decode cX10_daysGo 5 = .ok (.aload_n 0, 1) := by decide +kernel
theorem dX10_daysGo_6 : decode cX10_daysGo 6 = .ok (.iconst 0, 1) := by decide +kernel
theorem dX10_daysGo_7 : decode cX10_daysGo 7 = .ok (.putfield 454, 3) := by decide +kernel
theorem dX10_daysGo_10 : decode cX10_daysGo 10 = .ok (.iconst 0, 1) := by decide +kernel
theorem dX10_daysGo_11 : decode cX10_daysGo 11 = .ok (.istore_n 2, 1) := by decide +kernel
theorem dX10_daysGo_12 : decode cX10_daysGo 12 = .ok (.iload_n 2, 1) := by decide +kernel
theorem dX10_daysGo_13 : decode cX10_daysGo 13 = .ok (.iload_n 1, 1) := by decide +kernel
theorem dX10_daysGo_14 : decode cX10_daysGo 14 = .ok (.if_icmp .ge 26, 3) := by decide +kernel
theorem dX10_daysGo_17 : decode cX10_daysGo 17 = .ok (.aload_n 0, 1) := by decide +kernel
theorem dX10_daysGo_18 : decode cX10_daysGo 18 = .ok (.getfield 7, 3) := by decide +kernel
theorem dX10_daysGo_21 : decode cX10_daysGo 21 = .ok (.bipush 32, 2) := by decide +kernel
theorem dX10_daysGo_23 : decode cX10_daysGo 23 = .ok (.iaload, 1) := by decide +kernel
theorem dX10_daysGo_24 : decode cX10_daysGo 24 = .ok (.sipush 9999, 3) := by decide +kernel
theorem dX10_daysGo_27 : decode cX10_daysGo 27 = .ok (.if_icmp .ge 13, 3) := by decide +kernel
theorem dX10_daysGo_30 : decode cX10_daysGo 30 = .ok (.aload_n 0, 1) := by decide +kernel
theorem dX10_daysGo_31 : decode cX10_daysGo 31 = .ok (.invokevirtual 460, 3) := by decide +kernel
theorem dX10_daysGo_34 : decode cX10_daysGo 34 = .ok (.iinc 2 1, 3) := by decide +kernel
theorem dX10_daysGo_37 : decode cX10_daysGo 37 = .ok (.goto (-25), 3) := by decide +kernel
theorem dX10_daysGo_40 : decode cX10_daysGo 40 = .ok (.return_, 1) := by decide +kernel
theorem dX10_days_0 : decode cX10_days 0 = .ok (.iload_n 1, 1) := by decide +kernel
theorem dX10_days_1 : decode cX10_days 1 = .ok (.iconst 1, 1) := by decide +kernel
theorem dX10_days_2 : decode cX10_days 2 = .ok (.bipush 100, 2) := by decide +kernel
theorem dX10_days_4 : decode cX10_days 4 = .ok (.invokestatic 161, 3) := by decide +kernel
theorem dX10_days_7 : decode cX10_days 7 = .ok (.ifCond .ne 5, 3) := by decide +kernel
theorem dX10_days_10 : decode cX10_days 10 = .ok (.iconst (-1), 1) := by decide +kernel
theorem dX10_days_11 : decode cX10_days 11 = .ok (.ireturn, 1) := by decide +kernel
theorem dX10_days_12 : decode cX10_days 12 = .ok (.aload_n 0, 1) := by decide +kernel
theorem dX10_days_13 : decode cX10_days 13 = .ok (.iload_n 1, 1) := by decide +kernel
theorem dX10_days_14 : decode cX10_days 14 = .ok (.invokevirtual 463, 3) := by decide +kernel
theorem dX10_days_17 : decode cX10_days 17 = .ok (.aload_n 0, 1) := by decide +kernel
theorem dX10_days_18 : decode cX10_days 18 = .ok (.getfield 451, 3) := by decide +kernel
theorem dX10_days_21 : decode cX10_days 21 = .ok (.ireturn, 1) := by decide +kernel
theorem dX10_moneyOfAll_0 : decode cX10_moneyOfAll 0 = .ok (.iconst 0, 1) := by decide +kernel
theorem dX10_moneyOfAll_1 : decode cX10_moneyOfAll 1 = .ok (.istore_n 1, 1) := by decide +kernel
theorem dX10_moneyOfAll_2 : decode cX10_moneyOfAll 2 = .ok (.iconst 0, 1) := by decide +kernel
theorem dX10_moneyOfAll_3 : decode cX10_moneyOfAll 3 = .ok (.istore_n 2, 1) := by decide +kernel
theorem dX10_moneyOfAll_4 : decode cX10_moneyOfAll 4 = .ok (.iload_n 2, 1) := by decide +kernel
theorem dX10_moneyOfAll_5 : decode cX10_moneyOfAll 5 = .ok (.bipush 8, 2) := by decide +kernel
theorem dX10_moneyOfAll_7 : decode cX10_moneyOfAll 7 = .ok (.if_icmp .ge 29, 3) := by decide +kernel
theorem dX10_moneyOfAll_10 : decode cX10_moneyOfAll 10 = .ok (.aload_n 0, 1) := by decide +kernel
theorem dX10_moneyOfAll_11 : decode cX10_moneyOfAll 11 = .ok (.iload_n 2, 1) := by decide +kernel
theorem dX10_moneyOfAll_12 : decode cX10_moneyOfAll 12 = .ok (.invokevirtual 431, 3) := by decide +kernel
theorem dX10_moneyOfAll_15 : decode cX10_moneyOfAll 15 = .ok (.ifCond .eq 15, 3) := by decide +kernel
theorem dX10_moneyOfAll_18 : decode cX10_moneyOfAll 18 = .ok (.iload_n 1, 1) := by decide +kernel
theorem dX10_moneyOfAll_19 : decode cX10_moneyOfAll 19 = .ok (.aload_n 0, 1) := by decide +kernel
theorem dX10_moneyOfAll_20 : decode cX10_moneyOfAll 20 = .ok (.getfield 7, 3) := by decide +kernel
theorem dX10_moneyOfAll_23 : decode cX10_moneyOfAll 23 = .ok (.bipush 16, 2) := by decide +kernel
theorem dX10_moneyOfAll_25 : decode cX10_moneyOfAll 25 = .ok (.iload_n 2, 1) := by decide +kernel
theorem dX10_moneyOfAll_26 : decode cX10_moneyOfAll 26 = .ok (.iadd, 1) := by decide +kernel
theorem dX10_moneyOfAll_27 : decode cX10_moneyOfAll 27 = .ok (.iaload, 1) := by decide +kernel
theorem dX10_moneyOfAll_28 : decode cX10_moneyOfAll 28 = .ok (.iadd, 1) := by decide +kernel
theorem dX10_moneyOfAll_29 : decode cX10_moneyOfAll 29 = .ok (.istore_n 1, 1) := by decide +kernel
theorem dX10_moneyOfAll_30 : decode cX10_moneyOfAll 30 = .ok (.iinc 2 1, 3) := by decide +kernel
theorem dX10_moneyOfAll_33 : decode cX10_moneyOfAll 33 = .ok (.goto (-29), 3) := by decide +kernel
theorem dX10_moneyOfAll_36 : decode cX10_moneyOfAll 36 = .ok (.iload_n 1, 1) := by decide +kernel
theorem dX10_moneyOfAll_37 : decode cX10_moneyOfAll 37 = .ok (.ireturn, 1) := by decide +kernel
theorem dX10_tried_0 : decode cX10_tried 0 = .ok (.iload_n 1, 1) := by decide +kernel
theorem dX10_tried_1 : decode cX10_tried 1 = .ok (.iconst 1, 1) := by decide +kernel
theorem dX10_tried_2 : decode cX10_tried 2 = .ok (.bipush 100, 2) := by decide +kernel
theorem dX10_tried_4 : decode cX10_tried 4 = .ok (.invokestatic 161, 3) := by decide +kernel
theorem dX10_tried_7 : decode cX10_tried 7 = .ok (.ifCond .eq 34, 3) := by decide +kernel
theorem dX10_tried_10 : decode cX10_tried 10 = .ok (.iload_n 2, 1) := by decide +kernel
theorem dX10_tried_11 : decode cX10_tried 11 = .ok (.iconst 0, 1) := by decide +kernel
theorem dX10_tried_12 : decode cX10_tried 12 = .ok (.iconst 2, 1) := by decide +kernel
theorem dX10_tried_13 : decode cX10_tried 13 = .ok (.invokestatic 161, 3) := by decide +kernel
theorem dX10_tried_16 : decode cX10_tried 16 = .ok (.ifCond .ne 27, 3) := by decide +kernel
theorem dX10_tried_19 : decode cX10_tried 19 = .ok (.aload_n 0, 1) := by decide +kernel
theorem dX10_tried_20 : decode cX10_tried 20 = .ok (.iload_n 2, 1) := by decide +kernel
theorem dX10_tried_21 : decode cX10_tried 21 = .ok (.bipush 10, 2) := by decide +kernel
theorem dX10_tried_23 : decode cX10_tried 23 = .ok (.isub, 1) := by decide +kernel
theorem dX10_tried_24 : decode cX10_tried 24 = .ok (.invokevirtual 431, 3) := by decide +kernel
theorem dX10_tried_27 : decode cX10_tried 27 = .ok (.ifCond .ne 16, 3) := by decide +kernel
theorem dX10_tried_30 : decode cX10_tried 30 = .ok (.aload_n 0, 1) := by decide +kernel
theorem dX10_tried_31 : decode cX10_tried 31 = .ok (.iload_n 2, 1) := by decide +kernel
theorem dX10_tried_32 : decode cX10_tried 32 = .ok (.bipush 20, 2) := by decide +kernel
theorem dX10_tried_34 : decode cX10_tried 34 = .ok (.isub, 1) := by decide +kernel
theorem dX10_tried_35 : decode cX10_tried 35 = .ok (.invokevirtual 431, 3) := by decide +kernel
theorem dX10_tried_38 : decode cX10_tried 38 = .ok (.ifCond .ne 5, 3) := by decide +kernel
theorem dX10_tried_41 : decode cX10_tried 41 = .ok (.iconst (-1), 1) := by decide +kernel
theorem dX10_tried_42 : decode cX10_tried 42 = .ok (.ireturn, 1) := by decide +kernel
theorem dX10_tried_43 : decode cX10_tried 43 = .ok (.aload_n 0, 1) := by decide +kernel
theorem dX10_tried_44 : decode cX10_tried 44 = .ok (.getfield 7, 3) := by decide +kernel
theorem dX10_tried_47 : decode cX10_tried 47 = .ok (.aload_n 0, 1) := by decide +kernel
theorem dX10_tried_48 : decode cX10_tried 48 = .ok (.getfield 13, 3) := by decide +kernel
theorem dX10_tried_51 : decode cX10_tried 51 = .ok (.invokestatic 466, 3) := by decide +kernel
theorem dX10_tried_54 : decode cX10_tried 54 = .ok (.aload_n 0, 1) := by decide +kernel
theorem dX10_tried_55 : decode cX10_tried 55 = .ok (.iload_n 1, 1) := by decide +kernel
theorem dX10_tried_56 : decode cX10_tried 56 = .ok (.invokevirtual 463, 3) := by decide +kernel
theorem dX10_tried_59 : decode cX10_tried 59 = .ok (.iload_n 2, 1) := by decide +kernel
theorem dX10_tried_60 : decode cX10_tried 60 = .ok (.tableswitch 52 0 2 #[28, 36, 44], 28) := by decide +kernel
theorem dX10_tried_88 : decode cX10_tried 88 = .ok (.aload_n 0, 1) := by decide +kernel
theorem dX10_tried_89 : decode cX10_tried 89 = .ok (.getfield 451, 3) := by decide +kernel
theorem dX10_tried_92 : decode cX10_tried 92 = .ok (.istore_n 3, 1) := by decide +kernel
theorem dX10_tried_93 : decode cX10_tried 93 = .ok (.goto 49, 3) := by decide +kernel
theorem dX10_tried_96 : decode cX10_tried 96 = .ok (.aload_n 0, 1) := by decide +kernel
theorem dX10_tried_97 : decode cX10_tried 97 = .ok (.invokevirtual 470, 3) := by decide +kernel
theorem dX10_tried_100 : decode cX10_tried 100 = .ok (.istore_n 3, 1) := by decide +kernel
theorem dX10_tried_101 : decode cX10_tried 101 = .ok (.goto 41, 3) := by decide +kernel
theorem dX10_tried_104 : decode cX10_tried 104 = .ok (.aload_n 0, 1) := by decide +kernel
theorem dX10_tried_105 : decode cX10_tried 105 = .ok (.getfield 454, 3) := by decide +kernel
theorem dX10_tried_108 : decode cX10_tried 108 = .ok (.istore_n 3, 1) := by decide +kernel
theorem dX10_tried_109 : decode cX10_tried 109 = .ok (.goto 33, 3) := by decide +kernel
theorem dX10_tried_112 : decode cX10_tried 112 = .ok (.iload_n 2, 1) := by decide +kernel
theorem dX10_tried_113 : decode cX10_tried 113 = .ok (.bipush 20, 2) := by decide +kernel
theorem dX10_tried_115 : decode cX10_tried 115 = .ok (.if_icmp .ge 14, 3) := by decide +kernel
theorem dX10_tried_118 : decode cX10_tried 118 = .ok (.aload_n 0, 1) := by decide +kernel
theorem dX10_tried_119 : decode cX10_tried 119 = .ok (.iload_n 2, 1) := by decide +kernel
theorem dX10_tried_120 : decode cX10_tried 120 = .ok (.bipush 10, 2) := by decide +kernel
theorem dX10_tried_122 : decode cX10_tried 122 = .ok (.isub, 1) := by decide +kernel
theorem dX10_tried_123 : decode cX10_tried 123 = .ok (.invokevirtual 434, 3) := by decide +kernel
theorem dX10_tried_126 : decode cX10_tried 126 = .ok (.goto 15, 3) := by decide +kernel
theorem dX10_tried_129 : decode cX10_tried 129 = .ok (.aload_n 0, 1) := by decide +kernel
theorem dX10_tried_130 : decode cX10_tried 130 = .ok (.getfield 7, 3) := by decide +kernel
theorem dX10_tried_133 : decode cX10_tried 133 = .ok (.bipush 16, 2) := by decide +kernel
theorem dX10_tried_135 : decode cX10_tried 135 = .ok (.iload_n 2, 1) := by decide +kernel
theorem dX10_tried_136 : decode cX10_tried 136 = .ok (.iadd, 1) := by decide +kernel
theorem dX10_tried_137 : decode cX10_tried 137 = .ok (.bipush 20, 2) := by decide +kernel
theorem dX10_tried_139 : decode cX10_tried 139 = .ok (.isub, 1) := by decide +kernel
theorem dX10_tried_140 : decode cX10_tried 140 = .ok (.iaload, 1) := by decide +kernel
theorem dX10_tried_141 : decode cX10_tried 141 = .ok (.istore_n 3, 1) := by decide +kernel
theorem dX10_tried_142 : decode cX10_tried 142 = .ok (.aload_n 0, 1) := by decide +kernel
theorem dX10_tried_143 : decode cX10_tried 143 = .ok (.getfield 13, 3) := by decide +kernel
theorem dX10_tried_146 : decode cX10_tried 146 = .ok (.aload_n 0, 1) := by decide +kernel
theorem dX10_tried_147 : decode cX10_tried 147 = .ok (.getfield 7, 3) := by decide +kernel
theorem dX10_tried_150 : decode cX10_tried 150 = .ok (.invokestatic 466, 3) := by decide +kernel
theorem dX10_tried_153 : decode cX10_tried 153 = .ok (.iload_n 3, 1) := by decide +kernel
theorem dX10_tried_154 : decode cX10_tried 154 = .ok (.ireturn, 1) := by decide +kernel
theorem dX10_stallIs_0 : decode cX10_stallIs 0 = .ok (.aload_n 0, 1) := by decide +kernel
theorem dX10_stallIs_1 : decode cX10_stallIs 1 = .ok (.iload_n 1, 1) := by decide +kernel
theorem dX10_stallIs_2 : decode cX10_stallIs 2 = .ok (.invokevirtual 431, 3) := by decide +kernel
theorem dX10_stallIs_5 : decode cX10_stallIs 5 = .ok (.ifCond .eq 26, 3) := by decide +kernel
theorem dX10_stallIs_8 : decode cX10_stallIs 8 = .ok (.iload_n 2, 1) := by decide +kernel
theorem dX10_stallIs_9 : decode cX10_stallIs 9 = .ok (.iconst 0, 1) := by decide +kernel
theorem dX10_stallIs_10 : decode cX10_stallIs 10 = .ok (.iconst 3, 1) := by decide +kernel
theorem dX10_stallIs_11 : decode cX10_stallIs 11 = .ok (.invokestatic 161, 3) := by decide +kernel
theorem dX10_stallIs_14 : decode cX10_stallIs 14 = .ok (.ifCond .eq 17, 3) := by decide +kernel
theorem dX10_stallIs_17 : decode cX10_stallIs 17 = .ok (.aload_n 0, 1) := by decide +kernel
theorem dX10_stallIs_18 : decode cX10_stallIs 18 = .ok (.getfield 7, 3) := by decide +kernel
theorem dX10_stallIs_21 : decode cX10_stallIs 21 = .ok (.bipush 8, 2) := by decide +kernel
theorem dX10_stallIs_23 : decode cX10_stallIs 23 = .ok (.iload_n 2, 1) := by decide +kernel
theorem dX10_stallIs_24 : decode cX10_stallIs 24 = .ok (.imul, 1) := by decide +kernel
theorem dX10_stallIs_25 : decode cX10_stallIs 25 = .ok (.iload_n 1, 1) := by decide +kernel
theorem dX10_stallIs_26 : decode cX10_stallIs 26 = .ok (.iadd, 1) := by decide +kernel
theorem dX10_stallIs_27 : decode cX10_stallIs 27 = .ok (.iaload, 1) := by decide +kernel
theorem dX10_stallIs_28 : decode cX10_stallIs 28 = .ok (.goto 4, 3) := by decide +kernel
theorem dX10_stallIs_31 : decode cX10_stallIs 31 = .ok (.iconst (-1), 1) := by decide +kernel
theorem dX10_stallIs_32 : decode cX10_stallIs 32 = .ok (.ireturn, 1) := by decide +kernel
theorem dX10_soonest_0 : decode cX10_soonest 0 = .ok (.aload_n 0, 1) := by decide +kernel
theorem dX10_soonest_1 : decode cX10_soonest 1 = .ok (.iload_n 1, 1) := by decide +kernel
theorem dX10_soonest_2 : decode cX10_soonest 2 = .ok (.invokevirtual 431, 3) := by decide +kernel
theorem dX10_soonest_5 : decode cX10_soonest 5 = .ok (.ifCond .eq 13, 3) := by decide +kernel
theorem dX10_soonest_8 : decode cX10_soonest 8 = .ok (.iload_n 2, 1) := by decide +kernel
theorem dX10_soonest_9 : decode cX10_soonest 9 = .ok (.iconst 1, 1) := by decide +kernel
theorem dX10_soonest_10 : decode cX10_soonest 10 = .ok (.bipush 100, 2) := by decide +kernel
theorem dX10_soonest_12 : decode cX10_soonest 12 = .ok (.invokestatic 161, 3) := by decide +kernel
theorem dX10_soonest_15 : decode cX10_soonest 15 = .ok (.ifCond .ne 5, 3) := by decide +kernel
theorem dX10_soonest_18 : decode cX10_soonest 18 = .ok (.iconst (-1), 1) := by decide +kernel
theorem dX10_soonest_19 : decode cX10_soonest 19 = .ok (.ireturn, 1) := by decide +kernel
theorem dX10_soonest_20 : decode cX10_soonest 20 = .ok (.aload_n 0, 1) := by decide +kernel
theorem dX10_soonest_21 : decode cX10_soonest 21 = .ok (.getfield 7, 3) := by decide +kernel
theorem dX10_soonest_24 : decode cX10_soonest 24 = .ok (.aload_n 0, 1) := by decide +kernel
theorem dX10_soonest_25 : decode cX10_soonest 25 = .ok (.getfield 13, 3) := by decide +kernel
theorem dX10_soonest_28 : decode cX10_soonest 28 = .ok (.invokestatic 466, 3) := by decide +kernel
theorem dX10_soonest_31 : decode cX10_soonest 31 = .ok (.aload_n 0, 1) := by decide +kernel
theorem dX10_soonest_32 : decode cX10_soonest 32 = .ok (.getfield 7, 3) := by decide +kernel
theorem dX10_soonest_35 : decode cX10_soonest 35 = .ok (.bipush 24, 2) := by decide +kernel
theorem dX10_soonest_37 : decode cX10_soonest 37 = .ok (.iload_n 1, 1) := by decide +kernel
theorem dX10_soonest_38 : decode cX10_soonest 38 = .ok (.iadd, 1) := by decide +kernel
theorem dX10_soonest_39 : decode cX10_soonest 39 = .ok (.iaload, 1) := by decide +kernel
theorem dX10_soonest_40 : decode cX10_soonest 40 = .ok (.istore_n 3, 1) := by decide +kernel
theorem dX10_soonest_41 : decode cX10_soonest 41 = .ok (.iconst 0, 1) := by decide +kernel
theorem dX10_soonest_42 : decode cX10_soonest 42 = .ok (.istore 4, 2) := by decide +kernel
theorem dX10_soonest_44 : decode cX10_soonest 44 = .ok (.aload_n 0, 1) := by decide +kernel
theorem dX10_soonest_45 : decode cX10_soonest 45 = .ok (.getfield 7, 3) := by decide +kernel
theorem dX10_soonest_48 : decode cX10_soonest 48 = .ok (.bipush 24, 2) := by decide +kernel
theorem dX10_soonest_50 : decode cX10_soonest 50 = .ok (.iload_n 1, 1) := by decide +kernel
theorem dX10_soonest_51 : decode cX10_soonest 51 = .ok (.iadd, 1) := by decide +kernel
theorem dX10_soonest_52 : decode cX10_soonest 52 = .ok (.iaload, 1) := by decide +kernel
theorem dX10_soonest_53 : decode cX10_soonest 53 = .ok (.iload_n 3, 1) := by decide +kernel
theorem dX10_soonest_54 : decode cX10_soonest 54 = .ok (.if_icmp .ne 35, 3) := by decide +kernel
theorem dX10_soonest_57 : decode cX10_soonest 57 = .ok (.iload 4, 2) := by decide +kernel
theorem dX10_soonest_59 : decode cX10_soonest 59 = .ok (.iload_n 2, 1) := by decide +kernel
theorem dX10_soonest_60 : decode cX10_soonest 60 = .ok (.if_icmp .ge 29, 3) := by decide +kernel
theorem dX10_soonest_63 : decode cX10_soonest 63 = .ok (.aload_n 0, 1) := by decide +kernel
theorem dX10_soonest_64 : decode cX10_soonest 64 = .ok (.getfield 7, 3) := by decide +kernel
theorem dX10_soonest_67 : decode cX10_soonest 67 = .ok (.bipush 32, 2) := by decide +kernel
theorem dX10_soonest_69 : decode cX10_soonest 69 = .ok (.iaload, 1) := by decide +kernel
theorem dX10_soonest_70 : decode cX10_soonest 70 = .ok (.sipush 9999, 3) := by decide +kernel
theorem dX10_soonest_73 : decode cX10_soonest 73 = .ok (.if_icmp .ge 16, 3) := by decide +kernel
theorem dX10_soonest_76 : decode cX10_soonest 76 = .ok (.aload_n 0, 1) := by decide +kernel
theorem dX10_soonest_77 : decode cX10_soonest 77 = .ok (.invokevirtual 460, 3) := by decide +kernel
theorem dX10_soonest_80 : decode cX10_soonest 80 = .ok (.iload 4, 2) := by decide +kernel
theorem dX10_soonest_82 : decode cX10_soonest 82 = .ok (.iconst 1, 1) := by decide +kernel
theorem dX10_soonest_83 : decode cX10_soonest 83 = .ok (.iadd, 1) := by decide +kernel
theorem dX10_soonest_84 : decode cX10_soonest 84 = .ok (.istore 4, 2) := by decide +kernel
theorem dX10_soonest_86 : decode cX10_soonest 86 = .ok (.goto (-42), 3) := by decide +kernel
theorem dX10_soonest_89 : decode cX10_soonest 89 = .ok (.aload_n 0, 1) := by decide +kernel
theorem dX10_soonest_90 : decode cX10_soonest 90 = .ok (.getfield 7, 3) := by decide +kernel
theorem dX10_soonest_93 : decode cX10_soonest 93 = .ok (.bipush 24, 2) := by decide +kernel
theorem dX10_soonest_95 : decode cX10_soonest 95 = .ok (.iload_n 1, 1) := by decide +kernel
theorem dX10_soonest_96 : decode cX10_soonest 96 = .ok (.iadd, 1) := by decide +kernel
theorem dX10_soonest_97 : decode cX10_soonest 97 = .ok (.iaload, 1) := by decide +kernel
theorem dX10_soonest_98 : decode cX10_soonest 98 = .ok (.iload_n 3, 1) := by decide +kernel
theorem dX10_soonest_99 : decode cX10_soonest 99 = .ok (.if_icmp .le 7, 3) := by decide +kernel
theorem dX10_soonest_102 : decode cX10_soonest 102 = .ok (.iconst 1, 1) := by decide +kernel
theorem dX10_soonest_103 : decode cX10_soonest 103 = .ok (.goto 4, 3) := by decide +kernel
theorem dX10_soonest_106 : decode cX10_soonest 106 = .ok (.iconst 0, 1) := by decide +kernel
theorem dX10_soonest_107 : decode cX10_soonest 107 = .ok (.istore 5, 2) := by decide +kernel
theorem dX10_soonest_109 : decode cX10_soonest 109 = .ok (.aload_n 0, 1) := by decide +kernel
theorem dX10_soonest_110 : decode cX10_soonest 110 = .ok (.getfield 13, 3) := by decide +kernel
theorem dX10_soonest_113 : decode cX10_soonest 113 = .ok (.aload_n 0, 1) := by decide +kernel
theorem dX10_soonest_114 : decode cX10_soonest 114 = .ok (.getfield 7, 3) := by decide +kernel
theorem dX10_soonest_117 : decode cX10_soonest 117 = .ok (.invokestatic 466, 3) := by decide +kernel
theorem dX10_soonest_120 : decode cX10_soonest 120 = .ok (.iload 5, 2) := by decide +kernel
theorem dX10_soonest_122 : decode cX10_soonest 122 = .ok (.ifCond .eq 8, 3) := by decide +kernel
theorem dX10_soonest_125 : decode cX10_soonest 125 = .ok (.iload 4, 2) := by decide +kernel
theorem dX10_soonest_127 : decode cX10_soonest 127 = .ok (.goto 5, 3) := by decide +kernel
theorem dX10_soonest_130 : decode cX10_soonest 130 = .ok (.bipush (-2), 2) := by decide +kernel
theorem dX10_soonest_132 : decode cX10_soonest 132 = .ok (.ireturn, 1) := by decide +kernel
theorem dX10_richest_0 : decode cX10_richest 0 = .ok (.bipush (-2), 2) := by decide +kernel
theorem dX10_richest_2 : decode cX10_richest 2 = .ok (.istore_n 1, 1) := by decide +kernel
theorem dX10_richest_3 : decode cX10_richest 3 = .ok (.iconst 0, 1) := by decide +kernel
theorem dX10_richest_4 : decode cX10_richest 4 = .ok (.istore_n 2, 1) := by decide +kernel
theorem dX10_richest_5 : decode cX10_richest 5 = .ok (.iload_n 2, 1) := by decide +kernel
theorem dX10_richest_6 : decode cX10_richest 6 = .ok (.bipush 8, 2) := by decide +kernel
theorem dX10_richest_8 : decode cX10_richest 8 = .ok (.if_icmp .ge 46, 3) := by decide +kernel
theorem dX10_richest_11 : decode cX10_richest 11 = .ok (.aload_n 0, 1) := by decide +kernel
theorem dX10_richest_12 : decode cX10_richest 12 = .ok (.iload_n 2, 1) := by decide +kernel
theorem dX10_richest_13 : decode cX10_richest 13 = .ok (.invokevirtual 431, 3) := by decide +kernel
theorem dX10_richest_16 : decode cX10_richest 16 = .ok (.ifCond .eq 32, 3) := by decide +kernel
theorem dX10_richest_19 : decode cX10_richest 19 = .ok (.iload_n 1, 1) := by decide +kernel
theorem dX10_richest_20 : decode cX10_richest 20 = .ok (.bipush (-2), 2) := by decide +kernel
theorem dX10_richest_22 : decode cX10_richest 22 = .ok (.if_icmp .eq 24, 3) := by decide +kernel
theorem dX10_richest_25 : decode cX10_richest 25 = .ok (.aload_n 0, 1) := by decide +kernel
theorem dX10_richest_26 : decode cX10_richest 26 = .ok (.getfield 7, 3) := by decide +kernel
theorem dX10_richest_29 : decode cX10_richest 29 = .ok (.bipush 16, 2) := by decide +kernel
theorem dX10_richest_31 : decode cX10_richest 31 = .ok (.iload_n 2, 1) := by decide +kernel
theorem dX10_richest_32 : decode cX10_richest 32 = .ok (.iadd, 1) := by decide +kernel
theorem dX10_richest_33 : decode cX10_richest 33 = .ok (.iaload, 1) := by decide +kernel
theorem dX10_richest_34 : decode cX10_richest 34 = .ok (.aload_n 0, 1) := by decide +kernel
theorem dX10_richest_35 : decode cX10_richest 35 = .ok (.getfield 7, 3) := by decide +kernel
theorem dX10_richest_38 : decode cX10_richest 38 = .ok (.bipush 16, 2) := by decide +kernel
theorem dX10_richest_40 : decode cX10_richest 40 = .ok (.iload_n 1, 1) := by decide +kernel
theorem dX10_richest_41 : decode cX10_richest 41 = .ok (.iadd, 1) := by decide +kernel
theorem dX10_richest_42 : decode cX10_richest 42 = .ok (.iaload, 1) := by decide +kernel
theorem dX10_richest_43 : decode cX10_richest 43 = .ok (.if_icmp .le 5, 3) := by decide +kernel
theorem dX10_richest_46 : decode cX10_richest 46 = .ok (.iload_n 2, 1) := by decide +kernel
theorem dX10_richest_47 : decode cX10_richest 47 = .ok (.istore_n 1, 1) := by decide +kernel
theorem dX10_richest_48 : decode cX10_richest 48 = .ok (.iinc 2 1, 3) := by decide +kernel
theorem dX10_richest_51 : decode cX10_richest 51 = .ok (.goto (-46), 3) := by decide +kernel
theorem dX10_richest_54 : decode cX10_richest 54 = .ok (.iload_n 1, 1) := by decide +kernel
theorem dX10_richest_55 : decode cX10_richest 55 = .ok (.ireturn, 1) := by decide +kernel
theorem dX10_seed_0 : decode cX10_seed 0 = .ok (.iload_n 1, 1) := by decide +kernel
theorem dX10_seed_1 : decode cX10_seed 1 = .ok (.iconst 0, 1) := by decide +kernel
theorem dX10_seed_2 : decode cX10_seed 2 = .ok (.ldc_w 473, 3) := by decide +kernel
theorem dX10_seed_5 : decode cX10_seed 5 = .ok (.invokestatic 161, 3) := by decide +kernel
theorem dX10_seed_8 : decode cX10_seed 8 = .ok (.ifCond .ne 5, 3) := by decide +kernel
theorem dX10_seed_11 : decode cX10_seed 11 = .ok (.iconst 0, 1) := by decide +kernel
theorem dX10_seed_12 : decode cX10_seed 12 = .ok (.ireturn, 1) := by decide +kernel
theorem dX10_seed_13 : decode cX10_seed 13 = .ok (.aload_n 0, 1) := by decide +kernel
theorem dX10_seed_14 : decode cX10_seed 14 = .ok (.getfield 7, 3) := by decide +kernel
theorem dX10_seed_17 : decode cX10_seed 17 = .ok (.bipush 33, 2) := by decide +kernel
theorem dX10_seed_19 : decode cX10_seed 19 = .ok (.iload_n 1, 1) := by decide +kernel
theorem dX10_seed_20 : decode cX10_seed 20 = .ok (.iastore, 1) := by decide +kernel
theorem dX10_seed_21 : decode cX10_seed 21 = .ok (.iconst 1, 1) := by decide +kernel
theorem dX10_seed_22 : decode cX10_seed 22 = .ok (.ireturn, 1) := by decide +kernel
theorem dX10_keep_0 : decode cX10_keep 0 = .ok (.aload_n 0, 1) := by decide +kernel
theorem dX10_keep_1 : decode cX10_keep 1 = .ok (.iconst 1, 1) := by decide +kernel
theorem dX10_keep_2 : decode cX10_keep 2 = .ok (.putfield 474, 3) := by decide +kernel
theorem dX10_keep_5 : decode cX10_keep 5 = .ok (.aload_n 0, 1) := by decide +kernel
theorem dX10_keep_6 : decode cX10_keep 6 = .ok (.aload_n 0, 1) := by decide +kernel
theorem dX10_keep_7 : decode cX10_keep 7 = .ok (.getfield 165, 3) := by decide +kernel
theorem dX10_keep_10 : decode cX10_keep 10 = .ok (.putfield 478, 3) := by decide +kernel
theorem dX10_keep_13 : decode cX10_keep 13 = .ok (.aload_n 0, 1) := by decide +kernel
theorem dX10_keep_14 : decode cX10_keep 14 = .ok (.getfield 7, 3) := by decide +kernel
theorem dX10_keep_17 : decode cX10_keep 17 = .ok (.aload_n 0, 1) := by decide +kernel
theorem dX10_keep_18 : decode cX10_keep 18 = .ok (.getfield 16, 3) := by decide +kernel
theorem dX10_keep_21 : decode cX10_keep 21 = .ok (.invokestatic 466, 3) := by decide +kernel
theorem dX10_keep_24 : decode cX10_keep 24 = .ok (.aload_n 0, 1) := by decide +kernel
theorem dX10_keep_25 : decode cX10_keep 25 = .ok (.getfield 7, 3) := by decide +kernel
theorem dX10_keep_28 : decode cX10_keep 28 = .ok (.bipush 32, 2) := by decide +kernel
theorem dX10_keep_30 : decode cX10_keep 30 = .ok (.iaload, 1) := by decide +kernel
theorem dX10_keep_31 : decode cX10_keep 31 = .ok (.ireturn, 1) := by decide +kernel
theorem dX10_undo_0 : decode cX10_undo 0 = .ok (.aload_n 0, 1) := by decide +kernel
theorem dX10_undo_1 : decode cX10_undo 1 = .ok (.getfield 474, 3) := by decide +kernel
theorem dX10_undo_4 : decode cX10_undo 4 = .ok (.ifCond .ne 5, 3) := by decide +kernel
theorem dX10_undo_7 : decode cX10_undo 7 = .ok (.iconst 0, 1) := by decide +kernel
theorem dX10_undo_8 : decode cX10_undo 8 = .ok (.ireturn, 1) := by decide +kernel
theorem dX10_undo_9 : decode cX10_undo 9 = .ok (.iconst 0, 1) := by decide +kernel
theorem dX10_undo_10 : decode cX10_undo 10 = .ok (.istore_n 1, 1) := by decide +kernel
theorem dX10_undo_11 : decode cX10_undo 11 = .ok (.iload_n 1, 1) := by decide +kernel
theorem dX10_undo_12 : decode cX10_undo 12 = .ok (.bipush 32, 2) := by decide +kernel
theorem dX10_undo_14 : decode cX10_undo 14 = .ok (.if_icmp .ge 40, 3) := by decide +kernel
theorem dX10_undo_17 : decode cX10_undo 17 = .ok (.aload_n 0, 1) := by decide +kernel
theorem dX10_undo_18 : decode cX10_undo 18 = .ok (.getfield 165, 3) := by decide +kernel
theorem dX10_undo_21 : decode cX10_undo 21 = .ok (.aload_n 0, 1) := by decide +kernel
theorem dX10_undo_22 : decode cX10_undo 22 = .ok (.getfield 478, 3) := by decide +kernel
theorem dX10_undo_25 : decode cX10_undo 25 = .ok (.iand, 1) := by decide +kernel
theorem dX10_undo_26 : decode cX10_undo 26 = .ok (.iload_n 1, 1) := by decide +kernel
theorem dX10_undo_27 : decode cX10_undo 27 = .ok (.bipush 8, 2) := by decide +kernel
theorem dX10_undo_29 : decode cX10_undo 29 = .ok (.irem, 1) := by decide +kernel
theorem dX10_undo_30 : decode cX10_undo 30 = .ok (.invokestatic 157, 3) := by decide +kernel
theorem dX10_undo_33 : decode cX10_undo 33 = .ok (.ifCond .eq 15, 3) := by decide +kernel
theorem dX10_undo_36 : decode cX10_undo 36 = .ok (.aload_n 0, 1) := by decide +kernel
theorem dX10_undo_37 : decode cX10_undo 37 = .ok (.getfield 7, 3) := by decide +kernel
theorem dX10_undo_40 : decode cX10_undo 40 = .ok (.iload_n 1, 1) := by decide +kernel
theorem dX10_undo_41 : decode cX10_undo 41 = .ok (.aload_n 0, 1) := by decide +kernel
theorem dX10_undo_42 : decode cX10_undo 42 = .ok (.getfield 16, 3) := by decide +kernel
theorem dX10_undo_45 : decode cX10_undo 45 = .ok (.iload_n 1, 1) := by decide +kernel
theorem dX10_undo_46 : decode cX10_undo 46 = .ok (.iaload, 1) := by decide +kernel
theorem dX10_undo_47 : decode cX10_undo 47 = .ok (.iastore, 1) := by decide +kernel
theorem dX10_undo_48 : decode cX10_undo 48 = .ok (.iinc 1 1, 3) := by decide +kernel
theorem dX10_undo_51 : decode cX10_undo 51 = .ok (.goto (-40), 3) := by decide +kernel
theorem dX10_undo_54 : decode cX10_undo 54 = .ok (.aload_n 0, 1) := by decide +kernel
theorem dX10_undo_55 : decode cX10_undo 55 = .ok (.getfield 7, 3) := by decide +kernel
theorem dX10_undo_58 : decode cX10_undo 58 = .ok (.bipush 32, 2) := by decide +kernel
theorem dX10_undo_60 : decode cX10_undo 60 = .ok (.aload_n 0, 1) := by decide +kernel
theorem dX10_undo_61 : decode cX10_undo 61 = .ok (.getfield 16, 3) := by decide +kernel
theorem dX10_undo_64 : decode cX10_undo 64 = .ok (.bipush 32, 2) := by decide +kernel
theorem dX10_undo_66 : decode cX10_undo 66 = .ok (.iaload, 1) := by decide +kernel
theorem dX10_undo_67 : decode cX10_undo 67 = .ok (.iastore, 1) := by decide +kernel
theorem dX10_undo_68 : decode cX10_undo 68 = .ok (.aload_n 0, 1) := by decide +kernel
theorem dX10_undo_69 : decode cX10_undo 69 = .ok (.getfield 7, 3) := by decide +kernel
theorem dX10_undo_72 : decode cX10_undo 72 = .ok (.bipush 33, 2) := by decide +kernel
theorem dX10_undo_74 : decode cX10_undo 74 = .ok (.aload_n 0, 1) := by decide +kernel
theorem dX10_undo_75 : decode cX10_undo 75 = .ok (.getfield 16, 3) := by decide +kernel
theorem dX10_undo_78 : decode cX10_undo 78 = .ok (.bipush 33, 2) := by decide +kernel
theorem dX10_undo_80 : decode cX10_undo 80 = .ok (.iaload, 1) := by decide +kernel
theorem dX10_undo_81 : decode cX10_undo 81 = .ok (.iastore, 1) := by decide +kernel
theorem dX10_undo_82 : decode cX10_undo 82 = .ok (.iconst 1, 1) := by decide +kernel
theorem dX10_undo_83 : decode cX10_undo 83 = .ok (.ireturn, 1) := by decide +kernel
theorem dX10_check_0 : decode cX10_check 0 = .ok (.iload_n 1, 1) := by decide +kernel
theorem dX10_check_1 : decode cX10_check 1 = .ok (.iconst 0, 1) := by decide +kernel
theorem dX10_check_2 : decode cX10_check 2 = .ok (.bipush 8, 2) := by decide +kernel
theorem dX10_check_4 : decode cX10_check 4 = .ok (.invokestatic 161, 3) := by decide +kernel
theorem dX10_check_7 : decode cX10_check 7 = .ok (.ifCond .eq 11, 3) := by decide +kernel
theorem dX10_check_10 : decode cX10_check 10 = .ok (.iload_n 1, 1) := by decide +kernel
theorem dX10_check_11 : decode cX10_check 11 = .ok (.aload_n 0, 1) := by decide +kernel
theorem dX10_check_12 : decode cX10_check 12 = .ok (.getfield 169, 3) := by decide +kernel
theorem dX10_check_15 : decode cX10_check 15 = .ok (.if_icmp .le 6, 3) := by decide +kernel
theorem dX10_check_18 : decode cX10_check 18 = .ok (.bipush (-2), 2) := by decide +kernel
theorem dX10_check_20 : decode cX10_check 20 = .ok (.ireturn, 1) := by decide +kernel
theorem dX10_check_21 : decode cX10_check 21 = .ok (.aload_n 0, 1) := by decide +kernel
theorem dX10_check_22 : decode cX10_check 22 = .ok (.iconst 0, 1) := by decide +kernel
theorem dX10_check_23 : decode cX10_check 23 = .ok (.putfield 169, 3) := by decide +kernel
theorem dX10_check_26 : decode cX10_check 26 = .ok (.iconst 0, 1) := by decide +kernel
theorem dX10_check_27 : decode cX10_check 27 = .ok (.istore_n 2, 1) := by decide +kernel
theorem dX10_check_28 : decode cX10_check 28 = .ok (.iload_n 2, 1) := by decide +kernel
theorem dX10_check_29 : decode cX10_check 29 = .ok (.iload_n 1, 1) := by decide +kernel
theorem dX10_check_30 : decode cX10_check 30 = .ok (.if_icmp .ge 42, 3) := by decide +kernel
theorem dX10_check_33 : decode cX10_check 33 = .ok (.aload_n 0, 1) := by decide +kernel
theorem dX10_check_34 : decode cX10_check 34 = .ok (.iload_n 2, 1) := by decide +kernel
theorem dX10_check_35 : decode cX10_check 35 = .ok (.invokevirtual 372, 3) := by decide +kernel
theorem dX10_check_38 : decode cX10_check 38 = .ok (.aload_n 0, 1) := by decide +kernel
theorem dX10_check_39 : decode cX10_check 39 = .ok (.iload_n 2, 1) := by decide +kernel
theorem dX10_check_40 : decode cX10_check 40 = .ok (.invokevirtual 431, 3) := by decide +kernel
theorem dX10_check_43 : decode cX10_check 43 = .ok (.ifCond .eq 15, 3) := by decide +kernel
theorem dX10_check_46 : decode cX10_check 46 = .ok (.aload_n 0, 1) := by decide +kernel
theorem dX10_check_47 : decode cX10_check 47 = .ok (.iload_n 2, 1) := by decide +kernel
theorem dX10_check_48 : decode cX10_check 48 = .ok (.invokevirtual 434, 3) := by decide +kernel
theorem dX10_check_51 : decode cX10_check 51 = .ok (.sipush 256, 3) := by decide +kernel
theorem dX10_check_54 : decode cX10_check 54 = .ok (.irem, 1) := by decide +kernel
theorem dX10_check_55 : decode cX10_check 55 = .ok (.goto 6, 3) := by decide +kernel
theorem dX10_check_58 : decode cX10_check 58 = .ok (.sipush 255, 3) := by decide +kernel
theorem dX10_check_61 : decode cX10_check 61 = .ok (.if_icmp .eq 5, 3) := by decide +kernel
theorem dX10_check_64 : decode cX10_check 64 = .ok (.iload_n 2, 1) := by decide +kernel
theorem dX10_check_65 : decode cX10_check 65 = .ok (.ireturn, 1) := by decide +kernel
theorem dX10_check_66 : decode cX10_check 66 = .ok (.iinc 2 1, 3) := by decide +kernel
theorem dX10_check_69 : decode cX10_check 69 = .ok (.goto (-41), 3) := by decide +kernel
theorem dX10_check_72 : decode cX10_check 72 = .ok (.iconst (-1), 1) := by decide +kernel
theorem dX10_check_73 : decode cX10_check 73 = .ok (.ireturn, 1) := by decide +kernel
theorem dX10_thingsInClaims_0 : decode cX10_thingsInClaims 0 = .ok (.iconst 0, 1) := by decide +kernel
theorem dX10_thingsInClaims_1 : decode cX10_thingsInClaims 1 = .ok (.istore_n 1, 1) := by decide +kernel
theorem dX10_thingsInClaims_2 : decode cX10_thingsInClaims 2 = .ok (.iconst 0, 1) := by decide +kernel
theorem dX10_thingsInClaims_3 : decode cX10_thingsInClaims 3 = .ok (.istore_n 2, 1) := by decide +kernel
theorem dX10_thingsInClaims_4 : decode cX10_thingsInClaims 4 = .ok (.iload_n 2, 1) := by decide +kernel
theorem dX10_thingsInClaims_5 : decode cX10_thingsInClaims 5 = .ok (.aload_n 0, 1) := by decide +kernel
theorem dX10_thingsInClaims_6 : decode cX10_thingsInClaims 6 = .ok (.getfield 307, 3) := by decide +kernel
theorem dX10_thingsInClaims_9 : decode cX10_thingsInClaims 9 = .ok (.if_icmp .ge 29, 3) := by decide +kernel
theorem dX10_thingsInClaims_12 : decode cX10_thingsInClaims 12 = .ok (.iload_n 1, 1) := by decide +kernel
theorem dX10_thingsInClaims_13 : decode cX10_thingsInClaims 13 = .ok (.iconst 1, 1) := by decide +kernel
theorem dX10_thingsInClaims_14 : decode cX10_thingsInClaims 14 = .ok (.aload_n 0, 1) := by decide +kernel
theorem dX10_thingsInClaims_15 : decode cX10_thingsInClaims 15 = .ok (.getfield 19, 3) := by decide +kernel
theorem dX10_thingsInClaims_18 : decode cX10_thingsInClaims 18 = .ok (.iload_n 2, 1) := by decide +kernel
theorem dX10_thingsInClaims_19 : decode cX10_thingsInClaims 19 = .ok (.iaload, 1) := by decide +kernel
theorem dX10_thingsInClaims_20 : decode cX10_thingsInClaims 20 = .ok (.ishl, 1) := by decide +kernel
theorem dX10_thingsInClaims_21 : decode cX10_thingsInClaims 21 = .ok (.ior, 1) := by decide +kernel
theorem dX10_thingsInClaims_22 : decode cX10_thingsInClaims 22 = .ok (.iconst 1, 1) := by decide +kernel
theorem dX10_thingsInClaims_23 : decode cX10_thingsInClaims 23 = .ok (.aload_n 0, 1) := by decide +kernel
theorem dX10_thingsInClaims_24 : decode cX10_thingsInClaims 24 = .ok (.getfield 22, 3) := by decide +kernel
theorem dX10_thingsInClaims_27 : decode cX10_thingsInClaims 27 = .ok (.iload_n 2, 1) := by decide +kernel
theorem dX10_thingsInClaims_28 : decode cX10_thingsInClaims 28 = .ok (.iaload, 1) := by decide +kernel
theorem dX10_thingsInClaims_29 : decode cX10_thingsInClaims 29 = .ok (.ishl, 1) := by decide +kernel
theorem dX10_thingsInClaims_30 : decode cX10_thingsInClaims 30 = .ok (.ior, 1) := by decide +kernel
theorem dX10_thingsInClaims_31 : decode cX10_thingsInClaims 31 = .ok (.istore_n 1, 1) := by decide +kernel
theorem dX10_thingsInClaims_32 : decode cX10_thingsInClaims 32 = .ok (.iinc 2 1, 3) := by decide +kernel
theorem dX10_thingsInClaims_35 : decode cX10_thingsInClaims 35 = .ok (.goto (-31), 3) := by decide +kernel
theorem dX10_thingsInClaims_38 : decode cX10_thingsInClaims 38 = .ok (.iload_n 1, 1) := by decide +kernel
theorem dX10_thingsInClaims_39 : decode cX10_thingsInClaims 39 = .ok (.ireturn, 1) := by decide +kernel
theorem dX10_betweenInAll_0 : decode cX10_betweenInAll 0 = .ok (.iconst 0, 1) := by decide +kernel
theorem dX10_betweenInAll_1 : decode cX10_betweenInAll 1 = .ok (.istore_n 1, 1) := by decide +kernel
theorem dX10_betweenInAll_2 : decode cX10_betweenInAll 2 = .ok (.iconst 0, 1) := by decide +kernel
theorem dX10_betweenInAll_3 : decode cX10_betweenInAll 3 = .ok (.istore_n 2, 1) := by decide +kernel
theorem dX10_betweenInAll_4 : decode cX10_betweenInAll 4 = .ok (.iload_n 2, 1) := by decide +kernel
theorem dX10_betweenInAll_5 : decode cX10_betweenInAll 5 = .ok (.bipush 8, 2) := by decide +kernel
theorem dX10_betweenInAll_7 : decode cX10_betweenInAll 7 = .ok (.if_icmp .ge 25, 3) := by decide +kernel
theorem dX10_betweenInAll_10 : decode cX10_betweenInAll 10 = .ok (.aload_n 0, 1) := by decide +kernel
theorem dX10_betweenInAll_11 : decode cX10_betweenInAll 11 = .ok (.iload_n 2, 1) := by decide +kernel
theorem dX10_betweenInAll_12 : decode cX10_betweenInAll 12 = .ok (.invokevirtual 431, 3) := by decide +kernel
theorem dX10_betweenInAll_15 : decode cX10_betweenInAll 15 = .ok (.ifCond .eq 11, 3) := by decide +kernel
theorem dX10_betweenInAll_18 : decode cX10_betweenInAll 18 = .ok (.iload_n 1, 1) := by decide +kernel
theorem dX10_betweenInAll_19 : decode cX10_betweenInAll 19 = .ok (.aload_n 0, 1) := by decide +kernel
theorem dX10_betweenInAll_20 : decode cX10_betweenInAll 20 = .ok (.iload_n 2, 1) := by decide +kernel
theorem dX10_betweenInAll_21 : decode cX10_betweenInAll 21 = .ok (.invokevirtual 434, 3) := by decide +kernel
theorem dX10_betweenInAll_24 : decode cX10_betweenInAll 24 = .ok (.iadd, 1) := by decide +kernel
theorem dX10_betweenInAll_25 : decode cX10_betweenInAll 25 = .ok (.istore_n 1, 1) := by decide +kernel
theorem dX10_betweenInAll_26 : decode cX10_betweenInAll 26 = .ok (.iinc 2 1, 3) := by decide +kernel
theorem dX10_betweenInAll_29 : decode cX10_betweenInAll 29 = .ok (.goto (-25), 3) := by decide +kernel
theorem dX10_betweenInAll_32 : decode cX10_betweenInAll 32 = .ok (.iload_n 1, 1) := by decide +kernel
theorem dX10_betweenInAll_33 : decode cX10_betweenInAll 33 = .ok (.ireturn, 1) := by decide +kernel
theorem dX10_count_0 : decode cX10_count 0 = .ok (.iload_n 1, 1) := by decide +kernel
theorem dX10_count_1 : decode cX10_count 1 = .ok (.tableswitch 102 0 8 #[51, 59, 64, 69, 74, 79, 84, 92, 97], 51) := by decide +kernel
theorem dX10_count_52 : decode cX10_count 52 = .ok (.aload_n 0, 1) := by decide +kernel
theorem dX10_count_53 : decode cX10_count 53 = .ok (.getfield 7, 3) := by decide +kernel
theorem dX10_count_56 : decode cX10_count 56 = .ok (.bipush 32, 2) := by decide +kernel
theorem dX10_count_58 : decode cX10_count 58 = .ok (.iaload, 1) := by decide +kernel
theorem dX10_count_59 : decode cX10_count 59 = .ok (.ireturn, 1) := by decide +kernel
theorem dX10_count_60 : decode cX10_count 60 = .ok (.aload_n 0, 1) := by decide +kernel
theorem dX10_count_61 : decode cX10_count 61 = .ok (.getfield 165, 3) := by decide +kernel
theorem dX10_count_64 : decode cX10_count 64 = .ok (.ireturn, 1) := by decide +kernel
theorem dX10_count_65 : decode cX10_count 65 = .ok (.aload_n 0, 1) := by decide +kernel
theorem dX10_count_66 : decode cX10_count 66 = .ok (.getfield 307, 3) := by decide +kernel
theorem dX10_count_69 : decode cX10_count 69 = .ok (.ireturn, 1) := by decide +kernel
theorem dX10_count_70 : decode cX10_count 70 = .ok (.aload_n 0, 1) := by decide +kernel
theorem dX10_count_71 : decode cX10_count 71 = .ok (.invokevirtual 481, 3) := by decide +kernel
theorem dX10_count_74 : decode cX10_count 74 = .ok (.ireturn, 1) := by decide +kernel
theorem dX10_count_75 : decode cX10_count 75 = .ok (.aload_n 0, 1) := by decide +kernel
theorem dX10_count_76 : decode cX10_count 76 = .ok (.getfield 270, 3) := by decide +kernel
theorem dX10_count_79 : decode cX10_count 79 = .ok (.ireturn, 1) := by decide +kernel
theorem dX10_count_80 : decode cX10_count 80 = .ok (.aload_n 0, 1) := by decide +kernel
theorem dX10_count_81 : decode cX10_count 81 = .ok (.getfield 169, 3) := by decide +kernel
theorem dX10_count_84 : decode cX10_count 84 = .ok (.ireturn, 1) := by decide +kernel
theorem dX10_count_85 : decode cX10_count 85 = .ok (.aload_n 0, 1) := by decide +kernel
theorem dX10_count_86 : decode cX10_count 86 = .ok (.getfield 7, 3) := by decide +kernel
theorem dX10_count_89 : decode cX10_count 89 = .ok (.bipush 33, 2) := by decide +kernel
theorem dX10_count_91 : decode cX10_count 91 = .ok (.iaload, 1) := by decide +kernel
theorem dX10_count_92 : decode cX10_count 92 = .ok (.ireturn, 1) := by decide +kernel
theorem dX10_count_93 : decode cX10_count 93 = .ok (.aload_n 0, 1) := by decide +kernel
theorem dX10_count_94 : decode cX10_count 94 = .ok (.invokevirtual 470, 3) := by decide +kernel
theorem dX10_count_97 : decode cX10_count 97 = .ok (.ireturn, 1) := by decide +kernel
theorem dX10_count_98 : decode cX10_count 98 = .ok (.aload_n 0, 1) := by decide +kernel
theorem dX10_count_99 : decode cX10_count 99 = .ok (.invokevirtual 484, 3) := by decide +kernel
theorem dX10_count_102 : decode cX10_count 102 = .ok (.ireturn, 1) := by decide +kernel
theorem dX10_count_103 : decode cX10_count 103 = .ok (.iconst (-1), 1) := by decide +kernel
theorem dX10_count_104 : decode cX10_count 104 = .ok (.ireturn, 1) := by decide +kernel
theorem dJ6_bitCount_0f7a4_0 : decode cJ6_bitCount_0f7a4 0 = .ok (.iload_n 0, 1) := by decide +kernel
theorem dJ6_bitCount_0f7a4_1 : decode cJ6_bitCount_0f7a4 1 = .ok (.iload_n 0, 1) := by decide +kernel
theorem dJ6_bitCount_0f7a4_2 : decode cJ6_bitCount_0f7a4 2 = .ok (.iconst 1, 1) := by decide +kernel
theorem dJ6_bitCount_0f7a4_3 : decode cJ6_bitCount_0f7a4 3 = .ok (.iushr, 1) := by decide +kernel
theorem dJ6_bitCount_0f7a4_4 : decode cJ6_bitCount_0f7a4 4 = .ok (.ldc_w 265, 3) := by decide +kernel
theorem dJ6_bitCount_0f7a4_7 : decode cJ6_bitCount_0f7a4 7 = .ok (.iand, 1) := by decide +kernel
theorem dJ6_bitCount_0f7a4_8 : decode cJ6_bitCount_0f7a4 8 = .ok (.isub, 1) := by decide +kernel
theorem dJ6_bitCount_0f7a4_9 : decode cJ6_bitCount_0f7a4 9 = .ok (.istore_n 0, 1) := by decide +kernel
theorem dJ6_bitCount_0f7a4_10 : decode cJ6_bitCount_0f7a4 10 = .ok (.iload_n 0, 1) := by decide +kernel
theorem dJ6_bitCount_0f7a4_11 : decode cJ6_bitCount_0f7a4 11 = .ok (.ldc_w 266, 3) := by decide +kernel
theorem dJ6_bitCount_0f7a4_14 : decode cJ6_bitCount_0f7a4 14 = .ok (.iand, 1) := by decide +kernel
theorem dJ6_bitCount_0f7a4_15 : decode cJ6_bitCount_0f7a4 15 = .ok (.iload_n 0, 1) := by decide +kernel
theorem dJ6_bitCount_0f7a4_16 : decode cJ6_bitCount_0f7a4 16 = .ok (.iconst 2, 1) := by decide +kernel
theorem dJ6_bitCount_0f7a4_17 : decode cJ6_bitCount_0f7a4 17 = .ok (.iushr, 1) := by decide +kernel
theorem dJ6_bitCount_0f7a4_18 : decode cJ6_bitCount_0f7a4 18 = .ok (.ldc_w 266, 3) := by decide +kernel
theorem dJ6_bitCount_0f7a4_21 : decode cJ6_bitCount_0f7a4 21 = .ok (.iand, 1) := by decide +kernel
theorem dJ6_bitCount_0f7a4_22 : decode cJ6_bitCount_0f7a4 22 = .ok (.iadd, 1) := by decide +kernel
theorem dJ6_bitCount_0f7a4_23 : decode cJ6_bitCount_0f7a4 23 = .ok (.istore_n 0, 1) := by decide +kernel
theorem dJ6_bitCount_0f7a4_24 : decode cJ6_bitCount_0f7a4 24 = .ok (.iload_n 0, 1) := by decide +kernel
theorem dJ6_bitCount_0f7a4_25 : decode cJ6_bitCount_0f7a4 25 = .ok (.iload_n 0, 1) := by decide +kernel
theorem dJ6_bitCount_0f7a4_26 : decode cJ6_bitCount_0f7a4 26 = .ok (.iconst 4, 1) := by decide +kernel
theorem dJ6_bitCount_0f7a4_27 : decode cJ6_bitCount_0f7a4 27 = .ok (.iushr, 1) := by decide +kernel
theorem dJ6_bitCount_0f7a4_28 : decode cJ6_bitCount_0f7a4 28 = .ok (.iadd, 1) := by decide +kernel
theorem dJ6_bitCount_0f7a4_29 : decode cJ6_bitCount_0f7a4 29 = .ok (.ldc_w 267, 3) := by decide +kernel
theorem dJ6_bitCount_0f7a4_32 : decode cJ6_bitCount_0f7a4 32 = .ok (.iand, 1) := by decide +kernel
theorem dJ6_bitCount_0f7a4_33 : decode cJ6_bitCount_0f7a4 33 = .ok (.istore_n 0, 1) := by decide +kernel
theorem dJ6_bitCount_0f7a4_34 : decode cJ6_bitCount_0f7a4 34 = .ok (.iload_n 0, 1) := by decide +kernel
theorem dJ6_bitCount_0f7a4_35 : decode cJ6_bitCount_0f7a4 35 = .ok (.iload_n 0, 1) := by decide +kernel
theorem dJ6_bitCount_0f7a4_36 : decode cJ6_bitCount_0f7a4 36 = .ok (.bipush 8, 2) := by decide +kernel
theorem dJ6_bitCount_0f7a4_38 : decode cJ6_bitCount_0f7a4 38 = .ok (.iushr, 1) := by decide +kernel
theorem dJ6_bitCount_0f7a4_39 : decode cJ6_bitCount_0f7a4 39 = .ok (.iadd, 1) := by decide +kernel
theorem dJ6_bitCount_0f7a4_40 : decode cJ6_bitCount_0f7a4 40 = .ok (.istore_n 0, 1) := by decide +kernel
theorem dJ6_bitCount_0f7a4_41 : decode cJ6_bitCount_0f7a4 41 = .ok (.iload_n 0, 1) := by decide +kernel
theorem dJ6_bitCount_0f7a4_42 : decode cJ6_bitCount_0f7a4 42 = .ok (.iload_n 0, 1) := by decide +kernel
theorem dJ6_bitCount_0f7a4_43 : decode cJ6_bitCount_0f7a4 43 = .ok (.bipush 16, 2) := by decide +kernel
theorem dJ6_bitCount_0f7a4_45 : decode cJ6_bitCount_0f7a4 45 = .ok (.iushr, 1) := by decide +kernel
theorem dJ6_bitCount_0f7a4_46 : decode cJ6_bitCount_0f7a4 46 = .ok (.iadd, 1) := by decide +kernel
theorem dJ6_bitCount_0f7a4_47 : decode cJ6_bitCount_0f7a4 47 = .ok (.istore_n 0, 1) := by decide +kernel
theorem dJ6_bitCount_0f7a4_48 : decode cJ6_bitCount_0f7a4 48 = .ok (.iload_n 0, 1) := by decide +kernel
theorem dJ6_bitCount_0f7a4_49 : decode cJ6_bitCount_0f7a4 49 = .ok (.bipush 63, 2) := by decide +kernel
theorem dJ6_bitCount_0f7a4_51 : decode cJ6_bitCount_0f7a4 51 = .ok (.iand, 1) := by decide +kernel
theorem dJ6_bitCount_0f7a4_52 : decode cJ6_bitCount_0f7a4 52 = .ok (.ireturn, 1) := by decide +kernel
theorem dJ9_abs_0f7a4_0 : decode cJ9_abs_0f7a4 0 = .ok (.iload_n 0, 1) := by decide +kernel
theorem dJ9_abs_0f7a4_1 : decode cJ9_abs_0f7a4 1 = .ok (.ifCond .ge 8, 3) := by decide +kernel
theorem dJ9_abs_0f7a4_4 : decode cJ9_abs_0f7a4 4 = .ok (.iload_n 0, 1) := by decide +kernel
theorem dJ9_abs_0f7a4_5 : decode cJ9_abs_0f7a4 5 = .ok (.ineg, 1) := by decide +kernel
theorem dJ9_abs_0f7a4_6 : decode cJ9_abs_0f7a4 6 = .ok (.goto 4, 3) := by decide +kernel
theorem dJ9_abs_0f7a4_9 : decode cJ9_abs_0f7a4 9 = .ok (.iload_n 0, 1) := by decide +kernel
theorem dJ9_abs_0f7a4_10 : decode cJ9_abs_0f7a4 10 = .ok (.ireturn, 1) := by decide +kernel
theorem dJ9_max_7cf53_0 : decode cJ9_max_7cf53 0 = .ok (.iload_n 0, 1) := by decide +kernel
theorem dJ9_max_7cf53_1 : decode cJ9_max_7cf53 1 = .ok (.iload_n 1, 1) := by decide +kernel
theorem dJ9_max_7cf53_2 : decode cJ9_max_7cf53 2 = .ok (.if_icmp .lt 7, 3) := by decide +kernel
theorem dJ9_max_7cf53_5 : decode cJ9_max_7cf53 5 = .ok (.iload_n 0, 1) := by decide +kernel
theorem dJ9_max_7cf53_6 : decode cJ9_max_7cf53 6 = .ok (.goto 4, 3) := by decide +kernel
theorem dJ9_max_7cf53_9 : decode cJ9_max_7cf53 9 = .ok (.iload_n 1, 1) := by decide +kernel
theorem dJ9_max_7cf53_10 : decode cJ9_max_7cf53 10 = .ok (.ireturn, 1) := by decide +kernel
theorem dJ9_min_7cf53_0 : decode cJ9_min_7cf53 0 = .ok (.iload_n 0, 1) := by decide +kernel
theorem dJ9_min_7cf53_1 : decode cJ9_min_7cf53 1 = .ok (.iload_n 1, 1) := by decide +kernel
theorem dJ9_min_7cf53_2 : decode cJ9_min_7cf53 2 = .ok (.if_icmp .gt 7, 3) := by decide +kernel
theorem dJ9_min_7cf53_5 : decode cJ9_min_7cf53 5 = .ok (.iload_n 0, 1) := by decide +kernel
theorem dJ9_min_7cf53_6 : decode cJ9_min_7cf53 6 = .ok (.goto 4, 3) := by decide +kernel
theorem dJ9_min_7cf53_9 : decode cJ9_min_7cf53 9 = .ok (.iload_n 1, 1) := by decide +kernel
theorem dJ9_min_7cf53_10 : decode cJ9_min_7cf53 10 = .ok (.ireturn, 1) := by decide +kernel
theorem dJ0_length_8abf5_0 : decode cJ0_length_8abf5 0 = .ok (.aload_n 0, 1) := by decide +kernel
theorem dJ0_length_8abf5_1 : decode cJ0_length_8abf5 1 = .ok (.getfield 9, 3) := by decide +kernel
theorem dJ0_length_8abf5_4 : decode cJ0_length_8abf5 4 = .ok (.arraylength, 1) := by decide +kernel
theorem dJ0_length_8abf5_5 : decode cJ0_length_8abf5 5 = .ok (.aload_n 0, 1) := by decide +kernel
theorem dJ0_length_8abf5_6 : decode cJ0_length_8abf5 6 = .ok (.invokevirtual 335, 3) := by decide +kernel
theorem dJ0_length_8abf5_9 : decode cJ0_length_8abf5 9 = .ok (.ishr, 1) := by decide +kernel
theorem dJ0_length_8abf5_10 : decode cJ0_length_8abf5 10 = .ok (.ireturn, 1) := by decide +kernel
theorem dJ0_charAt_5068e_0 : decode cJ0_charAt_5068e 0 = .ok (.aload_n 0, 1) := by decide +kernel
theorem dJ0_charAt_5068e_1 : decode cJ0_charAt_5068e 1 = .ok (.invokevirtual 492, 3) := by decide +kernel
theorem dJ0_charAt_5068e_4 : decode cJ0_charAt_5068e 4 = .ok (.ifCond .eq 12, 3) := by decide +kernel
theorem dJ0_charAt_5068e_7 : decode cJ0_charAt_5068e 7 = .ok (.aload_n 0, 1) := by decide +kernel
theorem dJ0_charAt_5068e_8 : decode cJ0_charAt_5068e 8 = .ok (.getfield 9, 3) := by decide +kernel
theorem dJ0_charAt_5068e_11 : decode cJ0_charAt_5068e 11 = .ok (.iload_n 1, 1) := by decide +kernel
theorem dJ0_charAt_5068e_12 : decode cJ0_charAt_5068e 12 = .ok (.invokestatic 495, 3) := by decide +kernel
theorem dJ0_charAt_5068e_15 : decode cJ0_charAt_5068e 15 = .ok (.ireturn, 1) := by decide +kernel
theorem dJ0_charAt_5068e_16 : decode cJ0_charAt_5068e 16 = .ok (.aload_n 0, 1) := by decide +kernel
theorem dJ0_charAt_5068e_17 : decode cJ0_charAt_5068e 17 = .ok (.getfield 9, 3) := by decide +kernel
theorem dJ0_charAt_5068e_20 : decode cJ0_charAt_5068e 20 = .ok (.iload_n 1, 1) := by decide +kernel
theorem dJ0_charAt_5068e_21 : decode cJ0_charAt_5068e 21 = .ok (.invokestatic 498, 3) := by decide +kernel
theorem dJ0_charAt_5068e_24 : decode cJ0_charAt_5068e 24 = .ok (.ireturn, 1) := by decide +kernel
theorem dJ0_coder_7d493_0 : decode cJ0_coder_7d493 0 = .ok (.getstatic 38, 3) := by decide +kernel
theorem dJ0_coder_7d493_3 : decode cJ0_coder_7d493 3 = .ok (.ifCond .eq 10, 3) := by decide +kernel
theorem dJ0_coder_7d493_6 : decode cJ0_coder_7d493 6 = .ok (.aload_n 0, 1) := by decide +kernel
theorem dJ0_coder_7d493_7 : decode cJ0_coder_7d493 7 = .ok (.getfield 15, 3) := by decide +kernel
theorem dJ0_coder_7d493_10 : decode cJ0_coder_7d493 10 = .ok (.goto 4, 3) := by decide +kernel
theorem dJ0_coder_7d493_13 : decode cJ0_coder_7d493 13 = .ok (.iconst 1, 1) := by decide +kernel
theorem dJ0_coder_7d493_14 : decode cJ0_coder_7d493 14 = .ok (.ireturn, 1) := by decide +kernel
theorem dJ0_isLatin1_aae02_0 : decode cJ0_isLatin1_aae02 0 = .ok (.getstatic 38, 3) := by decide +kernel
theorem dJ0_isLatin1_aae02_3 : decode cJ0_isLatin1_aae02 3 = .ok (.ifCond .eq 14, 3) := by decide +kernel
theorem dJ0_isLatin1_aae02_6 : decode cJ0_isLatin1_aae02 6 = .ok (.aload_n 0, 1) := by decide +kernel
theorem dJ0_isLatin1_aae02_7 : decode cJ0_isLatin1_aae02 7 = .ok (.getfield 15, 3) := by decide +kernel
theorem dJ0_isLatin1_aae02_10 : decode cJ0_isLatin1_aae02 10 = .ok (.ifCond .ne 7, 3) := by decide +kernel
theorem dJ0_isLatin1_aae02_13 : decode cJ0_isLatin1_aae02 13 = .ok (.iconst 1, 1) := by decide +kernel
theorem dJ0_isLatin1_aae02_14 : decode cJ0_isLatin1_aae02 14 = .ok (.goto 4, 3) := by decide +kernel
theorem dJ0_isLatin1_aae02_17 : decode cJ0_isLatin1_aae02 17 = .ok (.iconst 0, 1) := by decide +kernel
theorem dJ0_isLatin1_aae02_18 : decode cJ0_isLatin1_aae02 18 = .ok (.ireturn, 1) := by decide +kernel
theorem dJ0_checkIndex_df160_0 : decode cJ0_checkIndex_df160 0 = .ok (.iload_n 0, 1) := by decide +kernel
theorem dJ0_checkIndex_df160_1 : decode cJ0_checkIndex_df160 1 = .ok (.iload_n 1, 1) := by decide +kernel
theorem dJ0_checkIndex_df160_2 : decode cJ0_checkIndex_df160 2 = .ok (.getstatic 1053, 3) := by decide +kernel
theorem dJ0_checkIndex_df160_5 : decode cJ0_checkIndex_df160 5 = .ok (.invokestatic 1059, 3) := by decide +kernel
theorem dJ0_checkIndex_df160_8 : decode cJ0_checkIndex_df160 8 = .ok (.pop, 1) := by decide +kernel
theorem dJ0_checkIndex_df160_9 : decode cJ0_checkIndex_df160 9 = .ok (.return_, 1) := by decide +kernel
theorem dJ1_charAt_3b067_0 : decode cJ1_charAt_3b067 0 = .ok (.iload_n 1, 1) := by decide +kernel
theorem dJ1_charAt_3b067_1 : decode cJ1_charAt_3b067 1 = .ok (.aload_n 0, 1) := by decide +kernel
theorem dJ1_charAt_3b067_2 : decode cJ1_charAt_3b067 2 = .ok (.arraylength, 1) := by decide +kernel
theorem dJ1_charAt_3b067_3 : decode cJ1_charAt_3b067 3 = .ok (.invokestatic 9, 3) := by decide +kernel
theorem dJ1_charAt_3b067_6 : decode cJ1_charAt_3b067 6 = .ok (.aload_n 0, 1) := by decide +kernel
theorem dJ1_charAt_3b067_7 : decode cJ1_charAt_3b067 7 = .ok (.iload_n 1, 1) := by decide +kernel
theorem dJ1_charAt_3b067_8 : decode cJ1_charAt_3b067 8 = .ok (.baload, 1) := by decide +kernel
theorem dJ1_charAt_3b067_9 : decode cJ1_charAt_3b067 9 = .ok (.sipush 255, 3) := by decide +kernel
theorem dJ1_charAt_3b067_12 : decode cJ1_charAt_3b067 12 = .ok (.iand, 1) := by decide +kernel
theorem dJ1_charAt_3b067_13 : decode cJ1_charAt_3b067 13 = .ok (.i2c, 1) := by decide +kernel
theorem dJ1_charAt_3b067_14 : decode cJ1_charAt_3b067 14 = .ok (.ireturn, 1) := by decide +kernel
theorem dJ2_getChar_3b067_0 : decode cJ2_getChar_3b067 0 = .ok (.getstatic 44, 3) := by decide +kernel
theorem dJ2_getChar_3b067_3 : decode cJ2_getChar_3b067 3 = .ok (.ifCond .ne 25, 3) := by decide +kernel
theorem dJ2_getChar_3b067_6 : decode cJ2_getChar_3b067 6 = .ok (.iload_n 1, 1) := by decide +kernel
theorem dJ2_getChar_3b067_7 : decode cJ2_getChar_3b067 7 = .ok (.ifCond .lt 11, 3) := by decide +kernel
theorem dJ2_getChar_3b067_10 : decode cJ2_getChar_3b067 10 = .ok (.iload_n 1, 1) := by decide +kernel
theorem dJ2_getChar_3b067_11 : decode cJ2_getChar_3b067 11 = .ok (.aload_n 0, 1) := by decide +kernel
theorem dJ2_getChar_3b067_12 : decode cJ2_getChar_3b067 12 = .ok (.invokestatic 48, 3) := by decide +kernel
theorem dJ2_getChar_3b067_15 : decode cJ2_getChar_3b067 15 = .ok (.if_icmp .lt 13, 3) := by decide +kernel
theorem dJ2_getChar_3b067_18 : decode cJ2_getChar_3b067 18 = .ok (.new 52, 3) := by decide +kernel
theorem dJ2_getChar_3b067_21 : decode cJ2_getChar_3b067 21 = .ok (.dup, 1) := by decide +kernel
theorem dJ2_getChar_3b067_22 : decode cJ2_getChar_3b067 22 = .ok (.ldc 54, 2) := by decide +kernel
theorem dJ2_getChar_3b067_24 : decode cJ2_getChar_3b067 24 = .ok (.invokespecial 56, 3) := by decide +kernel
theorem dJ2_getChar_3b067_27 : decode cJ2_getChar_3b067 27 = .ok (.athrow, 1) := by decide +kernel
theorem dJ2_getChar_3b067_28 : decode cJ2_getChar_3b067 28 = .ok (.iload_n 1, 1) := by decide +kernel
theorem dJ2_getChar_3b067_29 : decode cJ2_getChar_3b067 29 = .ok (.iconst 1, 1) := by decide +kernel
theorem dJ2_getChar_3b067_30 : decode cJ2_getChar_3b067 30 = .ok (.ishl, 1) := by decide +kernel
theorem dJ2_getChar_3b067_31 : decode cJ2_getChar_3b067 31 = .ok (.istore_n 1, 1) := by decide +kernel
theorem dJ2_getChar_3b067_32 : decode cJ2_getChar_3b067 32 = .ok (.aload_n 0, 1) := by decide +kernel
theorem dJ2_getChar_3b067_33 : decode cJ2_getChar_3b067 33 = .ok (.iload_n 1, 1) := by decide +kernel
theorem dJ2_getChar_3b067_34 : decode cJ2_getChar_3b067 34 = .ok (.iinc 1 1, 3) := by decide +kernel
theorem dJ2_getChar_3b067_37 : decode cJ2_getChar_3b067 37 = .ok (.baload, 1) := by decide +kernel
theorem dJ2_getChar_3b067_38 : decode cJ2_getChar_3b067 38 = .ok (.sipush 255, 3) := by decide +kernel
theorem dJ2_getChar_3b067_41 : decode cJ2_getChar_3b067 41 = .ok (.iand, 1) := by decide +kernel
theorem dJ2_getChar_3b067_42 : decode cJ2_getChar_3b067 42 = .ok (.getstatic 59, 3) := by decide +kernel
theorem dJ2_getChar_3b067_45 : decode cJ2_getChar_3b067 45 = .ok (.ishl, 1) := by decide +kernel
theorem dJ2_getChar_3b067_46 : decode cJ2_getChar_3b067 46 = .ok (.aload_n 0, 1) := by decide +kernel
theorem dJ2_getChar_3b067_47 : decode cJ2_getChar_3b067 47 = .ok (.iload_n 1, 1) := by decide +kernel
theorem dJ2_getChar_3b067_48 : decode cJ2_getChar_3b067 48 = .ok (.baload, 1) := by decide +kernel
theorem dJ2_getChar_3b067_49 : decode cJ2_getChar_3b067 49 = .ok (.sipush 255, 3) := by decide +kernel
theorem dJ2_getChar_3b067_52 : decode cJ2_getChar_3b067 52 = .ok (.iand, 1) := by decide +kernel
theorem dJ2_getChar_3b067_53 : decode cJ2_getChar_3b067 53 = .ok (.getstatic 63, 3) := by decide +kernel
theorem dJ2_getChar_3b067_56 : decode cJ2_getChar_3b067 56 = .ok (.ishl, 1) := by decide +kernel
theorem dJ2_getChar_3b067_57 : decode cJ2_getChar_3b067 57 = .ok (.ior, 1) := by decide +kernel
theorem dJ2_getChar_3b067_58 : decode cJ2_getChar_3b067 58 = .ok (.i2c, 1) := by decide +kernel
theorem dJ2_getChar_3b067_59 : decode cJ2_getChar_3b067 59 = .ok (.ireturn, 1) := by decide +kernel
theorem dJ2_length_9d52b_0 : decode cJ2_length_9d52b 0 = .ok (.aload_n 0, 1) := by decide +kernel
theorem dJ2_length_9d52b_1 : decode cJ2_length_9d52b 1 = .ok (.arraylength, 1) := by decide +kernel
theorem dJ2_length_9d52b_2 : decode cJ2_length_9d52b 2 = .ok (.iconst 1, 1) := by decide +kernel
theorem dJ2_length_9d52b_3 : decode cJ2_length_9d52b 3 = .ok (.ishr, 1) := by decide +kernel
theorem dJ2_length_9d52b_4 : decode cJ2_length_9d52b 4 = .ok (.ireturn, 1) := by decide +kernel
theorem dJ2_charAt_3b067_0 : decode cJ2_charAt_3b067 0 = .ok (.iload_n 1, 1) := by decide +kernel
theorem dJ2_charAt_3b067_1 : decode cJ2_charAt_3b067 1 = .ok (.aload_n 0, 1) := by decide +kernel
theorem dJ2_charAt_3b067_2 : decode cJ2_charAt_3b067 2 = .ok (.invokestatic 67, 3) := by decide +kernel
theorem dJ2_charAt_3b067_5 : decode cJ2_charAt_3b067 5 = .ok (.aload_n 0, 1) := by decide +kernel
theorem dJ2_charAt_3b067_6 : decode cJ2_charAt_3b067 6 = .ok (.iload_n 1, 1) := by decide +kernel
theorem dJ2_charAt_3b067_7 : decode cJ2_charAt_3b067 7 = .ok (.invokestatic 71, 3) := by decide +kernel
theorem dJ2_charAt_3b067_10 : decode cJ2_charAt_3b067 10 = .ok (.ireturn, 1) := by decide +kernel
theorem dJ2_checkIndex_2214a_0 : decode cJ2_checkIndex_2214a 0 = .ok (.iload_n 0, 1) := by decide +kernel
theorem dJ2_checkIndex_2214a_1 : decode cJ2_checkIndex_2214a 1 = .ok (.aload_n 1, 1) := by decide +kernel
theorem dJ2_checkIndex_2214a_2 : decode cJ2_checkIndex_2214a 2 = .ok (.invokestatic 48, 3) := by decide +kernel
theorem dJ2_checkIndex_2214a_5 : decode cJ2_checkIndex_2214a 5 = .ok (.invokestatic 414, 3) := by decide +kernel
theorem dJ2_checkIndex_2214a_8 : decode cJ2_checkIndex_2214a 8 = .ok (.return_, 1) := by decide +kernel
theorem dJ7_rangeCheck_23922_0 : decode cJ7_rangeCheck_23922 0 = .ok (.iload_n 1, 1) := by decide +kernel
theorem dJ7_rangeCheck_23922_1 : decode cJ7_rangeCheck_23922 1 = .ok (.iload_n 2, 1) := by decide +kernel
theorem dJ7_rangeCheck_23922_2 : decode cJ7_rangeCheck_23922 2 = .ok (.if_icmp .le 44, 3) := by decide +kernel
theorem dJ7_rangeCheck_23922_5 : decode cJ7_rangeCheck_23922 5 = .ok (.new 43, 3) := by decide +kernel
theorem dJ7_rangeCheck_23922_8 : decode cJ7_rangeCheck_23922 8 = .ok (.dup, 1) := by decide +kernel
theorem dJ7_rangeCheck_23922_9 : decode cJ7_rangeCheck_23922 9 = .ok (.new 45, 3) := by decide +kernel
theorem dJ7_rangeCheck_23922_12 : decode cJ7_rangeCheck_23922 12 = .ok (.dup, 1) := by decide +kernel
theorem dJ7_rangeCheck_23922_13 : decode cJ7_rangeCheck_23922 13 = .ok (.invokespecial 47, 3) := by decide +kernel
theorem dJ7_rangeCheck_23922_16 : decode cJ7_rangeCheck_23922 16 = .ok (.ldc 48, 2) := by decide +kernel
theorem dJ7_rangeCheck_23922_18 : decode cJ7_rangeCheck_23922 18 = .ok (.invokevirtual 50, 3) := by decide +kernel
theorem dJ7_rangeCheck_23922_21 : decode cJ7_rangeCheck_23922 21 = .ok (.iload_n 1, 1) := by decide +kernel
theorem dJ7_rangeCheck_23922_22 : decode cJ7_rangeCheck_23922 22 = .ok (.invokevirtual 54, 3) := by decide +kernel
theorem dJ7_rangeCheck_23922_25 : decode cJ7_rangeCheck_23922 25 = .ok (.ldc 57, 2) := by decide +kernel
theorem dJ7_rangeCheck_23922_27 : decode cJ7_rangeCheck_23922 27 = .ok (.invokevirtual 50, 3) := by decide +kernel
theorem dJ7_rangeCheck_23922_30 : decode cJ7_rangeCheck_23922 30 = .ok (.iload_n 2, 1) := by decide +kernel
theorem dJ7_rangeCheck_23922_31 : decode cJ7_rangeCheck_23922 31 = .ok (.invokevirtual 54, 3) := by decide +kernel
theorem dJ7_rangeCheck_23922_34 : decode cJ7_rangeCheck_23922 34 = .ok (.ldc 59, 2) := by decide +kernel
theorem dJ7_rangeCheck_23922_36 : decode cJ7_rangeCheck_23922 36 = .ok (.invokevirtual 50, 3) := by decide +kernel
theorem dJ7_rangeCheck_23922_39 : decode cJ7_rangeCheck_23922 39 = .ok (.invokevirtual 61, 3) := by decide +kernel
theorem dJ7_rangeCheck_23922_42 : decode cJ7_rangeCheck_23922 42 = .ok (.invokespecial 65, 3) := by decide +kernel
theorem dJ7_rangeCheck_23922_45 : decode cJ7_rangeCheck_23922 45 = .ok (.athrow, 1) := by decide +kernel
theorem dJ7_rangeCheck_23922_46 : decode cJ7_rangeCheck_23922 46 = .ok (.iload_n 1, 1) := by decide +kernel
theorem dJ7_rangeCheck_23922_47 : decode cJ7_rangeCheck_23922 47 = .ok (.ifCond .ge 12, 3) := by decide +kernel
theorem dJ7_rangeCheck_23922_50 : decode cJ7_rangeCheck_23922 50 = .ok (.new 68, 3) := by decide +kernel
theorem dJ7_rangeCheck_23922_53 : decode cJ7_rangeCheck_23922 53 = .ok (.dup, 1) := by decide +kernel
theorem dJ7_rangeCheck_23922_54 : decode cJ7_rangeCheck_23922 54 = .ok (.iload_n 1, 1) := by decide +kernel
theorem dJ7_rangeCheck_23922_55 : decode cJ7_rangeCheck_23922 55 = .ok (.invokespecial 70, 3) := by decide +kernel
theorem dJ7_rangeCheck_23922_58 : decode cJ7_rangeCheck_23922 58 = .ok (.athrow, 1) := by decide +kernel
theorem dJ7_rangeCheck_23922_59 : decode cJ7_rangeCheck_23922 59 = .ok (.iload_n 2, 1) := by decide +kernel
theorem dJ7_rangeCheck_23922_60 : decode cJ7_rangeCheck_23922 60 = .ok (.iload_n 0, 1) := by decide +kernel
theorem dJ7_rangeCheck_23922_61 : decode cJ7_rangeCheck_23922 61 = .ok (.if_icmp .le 12, 3) := by decide +kernel
theorem dJ7_rangeCheck_23922_64 : decode cJ7_rangeCheck_23922 64 = .ok (.new 68, 3) := by decide +kernel
theorem dJ7_rangeCheck_23922_67 : decode cJ7_rangeCheck_23922 67 = .ok (.dup, 1) := by decide +kernel
theorem dJ7_rangeCheck_23922_68 : decode cJ7_rangeCheck_23922 68 = .ok (.iload_n 2, 1) := by decide +kernel
theorem dJ7_rangeCheck_23922_69 : decode cJ7_rangeCheck_23922 69 = .ok (.invokespecial 70, 3) := by decide +kernel
theorem dJ7_rangeCheck_23922_72 : decode cJ7_rangeCheck_23922 72 = .ok (.athrow, 1) := by decide +kernel
theorem dJ7_rangeCheck_23922_73 : decode cJ7_rangeCheck_23922 73 = .ok (.return_, 1) := by decide +kernel
theorem dJ7_fill_53178_0 : decode cJ7_fill_53178 0 = .ok (.iconst 0, 1) := by decide +kernel
theorem dJ7_fill_53178_1 : decode cJ7_fill_53178 1 = .ok (.istore_n 2, 1) := by decide +kernel
theorem dJ7_fill_53178_2 : decode cJ7_fill_53178 2 = .ok (.aload_n 0, 1) := by decide +kernel
theorem dJ7_fill_53178_3 : decode cJ7_fill_53178 3 = .ok (.arraylength, 1) := by decide +kernel
theorem dJ7_fill_53178_4 : decode cJ7_fill_53178 4 = .ok (.istore_n 3, 1) := by decide +kernel
theorem dJ7_fill_53178_5 : decode cJ7_fill_53178 5 = .ok (.iload_n 2, 1) := by decide +kernel
theorem dJ7_fill_53178_6 : decode cJ7_fill_53178 6 = .ok (.iload_n 3, 1) := by decide +kernel
theorem dJ7_fill_53178_7 : decode cJ7_fill_53178 7 = .ok (.if_icmp .ge 13, 3) := by decide +kernel
theorem dJ7_fill_53178_10 : decode cJ7_fill_53178 10 = .ok (.aload_n 0, 1) := by decide +kernel
theorem dJ7_fill_53178_11 : decode cJ7_fill_53178 11 = .ok (.iload_n 2, 1) := by decide +kernel
theorem dJ7_fill_53178_12 : decode cJ7_fill_53178 12 = .ok (.iload_n 1, 1) := by decide +kernel
theorem dJ7_fill_53178_13 : decode cJ7_fill_53178 13 = .ok (.iastore, 1) := by decide +kernel
theorem dJ7_fill_53178_14 : decode cJ7_fill_53178 14 = .ok (.iinc 2 1, 3) := by decide +kernel
theorem dJ7_fill_53178_17 : decode cJ7_fill_53178 17 = .ok (.goto (-12), 3) := by decide +kernel
theorem dJ7_fill_53178_20 : decode cJ7_fill_53178 20 = .ok (.return_, 1) := by decide +kernel
theorem dJ7_fill_fda19_0 : decode cJ7_fill_fda19 0 = .ok (.aload_n 0, 1) := by decide +kernel
theorem dJ7_fill_fda19_1 : decode cJ7_fill_fda19 1 = .ok (.arraylength, 1) := by decide +kernel
theorem dJ7_fill_fda19_2 : decode cJ7_fill_fda19 2 = .ok (.iload_n 1, 1) := by decide +kernel
theorem dJ7_fill_fda19_3 : decode cJ7_fill_fda19 3 = .ok (.iload_n 2, 1) := by decide +kernel
theorem dJ7_fill_fda19_4 : decode cJ7_fill_fda19 4 = .ok (.invokestatic 13, 3) := by decide +kernel
theorem dJ7_fill_fda19_7 : decode cJ7_fill_fda19 7 = .ok (.iload_n 1, 1) := by decide +kernel
theorem dJ7_fill_fda19_8 : decode cJ7_fill_fda19 8 = .ok (.istore 4, 2) := by decide +kernel
theorem dJ7_fill_fda19_10 : decode cJ7_fill_fda19 10 = .ok (.iload 4, 2) := by decide +kernel
theorem dJ7_fill_fda19_12 : decode cJ7_fill_fda19 12 = .ok (.iload_n 2, 1) := by decide +kernel
theorem dJ7_fill_fda19_13 : decode cJ7_fill_fda19 13 = .ok (.if_icmp .ge 14, 3) := by decide +kernel
theorem dJ7_fill_fda19_16 : decode cJ7_fill_fda19 16 = .ok (.aload_n 0, 1) := by decide +kernel
theorem dJ7_fill_fda19_17 : decode cJ7_fill_fda19 17 = .ok (.iload 4, 2) := by decide +kernel
theorem dJ7_fill_fda19_19 : decode cJ7_fill_fda19 19 = .ok (.iload_n 3, 1) := by decide +kernel
theorem dJ7_fill_fda19_20 : decode cJ7_fill_fda19 20 = .ok (.iastore, 1) := by decide +kernel
theorem dJ7_fill_fda19_21 : decode cJ7_fill_fda19 21 = .ok (.iinc 4 1, 3) := by decide +kernel
theorem dJ7_fill_fda19_24 : decode cJ7_fill_fda19 24 = .ok (.goto (-14), 3) := by decide +kernel
theorem dJ7_fill_fda19_27 : decode cJ7_fill_fda19 27 = .ok (.return_, 1) := by decide +kernel
theorem dJ3_checkIndex_8e157_0 : decode cJ3_checkIndex_8e157 0 = .ok (.iload_n 0, 1) := by decide +kernel
theorem dJ3_checkIndex_8e157_1 : decode cJ3_checkIndex_8e157 1 = .ok (.ifCond .lt 8, 3) := by decide +kernel
theorem dJ3_checkIndex_8e157_4 : decode cJ3_checkIndex_8e157 4 = .ok (.iload_n 0, 1) := by decide +kernel
theorem dJ3_checkIndex_8e157_5 : decode cJ3_checkIndex_8e157 5 = .ok (.iload_n 1, 1) := by decide +kernel
theorem dJ3_checkIndex_8e157_6 : decode cJ3_checkIndex_8e157 6 = .ok (.if_icmp .lt 10, 3) := by decide +kernel
theorem dJ3_checkIndex_8e157_9 : decode cJ3_checkIndex_8e157 9 = .ok (.aload_n 2, 1) := by decide +kernel
theorem dJ3_checkIndex_8e157_10 : decode cJ3_checkIndex_8e157 10 = .ok (.iload_n 0, 1) := by decide +kernel
theorem dJ3_checkIndex_8e157_11 : decode cJ3_checkIndex_8e157 11 = .ok (.iload_n 1, 1) := by decide +kernel
theorem dJ3_checkIndex_8e157_12 : decode cJ3_checkIndex_8e157 12 = .ok (.invokestatic 95, 3) := by decide +kernel
theorem dJ3_checkIndex_8e157_15 : decode cJ3_checkIndex_8e157 15 = .ok (.athrow, 1) := by decide +kernel
theorem dJ3_checkIndex_8e157_16 : decode cJ3_checkIndex_8e157 16 = .ok (.iload_n 0, 1) := by decide +kernel
theorem dJ3_checkIndex_8e157_17 : decode cJ3_checkIndex_8e157 17 = .ok (.ireturn, 1) := by decide +kernel
theorem dL_law_0 : decode cL_law 0 = .ok (.new 7, 3) := by decide +kernel
theorem dL_law_3 : decode cL_law 3 = .ok (.dup, 1) := by decide +kernel
theorem dL_law_4 : decode cL_law 4 = .ok (.invokespecial 9, 3) := by decide +kernel
theorem dL_law_7 : decode cL_law 7 = .ok (.astore_n 1, 1) := by decide +kernel
theorem dL_law_8 : decode cL_law 8 = .ok (.new 10, 3) := by decide +kernel
theorem dL_law_11 : decode cL_law 11 = .ok (.dup, 1) := by decide +kernel
theorem dL_law_12 : decode cL_law 12 = .ok (.invokespecial 12, 3) := by decide +kernel
theorem dL_law_15 : decode cL_law 15 = .ok (.astore_n 2, 1) := by decide +kernel
theorem dL_law_16 : decode cL_law 16 = .ok (.iconst 0, 1) := by decide +kernel
theorem dL_law_17 : decode cL_law 17 = .ok (.istore_n 3, 1) := by decide +kernel
theorem dL_law_18 : decode cL_law 18 = .ok (.iload_n 3, 1) := by decide +kernel
theorem dL_law_19 : decode cL_law 19 = .ok (.aload_n 0, 1) := by decide +kernel
theorem dL_law_20 : decode cL_law 20 = .ok (.arraylength, 1) := by decide +kernel
theorem dL_law_21 : decode cL_law 21 = .ok (.bipush 6, 2) := by decide +kernel
theorem dL_law_23 : decode cL_law 23 = .ok (.isub, 1) := by decide +kernel
theorem dL_law_24 : decode cL_law 24 = .ok (.if_icmp .gt 1276, 3) := by decide +kernel
theorem dL_law_27 : decode cL_law 27 = .ok (.aload_n 0, 1) := by decide +kernel
theorem dL_law_28 : decode cL_law 28 = .ok (.iload_n 3, 1) := by decide +kernel
theorem dL_law_29 : decode cL_law 29 = .ok (.iaload, 1) := by decide +kernel
theorem dL_law_30 : decode cL_law 30 = .ok (.bipush 63, 2) := by decide +kernel
theorem dL_law_32 : decode cL_law 32 = .ok (.iand, 1) := by decide +kernel
theorem dL_law_33 : decode cL_law 33 = .ok (.tableswitch 1261 0 37 #[167, 230, 253, 276, 299, 332, 355, 388, 411, 434, 467, 490, 513, 536, 559, 592, 625, 658, 691, 724, 757, 790, 823, 856, 889, 922, 955, 988, 1031, 1054, 1087, 1120, 1153, 1166, 1189, 1202, 1215, 1238], 167) := by decide +kernel
theorem dL_law_200 : decode cL_law 200 = .ok (.aload_n 1, 1) := by decide +kernel
theorem dL_law_201 : decode cL_law 201 = .ok (.aload_n 0, 1) := by decide +kernel
theorem dL_law_202 : decode cL_law 202 = .ok (.iload_n 3, 1) := by decide +kernel
theorem dL_law_203 : decode cL_law 203 = .ok (.iconst 1, 1) := by decide +kernel
theorem dL_law_204 : decode cL_law 204 = .ok (.iadd, 1) := by decide +kernel
theorem dL_law_205 : decode cL_law 205 = .ok (.iaload, 1) := by decide +kernel
theorem dL_law_206 : decode cL_law 206 = .ok (.aload_n 0, 1) := by decide +kernel
theorem dL_law_207 : decode cL_law 207 = .ok (.iload_n 3, 1) := by decide +kernel
theorem dL_law_208 : decode cL_law 208 = .ok (.iconst 2, 1) := by decide +kernel
theorem dL_law_209 : decode cL_law 209 = .ok (.iadd, 1) := by decide +kernel
theorem dL_law_210 : decode cL_law 210 = .ok (.iaload, 1) := by decide +kernel
theorem dL_law_211 : decode cL_law 211 = .ok (.aload_n 0, 1) := by decide +kernel
theorem dL_law_212 : decode cL_law 212 = .ok (.iload_n 3, 1) := by decide +kernel
theorem dL_law_213 : decode cL_law 213 = .ok (.iconst 3, 1) := by decide +kernel
theorem dL_law_214 : decode cL_law 214 = .ok (.iadd, 1) := by decide +kernel
theorem dL_law_215 : decode cL_law 215 = .ok (.iaload, 1) := by decide +kernel
theorem dL_law_216 : decode cL_law 216 = .ok (.aload_n 0, 1) := by decide +kernel
theorem dL_law_217 : decode cL_law 217 = .ok (.iload_n 3, 1) := by decide +kernel
theorem dL_law_218 : decode cL_law 218 = .ok (.iconst 4, 1) := by decide +kernel
theorem dL_law_219 : decode cL_law 219 = .ok (.iadd, 1) := by decide +kernel
theorem dL_law_220 : decode cL_law 220 = .ok (.iaload, 1) := by decide +kernel
theorem dL_law_221 : decode cL_law 221 = .ok (.aload_n 0, 1) := by decide +kernel
theorem dL_law_222 : decode cL_law 222 = .ok (.iload_n 3, 1) := by decide +kernel
theorem dL_law_223 : decode cL_law 223 = .ok (.iconst 5, 1) := by decide +kernel
theorem dL_law_224 : decode cL_law 224 = .ok (.iadd, 1) := by decide +kernel
theorem dL_law_225 : decode cL_law 225 = .ok (.iaload, 1) := by decide +kernel
theorem dL_law_226 : decode cL_law 226 = .ok (.invokevirtual 13, 3) := by decide +kernel
theorem dL_law_229 : decode cL_law 229 = .ok (.pop, 1) := by decide +kernel
theorem dL_law_230 : decode cL_law 230 = .ok (.aload_n 2, 1) := by decide +kernel
theorem dL_law_231 : decode cL_law 231 = .ok (.aload_n 0, 1) := by decide +kernel
theorem dL_law_232 : decode cL_law 232 = .ok (.iload_n 3, 1) := by decide +kernel
theorem dL_law_233 : decode cL_law 233 = .ok (.iconst 1, 1) := by decide +kernel
theorem dL_law_234 : decode cL_law 234 = .ok (.iadd, 1) := by decide +kernel
theorem dL_law_235 : decode cL_law 235 = .ok (.iaload, 1) := by decide +kernel
theorem dL_law_236 : decode cL_law 236 = .ok (.aload_n 0, 1) := by decide +kernel
theorem dL_law_237 : decode cL_law 237 = .ok (.iload_n 3, 1) := by decide +kernel
theorem dL_law_238 : decode cL_law 238 = .ok (.iconst 2, 1) := by decide +kernel
theorem dL_law_239 : decode cL_law 239 = .ok (.iadd, 1) := by decide +kernel
theorem dL_law_240 : decode cL_law 240 = .ok (.iaload, 1) := by decide +kernel
theorem dL_law_241 : decode cL_law 241 = .ok (.aload_n 0, 1) := by decide +kernel
theorem dL_law_242 : decode cL_law 242 = .ok (.iload_n 3, 1) := by decide +kernel
theorem dL_law_243 : decode cL_law 243 = .ok (.iconst 3, 1) := by decide +kernel
theorem dL_law_244 : decode cL_law 244 = .ok (.iadd, 1) := by decide +kernel
theorem dL_law_245 : decode cL_law 245 = .ok (.iaload, 1) := by decide +kernel
theorem dL_law_246 : decode cL_law 246 = .ok (.aload_n 0, 1) := by decide +kernel
theorem dL_law_247 : decode cL_law 247 = .ok (.iload_n 3, 1) := by decide +kernel
theorem dL_law_248 : decode cL_law 248 = .ok (.iconst 4, 1) := by decide +kernel
theorem dL_law_249 : decode cL_law 249 = .ok (.iadd, 1) := by decide +kernel
theorem dL_law_250 : decode cL_law 250 = .ok (.iaload, 1) := by decide +kernel
theorem dL_law_251 : decode cL_law 251 = .ok (.aload_n 0, 1) := by decide +kernel
theorem dL_law_252 : decode cL_law 252 = .ok (.iload_n 3, 1) := by decide +kernel
theorem dL_law_253 : decode cL_law 253 = .ok (.iconst 5, 1) := by decide +kernel
theorem dL_law_254 : decode cL_law 254 = .ok (.iadd, 1) := by decide +kernel
theorem dL_law_255 : decode cL_law 255 = .ok (.iaload, 1) := by decide +kernel
theorem dL_law_256 : decode cL_law 256 = .ok (.invokevirtual 17, 3) := by decide +kernel
theorem dL_law_259 : decode cL_law 259 = .ok (.pop, 1) := by decide +kernel
theorem dL_law_260 : decode cL_law 260 = .ok (.goto 1034, 3) := by decide +kernel
theorem dL_law_263 : decode cL_law 263 = .ok (.aload_n 1, 1) := by decide +kernel
theorem dL_law_264 : decode cL_law 264 = .ok (.aload_n 0, 1) := by decide +kernel
theorem dL_law_265 : decode cL_law 265 = .ok (.iload_n 3, 1) := by decide +kernel
theorem dL_law_266 : decode cL_law 266 = .ok (.iconst 1, 1) := by decide +kernel
theorem dL_law_267 : decode cL_law 267 = .ok (.iadd, 1) := by decide +kernel
theorem dL_law_268 : decode cL_law 268 = .ok (.iaload, 1) := by decide +kernel
theorem dL_law_269 : decode cL_law 269 = .ok (.invokevirtual 18, 3) := by decide +kernel
theorem dL_law_272 : decode cL_law 272 = .ok (.pop, 1) := by decide +kernel
theorem dL_law_273 : decode cL_law 273 = .ok (.aload_n 2, 1) := by decide +kernel
theorem dL_law_274 : decode cL_law 274 = .ok (.aload_n 0, 1) := by decide +kernel
theorem dL_law_275 : decode cL_law 275 = .ok (.iload_n 3, 1) := by decide +kernel
theorem dL_law_276 : decode cL_law 276 = .ok (.iconst 1, 1) := by decide +kernel
theorem dL_law_277 : decode cL_law 277 = .ok (.iadd, 1) := by decide +kernel
theorem dL_law_278 : decode cL_law 278 = .ok (.iaload, 1) := by decide +kernel
theorem dL_law_279 : decode cL_law 279 = .ok (.invokevirtual 22, 3) := by decide +kernel
theorem dL_law_282 : decode cL_law 282 = .ok (.pop, 1) := by decide +kernel
theorem dL_law_283 : decode cL_law 283 = .ok (.goto 1011, 3) := by decide +kernel
theorem dL_law_286 : decode cL_law 286 = .ok (.aload_n 1, 1) := by decide +kernel
theorem dL_law_287 : decode cL_law 287 = .ok (.aload_n 0, 1) := by decide +kernel
theorem dL_law_288 : decode cL_law 288 = .ok (.iload_n 3, 1) := by decide +kernel
theorem dL_law_289 : decode cL_law 289 = .ok (.iconst 1, 1) := by decide +kernel
theorem dL_law_290 : decode cL_law 290 = .ok (.iadd, 1) := by decide +kernel
theorem dL_law_291 : decode cL_law 291 = .ok (.iaload, 1) := by decide +kernel
theorem dL_law_292 : decode cL_law 292 = .ok (.invokevirtual 23, 3) := by decide +kernel
theorem dL_law_295 : decode cL_law 295 = .ok (.pop, 1) := by decide +kernel
theorem dL_law_296 : decode cL_law 296 = .ok (.aload_n 2, 1) := by decide +kernel
theorem dL_law_297 : decode cL_law 297 = .ok (.aload_n 0, 1) := by decide +kernel
theorem dL_law_298 : decode cL_law 298 = .ok (.iload_n 3, 1) := by decide +kernel
theorem dL_law_299 : decode cL_law 299 = .ok (.iconst 1, 1) := by decide +kernel
theorem dL_law_300 : decode cL_law 300 = .ok (.iadd, 1) := by decide +kernel
theorem dL_law_301 : decode cL_law 301 = .ok (.iaload, 1) := by decide +kernel
theorem dL_law_302 : decode cL_law 302 = .ok (.invokevirtual 26, 3) := by decide +kernel
theorem dL_law_305 : decode cL_law 305 = .ok (.pop, 1) := by decide +kernel
theorem dL_law_306 : decode cL_law 306 = .ok (.goto 988, 3) := by decide +kernel
theorem dL_law_309 : decode cL_law 309 = .ok (.aload_n 1, 1) := by decide +kernel
theorem dL_law_310 : decode cL_law 310 = .ok (.aload_n 0, 1) := by decide +kernel
theorem dL_law_311 : decode cL_law 311 = .ok (.iload_n 3, 1) := by decide +kernel
theorem dL_law_312 : decode cL_law 312 = .ok (.iconst 1, 1) := by decide +kernel
theorem dL_law_313 : decode cL_law 313 = .ok (.iadd, 1) := by decide +kernel
theorem dL_law_314 : decode cL_law 314 = .ok (.iaload, 1) := by decide +kernel
theorem dL_law_315 : decode cL_law 315 = .ok (.invokevirtual 27, 3) := by decide +kernel
theorem dL_law_318 : decode cL_law 318 = .ok (.pop, 1) := by decide +kernel
theorem dL_law_319 : decode cL_law 319 = .ok (.aload_n 2, 1) := by decide +kernel
theorem dL_law_320 : decode cL_law 320 = .ok (.aload_n 0, 1) := by decide +kernel
theorem dL_law_321 : decode cL_law 321 = .ok (.iload_n 3, 1) := by decide +kernel
theorem dL_law_322 : decode cL_law 322 = .ok (.iconst 1, 1) := by decide +kernel
theorem dL_law_323 : decode cL_law 323 = .ok (.iadd, 1) := by decide +kernel
theorem dL_law_324 : decode cL_law 324 = .ok (.iaload, 1) := by decide +kernel
theorem dL_law_325 : decode cL_law 325 = .ok (.invokevirtual 30, 3) := by decide +kernel
theorem dL_law_328 : decode cL_law 328 = .ok (.pop, 1) := by decide +kernel
theorem dL_law_329 : decode cL_law 329 = .ok (.goto 965, 3) := by decide +kernel
theorem dL_law_332 : decode cL_law 332 = .ok (.aload_n 1, 1) := by decide +kernel
theorem dL_law_333 : decode cL_law 333 = .ok (.aload_n 0, 1) := by decide +kernel
theorem dL_law_334 : decode cL_law 334 = .ok (.iload_n 3, 1) := by decide +kernel
theorem dL_law_335 : decode cL_law 335 = .ok (.iconst 1, 1) := by decide +kernel
theorem dL_law_336 : decode cL_law 336 = .ok (.iadd, 1) := by decide +kernel
theorem dL_law_337 : decode cL_law 337 = .ok (.iaload, 1) := by decide +kernel
theorem dL_law_338 : decode cL_law 338 = .ok (.aload_n 0, 1) := by decide +kernel
theorem dL_law_339 : decode cL_law 339 = .ok (.iload_n 3, 1) := by decide +kernel
theorem dL_law_340 : decode cL_law 340 = .ok (.iconst 2, 1) := by decide +kernel
theorem dL_law_341 : decode cL_law 341 = .ok (.iadd, 1) := by decide +kernel
theorem dL_law_342 : decode cL_law 342 = .ok (.iaload, 1) := by decide +kernel
theorem dL_law_343 : decode cL_law 343 = .ok (.invokevirtual 31, 3) := by decide +kernel
theorem dL_law_346 : decode cL_law 346 = .ok (.pop, 1) := by decide +kernel
theorem dL_law_347 : decode cL_law 347 = .ok (.aload_n 2, 1) := by decide +kernel
theorem dL_law_348 : decode cL_law 348 = .ok (.aload_n 0, 1) := by decide +kernel
theorem dL_law_349 : decode cL_law 349 = .ok (.iload_n 3, 1) := by decide +kernel
theorem dL_law_350 : decode cL_law 350 = .ok (.iconst 1, 1) := by decide +kernel
theorem dL_law_351 : decode cL_law 351 = .ok (.iadd, 1) := by decide +kernel
theorem dL_law_352 : decode cL_law 352 = .ok (.iaload, 1) := by decide +kernel
theorem dL_law_353 : decode cL_law 353 = .ok (.aload_n 0, 1) := by decide +kernel
theorem dL_law_354 : decode cL_law 354 = .ok (.iload_n 3, 1) := by decide +kernel
theorem dL_law_355 : decode cL_law 355 = .ok (.iconst 2, 1) := by decide +kernel
theorem dL_law_356 : decode cL_law 356 = .ok (.iadd, 1) := by decide +kernel
theorem dL_law_357 : decode cL_law 357 = .ok (.iaload, 1) := by decide +kernel
theorem dL_law_358 : decode cL_law 358 = .ok (.invokevirtual 35, 3) := by decide +kernel
theorem dL_law_361 : decode cL_law 361 = .ok (.pop, 1) := by decide +kernel
theorem dL_law_362 : decode cL_law 362 = .ok (.goto 932, 3) := by decide +kernel
theorem dL_law_365 : decode cL_law 365 = .ok (.aload_n 1, 1) := by decide +kernel
theorem dL_law_366 : decode cL_law 366 = .ok (.aload_n 0, 1) := by decide +kernel
theorem dL_law_367 : decode cL_law 367 = .ok (.iload_n 3, 1) := by decide +kernel
theorem dL_law_368 : decode cL_law 368 = .ok (.iconst 1, 1) := by decide +kernel
theorem dL_law_369 : decode cL_law 369 = .ok (.iadd, 1) := by decide +kernel
theorem dL_law_370 : decode cL_law 370 = .ok (.iaload, 1) := by decide +kernel
theorem dL_law_371 : decode cL_law 371 = .ok (.invokevirtual 36, 3) := by decide +kernel
theorem dL_law_374 : decode cL_law 374 = .ok (.pop, 1) := by decide +kernel
theorem dL_law_375 : decode cL_law 375 = .ok (.aload_n 2, 1) := by decide +kernel
theorem dL_law_376 : decode cL_law 376 = .ok (.aload_n 0, 1) := by decide +kernel
theorem dL_law_377 : decode cL_law 377 = .ok (.iload_n 3, 1) := by decide +kernel
theorem dL_law_378 : decode cL_law 378 = .ok (.iconst 1, 1) := by decide +kernel
theorem dL_law_379 : decode cL_law 379 = .ok (.iadd, 1) := by decide +kernel
theorem dL_law_380 : decode cL_law 380 = .ok (.iaload, 1) := by decide +kernel
theorem dL_law_381 : decode cL_law 381 = .ok (.invokevirtual 39, 3) := by decide +kernel
theorem dL_law_384 : decode cL_law 384 = .ok (.pop, 1) := by decide +kernel
theorem dL_law_385 : decode cL_law 385 = .ok (.goto 909, 3) := by decide +kernel
theorem dL_law_388 : decode cL_law 388 = .ok (.aload_n 1, 1) := by decide +kernel
theorem dL_law_389 : decode cL_law 389 = .ok (.aload_n 0, 1) := by decide +kernel
theorem dL_law_390 : decode cL_law 390 = .ok (.iload_n 3, 1) := by decide +kernel
theorem dL_law_391 : decode cL_law 391 = .ok (.iconst 1, 1) := by decide +kernel
theorem dL_law_392 : decode cL_law 392 = .ok (.iadd, 1) := by decide +kernel
theorem dL_law_393 : decode cL_law 393 = .ok (.iaload, 1) := by decide +kernel
theorem dL_law_394 : decode cL_law 394 = .ok (.aload_n 0, 1) := by decide +kernel
theorem dL_law_395 : decode cL_law 395 = .ok (.iload_n 3, 1) := by decide +kernel
theorem dL_law_396 : decode cL_law 396 = .ok (.iconst 2, 1) := by decide +kernel
theorem dL_law_397 : decode cL_law 397 = .ok (.iadd, 1) := by decide +kernel
theorem dL_law_398 : decode cL_law 398 = .ok (.iaload, 1) := by decide +kernel
theorem dL_law_399 : decode cL_law 399 = .ok (.invokevirtual 40, 3) := by decide +kernel
theorem dL_law_402 : decode cL_law 402 = .ok (.pop, 1) := by decide +kernel
theorem dL_law_403 : decode cL_law 403 = .ok (.aload_n 2, 1) := by decide +kernel
theorem dL_law_404 : decode cL_law 404 = .ok (.aload_n 0, 1) := by decide +kernel
theorem dL_law_405 : decode cL_law 405 = .ok (.iload_n 3, 1) := by decide +kernel
theorem dL_law_406 : decode cL_law 406 = .ok (.iconst 1, 1) := by decide +kernel
theorem dL_law_407 : decode cL_law 407 = .ok (.iadd, 1) := by decide +kernel
theorem dL_law_408 : decode cL_law 408 = .ok (.iaload, 1) := by decide +kernel
theorem dL_law_409 : decode cL_law 409 = .ok (.aload_n 0, 1) := by decide +kernel
theorem dL_law_410 : decode cL_law 410 = .ok (.iload_n 3, 1) := by decide +kernel
theorem dL_law_411 : decode cL_law 411 = .ok (.iconst 2, 1) := by decide +kernel
theorem dL_law_412 : decode cL_law 412 = .ok (.iadd, 1) := by decide +kernel
theorem dL_law_413 : decode cL_law 413 = .ok (.iaload, 1) := by decide +kernel
theorem dL_law_414 : decode cL_law 414 = .ok (.invokevirtual 43, 3) := by decide +kernel
theorem dL_law_417 : decode cL_law 417 = .ok (.pop, 1) := by decide +kernel
theorem dL_law_418 : decode cL_law 418 = .ok (.goto 876, 3) := by decide +kernel
theorem dL_law_421 : decode cL_law 421 = .ok (.aload_n 1, 1) := by decide +kernel
theorem dL_law_422 : decode cL_law 422 = .ok (.aload_n 0, 1) := by decide +kernel
theorem dL_law_423 : decode cL_law 423 = .ok (.iload_n 3, 1) := by decide +kernel
theorem dL_law_424 : decode cL_law 424 = .ok (.iconst 1, 1) := by decide +kernel
theorem dL_law_425 : decode cL_law 425 = .ok (.iadd, 1) := by decide +kernel
theorem dL_law_426 : decode cL_law 426 = .ok (.iaload, 1) := by decide +kernel
theorem dL_law_427 : decode cL_law 427 = .ok (.invokevirtual 44, 3) := by decide +kernel
theorem dL_law_430 : decode cL_law 430 = .ok (.pop, 1) := by decide +kernel
theorem dL_law_431 : decode cL_law 431 = .ok (.aload_n 2, 1) := by decide +kernel
theorem dL_law_432 : decode cL_law 432 = .ok (.aload_n 0, 1) := by decide +kernel
theorem dL_law_433 : decode cL_law 433 = .ok (.iload_n 3, 1) := by decide +kernel
theorem dL_law_434 : decode cL_law 434 = .ok (.iconst 1, 1) := by decide +kernel
theorem dL_law_435 : decode cL_law 435 = .ok (.iadd, 1) := by decide +kernel
theorem dL_law_436 : decode cL_law 436 = .ok (.iaload, 1) := by decide +kernel
theorem dL_law_437 : decode cL_law 437 = .ok (.invokevirtual 47, 3) := by decide +kernel
theorem dL_law_440 : decode cL_law 440 = .ok (.pop, 1) := by decide +kernel
theorem dL_law_441 : decode cL_law 441 = .ok (.goto 853, 3) := by decide +kernel
theorem dL_law_444 : decode cL_law 444 = .ok (.aload_n 1, 1) := by decide +kernel
theorem dL_law_445 : decode cL_law 445 = .ok (.aload_n 0, 1) := by decide +kernel
theorem dL_law_446 : decode cL_law 446 = .ok (.iload_n 3, 1) := by decide +kernel
theorem dL_law_447 : decode cL_law 447 = .ok (.iconst 1, 1) := by decide +kernel
theorem dL_law_448 : decode cL_law 448 = .ok (.iadd, 1) := by decide +kernel
theorem dL_law_449 : decode cL_law 449 = .ok (.iaload, 1) := by decide +kernel
theorem dL_law_450 : decode cL_law 450 = .ok (.invokevirtual 48, 3) := by decide +kernel
theorem dL_law_453 : decode cL_law 453 = .ok (.pop, 1) := by decide +kernel
theorem dL_law_454 : decode cL_law 454 = .ok (.aload_n 2, 1) := by decide +kernel
theorem dL_law_455 : decode cL_law 455 = .ok (.aload_n 0, 1) := by decide +kernel
theorem dL_law_456 : decode cL_law 456 = .ok (.iload_n 3, 1) := by decide +kernel
theorem dL_law_457 : decode cL_law 457 = .ok (.iconst 1, 1) := by decide +kernel
theorem dL_law_458 : decode cL_law 458 = .ok (.iadd, 1) := by decide +kernel
theorem dL_law_459 : decode cL_law 459 = .ok (.iaload, 1) := by decide +kernel
theorem dL_law_460 : decode cL_law 460 = .ok (.invokevirtual 51, 3) := by decide +kernel
theorem dL_law_463 : decode cL_law 463 = .ok (.pop, 1) := by decide +kernel
theorem dL_law_464 : decode cL_law 464 = .ok (.goto 830, 3) := by decide +kernel
theorem dL_law_467 : decode cL_law 467 = .ok (.aload_n 1, 1) := by decide +kernel
theorem dL_law_468 : decode cL_law 468 = .ok (.aload_n 0, 1) := by decide +kernel
theorem dL_law_469 : decode cL_law 469 = .ok (.iload_n 3, 1) := by decide +kernel
theorem dL_law_470 : decode cL_law 470 = .ok (.iconst 1, 1) := by decide +kernel
theorem dL_law_471 : decode cL_law 471 = .ok (.iadd, 1) := by decide +kernel
theorem dL_law_472 : decode cL_law 472 = .ok (.iaload, 1) := by decide +kernel
theorem dL_law_473 : decode cL_law 473 = .ok (.aload_n 0, 1) := by decide +kernel
theorem dL_law_474 : decode cL_law 474 = .ok (.iload_n 3, 1) := by decide +kernel
theorem dL_law_475 : decode cL_law 475 = .ok (.iconst 2, 1) := by decide +kernel
theorem dL_law_476 : decode cL_law 476 = .ok (.iadd, 1) := by decide +kernel
theorem dL_law_477 : decode cL_law 477 = .ok (.iaload, 1) := by decide +kernel
theorem dL_law_478 : decode cL_law 478 = .ok (.invokevirtual 52, 3) := by decide +kernel
theorem dL_law_481 : decode cL_law 481 = .ok (.pop, 1) := by decide +kernel
theorem dL_law_482 : decode cL_law 482 = .ok (.aload_n 2, 1) := by decide +kernel
theorem dL_law_483 : decode cL_law 483 = .ok (.aload_n 0, 1) := by decide +kernel
theorem dL_law_484 : decode cL_law 484 = .ok (.iload_n 3, 1) := by decide +kernel
theorem dL_law_485 : decode cL_law 485 = .ok (.iconst 1, 1) := by decide +kernel
theorem dL_law_486 : decode cL_law 486 = .ok (.iadd, 1) := by decide +kernel
theorem dL_law_487 : decode cL_law 487 = .ok (.iaload, 1) := by decide +kernel
theorem dL_law_488 : decode cL_law 488 = .ok (.aload_n 0, 1) := by decide +kernel
theorem dL_law_489 : decode cL_law 489 = .ok (.iload_n 3, 1) := by decide +kernel
theorem dL_law_490 : decode cL_law 490 = .ok (.iconst 2, 1) := by decide +kernel
theorem dL_law_491 : decode cL_law 491 = .ok (.iadd, 1) := by decide +kernel
theorem dL_law_492 : decode cL_law 492 = .ok (.iaload, 1) := by decide +kernel
theorem dL_law_493 : decode cL_law 493 = .ok (.invokevirtual 55, 3) := by decide +kernel
theorem dL_law_496 : decode cL_law 496 = .ok (.pop, 1) := by decide +kernel
theorem dL_law_497 : decode cL_law 497 = .ok (.goto 797, 3) := by decide +kernel
theorem dL_law_500 : decode cL_law 500 = .ok (.aload_n 1, 1) := by decide +kernel
theorem dL_law_501 : decode cL_law 501 = .ok (.aload_n 0, 1) := by decide +kernel
theorem dL_law_502 : decode cL_law 502 = .ok (.iload_n 3, 1) := by decide +kernel
theorem dL_law_503 : decode cL_law 503 = .ok (.iconst 1, 1) := by decide +kernel
theorem dL_law_504 : decode cL_law 504 = .ok (.iadd, 1) := by decide +kernel
theorem dL_law_505 : decode cL_law 505 = .ok (.iaload, 1) := by decide +kernel
theorem dL_law_506 : decode cL_law 506 = .ok (.invokevirtual 56, 3) := by decide +kernel
theorem dL_law_509 : decode cL_law 509 = .ok (.pop, 1) := by decide +kernel
theorem dL_law_510 : decode cL_law 510 = .ok (.aload_n 2, 1) := by decide +kernel
theorem dL_law_511 : decode cL_law 511 = .ok (.aload_n 0, 1) := by decide +kernel
theorem dL_law_512 : decode cL_law 512 = .ok (.iload_n 3, 1) := by decide +kernel
theorem dL_law_513 : decode cL_law 513 = .ok (.iconst 1, 1) := by decide +kernel
theorem dL_law_514 : decode cL_law 514 = .ok (.iadd, 1) := by decide +kernel
theorem dL_law_515 : decode cL_law 515 = .ok (.iaload, 1) := by decide +kernel
theorem dL_law_516 : decode cL_law 516 = .ok (.invokevirtual 59, 3) := by decide +kernel
theorem dL_law_519 : decode cL_law 519 = .ok (.pop, 1) := by decide +kernel
theorem dL_law_520 : decode cL_law 520 = .ok (.goto 774, 3) := by decide +kernel
theorem dL_law_523 : decode cL_law 523 = .ok (.aload_n 1, 1) := by decide +kernel
theorem dL_law_524 : decode cL_law 524 = .ok (.aload_n 0, 1) := by decide +kernel
theorem dL_law_525 : decode cL_law 525 = .ok (.iload_n 3, 1) := by decide +kernel
theorem dL_law_526 : decode cL_law 526 = .ok (.iconst 1, 1) := by decide +kernel
theorem dL_law_527 : decode cL_law 527 = .ok (.iadd, 1) := by decide +kernel
theorem dL_law_528 : decode cL_law 528 = .ok (.iaload, 1) := by decide +kernel
theorem dL_law_529 : decode cL_law 529 = .ok (.invokevirtual 60, 3) := by decide +kernel
theorem dL_law_532 : decode cL_law 532 = .ok (.pop, 1) := by decide +kernel
theorem dL_law_533 : decode cL_law 533 = .ok (.aload_n 2, 1) := by decide +kernel
theorem dL_law_534 : decode cL_law 534 = .ok (.aload_n 0, 1) := by decide +kernel
theorem dL_law_535 : decode cL_law 535 = .ok (.iload_n 3, 1) := by decide +kernel
theorem dL_law_536 : decode cL_law 536 = .ok (.iconst 1, 1) := by decide +kernel
theorem dL_law_537 : decode cL_law 537 = .ok (.iadd, 1) := by decide +kernel
theorem dL_law_538 : decode cL_law 538 = .ok (.iaload, 1) := by decide +kernel
theorem dL_law_539 : decode cL_law 539 = .ok (.invokevirtual 63, 3) := by decide +kernel
theorem dL_law_542 : decode cL_law 542 = .ok (.pop, 1) := by decide +kernel
theorem dL_law_543 : decode cL_law 543 = .ok (.goto 751, 3) := by decide +kernel
theorem dL_law_546 : decode cL_law 546 = .ok (.aload_n 1, 1) := by decide +kernel
theorem dL_law_547 : decode cL_law 547 = .ok (.aload_n 0, 1) := by decide +kernel
theorem dL_law_548 : decode cL_law 548 = .ok (.iload_n 3, 1) := by decide +kernel
theorem dL_law_549 : decode cL_law 549 = .ok (.iconst 1, 1) := by decide +kernel
theorem dL_law_550 : decode cL_law 550 = .ok (.iadd, 1) := by decide +kernel
theorem dL_law_551 : decode cL_law 551 = .ok (.iaload, 1) := by decide +kernel
theorem dL_law_552 : decode cL_law 552 = .ok (.invokevirtual 64, 3) := by decide +kernel
theorem dL_law_555 : decode cL_law 555 = .ok (.pop, 1) := by decide +kernel
theorem dL_law_556 : decode cL_law 556 = .ok (.aload_n 2, 1) := by decide +kernel
theorem dL_law_557 : decode cL_law 557 = .ok (.aload_n 0, 1) := by decide +kernel
theorem dL_law_558 : decode cL_law 558 = .ok (.iload_n 3, 1) := by decide +kernel
theorem dL_law_559 : decode cL_law 559 = .ok (.iconst 1, 1) := by decide +kernel
theorem dL_law_560 : decode cL_law 560 = .ok (.iadd, 1) := by decide +kernel
theorem dL_law_561 : decode cL_law 561 = .ok (.iaload, 1) := by decide +kernel
theorem dL_law_562 : decode cL_law 562 = .ok (.invokevirtual 67, 3) := by decide +kernel
theorem dL_law_565 : decode cL_law 565 = .ok (.pop, 1) := by decide +kernel
theorem dL_law_566 : decode cL_law 566 = .ok (.goto 728, 3) := by decide +kernel
theorem dL_law_569 : decode cL_law 569 = .ok (.aload_n 1, 1) := by decide +kernel
theorem dL_law_570 : decode cL_law 570 = .ok (.aload_n 0, 1) := by decide +kernel
theorem dL_law_571 : decode cL_law 571 = .ok (.iload_n 3, 1) := by decide +kernel
theorem dL_law_572 : decode cL_law 572 = .ok (.iconst 1, 1) := by decide +kernel
theorem dL_law_573 : decode cL_law 573 = .ok (.iadd, 1) := by decide +kernel
theorem dL_law_574 : decode cL_law 574 = .ok (.iaload, 1) := by decide +kernel
theorem dL_law_575 : decode cL_law 575 = .ok (.invokevirtual 68, 3) := by decide +kernel
theorem dL_law_578 : decode cL_law 578 = .ok (.pop, 1) := by decide +kernel
theorem dL_law_579 : decode cL_law 579 = .ok (.aload_n 2, 1) := by decide +kernel
theorem dL_law_580 : decode cL_law 580 = .ok (.aload_n 0, 1) := by decide +kernel
theorem dL_law_581 : decode cL_law 581 = .ok (.iload_n 3, 1) := by decide +kernel
theorem dL_law_582 : decode cL_law 582 = .ok (.iconst 1, 1) := by decide +kernel
theorem dL_law_583 : decode cL_law 583 = .ok (.iadd, 1) := by decide +kernel
theorem dL_law_584 : decode cL_law 584 = .ok (.iaload, 1) := by decide +kernel
theorem dL_law_585 : decode cL_law 585 = .ok (.invokevirtual 71, 3) := by decide +kernel
theorem dL_law_588 : decode cL_law 588 = .ok (.pop, 1) := by decide +kernel
theorem dL_law_589 : decode cL_law 589 = .ok (.goto 705, 3) := by decide +kernel
theorem dL_law_592 : decode cL_law 592 = .ok (.aload_n 1, 1) := by decide +kernel
theorem dL_law_593 : decode cL_law 593 = .ok (.aload_n 0, 1) := by decide +kernel
theorem dL_law_594 : decode cL_law 594 = .ok (.iload_n 3, 1) := by decide +kernel
theorem dL_law_595 : decode cL_law 595 = .ok (.iconst 1, 1) := by decide +kernel
theorem dL_law_596 : decode cL_law 596 = .ok (.iadd, 1) := by decide +kernel
theorem dL_law_597 : decode cL_law 597 = .ok (.iaload, 1) := by decide +kernel
theorem dL_law_598 : decode cL_law 598 = .ok (.aload_n 0, 1) := by decide +kernel
theorem dL_law_599 : decode cL_law 599 = .ok (.iload_n 3, 1) := by decide +kernel
theorem dL_law_600 : decode cL_law 600 = .ok (.iconst 2, 1) := by decide +kernel
theorem dL_law_601 : decode cL_law 601 = .ok (.iadd, 1) := by decide +kernel
theorem dL_law_602 : decode cL_law 602 = .ok (.iaload, 1) := by decide +kernel
theorem dL_law_603 : decode cL_law 603 = .ok (.invokevirtual 72, 3) := by decide +kernel
theorem dL_law_606 : decode cL_law 606 = .ok (.pop, 1) := by decide +kernel
theorem dL_law_607 : decode cL_law 607 = .ok (.aload_n 2, 1) := by decide +kernel
theorem dL_law_608 : decode cL_law 608 = .ok (.aload_n 0, 1) := by decide +kernel
theorem dL_law_609 : decode cL_law 609 = .ok (.iload_n 3, 1) := by decide +kernel
theorem dL_law_610 : decode cL_law 610 = .ok (.iconst 1, 1) := by decide +kernel
theorem dL_law_611 : decode cL_law 611 = .ok (.iadd, 1) := by decide +kernel
theorem dL_law_612 : decode cL_law 612 = .ok (.iaload, 1) := by decide +kernel
theorem dL_law_613 : decode cL_law 613 = .ok (.aload_n 0, 1) := by decide +kernel
theorem dL_law_614 : decode cL_law 614 = .ok (.iload_n 3, 1) := by decide +kernel
theorem dL_law_615 : decode cL_law 615 = .ok (.iconst 2, 1) := by decide +kernel
theorem dL_law_616 : decode cL_law 616 = .ok (.iadd, 1) := by decide +kernel
theorem dL_law_617 : decode cL_law 617 = .ok (.iaload, 1) := by decide +kernel
theorem dL_law_618 : decode cL_law 618 = .ok (.invokevirtual 75, 3) := by decide +kernel
theorem dL_law_621 : decode cL_law 621 = .ok (.pop, 1) := by decide +kernel
theorem dL_law_622 : decode cL_law 622 = .ok (.goto 672, 3) := by decide +kernel
theorem dL_law_625 : decode cL_law 625 = .ok (.aload_n 1, 1) := by decide +kernel
theorem dL_law_626 : decode cL_law 626 = .ok (.aload_n 0, 1) := by decide +kernel
theorem dL_law_627 : decode cL_law 627 = .ok (.iload_n 3, 1) := by decide +kernel
theorem dL_law_628 : decode cL_law 628 = .ok (.iconst 1, 1) := by decide +kernel
theorem dL_law_629 : decode cL_law 629 = .ok (.iadd, 1) := by decide +kernel
theorem dL_law_630 : decode cL_law 630 = .ok (.iaload, 1) := by decide +kernel
theorem dL_law_631 : decode cL_law 631 = .ok (.aload_n 0, 1) := by decide +kernel
theorem dL_law_632 : decode cL_law 632 = .ok (.iload_n 3, 1) := by decide +kernel
theorem dL_law_633 : decode cL_law 633 = .ok (.iconst 2, 1) := by decide +kernel
theorem dL_law_634 : decode cL_law 634 = .ok (.iadd, 1) := by decide +kernel
theorem dL_law_635 : decode cL_law 635 = .ok (.iaload, 1) := by decide +kernel
theorem dL_law_636 : decode cL_law 636 = .ok (.invokevirtual 76, 3) := by decide +kernel
theorem dL_law_639 : decode cL_law 639 = .ok (.pop, 1) := by decide +kernel
theorem dL_law_640 : decode cL_law 640 = .ok (.aload_n 2, 1) := by decide +kernel
theorem dL_law_641 : decode cL_law 641 = .ok (.aload_n 0, 1) := by decide +kernel
theorem dL_law_642 : decode cL_law 642 = .ok (.iload_n 3, 1) := by decide +kernel
theorem dL_law_643 : decode cL_law 643 = .ok (.iconst 1, 1) := by decide +kernel
theorem dL_law_644 : decode cL_law 644 = .ok (.iadd, 1) := by decide +kernel
theorem dL_law_645 : decode cL_law 645 = .ok (.iaload, 1) := by decide +kernel
theorem dL_law_646 : decode cL_law 646 = .ok (.aload_n 0, 1) := by decide +kernel
theorem dL_law_647 : decode cL_law 647 = .ok (.iload_n 3, 1) := by decide +kernel
theorem dL_law_648 : decode cL_law 648 = .ok (.iconst 2, 1) := by decide +kernel
theorem dL_law_649 : decode cL_law 649 = .ok (.iadd, 1) := by decide +kernel
theorem dL_law_650 : decode cL_law 650 = .ok (.iaload, 1) := by decide +kernel
theorem dL_law_651 : decode cL_law 651 = .ok (.invokevirtual 79, 3) := by decide +kernel
theorem dL_law_654 : decode cL_law 654 = .ok (.pop, 1) := by decide +kernel
theorem dL_law_655 : decode cL_law 655 = .ok (.goto 639, 3) := by decide +kernel
theorem dL_law_658 : decode cL_law 658 = .ok (.aload_n 1, 1) := by decide +kernel
theorem dL_law_659 : decode cL_law 659 = .ok (.aload_n 0, 1) := by decide +kernel
theorem dL_law_660 : decode cL_law 660 = .ok (.iload_n 3, 1) := by decide +kernel
theorem dL_law_661 : decode cL_law 661 = .ok (.iconst 1, 1) := by decide +kernel
theorem dL_law_662 : decode cL_law 662 = .ok (.iadd, 1) := by decide +kernel
theorem dL_law_663 : decode cL_law 663 = .ok (.iaload, 1) := by decide +kernel
theorem dL_law_664 : decode cL_law 664 = .ok (.aload_n 0, 1) := by decide +kernel
theorem dL_law_665 : decode cL_law 665 = .ok (.iload_n 3, 1) := by decide +kernel
theorem dL_law_666 : decode cL_law 666 = .ok (.iconst 2, 1) := by decide +kernel
theorem dL_law_667 : decode cL_law 667 = .ok (.iadd, 1) := by decide +kernel
theorem dL_law_668 : decode cL_law 668 = .ok (.iaload, 1) := by decide +kernel
theorem dL_law_669 : decode cL_law 669 = .ok (.invokevirtual 80, 3) := by decide +kernel
theorem dL_law_672 : decode cL_law 672 = .ok (.pop2, 1) := by decide +kernel
theorem dL_law_673 : decode cL_law 673 = .ok (.aload_n 2, 1) := by decide +kernel
theorem dL_law_674 : decode cL_law 674 = .ok (.aload_n 0, 1) := by decide +kernel
theorem dL_law_675 : decode cL_law 675 = .ok (.iload_n 3, 1) := by decide +kernel
theorem dL_law_676 : decode cL_law 676 = .ok (.iconst 1, 1) := by decide +kernel
theorem dL_law_677 : decode cL_law 677 = .ok (.iadd, 1) := by decide +kernel
theorem dL_law_678 : decode cL_law 678 = .ok (.iaload, 1) := by decide +kernel
theorem dL_law_679 : decode cL_law 679 = .ok (.aload_n 0, 1) := by decide +kernel
theorem dL_law_680 : decode cL_law 680 = .ok (.iload_n 3, 1) := by decide +kernel
theorem dL_law_681 : decode cL_law 681 = .ok (.iconst 2, 1) := by decide +kernel
theorem dL_law_682 : decode cL_law 682 = .ok (.iadd, 1) := by decide +kernel
theorem dL_law_683 : decode cL_law 683 = .ok (.iaload, 1) := by decide +kernel
theorem dL_law_684 : decode cL_law 684 = .ok (.invokevirtual 84, 3) := by decide +kernel
theorem dL_law_687 : decode cL_law 687 = .ok (.pop2, 1) := by decide +kernel
theorem dL_law_688 : decode cL_law 688 = .ok (.goto 606, 3) := by decide +kernel
theorem dL_law_691 : decode cL_law 691 = .ok (.aload_n 1, 1) := by decide +kernel
theorem dL_law_692 : decode cL_law 692 = .ok (.aload_n 0, 1) := by decide +kernel
theorem dL_law_693 : decode cL_law 693 = .ok (.iload_n 3, 1) := by decide +kernel
theorem dL_law_694 : decode cL_law 694 = .ok (.iconst 1, 1) := by decide +kernel
theorem dL_law_695 : decode cL_law 695 = .ok (.iadd, 1) := by decide +kernel
theorem dL_law_696 : decode cL_law 696 = .ok (.iaload, 1) := by decide +kernel
theorem dL_law_697 : decode cL_law 697 = .ok (.aload_n 0, 1) := by decide +kernel
theorem dL_law_698 : decode cL_law 698 = .ok (.iload_n 3, 1) := by decide +kernel
theorem dL_law_699 : decode cL_law 699 = .ok (.iconst 2, 1) := by decide +kernel
theorem dL_law_700 : decode cL_law 700 = .ok (.iadd, 1) := by decide +kernel
theorem dL_law_701 : decode cL_law 701 = .ok (.iaload, 1) := by decide +kernel
theorem dL_law_702 : decode cL_law 702 = .ok (.invokevirtual 85, 3) := by decide +kernel
theorem dL_law_705 : decode cL_law 705 = .ok (.pop, 1) := by decide +kernel
theorem dL_law_706 : decode cL_law 706 = .ok (.aload_n 2, 1) := by decide +kernel
theorem dL_law_707 : decode cL_law 707 = .ok (.aload_n 0, 1) := by decide +kernel
theorem dL_law_708 : decode cL_law 708 = .ok (.iload_n 3, 1) := by decide +kernel
theorem dL_law_709 : decode cL_law 709 = .ok (.iconst 1, 1) := by decide +kernel
theorem dL_law_710 : decode cL_law 710 = .ok (.iadd, 1) := by decide +kernel
theorem dL_law_711 : decode cL_law 711 = .ok (.iaload, 1) := by decide +kernel
theorem dL_law_712 : decode cL_law 712 = .ok (.aload_n 0, 1) := by decide +kernel
theorem dL_law_713 : decode cL_law 713 = .ok (.iload_n 3, 1) := by decide +kernel
theorem dL_law_714 : decode cL_law 714 = .ok (.iconst 2, 1) := by decide +kernel
theorem dL_law_715 : decode cL_law 715 = .ok (.iadd, 1) := by decide +kernel
theorem dL_law_716 : decode cL_law 716 = .ok (.iaload, 1) := by decide +kernel
theorem dL_law_717 : decode cL_law 717 = .ok (.invokevirtual 88, 3) := by decide +kernel
theorem dL_law_720 : decode cL_law 720 = .ok (.pop, 1) := by decide +kernel
theorem dL_law_721 : decode cL_law 721 = .ok (.goto 573, 3) := by decide +kernel
theorem dL_law_724 : decode cL_law 724 = .ok (.aload_n 1, 1) := by decide +kernel
theorem dL_law_725 : decode cL_law 725 = .ok (.aload_n 0, 1) := by decide +kernel
theorem dL_law_726 : decode cL_law 726 = .ok (.iload_n 3, 1) := by decide +kernel
theorem dL_law_727 : decode cL_law 727 = .ok (.iconst 1, 1) := by decide +kernel
theorem dL_law_728 : decode cL_law 728 = .ok (.iadd, 1) := by decide +kernel
theorem dL_law_729 : decode cL_law 729 = .ok (.iaload, 1) := by decide +kernel
theorem dL_law_730 : decode cL_law 730 = .ok (.aload_n 0, 1) := by decide +kernel
theorem dL_law_731 : decode cL_law 731 = .ok (.iload_n 3, 1) := by decide +kernel
theorem dL_law_732 : decode cL_law 732 = .ok (.iconst 2, 1) := by decide +kernel
theorem dL_law_733 : decode cL_law 733 = .ok (.iadd, 1) := by decide +kernel
theorem dL_law_734 : decode cL_law 734 = .ok (.iaload, 1) := by decide +kernel
theorem dL_law_735 : decode cL_law 735 = .ok (.invokevirtual 89, 3) := by decide +kernel
theorem dL_law_738 : decode cL_law 738 = .ok (.pop, 1) := by decide +kernel
theorem dL_law_739 : decode cL_law 739 = .ok (.aload_n 2, 1) := by decide +kernel
theorem dL_law_740 : decode cL_law 740 = .ok (.aload_n 0, 1) := by decide +kernel
theorem dL_law_741 : decode cL_law 741 = .ok (.iload_n 3, 1) := by decide +kernel
theorem dL_law_742 : decode cL_law 742 = .ok (.iconst 1, 1) := by decide +kernel
theorem dL_law_743 : decode cL_law 743 = .ok (.iadd, 1) := by decide +kernel
theorem dL_law_744 : decode cL_law 744 = .ok (.iaload, 1) := by decide +kernel
theorem dL_law_745 : decode cL_law 745 = .ok (.aload_n 0, 1) := by decide +kernel
theorem dL_law_746 : decode cL_law 746 = .ok (.iload_n 3, 1) := by decide +kernel
theorem dL_law_747 : decode cL_law 747 = .ok (.iconst 2, 1) := by decide +kernel
theorem dL_law_748 : decode cL_law 748 = .ok (.iadd, 1) := by decide +kernel
theorem dL_law_749 : decode cL_law 749 = .ok (.iaload, 1) := by decide +kernel
theorem dL_law_750 : decode cL_law 750 = .ok (.invokevirtual 92, 3) := by decide +kernel
theorem dL_law_753 : decode cL_law 753 = .ok (.pop, 1) := by decide +kernel
theorem dL_law_754 : decode cL_law 754 = .ok (.goto 540, 3) := by decide +kernel
theorem dL_law_757 : decode cL_law 757 = .ok (.aload_n 1, 1) := by decide +kernel
theorem dL_law_758 : decode cL_law 758 = .ok (.aload_n 0, 1) := by decide +kernel
theorem dL_law_759 : decode cL_law 759 = .ok (.iload_n 3, 1) := by decide +kernel
theorem dL_law_760 : decode cL_law 760 = .ok (.iconst 1, 1) := by decide +kernel
theorem dL_law_761 : decode cL_law 761 = .ok (.iadd, 1) := by decide +kernel
theorem dL_law_762 : decode cL_law 762 = .ok (.iaload, 1) := by decide +kernel
theorem dL_law_763 : decode cL_law 763 = .ok (.aload_n 0, 1) := by decide +kernel
theorem dL_law_764 : decode cL_law 764 = .ok (.iload_n 3, 1) := by decide +kernel
theorem dL_law_765 : decode cL_law 765 = .ok (.iconst 2, 1) := by decide +kernel
theorem dL_law_766 : decode cL_law 766 = .ok (.iadd, 1) := by decide +kernel
theorem dL_law_767 : decode cL_law 767 = .ok (.iaload, 1) := by decide +kernel
theorem dL_law_768 : decode cL_law 768 = .ok (.invokevirtual 93, 3) := by decide +kernel
theorem dL_law_771 : decode cL_law 771 = .ok (.pop, 1) := by decide +kernel
theorem dL_law_772 : decode cL_law 772 = .ok (.aload_n 2, 1) := by decide +kernel
theorem dL_law_773 : decode cL_law 773 = .ok (.aload_n 0, 1) := by decide +kernel
theorem dL_law_774 : decode cL_law 774 = .ok (.iload_n 3, 1) := by decide +kernel
theorem dL_law_775 : decode cL_law 775 = .ok (.iconst 1, 1) := by decide +kernel
theorem dL_law_776 : decode cL_law 776 = .ok (.iadd, 1) := by decide +kernel
theorem dL_law_777 : decode cL_law 777 = .ok (.iaload, 1) := by decide +kernel
theorem dL_law_778 : decode cL_law 778 = .ok (.aload_n 0, 1) := by decide +kernel
theorem dL_law_779 : decode cL_law 779 = .ok (.iload_n 3, 1) := by decide +kernel
theorem dL_law_780 : decode cL_law 780 = .ok (.iconst 2, 1) := by decide +kernel
theorem dL_law_781 : decode cL_law 781 = .ok (.iadd, 1) := by decide +kernel
theorem dL_law_782 : decode cL_law 782 = .ok (.iaload, 1) := by decide +kernel
theorem dL_law_783 : decode cL_law 783 = .ok (.invokevirtual 96, 3) := by decide +kernel
theorem dL_law_786 : decode cL_law 786 = .ok (.pop, 1) := by decide +kernel
theorem dL_law_787 : decode cL_law 787 = .ok (.goto 507, 3) := by decide +kernel
theorem dL_law_790 : decode cL_law 790 = .ok (.aload_n 1, 1) := by decide +kernel
theorem dL_law_791 : decode cL_law 791 = .ok (.aload_n 0, 1) := by decide +kernel
theorem dL_law_792 : decode cL_law 792 = .ok (.iload_n 3, 1) := by decide +kernel
theorem dL_law_793 : decode cL_law 793 = .ok (.iconst 1, 1) := by decide +kernel
theorem dL_law_794 : decode cL_law 794 = .ok (.iadd, 1) := by decide +kernel
theorem dL_law_795 : decode cL_law 795 = .ok (.iaload, 1) := by decide +kernel
theorem dL_law_796 : decode cL_law 796 = .ok (.aload_n 0, 1) := by decide +kernel
theorem dL_law_797 : decode cL_law 797 = .ok (.iload_n 3, 1) := by decide +kernel
theorem dL_law_798 : decode cL_law 798 = .ok (.iconst 2, 1) := by decide +kernel
theorem dL_law_799 : decode cL_law 799 = .ok (.iadd, 1) := by decide +kernel
theorem dL_law_800 : decode cL_law 800 = .ok (.iaload, 1) := by decide +kernel
theorem dL_law_801 : decode cL_law 801 = .ok (.invokevirtual 97, 3) := by decide +kernel
theorem dL_law_804 : decode cL_law 804 = .ok (.pop, 1) := by decide +kernel
theorem dL_law_805 : decode cL_law 805 = .ok (.aload_n 2, 1) := by decide +kernel
theorem dL_law_806 : decode cL_law 806 = .ok (.aload_n 0, 1) := by decide +kernel
theorem dL_law_807 : decode cL_law 807 = .ok (.iload_n 3, 1) := by decide +kernel
theorem dL_law_808 : decode cL_law 808 = .ok (.iconst 1, 1) := by decide +kernel
theorem dL_law_809 : decode cL_law 809 = .ok (.iadd, 1) := by decide +kernel
theorem dL_law_810 : decode cL_law 810 = .ok (.iaload, 1) := by decide +kernel
theorem dL_law_811 : decode cL_law 811 = .ok (.aload_n 0, 1) := by decide +kernel
theorem dL_law_812 : decode cL_law 812 = .ok (.iload_n 3, 1) := by decide +kernel
theorem dL_law_813 : decode cL_law 813 = .ok (.iconst 2, 1) := by decide +kernel
theorem dL_law_814 : decode cL_law 814 = .ok (.iadd, 1) := by decide +kernel
theorem dL_law_815 : decode cL_law 815 = .ok (.iaload, 1) := by decide +kernel
theorem dL_law_816 : decode cL_law 816 = .ok (.invokevirtual 100, 3) := by decide +kernel
theorem dL_law_819 : decode cL_law 819 = .ok (.pop, 1) := by decide +kernel
theorem dL_law_820 : decode cL_law 820 = .ok (.goto 474, 3) := by decide +kernel
theorem dL_law_823 : decode cL_law 823 = .ok (.aload_n 1, 1) := by decide +kernel
theorem dL_law_824 : decode cL_law 824 = .ok (.aload_n 0, 1) := by decide +kernel
theorem dL_law_825 : decode cL_law 825 = .ok (.iload_n 3, 1) := by decide +kernel
theorem dL_law_826 : decode cL_law 826 = .ok (.iconst 1, 1) := by decide +kernel
theorem dL_law_827 : decode cL_law 827 = .ok (.iadd, 1) := by decide +kernel
theorem dL_law_828 : decode cL_law 828 = .ok (.iaload, 1) := by decide +kernel
theorem dL_law_829 : decode cL_law 829 = .ok (.aload_n 0, 1) := by decide +kernel
theorem dL_law_830 : decode cL_law 830 = .ok (.iload_n 3, 1) := by decide +kernel
theorem dL_law_831 : decode cL_law 831 = .ok (.iconst 2, 1) := by decide +kernel
theorem dL_law_832 : decode cL_law 832 = .ok (.iadd, 1) := by decide +kernel
theorem dL_law_833 : decode cL_law 833 = .ok (.iaload, 1) := by decide +kernel
theorem dL_law_834 : decode cL_law 834 = .ok (.invokevirtual 101, 3) := by decide +kernel
theorem dL_law_837 : decode cL_law 837 = .ok (.pop, 1) := by decide +kernel
theorem dL_law_838 : decode cL_law 838 = .ok (.aload_n 2, 1) := by decide +kernel
theorem dL_law_839 : decode cL_law 839 = .ok (.aload_n 0, 1) := by decide +kernel
theorem dL_law_840 : decode cL_law 840 = .ok (.iload_n 3, 1) := by decide +kernel
theorem dL_law_841 : decode cL_law 841 = .ok (.iconst 1, 1) := by decide +kernel
theorem dL_law_842 : decode cL_law 842 = .ok (.iadd, 1) := by decide +kernel
theorem dL_law_843 : decode cL_law 843 = .ok (.iaload, 1) := by decide +kernel
theorem dL_law_844 : decode cL_law 844 = .ok (.aload_n 0, 1) := by decide +kernel
theorem dL_law_845 : decode cL_law 845 = .ok (.iload_n 3, 1) := by decide +kernel
theorem dL_law_846 : decode cL_law 846 = .ok (.iconst 2, 1) := by decide +kernel
theorem dL_law_847 : decode cL_law 847 = .ok (.iadd, 1) := by decide +kernel
theorem dL_law_848 : decode cL_law 848 = .ok (.iaload, 1) := by decide +kernel
theorem dL_law_849 : decode cL_law 849 = .ok (.invokevirtual 104, 3) := by decide +kernel
theorem dL_law_852 : decode cL_law 852 = .ok (.pop, 1) := by decide +kernel
theorem dL_law_853 : decode cL_law 853 = .ok (.goto 441, 3) := by decide +kernel
theorem dL_law_856 : decode cL_law 856 = .ok (.aload_n 1, 1) := by decide +kernel
theorem dL_law_857 : decode cL_law 857 = .ok (.aload_n 0, 1) := by decide +kernel
theorem dL_law_858 : decode cL_law 858 = .ok (.iload_n 3, 1) := by decide +kernel
theorem dL_law_859 : decode cL_law 859 = .ok (.iconst 1, 1) := by decide +kernel
theorem dL_law_860 : decode cL_law 860 = .ok (.iadd, 1) := by decide +kernel
theorem dL_law_861 : decode cL_law 861 = .ok (.iaload, 1) := by decide +kernel
theorem dL_law_862 : decode cL_law 862 = .ok (.aload_n 0, 1) := by decide +kernel
theorem dL_law_863 : decode cL_law 863 = .ok (.iload_n 3, 1) := by decide +kernel
theorem dL_law_864 : decode cL_law 864 = .ok (.iconst 2, 1) := by decide +kernel
theorem dL_law_865 : decode cL_law 865 = .ok (.iadd, 1) := by decide +kernel
theorem dL_law_866 : decode cL_law 866 = .ok (.iaload, 1) := by decide +kernel
theorem dL_law_867 : decode cL_law 867 = .ok (.invokevirtual 105, 3) := by decide +kernel
theorem dL_law_870 : decode cL_law 870 = .ok (.pop, 1) := by decide +kernel
theorem dL_law_871 : decode cL_law 871 = .ok (.aload_n 2, 1) := by decide +kernel
theorem dL_law_872 : decode cL_law 872 = .ok (.aload_n 0, 1) := by decide +kernel
theorem dL_law_873 : decode cL_law 873 = .ok (.iload_n 3, 1) := by decide +kernel
theorem dL_law_874 : decode cL_law 874 = .ok (.iconst 1, 1) := by decide +kernel
theorem dL_law_875 : decode cL_law 875 = .ok (.iadd, 1) := by decide +kernel
theorem dL_law_876 : decode cL_law 876 = .ok (.iaload, 1) := by decide +kernel
theorem dL_law_877 : decode cL_law 877 = .ok (.aload_n 0, 1) := by decide +kernel
theorem dL_law_878 : decode cL_law 878 = .ok (.iload_n 3, 1) := by decide +kernel
theorem dL_law_879 : decode cL_law 879 = .ok (.iconst 2, 1) := by decide +kernel
theorem dL_law_880 : decode cL_law 880 = .ok (.iadd, 1) := by decide +kernel
theorem dL_law_881 : decode cL_law 881 = .ok (.iaload, 1) := by decide +kernel
theorem dL_law_882 : decode cL_law 882 = .ok (.invokevirtual 108, 3) := by decide +kernel
theorem dL_law_885 : decode cL_law 885 = .ok (.pop, 1) := by decide +kernel
theorem dL_law_886 : decode cL_law 886 = .ok (.goto 408, 3) := by decide +kernel
theorem dL_law_889 : decode cL_law 889 = .ok (.aload_n 1, 1) := by decide +kernel
theorem dL_law_890 : decode cL_law 890 = .ok (.aload_n 0, 1) := by decide +kernel
theorem dL_law_891 : decode cL_law 891 = .ok (.iload_n 3, 1) := by decide +kernel
theorem dL_law_892 : decode cL_law 892 = .ok (.iconst 1, 1) := by decide +kernel
theorem dL_law_893 : decode cL_law 893 = .ok (.iadd, 1) := by decide +kernel
theorem dL_law_894 : decode cL_law 894 = .ok (.iaload, 1) := by decide +kernel
theorem dL_law_895 : decode cL_law 895 = .ok (.aload_n 0, 1) := by decide +kernel
theorem dL_law_896 : decode cL_law 896 = .ok (.iload_n 3, 1) := by decide +kernel
theorem dL_law_897 : decode cL_law 897 = .ok (.iconst 2, 1) := by decide +kernel
theorem dL_law_898 : decode cL_law 898 = .ok (.iadd, 1) := by decide +kernel
theorem dL_law_899 : decode cL_law 899 = .ok (.iaload, 1) := by decide +kernel
theorem dL_law_900 : decode cL_law 900 = .ok (.invokevirtual 109, 3) := by decide +kernel
theorem dL_law_903 : decode cL_law 903 = .ok (.pop, 1) := by decide +kernel
theorem dL_law_904 : decode cL_law 904 = .ok (.aload_n 2, 1) := by decide +kernel
theorem dL_law_905 : decode cL_law 905 = .ok (.aload_n 0, 1) := by decide +kernel
theorem dL_law_906 : decode cL_law 906 = .ok (.iload_n 3, 1) := by decide +kernel
theorem dL_law_907 : decode cL_law 907 = .ok (.iconst 1, 1) := by decide +kernel
theorem dL_law_908 : decode cL_law 908 = .ok (.iadd, 1) := by decide +kernel
theorem dL_law_909 : decode cL_law 909 = .ok (.iaload, 1) := by decide +kernel
theorem dL_law_910 : decode cL_law 910 = .ok (.aload_n 0, 1) := by decide +kernel
theorem dL_law_911 : decode cL_law 911 = .ok (.iload_n 3, 1) := by decide +kernel
theorem dL_law_912 : decode cL_law 912 = .ok (.iconst 2, 1) := by decide +kernel
theorem dL_law_913 : decode cL_law 913 = .ok (.iadd, 1) := by decide +kernel
theorem dL_law_914 : decode cL_law 914 = .ok (.iaload, 1) := by decide +kernel
theorem dL_law_915 : decode cL_law 915 = .ok (.invokevirtual 112, 3) := by decide +kernel
theorem dL_law_918 : decode cL_law 918 = .ok (.pop, 1) := by decide +kernel
theorem dL_law_919 : decode cL_law 919 = .ok (.goto 375, 3) := by decide +kernel
theorem dL_law_922 : decode cL_law 922 = .ok (.aload_n 1, 1) := by decide +kernel
theorem dL_law_923 : decode cL_law 923 = .ok (.aload_n 0, 1) := by decide +kernel
theorem dL_law_924 : decode cL_law 924 = .ok (.iload_n 3, 1) := by decide +kernel
theorem dL_law_925 : decode cL_law 925 = .ok (.iconst 1, 1) := by decide +kernel
theorem dL_law_926 : decode cL_law 926 = .ok (.iadd, 1) := by decide +kernel
theorem dL_law_927 : decode cL_law 927 = .ok (.iaload, 1) := by decide +kernel
theorem dL_law_928 : decode cL_law 928 = .ok (.aload_n 0, 1) := by decide +kernel
theorem dL_law_929 : decode cL_law 929 = .ok (.iload_n 3, 1) := by decide +kernel
theorem dL_law_930 : decode cL_law 930 = .ok (.iconst 2, 1) := by decide +kernel
theorem dL_law_931 : decode cL_law 931 = .ok (.iadd, 1) := by decide +kernel
theorem dL_law_932 : decode cL_law 932 = .ok (.iaload, 1) := by decide +kernel
theorem dL_law_933 : decode cL_law 933 = .ok (.invokevirtual 113, 3) := by decide +kernel
theorem dL_law_936 : decode cL_law 936 = .ok (.pop, 1) := by decide +kernel
theorem dL_law_937 : decode cL_law 937 = .ok (.aload_n 2, 1) := by decide +kernel
theorem dL_law_938 : decode cL_law 938 = .ok (.aload_n 0, 1) := by decide +kernel
theorem dL_law_939 : decode cL_law 939 = .ok (.iload_n 3, 1) := by decide +kernel
theorem dL_law_940 : decode cL_law 940 = .ok (.iconst 1, 1) := by decide +kernel
theorem dL_law_941 : decode cL_law 941 = .ok (.iadd, 1) := by decide +kernel
theorem dL_law_942 : decode cL_law 942 = .ok (.iaload, 1) := by decide +kernel
theorem dL_law_943 : decode cL_law 943 = .ok (.aload_n 0, 1) := by decide +kernel
theorem dL_law_944 : decode cL_law 944 = .ok (.iload_n 3, 1) := by decide +kernel
theorem dL_law_945 : decode cL_law 945 = .ok (.iconst 2, 1) := by decide +kernel
theorem dL_law_946 : decode cL_law 946 = .ok (.iadd, 1) := by decide +kernel
theorem dL_law_947 : decode cL_law 947 = .ok (.iaload, 1) := by decide +kernel
theorem dL_law_948 : decode cL_law 948 = .ok (.invokevirtual 116, 3) := by decide +kernel
theorem dL_law_951 : decode cL_law 951 = .ok (.pop, 1) := by decide +kernel
theorem dL_law_952 : decode cL_law 952 = .ok (.goto 342, 3) := by decide +kernel
theorem dL_law_955 : decode cL_law 955 = .ok (.aload_n 1, 1) := by decide +kernel
theorem dL_law_956 : decode cL_law 956 = .ok (.aload_n 0, 1) := by decide +kernel
theorem dL_law_957 : decode cL_law 957 = .ok (.iload_n 3, 1) := by decide +kernel
theorem dL_law_958 : decode cL_law 958 = .ok (.iconst 1, 1) := by decide +kernel
theorem dL_law_959 : decode cL_law 959 = .ok (.iadd, 1) := by decide +kernel
theorem dL_law_960 : decode cL_law 960 = .ok (.iaload, 1) := by decide +kernel
theorem dL_law_961 : decode cL_law 961 = .ok (.aload_n 0, 1) := by decide +kernel
theorem dL_law_962 : decode cL_law 962 = .ok (.iload_n 3, 1) := by decide +kernel
theorem dL_law_963 : decode cL_law 963 = .ok (.iconst 2, 1) := by decide +kernel
theorem dL_law_964 : decode cL_law 964 = .ok (.iadd, 1) := by decide +kernel
theorem dL_law_965 : decode cL_law 965 = .ok (.iaload, 1) := by decide +kernel
theorem dL_law_966 : decode cL_law 966 = .ok (.invokevirtual 117, 3) := by decide +kernel
theorem dL_law_969 : decode cL_law 969 = .ok (.aload_n 2, 1) := by decide +kernel
theorem dL_law_970 : decode cL_law 970 = .ok (.aload_n 0, 1) := by decide +kernel
theorem dL_law_971 : decode cL_law 971 = .ok (.iload_n 3, 1) := by decide +kernel
theorem dL_law_972 : decode cL_law 972 = .ok (.iconst 1, 1) := by decide +kernel
theorem dL_law_973 : decode cL_law 973 = .ok (.iadd, 1) := by decide +kernel
theorem dL_law_974 : decode cL_law 974 = .ok (.iaload, 1) := by decide +kernel
theorem dL_law_975 : decode cL_law 975 = .ok (.aload_n 0, 1) := by decide +kernel
theorem dL_law_976 : decode cL_law 976 = .ok (.iload_n 3, 1) := by decide +kernel
theorem dL_law_977 : decode cL_law 977 = .ok (.iconst 2, 1) := by decide +kernel
theorem dL_law_978 : decode cL_law 978 = .ok (.iadd, 1) := by decide +kernel
theorem dL_law_979 : decode cL_law 979 = .ok (.iaload, 1) := by decide +kernel
theorem dL_law_980 : decode cL_law 980 = .ok (.invokevirtual 120, 3) := by decide +kernel
theorem dL_law_983 : decode cL_law 983 = .ok (.if_icmp .eq 311, 3) := by decide +kernel
theorem dL_law_986 : decode cL_law 986 = .ok (.iconst 0, 1) := by decide +kernel
theorem dL_law_987 : decode cL_law 987 = .ok (.ireturn, 1) := by decide +kernel
theorem dL_law_988 : decode cL_law 988 = .ok (.aload_n 1, 1) := by decide +kernel
theorem dL_law_989 : decode cL_law 989 = .ok (.aload_n 0, 1) := by decide +kernel
theorem dL_law_990 : decode cL_law 990 = .ok (.iload_n 3, 1) := by decide +kernel
theorem dL_law_991 : decode cL_law 991 = .ok (.iconst 1, 1) := by decide +kernel
theorem dL_law_992 : decode cL_law 992 = .ok (.iadd, 1) := by decide +kernel
theorem dL_law_993 : decode cL_law 993 = .ok (.iaload, 1) := by decide +kernel
theorem dL_law_994 : decode cL_law 994 = .ok (.aload_n 0, 1) := by decide +kernel
theorem dL_law_995 : decode cL_law 995 = .ok (.iload_n 3, 1) := by decide +kernel
theorem dL_law_996 : decode cL_law 996 = .ok (.iconst 2, 1) := by decide +kernel
theorem dL_law_997 : decode cL_law 997 = .ok (.iadd, 1) := by decide +kernel
theorem dL_law_998 : decode cL_law 998 = .ok (.iaload, 1) := by decide +kernel
theorem dL_law_999 : decode cL_law 999 = .ok (.invokevirtual 121, 3) := by decide +kernel
theorem dL_law_1002 : decode cL_law 1002 = .ok (.pop, 1) := by decide +kernel
theorem dL_law_1003 : decode cL_law 1003 = .ok (.aload_n 2, 1) := by decide +kernel
theorem dL_law_1004 : decode cL_law 1004 = .ok (.aload_n 0, 1) := by decide +kernel
theorem dL_law_1005 : decode cL_law 1005 = .ok (.iload_n 3, 1) := by decide +kernel
theorem dL_law_1006 : decode cL_law 1006 = .ok (.iconst 1, 1) := by decide +kernel
theorem dL_law_1007 : decode cL_law 1007 = .ok (.iadd, 1) := by decide +kernel
theorem dL_law_1008 : decode cL_law 1008 = .ok (.iaload, 1) := by decide +kernel
theorem dL_law_1009 : decode cL_law 1009 = .ok (.aload_n 0, 1) := by decide +kernel
theorem dL_law_1010 : decode cL_law 1010 = .ok (.iload_n 3, 1) := by decide +kernel
theorem dL_law_1011 : decode cL_law 1011 = .ok (.iconst 2, 1) := by decide +kernel
theorem dL_law_1012 : decode cL_law 1012 = .ok (.iadd, 1) := by decide +kernel
theorem dL_law_1013 : decode cL_law 1013 = .ok (.iaload, 1) := by decide +kernel
theorem dL_law_1014 : decode cL_law 1014 = .ok (.invokevirtual 124, 3) := by decide +kernel
theorem dL_law_1017 : decode cL_law 1017 = .ok (.pop, 1) := by decide +kernel
theorem dL_law_1018 : decode cL_law 1018 = .ok (.goto 276, 3) := by decide +kernel
theorem dL_law_1021 : decode cL_law 1021 = .ok (.aload_n 1, 1) := by decide +kernel
theorem dL_law_1022 : decode cL_law 1022 = .ok (.aload_n 0, 1) := by decide +kernel
theorem dL_law_1023 : decode cL_law 1023 = .ok (.iload_n 3, 1) := by decide +kernel
theorem dL_law_1024 : decode cL_law 1024 = .ok (.iconst 1, 1) := by decide +kernel
theorem dL_law_1025 : decode cL_law 1025 = .ok (.iadd, 1) := by decide +kernel
theorem dL_law_1026 : decode cL_law 1026 = .ok (.iaload, 1) := by decide +kernel
theorem dL_law_1027 : decode cL_law 1027 = .ok (.aload_n 0, 1) := by decide +kernel
theorem dL_law_1028 : decode cL_law 1028 = .ok (.iload_n 3, 1) := by decide +kernel
theorem dL_law_1029 : decode cL_law 1029 = .ok (.iconst 2, 1) := by decide +kernel
theorem dL_law_1030 : decode cL_law 1030 = .ok (.iadd, 1) := by decide +kernel
theorem dL_law_1031 : decode cL_law 1031 = .ok (.iaload, 1) := by decide +kernel
theorem dL_law_1032 : decode cL_law 1032 = .ok (.aload_n 0, 1) := by decide +kernel
theorem dL_law_1033 : decode cL_law 1033 = .ok (.iload_n 3, 1) := by decide +kernel
theorem dL_law_1034 : decode cL_law 1034 = .ok (.iconst 3, 1) := by decide +kernel
theorem dL_law_1035 : decode cL_law 1035 = .ok (.iadd, 1) := by decide +kernel
theorem dL_law_1036 : decode cL_law 1036 = .ok (.iaload, 1) := by decide +kernel
theorem dL_law_1037 : decode cL_law 1037 = .ok (.invokevirtual 125, 3) := by decide +kernel
theorem dL_law_1040 : decode cL_law 1040 = .ok (.pop, 1) := by decide +kernel
theorem dL_law_1041 : decode cL_law 1041 = .ok (.aload_n 2, 1) := by decide +kernel
theorem dL_law_1042 : decode cL_law 1042 = .ok (.aload_n 0, 1) := by decide +kernel
theorem dL_law_1043 : decode cL_law 1043 = .ok (.iload_n 3, 1) := by decide +kernel
theorem dL_law_1044 : decode cL_law 1044 = .ok (.iconst 1, 1) := by decide +kernel
theorem dL_law_1045 : decode cL_law 1045 = .ok (.iadd, 1) := by decide +kernel
theorem dL_law_1046 : decode cL_law 1046 = .ok (.iaload, 1) := by decide +kernel
theorem dL_law_1047 : decode cL_law 1047 = .ok (.aload_n 0, 1) := by decide +kernel
theorem dL_law_1048 : decode cL_law 1048 = .ok (.iload_n 3, 1) := by decide +kernel
theorem dL_law_1049 : decode cL_law 1049 = .ok (.iconst 2, 1) := by decide +kernel
theorem dL_law_1050 : decode cL_law 1050 = .ok (.iadd, 1) := by decide +kernel
theorem dL_law_1051 : decode cL_law 1051 = .ok (.iaload, 1) := by decide +kernel
theorem dL_law_1052 : decode cL_law 1052 = .ok (.aload_n 0, 1) := by decide +kernel
theorem dL_law_1053 : decode cL_law 1053 = .ok (.iload_n 3, 1) := by decide +kernel
theorem dL_law_1054 : decode cL_law 1054 = .ok (.iconst 3, 1) := by decide +kernel
theorem dL_law_1055 : decode cL_law 1055 = .ok (.iadd, 1) := by decide +kernel
theorem dL_law_1056 : decode cL_law 1056 = .ok (.iaload, 1) := by decide +kernel
theorem dL_law_1057 : decode cL_law 1057 = .ok (.invokevirtual 129, 3) := by decide +kernel
theorem dL_law_1060 : decode cL_law 1060 = .ok (.pop, 1) := by decide +kernel
theorem dL_law_1061 : decode cL_law 1061 = .ok (.goto 233, 3) := by decide +kernel
theorem dL_law_1064 : decode cL_law 1064 = .ok (.aload_n 1, 1) := by decide +kernel
theorem dL_law_1065 : decode cL_law 1065 = .ok (.aload_n 0, 1) := by decide +kernel
theorem dL_law_1066 : decode cL_law 1066 = .ok (.iload_n 3, 1) := by decide +kernel
theorem dL_law_1067 : decode cL_law 1067 = .ok (.iconst 1, 1) := by decide +kernel
theorem dL_law_1068 : decode cL_law 1068 = .ok (.iadd, 1) := by decide +kernel
theorem dL_law_1069 : decode cL_law 1069 = .ok (.iaload, 1) := by decide +kernel
theorem dL_law_1070 : decode cL_law 1070 = .ok (.invokevirtual 130, 3) := by decide +kernel
theorem dL_law_1073 : decode cL_law 1073 = .ok (.pop, 1) := by decide +kernel
theorem dL_law_1074 : decode cL_law 1074 = .ok (.aload_n 2, 1) := by decide +kernel
theorem dL_law_1075 : decode cL_law 1075 = .ok (.aload_n 0, 1) := by decide +kernel
theorem dL_law_1076 : decode cL_law 1076 = .ok (.iload_n 3, 1) := by decide +kernel
theorem dL_law_1077 : decode cL_law 1077 = .ok (.iconst 1, 1) := by decide +kernel
theorem dL_law_1078 : decode cL_law 1078 = .ok (.iadd, 1) := by decide +kernel
theorem dL_law_1079 : decode cL_law 1079 = .ok (.iaload, 1) := by decide +kernel
theorem dL_law_1080 : decode cL_law 1080 = .ok (.invokevirtual 133, 3) := by decide +kernel
theorem dL_law_1083 : decode cL_law 1083 = .ok (.pop, 1) := by decide +kernel
theorem dL_law_1084 : decode cL_law 1084 = .ok (.goto 210, 3) := by decide +kernel
theorem dL_law_1087 : decode cL_law 1087 = .ok (.aload_n 1, 1) := by decide +kernel
theorem dL_law_1088 : decode cL_law 1088 = .ok (.aload_n 0, 1) := by decide +kernel
theorem dL_law_1089 : decode cL_law 1089 = .ok (.iload_n 3, 1) := by decide +kernel
theorem dL_law_1090 : decode cL_law 1090 = .ok (.iconst 1, 1) := by decide +kernel
theorem dL_law_1091 : decode cL_law 1091 = .ok (.iadd, 1) := by decide +kernel
theorem dL_law_1092 : decode cL_law 1092 = .ok (.iaload, 1) := by decide +kernel
theorem dL_law_1093 : decode cL_law 1093 = .ok (.aload_n 0, 1) := by decide +kernel
theorem dL_law_1094 : decode cL_law 1094 = .ok (.iload_n 3, 1) := by decide +kernel
theorem dL_law_1095 : decode cL_law 1095 = .ok (.iconst 2, 1) := by decide +kernel
theorem dL_law_1096 : decode cL_law 1096 = .ok (.iadd, 1) := by decide +kernel
theorem dL_law_1097 : decode cL_law 1097 = .ok (.iaload, 1) := by decide +kernel
theorem dL_law_1098 : decode cL_law 1098 = .ok (.invokevirtual 134, 3) := by decide +kernel
theorem dL_law_1101 : decode cL_law 1101 = .ok (.pop, 1) := by decide +kernel
theorem dL_law_1102 : decode cL_law 1102 = .ok (.aload_n 2, 1) := by decide +kernel
theorem dL_law_1103 : decode cL_law 1103 = .ok (.aload_n 0, 1) := by decide +kernel
theorem dL_law_1104 : decode cL_law 1104 = .ok (.iload_n 3, 1) := by decide +kernel
theorem dL_law_1105 : decode cL_law 1105 = .ok (.iconst 1, 1) := by decide +kernel
theorem dL_law_1106 : decode cL_law 1106 = .ok (.iadd, 1) := by decide +kernel
theorem dL_law_1107 : decode cL_law 1107 = .ok (.iaload, 1) := by decide +kernel
theorem dL_law_1108 : decode cL_law 1108 = .ok (.aload_n 0, 1) := by decide +kernel
theorem dL_law_1109 : decode cL_law 1109 = .ok (.iload_n 3, 1) := by decide +kernel
theorem dL_law_1110 : decode cL_law 1110 = .ok (.iconst 2, 1) := by decide +kernel
theorem dL_law_1111 : decode cL_law 1111 = .ok (.iadd, 1) := by decide +kernel
theorem dL_law_1112 : decode cL_law 1112 = .ok (.iaload, 1) := by decide +kernel
theorem dL_law_1113 : decode cL_law 1113 = .ok (.invokevirtual 137, 3) := by decide +kernel
theorem dL_law_1116 : decode cL_law 1116 = .ok (.pop, 1) := by decide +kernel
theorem dL_law_1117 : decode cL_law 1117 = .ok (.goto 177, 3) := by decide +kernel
theorem dL_law_1120 : decode cL_law 1120 = .ok (.aload_n 1, 1) := by decide +kernel
theorem dL_law_1121 : decode cL_law 1121 = .ok (.aload_n 0, 1) := by decide +kernel
theorem dL_law_1122 : decode cL_law 1122 = .ok (.iload_n 3, 1) := by decide +kernel
theorem dL_law_1123 : decode cL_law 1123 = .ok (.iconst 1, 1) := by decide +kernel
theorem dL_law_1124 : decode cL_law 1124 = .ok (.iadd, 1) := by decide +kernel
theorem dL_law_1125 : decode cL_law 1125 = .ok (.iaload, 1) := by decide +kernel
theorem dL_law_1126 : decode cL_law 1126 = .ok (.aload_n 0, 1) := by decide +kernel
theorem dL_law_1127 : decode cL_law 1127 = .ok (.iload_n 3, 1) := by decide +kernel
theorem dL_law_1128 : decode cL_law 1128 = .ok (.iconst 2, 1) := by decide +kernel
theorem dL_law_1129 : decode cL_law 1129 = .ok (.iadd, 1) := by decide +kernel
theorem dL_law_1130 : decode cL_law 1130 = .ok (.iaload, 1) := by decide +kernel
theorem dL_law_1131 : decode cL_law 1131 = .ok (.invokevirtual 138, 3) := by decide +kernel
theorem dL_law_1134 : decode cL_law 1134 = .ok (.pop, 1) := by decide +kernel
theorem dL_law_1135 : decode cL_law 1135 = .ok (.aload_n 2, 1) := by decide +kernel
theorem dL_law_1136 : decode cL_law 1136 = .ok (.aload_n 0, 1) := by decide +kernel
theorem dL_law_1137 : decode cL_law 1137 = .ok (.iload_n 3, 1) := by decide +kernel
theorem dL_law_1138 : decode cL_law 1138 = .ok (.iconst 1, 1) := by decide +kernel
theorem dL_law_1139 : decode cL_law 1139 = .ok (.iadd, 1) := by decide +kernel
theorem dL_law_1140 : decode cL_law 1140 = .ok (.iaload, 1) := by decide +kernel
theorem dL_law_1141 : decode cL_law 1141 = .ok (.aload_n 0, 1) := by decide +kernel
theorem dL_law_1142 : decode cL_law 1142 = .ok (.iload_n 3, 1) := by decide +kernel
theorem dL_law_1143 : decode cL_law 1143 = .ok (.iconst 2, 1) := by decide +kernel
theorem dL_law_1144 : decode cL_law 1144 = .ok (.iadd, 1) := by decide +kernel
theorem dL_law_1145 : decode cL_law 1145 = .ok (.iaload, 1) := by decide +kernel
theorem dL_law_1146 : decode cL_law 1146 = .ok (.invokevirtual 141, 3) := by decide +kernel
theorem dL_law_1149 : decode cL_law 1149 = .ok (.pop, 1) := by decide +kernel
theorem dL_law_1150 : decode cL_law 1150 = .ok (.goto 144, 3) := by decide +kernel
theorem dL_law_1153 : decode cL_law 1153 = .ok (.aload_n 1, 1) := by decide +kernel
theorem dL_law_1154 : decode cL_law 1154 = .ok (.aload_n 0, 1) := by decide +kernel
theorem dL_law_1155 : decode cL_law 1155 = .ok (.iload_n 3, 1) := by decide +kernel
theorem dL_law_1156 : decode cL_law 1156 = .ok (.iconst 1, 1) := by decide +kernel
theorem dL_law_1157 : decode cL_law 1157 = .ok (.iadd, 1) := by decide +kernel
theorem dL_law_1158 : decode cL_law 1158 = .ok (.iaload, 1) := by decide +kernel
theorem dL_law_1159 : decode cL_law 1159 = .ok (.aload_n 0, 1) := by decide +kernel
theorem dL_law_1160 : decode cL_law 1160 = .ok (.iload_n 3, 1) := by decide +kernel
theorem dL_law_1161 : decode cL_law 1161 = .ok (.iconst 2, 1) := by decide +kernel
theorem dL_law_1162 : decode cL_law 1162 = .ok (.iadd, 1) := by decide +kernel
theorem dL_law_1163 : decode cL_law 1163 = .ok (.iaload, 1) := by decide +kernel
theorem dL_law_1164 : decode cL_law 1164 = .ok (.invokevirtual 142, 3) := by decide +kernel
theorem dL_law_1167 : decode cL_law 1167 = .ok (.pop, 1) := by decide +kernel
theorem dL_law_1168 : decode cL_law 1168 = .ok (.aload_n 2, 1) := by decide +kernel
theorem dL_law_1169 : decode cL_law 1169 = .ok (.aload_n 0, 1) := by decide +kernel
theorem dL_law_1170 : decode cL_law 1170 = .ok (.iload_n 3, 1) := by decide +kernel
theorem dL_law_1171 : decode cL_law 1171 = .ok (.iconst 1, 1) := by decide +kernel
theorem dL_law_1172 : decode cL_law 1172 = .ok (.iadd, 1) := by decide +kernel
theorem dL_law_1173 : decode cL_law 1173 = .ok (.iaload, 1) := by decide +kernel
theorem dL_law_1174 : decode cL_law 1174 = .ok (.aload_n 0, 1) := by decide +kernel
theorem dL_law_1175 : decode cL_law 1175 = .ok (.iload_n 3, 1) := by decide +kernel
theorem dL_law_1176 : decode cL_law 1176 = .ok (.iconst 2, 1) := by decide +kernel
theorem dL_law_1177 : decode cL_law 1177 = .ok (.iadd, 1) := by decide +kernel
theorem dL_law_1178 : decode cL_law 1178 = .ok (.iaload, 1) := by decide +kernel
theorem dL_law_1179 : decode cL_law 1179 = .ok (.invokevirtual 145, 3) := by decide +kernel
theorem dL_law_1182 : decode cL_law 1182 = .ok (.pop, 1) := by decide +kernel
theorem dL_law_1183 : decode cL_law 1183 = .ok (.goto 111, 3) := by decide +kernel
theorem dL_law_1186 : decode cL_law 1186 = .ok (.aload_n 1, 1) := by decide +kernel
theorem dL_law_1187 : decode cL_law 1187 = .ok (.invokevirtual 146, 3) := by decide +kernel
theorem dL_law_1190 : decode cL_law 1190 = .ok (.pop, 1) := by decide +kernel
theorem dL_law_1191 : decode cL_law 1191 = .ok (.aload_n 2, 1) := by decide +kernel
theorem dL_law_1192 : decode cL_law 1192 = .ok (.invokevirtual 150, 3) := by decide +kernel
theorem dL_law_1195 : decode cL_law 1195 = .ok (.pop, 1) := by decide +kernel
theorem dL_law_1196 : decode cL_law 1196 = .ok (.goto 98, 3) := by decide +kernel
theorem dL_law_1199 : decode cL_law 1199 = .ok (.aload_n 1, 1) := by decide +kernel
theorem dL_law_1200 : decode cL_law 1200 = .ok (.aload_n 0, 1) := by decide +kernel
theorem dL_law_1201 : decode cL_law 1201 = .ok (.iload_n 3, 1) := by decide +kernel
theorem dL_law_1202 : decode cL_law 1202 = .ok (.iconst 1, 1) := by decide +kernel
theorem dL_law_1203 : decode cL_law 1203 = .ok (.iadd, 1) := by decide +kernel
theorem dL_law_1204 : decode cL_law 1204 = .ok (.iaload, 1) := by decide +kernel
theorem dL_law_1205 : decode cL_law 1205 = .ok (.invokevirtual 151, 3) := by decide +kernel
theorem dL_law_1208 : decode cL_law 1208 = .ok (.pop, 1) := by decide +kernel
theorem dL_law_1209 : decode cL_law 1209 = .ok (.aload_n 2, 1) := by decide +kernel
theorem dL_law_1210 : decode cL_law 1210 = .ok (.aload_n 0, 1) := by decide +kernel
theorem dL_law_1211 : decode cL_law 1211 = .ok (.iload_n 3, 1) := by decide +kernel
theorem dL_law_1212 : decode cL_law 1212 = .ok (.iconst 1, 1) := by decide +kernel
theorem dL_law_1213 : decode cL_law 1213 = .ok (.iadd, 1) := by decide +kernel
theorem dL_law_1214 : decode cL_law 1214 = .ok (.iaload, 1) := by decide +kernel
theorem dL_law_1215 : decode cL_law 1215 = .ok (.invokevirtual 155, 3) := by decide +kernel
theorem dL_law_1218 : decode cL_law 1218 = .ok (.pop, 1) := by decide +kernel
theorem dL_law_1219 : decode cL_law 1219 = .ok (.goto 75, 3) := by decide +kernel
theorem dL_law_1222 : decode cL_law 1222 = .ok (.aload_n 1, 1) := by decide +kernel
theorem dL_law_1223 : decode cL_law 1223 = .ok (.invokevirtual 156, 3) := by decide +kernel
theorem dL_law_1226 : decode cL_law 1226 = .ok (.pop, 1) := by decide +kernel
theorem dL_law_1227 : decode cL_law 1227 = .ok (.aload_n 2, 1) := by decide +kernel
theorem dL_law_1228 : decode cL_law 1228 = .ok (.invokevirtual 159, 3) := by decide +kernel
theorem dL_law_1231 : decode cL_law 1231 = .ok (.pop, 1) := by decide +kernel
theorem dL_law_1232 : decode cL_law 1232 = .ok (.goto 62, 3) := by decide +kernel
theorem dL_law_1235 : decode cL_law 1235 = .ok (.aload_n 1, 1) := by decide +kernel
theorem dL_law_1236 : decode cL_law 1236 = .ok (.invokevirtual 160, 3) := by decide +kernel
theorem dL_law_1239 : decode cL_law 1239 = .ok (.pop, 1) := by decide +kernel
theorem dL_law_1240 : decode cL_law 1240 = .ok (.aload_n 2, 1) := by decide +kernel
theorem dL_law_1241 : decode cL_law 1241 = .ok (.invokevirtual 164, 3) := by decide +kernel
theorem dL_law_1244 : decode cL_law 1244 = .ok (.pop, 1) := by decide +kernel
theorem dL_law_1245 : decode cL_law 1245 = .ok (.goto 49, 3) := by decide +kernel
theorem dL_law_1248 : decode cL_law 1248 = .ok (.aload_n 1, 1) := by decide +kernel
theorem dL_law_1249 : decode cL_law 1249 = .ok (.aload_n 0, 1) := by decide +kernel
theorem dL_law_1250 : decode cL_law 1250 = .ok (.iload_n 3, 1) := by decide +kernel
theorem dL_law_1251 : decode cL_law 1251 = .ok (.iconst 1, 1) := by decide +kernel
theorem dL_law_1252 : decode cL_law 1252 = .ok (.iadd, 1) := by decide +kernel
theorem dL_law_1253 : decode cL_law 1253 = .ok (.iaload, 1) := by decide +kernel
theorem dL_law_1254 : decode cL_law 1254 = .ok (.invokevirtual 165, 3) := by decide +kernel
theorem dL_law_1257 : decode cL_law 1257 = .ok (.pop, 1) := by decide +kernel
theorem dL_law_1258 : decode cL_law 1258 = .ok (.aload_n 2, 1) := by decide +kernel
theorem dL_law_1259 : decode cL_law 1259 = .ok (.aload_n 0, 1) := by decide +kernel
theorem dL_law_1260 : decode cL_law 1260 = .ok (.iload_n 3, 1) := by decide +kernel
theorem dL_law_1261 : decode cL_law 1261 = .ok (.iconst 1, 1) := by decide +kernel
theorem dL_law_1262 : decode cL_law 1262 = .ok (.iadd, 1) := by decide +kernel
theorem dL_law_1263 : decode cL_law 1263 = .ok (.iaload, 1) := by decide +kernel
theorem dL_law_1264 : decode cL_law 1264 = .ok (.invokevirtual 168, 3) := by decide +kernel
theorem dL_law_1267 : decode cL_law 1267 = .ok (.pop, 1) := by decide +kernel
theorem dL_law_1268 : decode cL_law 1268 = .ok (.goto 26, 3) := by decide +kernel
theorem dL_law_1271 : decode cL_law 1271 = .ok (.aload_n 1, 1) := by decide +kernel
theorem dL_law_1272 : decode cL_law 1272 = .ok (.aload_n 0, 1) := by decide +kernel
theorem dL_law_1273 : decode cL_law 1273 = .ok (.iload_n 3, 1) := by decide +kernel
theorem dL_law_1274 : decode cL_law 1274 = .ok (.iconst 1, 1) := by decide +kernel
theorem dL_law_1275 : decode cL_law 1275 = .ok (.iadd, 1) := by decide +kernel
theorem dL_law_1276 : decode cL_law 1276 = .ok (.iaload, 1) := by decide +kernel
theorem dL_law_1277 : decode cL_law 1277 = .ok (.invokevirtual 169, 3) := by decide +kernel
theorem dL_law_1280 : decode cL_law 1280 = .ok (.pop, 1) := by decide +kernel
theorem dL_law_1281 : decode cL_law 1281 = .ok (.aload_n 2, 1) := by decide +kernel
theorem dL_law_1282 : decode cL_law 1282 = .ok (.aload_n 0, 1) := by decide +kernel
theorem dL_law_1283 : decode cL_law 1283 = .ok (.iload_n 3, 1) := by decide +kernel
theorem dL_law_1284 : decode cL_law 1284 = .ok (.iconst 1, 1) := by decide +kernel
theorem dL_law_1285 : decode cL_law 1285 = .ok (.iadd, 1) := by decide +kernel
theorem dL_law_1286 : decode cL_law 1286 = .ok (.iaload, 1) := by decide +kernel
theorem dL_law_1287 : decode cL_law 1287 = .ok (.invokevirtual 172, 3) := by decide +kernel
theorem dL_law_1290 : decode cL_law 1290 = .ok (.pop, 1) := by decide +kernel
theorem dL_law_1291 : decode cL_law 1291 = .ok (.goto 3, 3) := by decide +kernel
theorem dL_law_1294 : decode cL_law 1294 = .ok (.iinc 3 6, 3) := by decide +kernel
theorem dL_law_1297 : decode cL_law 1297 = .ok (.goto (-1279), 3) := by decide +kernel
theorem dL_law_1300 : decode cL_law 1300 = .ok (.iconst 1, 1) := by decide +kernel
theorem dL_law_1301 : decode cL_law 1301 = .ok (.ireturn, 1) := by decide +kernel
