/-! decode rows -/
theorem d_M_init_0 : decode b_M_init 0 = .ok (.aload_n 0, 1) := by decide +kernel
theorem d_M_init_1 : decode b_M_init 1 = .ok (.invokespecial 1, 3) := by decide +kernel
theorem d_M_init_4 : decode b_M_init 4 = .ok (.aload_n 0, 1) := by decide +kernel
theorem d_M_init_5 : decode b_M_init 5 = .ok (.bipush 36, 2) := by decide +kernel
theorem d_M_init_7 : decode b_M_init 7 = .ok (.newarray .boolean, 2) := by decide +kernel
theorem d_M_init_9 : decode b_M_init 9 = .ok (.putfield 7, 3) := by decide +kernel
theorem d_M_init_12 : decode b_M_init 12 = .ok (.aload_n 0, 1) := by decide +kernel
theorem d_M_init_13 : decode b_M_init 13 = .ok (.bipush 36, 2) := by decide +kernel
theorem d_M_init_15 : decode b_M_init 15 = .ok (.newarray .boolean, 2) := by decide +kernel
theorem d_M_init_17 : decode b_M_init 17 = .ok (.putfield 13, 3) := by decide +kernel
theorem d_M_init_20 : decode b_M_init 20 = .ok (.aload_n 0, 1) := by decide +kernel
theorem d_M_init_21 : decode b_M_init 21 = .ok (.bipush 36, 2) := by decide +kernel
theorem d_M_init_23 : decode b_M_init 23 = .ok (.newarray .boolean, 2) := by decide +kernel
theorem d_M_init_25 : decode b_M_init 25 = .ok (.putfield 16, 3) := by decide +kernel
theorem d_M_init_28 : decode b_M_init 28 = .ok (.aload_n 0, 1) := by decide +kernel
theorem d_M_init_29 : decode b_M_init 29 = .ok (.bipush 36, 2) := by decide +kernel
theorem d_M_init_31 : decode b_M_init 31 = .ok (.newarray .int, 2) := by decide +kernel
theorem d_M_init_33 : decode b_M_init 33 = .ok (.putfield 19, 3) := by decide +kernel
theorem d_M_init_36 : decode b_M_init 36 = .ok (.aload_n 0, 1) := by decide +kernel
theorem d_M_init_37 : decode b_M_init 37 = .ok (.bipush 36, 2) := by decide +kernel
theorem d_M_init_39 : decode b_M_init 39 = .ok (.newarray .boolean, 2) := by decide +kernel
theorem d_M_init_41 : decode b_M_init 41 = .ok (.putfield 23, 3) := by decide +kernel
theorem d_M_init_44 : decode b_M_init 44 = .ok (.aload_n 0, 1) := by decide +kernel
theorem d_M_init_45 : decode b_M_init 45 = .ok (.bipush 9, 2) := by decide +kernel
theorem d_M_init_47 : decode b_M_init 47 = .ok (.newarray .int, 2) := by decide +kernel
theorem d_M_init_49 : decode b_M_init 49 = .ok (.putfield 26, 3) := by decide +kernel
theorem d_M_init_52 : decode b_M_init 52 = .ok (.aload_n 0, 1) := by decide +kernel
theorem d_M_init_53 : decode b_M_init 53 = .ok (.bipush 9, 2) := by decide +kernel
theorem d_M_init_55 : decode b_M_init 55 = .ok (.newarray .int, 2) := by decide +kernel
theorem d_M_init_57 : decode b_M_init 57 = .ok (.putfield 29, 3) := by decide +kernel
theorem d_M_init_60 : decode b_M_init 60 = .ok (.aload_n 0, 1) := by decide +kernel
theorem d_M_init_61 : decode b_M_init 61 = .ok (.bipush 6, 2) := by decide +kernel
theorem d_M_init_63 : decode b_M_init 63 = .ok (.newarray .int, 2) := by decide +kernel
theorem d_M_init_65 : decode b_M_init 65 = .ok (.putfield 32, 3) := by decide +kernel
theorem d_M_init_68 : decode b_M_init 68 = .ok (.aload_n 0, 1) := by decide +kernel
theorem d_M_init_69 : decode b_M_init 69 = .ok (.bipush 6, 2) := by decide +kernel
theorem d_M_init_71 : decode b_M_init 71 = .ok (.newarray .int, 2) := by decide +kernel
theorem d_M_init_73 : decode b_M_init 73 = .ok (.putfield 35, 3) := by decide +kernel
theorem d_M_init_76 : decode b_M_init 76 = .ok (.aload_n 0, 1) := by decide +kernel
theorem d_M_init_77 : decode b_M_init 77 = .ok (.bipush 6, 2) := by decide +kernel
theorem d_M_init_79 : decode b_M_init 79 = .ok (.newarray .int, 2) := by decide +kernel
theorem d_M_init_81 : decode b_M_init 81 = .ok (.putfield 38, 3) := by decide +kernel
theorem d_M_init_84 : decode b_M_init 84 = .ok (.aload_n 0, 1) := by decide +kernel
theorem d_M_init_85 : decode b_M_init 85 = .ok (.iload_n 1, 1) := by decide +kernel
theorem d_M_init_86 : decode b_M_init 86 = .ok (.iconst 2, 1) := by decide +kernel
theorem d_M_init_87 : decode b_M_init 87 = .ok (.if_icmp .lt 9, 3) := by decide +kernel
theorem d_M_init_90 : decode b_M_init 90 = .ok (.iload_n 1, 1) := by decide +kernel
theorem d_M_init_91 : decode b_M_init 91 = .ok (.bipush 6, 2) := by decide +kernel
theorem d_M_init_93 : decode b_M_init 93 = .ok (.if_icmp .le 8, 3) := by decide +kernel
theorem d_M_init_96 : decode b_M_init 96 = .ok (.bipush 6, 2) := by decide +kernel
theorem d_M_init_98 : decode b_M_init 98 = .ok (.goto 4, 3) := by decide +kernel
theorem d_M_init_101 : decode b_M_init 101 = .ok (.iload_n 1, 1) := by decide +kernel
theorem d_M_init_102 : decode b_M_init 102 = .ok (.putfield 41, 3) := by decide +kernel
theorem d_M_init_105 : decode b_M_init 105 = .ok (.return_, 1) := by decide +kernel
theorem d_M_arrow_0 : decode b_M_arrow 0 = .ok (.aload_n 0, 1) := by decide +kernel
theorem d_M_arrow_1 : decode b_M_arrow 1 = .ok (.iload_n 1, 1) := by decide +kernel
theorem d_M_arrow_2 : decode b_M_arrow 2 = .ok (.iload_n 2, 1) := by decide +kernel
theorem d_M_arrow_3 : decode b_M_arrow 3 = .ok (.invokevirtual 49, 3) := by decide +kernel
theorem d_M_arrow_6 : decode b_M_arrow 6 = .ok (.ifCond .eq 34, 3) := by decide +kernel
theorem d_M_arrow_9 : decode b_M_arrow 9 = .ok (.aload_n 0, 1) := by decide +kernel
theorem d_M_arrow_10 : decode b_M_arrow 10 = .ok (.iload_n 1, 1) := by decide +kernel
theorem d_M_arrow_11 : decode b_M_arrow 11 = .ok (.iload_n 2, 1) := by decide +kernel
theorem d_M_arrow_12 : decode b_M_arrow 12 = .ok (.invokevirtual 53, 3) := by decide +kernel
theorem d_M_arrow_15 : decode b_M_arrow 15 = .ok (.ifCond .ne 25, 3) := by decide +kernel
theorem d_M_arrow_18 : decode b_M_arrow 18 = .ok (.aload_n 0, 1) := by decide +kernel
theorem d_M_arrow_19 : decode b_M_arrow 19 = .ok (.invokevirtual 56, 3) := by decide +kernel
theorem d_M_arrow_22 : decode b_M_arrow 22 = .ok (.bipush 9, 2) := by decide +kernel
theorem d_M_arrow_24 : decode b_M_arrow 24 = .ok (.if_icmp .ge 16, 3) := by decide +kernel
theorem d_M_arrow_27 : decode b_M_arrow 27 = .ok (.aload_n 0, 1) := by decide +kernel
theorem d_M_arrow_28 : decode b_M_arrow 28 = .ok (.iload_n 2, 1) := by decide +kernel
theorem d_M_arrow_29 : decode b_M_arrow 29 = .ok (.invokevirtual 60, 3) := by decide +kernel
theorem d_M_arrow_32 : decode b_M_arrow 32 = .ok (.iload_n 1, 1) := by decide +kernel
theorem d_M_arrow_33 : decode b_M_arrow 33 = .ok (.ishr, 1) := by decide +kernel
theorem d_M_arrow_34 : decode b_M_arrow 34 = .ok (.iconst 1, 1) := by decide +kernel
theorem d_M_arrow_35 : decode b_M_arrow 35 = .ok (.iand, 1) := by decide +kernel
theorem d_M_arrow_36 : decode b_M_arrow 36 = .ok (.iconst 1, 1) := by decide +kernel
theorem d_M_arrow_37 : decode b_M_arrow 37 = .ok (.if_icmp .ne 5, 3) := by decide +kernel
theorem d_M_arrow_40 : decode b_M_arrow 40 = .ok (.iconst 0, 1) := by decide +kernel
theorem d_M_arrow_41 : decode b_M_arrow 41 = .ok (.ireturn, 1) := by decide +kernel
theorem d_M_arrow_42 : decode b_M_arrow 42 = .ok (.aload_n 0, 1) := by decide +kernel
theorem d_M_arrow_43 : decode b_M_arrow 43 = .ok (.getfield 7, 3) := by decide +kernel
theorem d_M_arrow_46 : decode b_M_arrow 46 = .ok (.bipush 6, 2) := by decide +kernel
theorem d_M_arrow_48 : decode b_M_arrow 48 = .ok (.iload_n 1, 1) := by decide +kernel
theorem d_M_arrow_49 : decode b_M_arrow 49 = .ok (.imul, 1) := by decide +kernel
theorem d_M_arrow_50 : decode b_M_arrow 50 = .ok (.iload_n 2, 1) := by decide +kernel
theorem d_M_arrow_51 : decode b_M_arrow 51 = .ok (.iadd, 1) := by decide +kernel
theorem d_M_arrow_52 : decode b_M_arrow 52 = .ok (.iconst 1, 1) := by decide +kernel
theorem d_M_arrow_53 : decode b_M_arrow 53 = .ok (.bastore, 1) := by decide +kernel
theorem d_M_arrow_54 : decode b_M_arrow 54 = .ok (.aload_n 0, 1) := by decide +kernel
theorem d_M_arrow_55 : decode b_M_arrow 55 = .ok (.invokevirtual 64, 3) := by decide +kernel
theorem d_M_arrow_58 : decode b_M_arrow 58 = .ok (.iconst 1, 1) := by decide +kernel
theorem d_M_arrow_59 : decode b_M_arrow 59 = .ok (.ireturn, 1) := by decide +kernel
theorem d_M_areNodes_0 : decode b_M_areNodes 0 = .ok (.aload_n 0, 1) := by decide +kernel
theorem d_M_areNodes_1 : decode b_M_areNodes 1 = .ok (.iload_n 1, 1) := by decide +kernel
theorem d_M_areNodes_2 : decode b_M_areNodes 2 = .ok (.invokevirtual 45, 3) := by decide +kernel
theorem d_M_areNodes_5 : decode b_M_areNodes 5 = .ok (.ifCond .eq 20, 3) := by decide +kernel
theorem d_M_areNodes_8 : decode b_M_areNodes 8 = .ok (.aload_n 0, 1) := by decide +kernel
theorem d_M_areNodes_9 : decode b_M_areNodes 9 = .ok (.iload_n 2, 1) := by decide +kernel
theorem d_M_areNodes_10 : decode b_M_areNodes 10 = .ok (.invokevirtual 45, 3) := by decide +kernel
theorem d_M_areNodes_13 : decode b_M_areNodes 13 = .ok (.ifCond .eq 12, 3) := by decide +kernel
theorem d_M_areNodes_16 : decode b_M_areNodes 16 = .ok (.iload_n 1, 1) := by decide +kernel
theorem d_M_areNodes_17 : decode b_M_areNodes 17 = .ok (.iload_n 2, 1) := by decide +kernel
theorem d_M_areNodes_18 : decode b_M_areNodes 18 = .ok (.if_icmp .eq 7, 3) := by decide +kernel
theorem d_M_areNodes_21 : decode b_M_areNodes 21 = .ok (.iconst 1, 1) := by decide +kernel
theorem d_M_areNodes_22 : decode b_M_areNodes 22 = .ok (.goto 4, 3) := by decide +kernel
theorem d_M_areNodes_25 : decode b_M_areNodes 25 = .ok (.iconst 0, 1) := by decide +kernel
theorem d_M_areNodes_26 : decode b_M_areNodes 26 = .ok (.ireturn, 1) := by decide +kernel
theorem d_M_isNode_0 : decode b_M_isNode 0 = .ok (.iload_n 1, 1) := by decide +kernel
theorem d_M_isNode_1 : decode b_M_isNode 1 = .ok (.ifCond .lt 15, 3) := by decide +kernel
theorem d_M_isNode_4 : decode b_M_isNode 4 = .ok (.iload_n 1, 1) := by decide +kernel
theorem d_M_isNode_5 : decode b_M_isNode 5 = .ok (.aload_n 0, 1) := by decide +kernel
theorem d_M_isNode_6 : decode b_M_isNode 6 = .ok (.getfield 41, 3) := by decide +kernel
theorem d_M_isNode_9 : decode b_M_isNode 9 = .ok (.if_icmp .ge 7, 3) := by decide +kernel
theorem d_M_isNode_12 : decode b_M_isNode 12 = .ok (.iconst 1, 1) := by decide +kernel
theorem d_M_isNode_13 : decode b_M_isNode 13 = .ok (.goto 4, 3) := by decide +kernel
theorem d_M_isNode_16 : decode b_M_isNode 16 = .ok (.iconst 0, 1) := by decide +kernel
theorem d_M_isNode_17 : decode b_M_isNode 17 = .ok (.ireturn, 1) := by decide +kernel
theorem d_M_joined_0 : decode b_M_joined 0 = .ok (.aload_n 0, 1) := by decide +kernel
theorem d_M_joined_1 : decode b_M_joined 1 = .ok (.getfield 7, 3) := by decide +kernel
theorem d_M_joined_4 : decode b_M_joined 4 = .ok (.bipush 6, 2) := by decide +kernel
theorem d_M_joined_6 : decode b_M_joined 6 = .ok (.iload_n 1, 1) := by decide +kernel
theorem d_M_joined_7 : decode b_M_joined 7 = .ok (.imul, 1) := by decide +kernel
theorem d_M_joined_8 : decode b_M_joined 8 = .ok (.iload_n 2, 1) := by decide +kernel
theorem d_M_joined_9 : decode b_M_joined 9 = .ok (.iadd, 1) := by decide +kernel
theorem d_M_joined_10 : decode b_M_joined 10 = .ok (.baload, 1) := by decide +kernel
theorem d_M_joined_11 : decode b_M_joined 11 = .ok (.ifCond .ne 17, 3) := by decide +kernel
theorem d_M_joined_14 : decode b_M_joined 14 = .ok (.aload_n 0, 1) := by decide +kernel
theorem d_M_joined_15 : decode b_M_joined 15 = .ok (.getfield 7, 3) := by decide +kernel
theorem d_M_joined_18 : decode b_M_joined 18 = .ok (.bipush 6, 2) := by decide +kernel
theorem d_M_joined_20 : decode b_M_joined 20 = .ok (.iload_n 2, 1) := by decide +kernel
theorem d_M_joined_21 : decode b_M_joined 21 = .ok (.imul, 1) := by decide +kernel
theorem d_M_joined_22 : decode b_M_joined 22 = .ok (.iload_n 1, 1) := by decide +kernel
theorem d_M_joined_23 : decode b_M_joined 23 = .ok (.iadd, 1) := by decide +kernel
theorem d_M_joined_24 : decode b_M_joined 24 = .ok (.baload, 1) := by decide +kernel
theorem d_M_joined_25 : decode b_M_joined 25 = .ok (.ifCond .eq 7, 3) := by decide +kernel
theorem d_M_joined_28 : decode b_M_joined 28 = .ok (.iconst 1, 1) := by decide +kernel
theorem d_M_joined_29 : decode b_M_joined 29 = .ok (.goto 4, 3) := by decide +kernel
theorem d_M_joined_32 : decode b_M_joined 32 = .ok (.iconst 0, 1) := by decide +kernel
theorem d_M_joined_33 : decode b_M_joined 33 = .ok (.ireturn, 1) := by decide +kernel
theorem d_M_arrows_0 : decode b_M_arrows 0 = .ok (.iconst 0, 1) := by decide +kernel
theorem d_M_arrows_1 : decode b_M_arrows 1 = .ok (.istore_n 1, 1) := by decide +kernel
theorem d_M_arrows_2 : decode b_M_arrows 2 = .ok (.iconst 0, 1) := by decide +kernel
theorem d_M_arrows_3 : decode b_M_arrows 3 = .ok (.istore_n 2, 1) := by decide +kernel
theorem d_M_arrows_4 : decode b_M_arrows 4 = .ok (.iload_n 2, 1) := by decide +kernel
theorem d_M_arrows_5 : decode b_M_arrows 5 = .ok (.bipush 36, 2) := by decide +kernel
theorem d_M_arrows_7 : decode b_M_arrows 7 = .ok (.if_icmp .ge 26, 3) := by decide +kernel
theorem d_M_arrows_10 : decode b_M_arrows 10 = .ok (.aload_n 0, 1) := by decide +kernel
theorem d_M_arrows_11 : decode b_M_arrows 11 = .ok (.getfield 7, 3) := by decide +kernel
theorem d_M_arrows_14 : decode b_M_arrows 14 = .ok (.iload_n 2, 1) := by decide +kernel
theorem d_M_arrows_15 : decode b_M_arrows 15 = .ok (.baload, 1) := by decide +kernel
theorem d_M_arrows_16 : decode b_M_arrows 16 = .ok (.ifCond .eq 9, 3) := by decide +kernel
theorem d_M_arrows_19 : decode b_M_arrows 19 = .ok (.iload_n 1, 1) := by decide +kernel
theorem d_M_arrows_20 : decode b_M_arrows 20 = .ok (.iconst 1, 1) := by decide +kernel
theorem d_M_arrows_21 : decode b_M_arrows 21 = .ok (.iadd, 1) := by decide +kernel
theorem d_M_arrows_22 : decode b_M_arrows 22 = .ok (.goto 4, 3) := by decide +kernel
theorem d_M_arrows_25 : decode b_M_arrows 25 = .ok (.iload_n 1, 1) := by decide +kernel
theorem d_M_arrows_26 : decode b_M_arrows 26 = .ok (.istore_n 1, 1) := by decide +kernel
theorem d_M_arrows_27 : decode b_M_arrows 27 = .ok (.iinc 2 1, 3) := by decide +kernel
theorem d_M_arrows_30 : decode b_M_arrows 30 = .ok (.goto (-26), 3) := by decide +kernel
theorem d_M_arrows_33 : decode b_M_arrows 33 = .ok (.iload_n 1, 1) := by decide +kernel
theorem d_M_arrows_34 : decode b_M_arrows 34 = .ok (.ireturn, 1) := by decide +kernel
theorem d_M_reach_0 : decode b_M_reach 0 = .ok (.iconst 1, 1) := by decide +kernel
theorem d_M_reach_1 : decode b_M_reach 1 = .ok (.iload_n 1, 1) := by decide +kernel
theorem d_M_reach_2 : decode b_M_reach 2 = .ok (.ishl, 1) := by decide +kernel
theorem d_M_reach_3 : decode b_M_reach 3 = .ok (.istore_n 2, 1) := by decide +kernel
theorem d_M_reach_4 : decode b_M_reach 4 = .ok (.iconst 0, 1) := by decide +kernel
theorem d_M_reach_5 : decode b_M_reach 5 = .ok (.istore_n 3, 1) := by decide +kernel
theorem d_M_reach_6 : decode b_M_reach 6 = .ok (.iload_n 3, 1) := by decide +kernel
theorem d_M_reach_7 : decode b_M_reach 7 = .ok (.bipush 6, 2) := by decide +kernel
theorem d_M_reach_9 : decode b_M_reach 9 = .ok (.if_icmp .ge 82, 3) := by decide +kernel
theorem d_M_reach_12 : decode b_M_reach 12 = .ok (.iconst 0, 1) := by decide +kernel
theorem d_M_reach_13 : decode b_M_reach 13 = .ok (.istore 4, 2) := by decide +kernel
theorem d_M_reach_15 : decode b_M_reach 15 = .ok (.iload 4, 2) := by decide +kernel
theorem d_M_reach_17 : decode b_M_reach 17 = .ok (.aload_n 0, 1) := by decide +kernel
theorem d_M_reach_18 : decode b_M_reach 18 = .ok (.getfield 41, 3) := by decide +kernel
theorem d_M_reach_21 : decode b_M_reach 21 = .ok (.if_icmp .ge 64, 3) := by decide +kernel
theorem d_M_reach_24 : decode b_M_reach 24 = .ok (.iconst 0, 1) := by decide +kernel
theorem d_M_reach_25 : decode b_M_reach 25 = .ok (.istore 5, 2) := by decide +kernel
theorem d_M_reach_27 : decode b_M_reach 27 = .ok (.iload 5, 2) := by decide +kernel
theorem d_M_reach_29 : decode b_M_reach 29 = .ok (.aload_n 0, 1) := by decide +kernel
theorem d_M_reach_30 : decode b_M_reach 30 = .ok (.getfield 41, 3) := by decide +kernel
theorem d_M_reach_33 : decode b_M_reach 33 = .ok (.if_icmp .ge 46, 3) := by decide +kernel
theorem d_M_reach_36 : decode b_M_reach 36 = .ok (.iload_n 2, 1) := by decide +kernel
theorem d_M_reach_37 : decode b_M_reach 37 = .ok (.iload 4, 2) := by decide +kernel
theorem d_M_reach_39 : decode b_M_reach 39 = .ok (.ishr, 1) := by decide +kernel
theorem d_M_reach_40 : decode b_M_reach 40 = .ok (.iconst 1, 1) := by decide +kernel
theorem d_M_reach_41 : decode b_M_reach 41 = .ok (.iand, 1) := by decide +kernel
theorem d_M_reach_42 : decode b_M_reach 42 = .ok (.iconst 1, 1) := by decide +kernel
theorem d_M_reach_43 : decode b_M_reach 43 = .ok (.if_icmp .ne 36, 3) := by decide +kernel
theorem d_M_reach_46 : decode b_M_reach 46 = .ok (.aload_n 0, 1) := by decide +kernel
theorem d_M_reach_47 : decode b_M_reach 47 = .ok (.getfield 7, 3) := by decide +kernel
theorem d_M_reach_50 : decode b_M_reach 50 = .ok (.bipush 6, 2) := by decide +kernel
theorem d_M_reach_52 : decode b_M_reach 52 = .ok (.iload 4, 2) := by decide +kernel
theorem d_M_reach_54 : decode b_M_reach 54 = .ok (.imul, 1) := by decide +kernel
theorem d_M_reach_55 : decode b_M_reach 55 = .ok (.iload 5, 2) := by decide +kernel
theorem d_M_reach_57 : decode b_M_reach 57 = .ok (.iadd, 1) := by decide +kernel
theorem d_M_reach_58 : decode b_M_reach 58 = .ok (.baload, 1) := by decide +kernel
theorem d_M_reach_59 : decode b_M_reach 59 = .ok (.ifCond .eq 12, 3) := by decide +kernel
theorem d_M_reach_62 : decode b_M_reach 62 = .ok (.iload_n 2, 1) := by decide +kernel
theorem d_M_reach_63 : decode b_M_reach 63 = .ok (.iconst 1, 1) := by decide +kernel
theorem d_M_reach_64 : decode b_M_reach 64 = .ok (.iload 5, 2) := by decide +kernel
theorem d_M_reach_66 : decode b_M_reach 66 = .ok (.ishl, 1) := by decide +kernel
theorem d_M_reach_67 : decode b_M_reach 67 = .ok (.ior, 1) := by decide +kernel
theorem d_M_reach_68 : decode b_M_reach 68 = .ok (.goto 4, 3) := by decide +kernel
theorem d_M_reach_71 : decode b_M_reach 71 = .ok (.iload_n 2, 1) := by decide +kernel
theorem d_M_reach_72 : decode b_M_reach 72 = .ok (.istore_n 2, 1) := by decide +kernel
theorem d_M_reach_73 : decode b_M_reach 73 = .ok (.iinc 5 1, 3) := by decide +kernel
theorem d_M_reach_76 : decode b_M_reach 76 = .ok (.goto (-49), 3) := by decide +kernel
theorem d_M_reach_79 : decode b_M_reach 79 = .ok (.iinc 4 1, 3) := by decide +kernel
theorem d_M_reach_82 : decode b_M_reach 82 = .ok (.goto (-67), 3) := by decide +kernel
theorem d_M_reach_85 : decode b_M_reach 85 = .ok (.iinc 3 1, 3) := by decide +kernel
theorem d_M_reach_88 : decode b_M_reach 88 = .ok (.goto (-82), 3) := by decide +kernel
theorem d_M_reach_91 : decode b_M_reach 91 = .ok (.iload_n 2, 1) := by decide +kernel
theorem d_M_reach_92 : decode b_M_reach 92 = .ok (.ireturn, 1) := by decide +kernel
theorem d_M_forgetAll_0 : decode b_M_forgetAll 0 = .ok (.iconst 0, 1) := by decide +kernel
theorem d_M_forgetAll_1 : decode b_M_forgetAll 1 = .ok (.istore_n 1, 1) := by decide +kernel
theorem d_M_forgetAll_2 : decode b_M_forgetAll 2 = .ok (.iload_n 1, 1) := by decide +kernel
theorem d_M_forgetAll_3 : decode b_M_forgetAll 3 = .ok (.bipush 36, 2) := by decide +kernel
theorem d_M_forgetAll_5 : decode b_M_forgetAll 5 = .ok (.if_icmp .ge 16, 3) := by decide +kernel
theorem d_M_forgetAll_8 : decode b_M_forgetAll 8 = .ok (.aload_n 0, 1) := by decide +kernel
theorem d_M_forgetAll_9 : decode b_M_forgetAll 9 = .ok (.getfield 13, 3) := by decide +kernel
theorem d_M_forgetAll_12 : decode b_M_forgetAll 12 = .ok (.iload_n 1, 1) := by decide +kernel
theorem d_M_forgetAll_13 : decode b_M_forgetAll 13 = .ok (.iconst 0, 1) := by decide +kernel
theorem d_M_forgetAll_14 : decode b_M_forgetAll 14 = .ok (.bastore, 1) := by decide +kernel
theorem d_M_forgetAll_15 : decode b_M_forgetAll 15 = .ok (.iinc 1 1, 3) := by decide +kernel
theorem d_M_forgetAll_18 : decode b_M_forgetAll 18 = .ok (.goto (-16), 3) := by decide +kernel
theorem d_M_forgetAll_21 : decode b_M_forgetAll 21 = .ok (.return_, 1) := by decide +kernel
theorem d_M_erase_0 : decode b_M_erase 0 = .ok (.aload_n 0, 1) := by decide +kernel
theorem d_M_erase_1 : decode b_M_erase 1 = .ok (.iload_n 1, 1) := by decide +kernel
theorem d_M_erase_2 : decode b_M_erase 2 = .ok (.iload_n 2, 1) := by decide +kernel
theorem d_M_erase_3 : decode b_M_erase 3 = .ok (.invokevirtual 49, 3) := by decide +kernel
theorem d_M_erase_6 : decode b_M_erase 6 = .ok (.ifCond .eq 17, 3) := by decide +kernel
theorem d_M_erase_9 : decode b_M_erase 9 = .ok (.aload_n 0, 1) := by decide +kernel
theorem d_M_erase_10 : decode b_M_erase 10 = .ok (.getfield 7, 3) := by decide +kernel
theorem d_M_erase_13 : decode b_M_erase 13 = .ok (.bipush 6, 2) := by decide +kernel
theorem d_M_erase_15 : decode b_M_erase 15 = .ok (.iload_n 1, 1) := by decide +kernel
theorem d_M_erase_16 : decode b_M_erase 16 = .ok (.imul, 1) := by decide +kernel
theorem d_M_erase_17 : decode b_M_erase 17 = .ok (.iload_n 2, 1) := by decide +kernel
theorem d_M_erase_18 : decode b_M_erase 18 = .ok (.iadd, 1) := by decide +kernel
theorem d_M_erase_19 : decode b_M_erase 19 = .ok (.baload, 1) := by decide +kernel
theorem d_M_erase_20 : decode b_M_erase 20 = .ok (.ifCond .ne 5, 3) := by decide +kernel
theorem d_M_erase_23 : decode b_M_erase 23 = .ok (.iconst 0, 1) := by decide +kernel
theorem d_M_erase_24 : decode b_M_erase 24 = .ok (.ireturn, 1) := by decide +kernel
theorem d_M_erase_25 : decode b_M_erase 25 = .ok (.aload_n 0, 1) := by decide +kernel
theorem d_M_erase_26 : decode b_M_erase 26 = .ok (.getfield 7, 3) := by decide +kernel
theorem d_M_erase_29 : decode b_M_erase 29 = .ok (.bipush 6, 2) := by decide +kernel
theorem d_M_erase_31 : decode b_M_erase 31 = .ok (.iload_n 1, 1) := by decide +kernel
theorem d_M_erase_32 : decode b_M_erase 32 = .ok (.imul, 1) := by decide +kernel
theorem d_M_erase_33 : decode b_M_erase 33 = .ok (.iload_n 2, 1) := by decide +kernel
theorem d_M_erase_34 : decode b_M_erase 34 = .ok (.iadd, 1) := by decide +kernel
theorem d_M_erase_35 : decode b_M_erase 35 = .ok (.iconst 0, 1) := by decide +kernel
theorem d_M_erase_36 : decode b_M_erase 36 = .ok (.bastore, 1) := by decide +kernel
theorem d_M_erase_37 : decode b_M_erase 37 = .ok (.aload_n 0, 1) := by decide +kernel
theorem d_M_erase_38 : decode b_M_erase 38 = .ok (.invokevirtual 64, 3) := by decide +kernel
theorem d_M_erase_41 : decode b_M_erase 41 = .ok (.iconst 1, 1) := by decide +kernel
theorem d_M_erase_42 : decode b_M_erase 42 = .ok (.ireturn, 1) := by decide +kernel
theorem d_M_turn_0 : decode b_M_turn 0 = .ok (.aload_n 0, 1) := by decide +kernel
theorem d_M_turn_1 : decode b_M_turn 1 = .ok (.iload_n 1, 1) := by decide +kernel
theorem d_M_turn_2 : decode b_M_turn 2 = .ok (.iload_n 2, 1) := by decide +kernel
theorem d_M_turn_3 : decode b_M_turn 3 = .ok (.invokevirtual 49, 3) := by decide +kernel
theorem d_M_turn_6 : decode b_M_turn 6 = .ok (.ifCond .eq 17, 3) := by decide +kernel
theorem d_M_turn_9 : decode b_M_turn 9 = .ok (.aload_n 0, 1) := by decide +kernel
theorem d_M_turn_10 : decode b_M_turn 10 = .ok (.getfield 7, 3) := by decide +kernel
theorem d_M_turn_13 : decode b_M_turn 13 = .ok (.bipush 6, 2) := by decide +kernel
theorem d_M_turn_15 : decode b_M_turn 15 = .ok (.iload_n 1, 1) := by decide +kernel
theorem d_M_turn_16 : decode b_M_turn 16 = .ok (.imul, 1) := by decide +kernel
theorem d_M_turn_17 : decode b_M_turn 17 = .ok (.iload_n 2, 1) := by decide +kernel
theorem d_M_turn_18 : decode b_M_turn 18 = .ok (.iadd, 1) := by decide +kernel
theorem d_M_turn_19 : decode b_M_turn 19 = .ok (.baload, 1) := by decide +kernel
theorem d_M_turn_20 : decode b_M_turn 20 = .ok (.ifCond .ne 5, 3) := by decide +kernel
theorem d_M_turn_23 : decode b_M_turn 23 = .ok (.iconst 0, 1) := by decide +kernel
theorem d_M_turn_24 : decode b_M_turn 24 = .ok (.ireturn, 1) := by decide +kernel
theorem d_M_turn_25 : decode b_M_turn 25 = .ok (.aload_n 0, 1) := by decide +kernel
theorem d_M_turn_26 : decode b_M_turn 26 = .ok (.getfield 7, 3) := by decide +kernel
theorem d_M_turn_29 : decode b_M_turn 29 = .ok (.bipush 6, 2) := by decide +kernel
theorem d_M_turn_31 : decode b_M_turn 31 = .ok (.iload_n 1, 1) := by decide +kernel
theorem d_M_turn_32 : decode b_M_turn 32 = .ok (.imul, 1) := by decide +kernel
theorem d_M_turn_33 : decode b_M_turn 33 = .ok (.iload_n 2, 1) := by decide +kernel
theorem d_M_turn_34 : decode b_M_turn 34 = .ok (.iadd, 1) := by decide +kernel
theorem d_M_turn_35 : decode b_M_turn 35 = .ok (.iconst 0, 1) := by decide +kernel
theorem d_M_turn_36 : decode b_M_turn 36 = .ok (.bastore, 1) := by decide +kernel
theorem d_M_turn_37 : decode b_M_turn 37 = .ok (.aload_n 0, 1) := by decide +kernel
theorem d_M_turn_38 : decode b_M_turn 38 = .ok (.iload_n 1, 1) := by decide +kernel
theorem d_M_turn_39 : decode b_M_turn 39 = .ok (.invokevirtual 60, 3) := by decide +kernel
theorem d_M_turn_42 : decode b_M_turn 42 = .ok (.iload_n 2, 1) := by decide +kernel
theorem d_M_turn_43 : decode b_M_turn 43 = .ok (.ishr, 1) := by decide +kernel
theorem d_M_turn_44 : decode b_M_turn 44 = .ok (.iconst 1, 1) := by decide +kernel
theorem d_M_turn_45 : decode b_M_turn 45 = .ok (.iand, 1) := by decide +kernel
theorem d_M_turn_46 : decode b_M_turn 46 = .ok (.iconst 1, 1) := by decide +kernel
theorem d_M_turn_47 : decode b_M_turn 47 = .ok (.if_icmp .ne 17, 3) := by decide +kernel
theorem d_M_turn_50 : decode b_M_turn 50 = .ok (.aload_n 0, 1) := by decide +kernel
theorem d_M_turn_51 : decode b_M_turn 51 = .ok (.getfield 7, 3) := by decide +kernel
theorem d_M_turn_54 : decode b_M_turn 54 = .ok (.bipush 6, 2) := by decide +kernel
theorem d_M_turn_56 : decode b_M_turn 56 = .ok (.iload_n 1, 1) := by decide +kernel
theorem d_M_turn_57 : decode b_M_turn 57 = .ok (.imul, 1) := by decide +kernel
theorem d_M_turn_58 : decode b_M_turn 58 = .ok (.iload_n 2, 1) := by decide +kernel
theorem d_M_turn_59 : decode b_M_turn 59 = .ok (.iadd, 1) := by decide +kernel
theorem d_M_turn_60 : decode b_M_turn 60 = .ok (.iconst 1, 1) := by decide +kernel
theorem d_M_turn_61 : decode b_M_turn 61 = .ok (.bastore, 1) := by decide +kernel
theorem d_M_turn_62 : decode b_M_turn 62 = .ok (.iconst 0, 1) := by decide +kernel
theorem d_M_turn_63 : decode b_M_turn 63 = .ok (.ireturn, 1) := by decide +kernel
theorem d_M_turn_64 : decode b_M_turn 64 = .ok (.aload_n 0, 1) := by decide +kernel
theorem d_M_turn_65 : decode b_M_turn 65 = .ok (.getfield 7, 3) := by decide +kernel
theorem d_M_turn_68 : decode b_M_turn 68 = .ok (.bipush 6, 2) := by decide +kernel
theorem d_M_turn_70 : decode b_M_turn 70 = .ok (.iload_n 2, 1) := by decide +kernel
theorem d_M_turn_71 : decode b_M_turn 71 = .ok (.imul, 1) := by decide +kernel
theorem d_M_turn_72 : decode b_M_turn 72 = .ok (.iload_n 1, 1) := by decide +kernel
theorem d_M_turn_73 : decode b_M_turn 73 = .ok (.iadd, 1) := by decide +kernel
theorem d_M_turn_74 : decode b_M_turn 74 = .ok (.iconst 1, 1) := by decide +kernel
theorem d_M_turn_75 : decode b_M_turn 75 = .ok (.bastore, 1) := by decide +kernel
theorem d_M_turn_76 : decode b_M_turn 76 = .ok (.aload_n 0, 1) := by decide +kernel
theorem d_M_turn_77 : decode b_M_turn 77 = .ok (.invokevirtual 64, 3) := by decide +kernel
theorem d_M_turn_80 : decode b_M_turn 80 = .ok (.iconst 1, 1) := by decide +kernel
theorem d_M_turn_81 : decode b_M_turn 81 = .ok (.ireturn, 1) := by decide +kernel
theorem d_M_drawn_0 : decode b_M_drawn 0 = .ok (.aload_n 0, 1) := by decide +kernel
theorem d_M_drawn_1 : decode b_M_drawn 1 = .ok (.iload_n 1, 1) := by decide +kernel
theorem d_M_drawn_2 : decode b_M_drawn 2 = .ok (.iload_n 2, 1) := by decide +kernel
theorem d_M_drawn_3 : decode b_M_drawn 3 = .ok (.invokevirtual 49, 3) := by decide +kernel
theorem d_M_drawn_6 : decode b_M_drawn 6 = .ok (.ifCond .eq 21, 3) := by decide +kernel
theorem d_M_drawn_9 : decode b_M_drawn 9 = .ok (.aload_n 0, 1) := by decide +kernel
theorem d_M_drawn_10 : decode b_M_drawn 10 = .ok (.getfield 7, 3) := by decide +kernel
theorem d_M_drawn_13 : decode b_M_drawn 13 = .ok (.bipush 6, 2) := by decide +kernel
theorem d_M_drawn_15 : decode b_M_drawn 15 = .ok (.iload_n 1, 1) := by decide +kernel
theorem d_M_drawn_16 : decode b_M_drawn 16 = .ok (.imul, 1) := by decide +kernel
theorem d_M_drawn_17 : decode b_M_drawn 17 = .ok (.iload_n 2, 1) := by decide +kernel
theorem d_M_drawn_18 : decode b_M_drawn 18 = .ok (.iadd, 1) := by decide +kernel
theorem d_M_drawn_19 : decode b_M_drawn 19 = .ok (.baload, 1) := by decide +kernel
theorem d_M_drawn_20 : decode b_M_drawn 20 = .ok (.ifCond .eq 7, 3) := by decide +kernel
theorem d_M_drawn_23 : decode b_M_drawn 23 = .ok (.iconst 1, 1) := by decide +kernel
theorem d_M_drawn_24 : decode b_M_drawn 24 = .ok (.goto 4, 3) := by decide +kernel
theorem d_M_drawn_27 : decode b_M_drawn 27 = .ok (.iconst 0, 1) := by decide +kernel
theorem d_M_drawn_28 : decode b_M_drawn 28 = .ok (.ireturn, 1) := by decide +kernel
theorem d_M_parents_0 : decode b_M_parents 0 = .ok (.aload_n 0, 1) := by decide +kernel
theorem d_M_parents_1 : decode b_M_parents 1 = .ok (.iload_n 1, 1) := by decide +kernel
theorem d_M_parents_2 : decode b_M_parents 2 = .ok (.invokevirtual 45, 3) := by decide +kernel
theorem d_M_parents_5 : decode b_M_parents 5 = .ok (.ifCond .ne 5, 3) := by decide +kernel
theorem d_M_parents_8 : decode b_M_parents 8 = .ok (.iconst (-1), 1) := by decide +kernel
theorem d_M_parents_9 : decode b_M_parents 9 = .ok (.ireturn, 1) := by decide +kernel
theorem d_M_parents_10 : decode b_M_parents 10 = .ok (.iconst 0, 1) := by decide +kernel
theorem d_M_parents_11 : decode b_M_parents 11 = .ok (.istore_n 2, 1) := by decide +kernel
theorem d_M_parents_12 : decode b_M_parents 12 = .ok (.iconst 0, 1) := by decide +kernel
theorem d_M_parents_13 : decode b_M_parents 13 = .ok (.istore_n 3, 1) := by decide +kernel
theorem d_M_parents_14 : decode b_M_parents 14 = .ok (.iload_n 3, 1) := by decide +kernel
theorem d_M_parents_15 : decode b_M_parents 15 = .ok (.aload_n 0, 1) := by decide +kernel
theorem d_M_parents_16 : decode b_M_parents 16 = .ok (.getfield 41, 3) := by decide +kernel
theorem d_M_parents_19 : decode b_M_parents 19 = .ok (.if_icmp .ge 33, 3) := by decide +kernel
theorem d_M_parents_22 : decode b_M_parents 22 = .ok (.aload_n 0, 1) := by decide +kernel
theorem d_M_parents_23 : decode b_M_parents 23 = .ok (.getfield 7, 3) := by decide +kernel
theorem d_M_parents_26 : decode b_M_parents 26 = .ok (.bipush 6, 2) := by decide +kernel
theorem d_M_parents_28 : decode b_M_parents 28 = .ok (.iload_n 3, 1) := by decide +kernel
theorem d_M_parents_29 : decode b_M_parents 29 = .ok (.imul, 1) := by decide +kernel
theorem d_M_parents_30 : decode b_M_parents 30 = .ok (.iload_n 1, 1) := by decide +kernel
theorem d_M_parents_31 : decode b_M_parents 31 = .ok (.iadd, 1) := by decide +kernel
theorem d_M_parents_32 : decode b_M_parents 32 = .ok (.baload, 1) := by decide +kernel
theorem d_M_parents_33 : decode b_M_parents 33 = .ok (.ifCond .eq 11, 3) := by decide +kernel
theorem d_M_parents_36 : decode b_M_parents 36 = .ok (.iload_n 2, 1) := by decide +kernel
theorem d_M_parents_37 : decode b_M_parents 37 = .ok (.iconst 1, 1) := by decide +kernel
theorem d_M_parents_38 : decode b_M_parents 38 = .ok (.iload_n 3, 1) := by decide +kernel
theorem d_M_parents_39 : decode b_M_parents 39 = .ok (.ishl, 1) := by decide +kernel
theorem d_M_parents_40 : decode b_M_parents 40 = .ok (.iadd, 1) := by decide +kernel
theorem d_M_parents_41 : decode b_M_parents 41 = .ok (.goto 4, 3) := by decide +kernel
theorem d_M_parents_44 : decode b_M_parents 44 = .ok (.iload_n 2, 1) := by decide +kernel
theorem d_M_parents_45 : decode b_M_parents 45 = .ok (.istore_n 2, 1) := by decide +kernel
theorem d_M_parents_46 : decode b_M_parents 46 = .ok (.iinc 3 1, 3) := by decide +kernel
theorem d_M_parents_49 : decode b_M_parents 49 = .ok (.goto (-35), 3) := by decide +kernel
theorem d_M_parents_52 : decode b_M_parents 52 = .ok (.iload_n 2, 1) := by decide +kernel
theorem d_M_parents_53 : decode b_M_parents 53 = .ok (.ireturn, 1) := by decide +kernel
theorem d_M_reached_0 : decode b_M_reached 0 = .ok (.aload_n 0, 1) := by decide +kernel
theorem d_M_reached_1 : decode b_M_reached 1 = .ok (.iload_n 1, 1) := by decide +kernel
theorem d_M_reached_2 : decode b_M_reached 2 = .ok (.invokevirtual 45, 3) := by decide +kernel
theorem d_M_reached_5 : decode b_M_reached 5 = .ok (.ifCond .eq 11, 3) := by decide +kernel
theorem d_M_reached_8 : decode b_M_reached 8 = .ok (.aload_n 0, 1) := by decide +kernel
theorem d_M_reached_9 : decode b_M_reached 9 = .ok (.iload_n 1, 1) := by decide +kernel
theorem d_M_reached_10 : decode b_M_reached 10 = .ok (.invokevirtual 60, 3) := by decide +kernel
theorem d_M_reached_13 : decode b_M_reached 13 = .ok (.goto 4, 3) := by decide +kernel
theorem d_M_reached_16 : decode b_M_reached 16 = .ok (.iconst (-1), 1) := by decide +kernel
theorem d_M_reached_17 : decode b_M_reached 17 = .ok (.ireturn, 1) := by decide +kernel
theorem d_M_around_0 : decode b_M_around 0 = .ok (.aload_n 0, 1) := by decide +kernel
theorem d_M_around_1 : decode b_M_around 1 = .ok (.iload_n 1, 1) := by decide +kernel
theorem d_M_around_2 : decode b_M_around 2 = .ok (.invokevirtual 45, 3) := by decide +kernel
theorem d_M_around_5 : decode b_M_around 5 = .ok (.ifCond .ne 5, 3) := by decide +kernel
theorem d_M_around_8 : decode b_M_around 8 = .ok (.iconst (-1), 1) := by decide +kernel
theorem d_M_around_9 : decode b_M_around 9 = .ok (.ireturn, 1) := by decide +kernel
theorem d_M_around_10 : decode b_M_around 10 = .ok (.aload_n 0, 1) := by decide +kernel
theorem d_M_around_11 : decode b_M_around 11 = .ok (.iload_n 1, 1) := by decide +kernel
theorem d_M_around_12 : decode b_M_around 12 = .ok (.invokevirtual 67, 3) := by decide +kernel
theorem d_M_around_15 : decode b_M_around 15 = .ok (.istore_n 2, 1) := by decide +kernel
theorem d_M_around_16 : decode b_M_around 16 = .ok (.iconst 0, 1) := by decide +kernel
theorem d_M_around_17 : decode b_M_around 17 = .ok (.istore_n 3, 1) := by decide +kernel
theorem d_M_around_18 : decode b_M_around 18 = .ok (.iload_n 3, 1) := by decide +kernel
theorem d_M_around_19 : decode b_M_around 19 = .ok (.aload_n 0, 1) := by decide +kernel
theorem d_M_around_20 : decode b_M_around 20 = .ok (.getfield 41, 3) := by decide +kernel
theorem d_M_around_23 : decode b_M_around 23 = .ok (.if_icmp .ge 35, 3) := by decide +kernel
theorem d_M_around_26 : decode b_M_around 26 = .ok (.aload_n 0, 1) := by decide +kernel
theorem d_M_around_27 : decode b_M_around 27 = .ok (.getfield 7, 3) := by decide +kernel
theorem d_M_around_30 : decode b_M_around 30 = .ok (.bipush 6, 2) := by decide +kernel
theorem d_M_around_32 : decode b_M_around 32 = .ok (.iload_n 1, 1) := by decide +kernel
theorem d_M_around_33 : decode b_M_around 33 = .ok (.imul, 1) := by decide +kernel
theorem d_M_around_34 : decode b_M_around 34 = .ok (.iload_n 3, 1) := by decide +kernel
theorem d_M_around_35 : decode b_M_around 35 = .ok (.iadd, 1) := by decide +kernel
theorem d_M_around_36 : decode b_M_around 36 = .ok (.baload, 1) := by decide +kernel
theorem d_M_around_37 : decode b_M_around 37 = .ok (.ifCond .eq 15, 3) := by decide +kernel
theorem d_M_around_40 : decode b_M_around 40 = .ok (.iload_n 2, 1) := by decide +kernel
theorem d_M_around_41 : decode b_M_around 41 = .ok (.iconst 1, 1) := by decide +kernel
theorem d_M_around_42 : decode b_M_around 42 = .ok (.iload_n 3, 1) := by decide +kernel
theorem d_M_around_43 : decode b_M_around 43 = .ok (.ishl, 1) := by decide +kernel
theorem d_M_around_44 : decode b_M_around 44 = .ok (.ior, 1) := by decide +kernel
theorem d_M_around_45 : decode b_M_around 45 = .ok (.aload_n 0, 1) := by decide +kernel
theorem d_M_around_46 : decode b_M_around 46 = .ok (.iload_n 3, 1) := by decide +kernel
theorem d_M_around_47 : decode b_M_around 47 = .ok (.invokevirtual 67, 3) := by decide +kernel
theorem d_M_around_50 : decode b_M_around 50 = .ok (.ior, 1) := by decide +kernel
theorem d_M_around_51 : decode b_M_around 51 = .ok (.istore_n 2, 1) := by decide +kernel
theorem d_M_around_52 : decode b_M_around 52 = .ok (.iinc 3 1, 3) := by decide +kernel
theorem d_M_around_55 : decode b_M_around 55 = .ok (.goto (-37), 3) := by decide +kernel
theorem d_M_around_58 : decode b_M_around 58 = .ok (.iload_n 2, 1) := by decide +kernel
theorem d_M_around_59 : decode b_M_around 59 = .ok (.iconst 1, 1) := by decide +kernel
theorem d_M_around_60 : decode b_M_around 60 = .ok (.iload_n 1, 1) := by decide +kernel
theorem d_M_around_61 : decode b_M_around 61 = .ok (.ishl, 1) := by decide +kernel
theorem d_M_around_62 : decode b_M_around 62 = .ok (.iconst (-1), 1) := by decide +kernel
theorem d_M_around_63 : decode b_M_around 63 = .ok (.ixor, 1) := by decide +kernel
theorem d_M_around_64 : decode b_M_around 64 = .ok (.iand, 1) := by decide +kernel
theorem d_M_around_65 : decode b_M_around 65 = .ok (.ireturn, 1) := by decide +kernel
theorem d_M_collisions_0 : decode b_M_collisions 0 = .ok (.iconst 0, 1) := by decide +kernel
theorem d_M_collisions_1 : decode b_M_collisions 1 = .ok (.istore_n 1, 1) := by decide +kernel
theorem d_M_collisions_2 : decode b_M_collisions 2 = .ok (.iconst 0, 1) := by decide +kernel
theorem d_M_collisions_3 : decode b_M_collisions 3 = .ok (.istore_n 2, 1) := by decide +kernel
theorem d_M_collisions_4 : decode b_M_collisions 4 = .ok (.iload_n 2, 1) := by decide +kernel
theorem d_M_collisions_5 : decode b_M_collisions 5 = .ok (.aload_n 0, 1) := by decide +kernel
theorem d_M_collisions_6 : decode b_M_collisions 6 = .ok (.getfield 41, 3) := by decide +kernel
theorem d_M_collisions_9 : decode b_M_collisions 9 = .ok (.if_icmp .ge 67, 3) := by decide +kernel
theorem d_M_collisions_12 : decode b_M_collisions 12 = .ok (.iconst 0, 1) := by decide +kernel
theorem d_M_collisions_13 : decode b_M_collisions 13 = .ok (.istore_n 3, 1) := by decide +kernel
theorem d_M_collisions_14 : decode b_M_collisions 14 = .ok (.iload_n 3, 1) := by decide +kernel
theorem d_M_collisions_15 : decode b_M_collisions 15 = .ok (.aload_n 0, 1) := by decide +kernel
theorem d_M_collisions_16 : decode b_M_collisions 16 = .ok (.getfield 41, 3) := by decide +kernel
theorem d_M_collisions_19 : decode b_M_collisions 19 = .ok (.if_icmp .ge 51, 3) := by decide +kernel
theorem d_M_collisions_22 : decode b_M_collisions 22 = .ok (.iload_n 3, 1) := by decide +kernel
theorem d_M_collisions_23 : decode b_M_collisions 23 = .ok (.iconst 1, 1) := by decide +kernel
theorem d_M_collisions_24 : decode b_M_collisions 24 = .ok (.iadd, 1) := by decide +kernel
theorem d_M_collisions_25 : decode b_M_collisions 25 = .ok (.istore 4, 2) := by decide +kernel
theorem d_M_collisions_27 : decode b_M_collisions 27 = .ok (.iload 4, 2) := by decide +kernel
theorem d_M_collisions_29 : decode b_M_collisions 29 = .ok (.aload_n 0, 1) := by decide +kernel
theorem d_M_collisions_30 : decode b_M_collisions 30 = .ok (.getfield 41, 3) := by decide +kernel
theorem d_M_collisions_33 : decode b_M_collisions 33 = .ok (.if_icmp .ge 31, 3) := by decide +kernel
theorem d_M_collisions_36 : decode b_M_collisions 36 = .ok (.aload_n 0, 1) := by decide +kernel
theorem d_M_collisions_37 : decode b_M_collisions 37 = .ok (.getfield 7, 3) := by decide +kernel
theorem d_M_collisions_40 : decode b_M_collisions 40 = .ok (.iload_n 3, 1) := by decide +kernel
theorem d_M_collisions_41 : decode b_M_collisions 41 = .ok (.iload_n 2, 1) := by decide +kernel
theorem d_M_collisions_42 : decode b_M_collisions 42 = .ok (.iload 4, 2) := by decide +kernel
theorem d_M_collisions_44 : decode b_M_collisions 44 = .ok (.invokestatic 70, 3) := by decide +kernel
theorem d_M_collisions_47 : decode b_M_collisions 47 = .ok (.ifCond .eq 9, 3) := by decide +kernel
theorem d_M_collisions_50 : decode b_M_collisions 50 = .ok (.iload_n 1, 1) := by decide +kernel
theorem d_M_collisions_51 : decode b_M_collisions 51 = .ok (.iconst 1, 1) := by decide +kernel
theorem d_M_collisions_52 : decode b_M_collisions 52 = .ok (.iadd, 1) := by decide +kernel
theorem d_M_collisions_53 : decode b_M_collisions 53 = .ok (.goto 4, 3) := by decide +kernel
theorem d_M_collisions_56 : decode b_M_collisions 56 = .ok (.iload_n 1, 1) := by decide +kernel
theorem d_M_collisions_57 : decode b_M_collisions 57 = .ok (.istore_n 1, 1) := by decide +kernel
theorem d_M_collisions_58 : decode b_M_collisions 58 = .ok (.iinc 4 1, 3) := by decide +kernel
theorem d_M_collisions_61 : decode b_M_collisions 61 = .ok (.goto (-34), 3) := by decide +kernel
theorem d_M_collisions_64 : decode b_M_collisions 64 = .ok (.iinc 3 1, 3) := by decide +kernel
theorem d_M_collisions_67 : decode b_M_collisions 67 = .ok (.goto (-53), 3) := by decide +kernel
theorem d_M_collisions_70 : decode b_M_collisions 70 = .ok (.iinc 2 1, 3) := by decide +kernel
theorem d_M_collisions_73 : decode b_M_collisions 73 = .ok (.goto (-69), 3) := by decide +kernel
theorem d_M_collisions_76 : decode b_M_collisions 76 = .ok (.iload_n 1, 1) := by decide +kernel
theorem d_M_collisions_77 : decode b_M_collisions 77 = .ok (.ireturn, 1) := by decide +kernel
theorem d_M_collides_0 : decode b_M_collides 0 = .ok (.aload_n 0, 1) := by decide +kernel
theorem d_M_collides_1 : decode b_M_collides 1 = .ok (.bipush 6, 2) := by decide +kernel
theorem d_M_collides_3 : decode b_M_collides 3 = .ok (.iload_n 1, 1) := by decide +kernel
theorem d_M_collides_4 : decode b_M_collides 4 = .ok (.imul, 1) := by decide +kernel
theorem d_M_collides_5 : decode b_M_collides 5 = .ok (.iload_n 2, 1) := by decide +kernel
theorem d_M_collides_6 : decode b_M_collides 6 = .ok (.iadd, 1) := by decide +kernel
theorem d_M_collides_7 : decode b_M_collides 7 = .ok (.baload, 1) := by decide +kernel
theorem d_M_collides_8 : decode b_M_collides 8 = .ok (.ifCond .eq 40, 3) := by decide +kernel
theorem d_M_collides_11 : decode b_M_collides 11 = .ok (.aload_n 0, 1) := by decide +kernel
theorem d_M_collides_12 : decode b_M_collides 12 = .ok (.bipush 6, 2) := by decide +kernel
theorem d_M_collides_14 : decode b_M_collides 14 = .ok (.iload_n 3, 1) := by decide +kernel
theorem d_M_collides_15 : decode b_M_collides 15 = .ok (.imul, 1) := by decide +kernel
theorem d_M_collides_16 : decode b_M_collides 16 = .ok (.iload_n 2, 1) := by decide +kernel
theorem d_M_collides_17 : decode b_M_collides 17 = .ok (.iadd, 1) := by decide +kernel
theorem d_M_collides_18 : decode b_M_collides 18 = .ok (.baload, 1) := by decide +kernel
theorem d_M_collides_19 : decode b_M_collides 19 = .ok (.ifCond .eq 29, 3) := by decide +kernel
theorem d_M_collides_22 : decode b_M_collides 22 = .ok (.aload_n 0, 1) := by decide +kernel
theorem d_M_collides_23 : decode b_M_collides 23 = .ok (.bipush 6, 2) := by decide +kernel
theorem d_M_collides_25 : decode b_M_collides 25 = .ok (.iload_n 1, 1) := by decide +kernel
theorem d_M_collides_26 : decode b_M_collides 26 = .ok (.imul, 1) := by decide +kernel
theorem d_M_collides_27 : decode b_M_collides 27 = .ok (.iload_n 3, 1) := by decide +kernel
theorem d_M_collides_28 : decode b_M_collides 28 = .ok (.iadd, 1) := by decide +kernel
theorem d_M_collides_29 : decode b_M_collides 29 = .ok (.baload, 1) := by decide +kernel
theorem d_M_collides_30 : decode b_M_collides 30 = .ok (.ifCond .ne 18, 3) := by decide +kernel
theorem d_M_collides_33 : decode b_M_collides 33 = .ok (.aload_n 0, 1) := by decide +kernel
theorem d_M_collides_34 : decode b_M_collides 34 = .ok (.bipush 6, 2) := by decide +kernel
theorem d_M_collides_36 : decode b_M_collides 36 = .ok (.iload_n 3, 1) := by decide +kernel
theorem d_M_collides_37 : decode b_M_collides 37 = .ok (.imul, 1) := by decide +kernel
theorem d_M_collides_38 : decode b_M_collides 38 = .ok (.iload_n 1, 1) := by decide +kernel
theorem d_M_collides_39 : decode b_M_collides 39 = .ok (.iadd, 1) := by decide +kernel
theorem d_M_collides_40 : decode b_M_collides 40 = .ok (.baload, 1) := by decide +kernel
theorem d_M_collides_41 : decode b_M_collides 41 = .ok (.ifCond .ne 7, 3) := by decide +kernel
theorem d_M_collides_44 : decode b_M_collides 44 = .ok (.iconst 1, 1) := by decide +kernel
theorem d_M_collides_45 : decode b_M_collides 45 = .ok (.goto 4, 3) := by decide +kernel
theorem d_M_collides_48 : decode b_M_collides 48 = .ok (.iconst 0, 1) := by decide +kernel
theorem d_M_collides_49 : decode b_M_collides 49 = .ok (.ireturn, 1) := by decide +kernel
theorem d_M_covered_0 : decode b_M_covered 0 = .ok (.aload_n 0, 1) := by decide +kernel
theorem d_M_covered_1 : decode b_M_covered 1 = .ok (.iload_n 1, 1) := by decide +kernel
theorem d_M_covered_2 : decode b_M_covered 2 = .ok (.iload_n 2, 1) := by decide +kernel
theorem d_M_covered_3 : decode b_M_covered 3 = .ok (.invokevirtual 74, 3) := by decide +kernel
theorem d_M_covered_6 : decode b_M_covered 6 = .ok (.ifCond .eq 24, 3) := by decide +kernel
theorem d_M_covered_9 : decode b_M_covered 9 = .ok (.aload_n 0, 1) := by decide +kernel
theorem d_M_covered_10 : decode b_M_covered 10 = .ok (.iload_n 2, 1) := by decide +kernel
theorem d_M_covered_11 : decode b_M_covered 11 = .ok (.invokevirtual 67, 3) := by decide +kernel
theorem d_M_covered_14 : decode b_M_covered 14 = .ok (.aload_n 0, 1) := by decide +kernel
theorem d_M_covered_15 : decode b_M_covered 15 = .ok (.iload_n 1, 1) := by decide +kernel
theorem d_M_covered_16 : decode b_M_covered 16 = .ok (.invokevirtual 67, 3) := by decide +kernel
theorem d_M_covered_19 : decode b_M_covered 19 = .ok (.iconst 1, 1) := by decide +kernel
theorem d_M_covered_20 : decode b_M_covered 20 = .ok (.iload_n 1, 1) := by decide +kernel
theorem d_M_covered_21 : decode b_M_covered 21 = .ok (.ishl, 1) := by decide +kernel
theorem d_M_covered_22 : decode b_M_covered 22 = .ok (.ior, 1) := by decide +kernel
theorem d_M_covered_23 : decode b_M_covered 23 = .ok (.if_icmp .ne 7, 3) := by decide +kernel
theorem d_M_covered_26 : decode b_M_covered 26 = .ok (.iconst 1, 1) := by decide +kernel
theorem d_M_covered_27 : decode b_M_covered 27 = .ok (.goto 4, 3) := by decide +kernel
theorem d_M_covered_30 : decode b_M_covered 30 = .ok (.iconst 0, 1) := by decide +kernel
theorem d_M_covered_31 : decode b_M_covered 31 = .ok (.ireturn, 1) := by decide +kernel
theorem d_M_separated_0 : decode b_M_separated 0 = .ok (.aload_n 0, 1) := by decide +kernel
theorem d_M_separated_1 : decode b_M_separated 1 = .ok (.iload_n 1, 1) := by decide +kernel
theorem d_M_separated_2 : decode b_M_separated 2 = .ok (.iload_n 2, 1) := by decide +kernel
theorem d_M_separated_3 : decode b_M_separated 3 = .ok (.invokevirtual 49, 3) := by decide +kernel
theorem d_M_separated_6 : decode b_M_separated 6 = .ok (.ifCond .eq 35, 3) := by decide +kernel
theorem d_M_separated_9 : decode b_M_separated 9 = .ok (.iload_n 3, 1) := by decide +kernel
theorem d_M_separated_10 : decode b_M_separated 10 = .ok (.ifCond .lt 31, 3) := by decide +kernel
theorem d_M_separated_13 : decode b_M_separated 13 = .ok (.iload_n 3, 1) := by decide +kernel
theorem d_M_separated_14 : decode b_M_separated 14 = .ok (.iconst 1, 1) := by decide +kernel
theorem d_M_separated_15 : decode b_M_separated 15 = .ok (.aload_n 0, 1) := by decide +kernel
theorem d_M_separated_16 : decode b_M_separated 16 = .ok (.getfield 41, 3) := by decide +kernel
theorem d_M_separated_19 : decode b_M_separated 19 = .ok (.ishl, 1) := by decide +kernel
theorem d_M_separated_20 : decode b_M_separated 20 = .ok (.if_icmp .ge 21, 3) := by decide +kernel
theorem d_M_separated_23 : decode b_M_separated 23 = .ok (.iload_n 3, 1) := by decide +kernel
theorem d_M_separated_24 : decode b_M_separated 24 = .ok (.iload_n 1, 1) := by decide +kernel
theorem d_M_separated_25 : decode b_M_separated 25 = .ok (.ishr, 1) := by decide +kernel
theorem d_M_separated_26 : decode b_M_separated 26 = .ok (.iconst 1, 1) := by decide +kernel
theorem d_M_separated_27 : decode b_M_separated 27 = .ok (.iand, 1) := by decide +kernel
theorem d_M_separated_28 : decode b_M_separated 28 = .ok (.iconst 1, 1) := by decide +kernel
theorem d_M_separated_29 : decode b_M_separated 29 = .ok (.if_icmp .eq 12, 3) := by decide +kernel
theorem d_M_separated_32 : decode b_M_separated 32 = .ok (.iload_n 3, 1) := by decide +kernel
theorem d_M_separated_33 : decode b_M_separated 33 = .ok (.iload_n 2, 1) := by decide +kernel
theorem d_M_separated_34 : decode b_M_separated 34 = .ok (.ishr, 1) := by decide +kernel
theorem d_M_separated_35 : decode b_M_separated 35 = .ok (.iconst 1, 1) := by decide +kernel
theorem d_M_separated_36 : decode b_M_separated 36 = .ok (.iand, 1) := by decide +kernel
theorem d_M_separated_37 : decode b_M_separated 37 = .ok (.iconst 1, 1) := by decide +kernel
theorem d_M_separated_38 : decode b_M_separated 38 = .ok (.if_icmp .ne 5, 3) := by decide +kernel
theorem d_M_separated_41 : decode b_M_separated 41 = .ok (.iconst 0, 1) := by decide +kernel
theorem d_M_separated_42 : decode b_M_separated 42 = .ok (.ireturn, 1) := by decide +kernel
theorem d_M_separated_43 : decode b_M_separated 43 = .ok (.aload_n 0, 1) := by decide +kernel
theorem d_M_separated_44 : decode b_M_separated 44 = .ok (.iload_n 1, 1) := by decide +kernel
theorem d_M_separated_45 : decode b_M_separated 45 = .ok (.iload_n 2, 1) := by decide +kernel
theorem d_M_separated_46 : decode b_M_separated 46 = .ok (.iload_n 3, 1) := by decide +kernel
theorem d_M_separated_47 : decode b_M_separated 47 = .ok (.invokevirtual 83, 3) := by decide +kernel
theorem d_M_separated_50 : decode b_M_separated 50 = .ok (.ireturn, 1) := by decide +kernel
theorem d_M_allBlocked_0 : decode b_M_allBlocked 0 = .ok (.iconst 0, 1) := by decide +kernel
theorem d_M_allBlocked_1 : decode b_M_allBlocked 1 = .ok (.istore 4, 2) := by decide +kernel
theorem d_M_allBlocked_3 : decode b_M_allBlocked 3 = .ok (.iload 4, 2) := by decide +kernel
theorem d_M_allBlocked_5 : decode b_M_allBlocked 5 = .ok (.aload_n 0, 1) := by decide +kernel
theorem d_M_allBlocked_6 : decode b_M_allBlocked 6 = .ok (.getfield 41, 3) := by decide +kernel
theorem d_M_allBlocked_9 : decode b_M_allBlocked 9 = .ok (.if_icmp .ge 22, 3) := by decide +kernel
theorem d_M_allBlocked_12 : decode b_M_allBlocked 12 = .ok (.aload_n 0, 1) := by decide +kernel
theorem d_M_allBlocked_13 : decode b_M_allBlocked 13 = .ok (.getfield 38, 3) := by decide +kernel
theorem d_M_allBlocked_16 : decode b_M_allBlocked 16 = .ok (.iload 4, 2) := by decide +kernel
theorem d_M_allBlocked_18 : decode b_M_allBlocked 18 = .ok (.aload_n 0, 1) := by decide +kernel
theorem d_M_allBlocked_19 : decode b_M_allBlocked 19 = .ok (.iload 4, 2) := by decide +kernel
theorem d_M_allBlocked_21 : decode b_M_allBlocked 21 = .ok (.invokevirtual 60, 3) := by decide +kernel
theorem d_M_allBlocked_24 : decode b_M_allBlocked 24 = .ok (.iastore, 1) := by decide +kernel
theorem d_M_allBlocked_25 : decode b_M_allBlocked 25 = .ok (.iinc 4 1, 3) := by decide +kernel
theorem d_M_allBlocked_28 : decode b_M_allBlocked 28 = .ok (.goto (-25), 3) := by decide +kernel
theorem d_M_allBlocked_31 : decode b_M_allBlocked 31 = .ok (.iconst 1, 1) := by decide +kernel
theorem d_M_allBlocked_32 : decode b_M_allBlocked 32 = .ok (.istore 4, 2) := by decide +kernel
theorem d_M_allBlocked_34 : decode b_M_allBlocked 34 = .ok (.aload_n 0, 1) := by decide +kernel
theorem d_M_allBlocked_35 : decode b_M_allBlocked 35 = .ok (.getfield 32, 3) := by decide +kernel
theorem d_M_allBlocked_38 : decode b_M_allBlocked 38 = .ok (.iconst 0, 1) := by decide +kernel
theorem d_M_allBlocked_39 : decode b_M_allBlocked 39 = .ok (.iload_n 1, 1) := by decide +kernel
theorem d_M_allBlocked_40 : decode b_M_allBlocked 40 = .ok (.iastore, 1) := by decide +kernel
theorem d_M_allBlocked_41 : decode b_M_allBlocked 41 = .ok (.aload_n 0, 1) := by decide +kernel
theorem d_M_allBlocked_42 : decode b_M_allBlocked 42 = .ok (.getfield 35, 3) := by decide +kernel
theorem d_M_allBlocked_45 : decode b_M_allBlocked 45 = .ok (.iconst 0, 1) := by decide +kernel
theorem d_M_allBlocked_46 : decode b_M_allBlocked 46 = .ok (.iconst 0, 1) := by decide +kernel
theorem d_M_allBlocked_47 : decode b_M_allBlocked 47 = .ok (.iastore, 1) := by decide +kernel
theorem d_M_allBlocked_48 : decode b_M_allBlocked 48 = .ok (.iload 4, 2) := by decide +kernel
theorem d_M_allBlocked_50 : decode b_M_allBlocked 50 = .ok (.ifCond .le 128, 3) := by decide +kernel
theorem d_M_allBlocked_53 : decode b_M_allBlocked 53 = .ok (.iload 4, 2) := by decide +kernel
theorem d_M_allBlocked_55 : decode b_M_allBlocked 55 = .ok (.iconst 1, 1) := by decide +kernel
theorem d_M_allBlocked_56 : decode b_M_allBlocked 56 = .ok (.isub, 1) := by decide +kernel
theorem d_M_allBlocked_57 : decode b_M_allBlocked 57 = .ok (.istore 5, 2) := by decide +kernel
theorem d_M_allBlocked_59 : decode b_M_allBlocked 59 = .ok (.aload_n 0, 1) := by decide +kernel
theorem d_M_allBlocked_60 : decode b_M_allBlocked 60 = .ok (.getfield 35, 3) := by decide +kernel
theorem d_M_allBlocked_63 : decode b_M_allBlocked 63 = .ok (.iload 5, 2) := by decide +kernel
theorem d_M_allBlocked_65 : decode b_M_allBlocked 65 = .ok (.iaload, 1) := by decide +kernel
theorem d_M_allBlocked_66 : decode b_M_allBlocked 66 = .ok (.istore 6, 2) := by decide +kernel
theorem d_M_allBlocked_68 : decode b_M_allBlocked 68 = .ok (.iload 6, 2) := by decide +kernel
theorem d_M_allBlocked_70 : decode b_M_allBlocked 70 = .ok (.aload_n 0, 1) := by decide +kernel
theorem d_M_allBlocked_71 : decode b_M_allBlocked 71 = .ok (.getfield 41, 3) := by decide +kernel
theorem d_M_allBlocked_74 : decode b_M_allBlocked 74 = .ok (.if_icmp .eq 14, 3) := by decide +kernel
theorem d_M_allBlocked_77 : decode b_M_allBlocked 77 = .ok (.aload_n 0, 1) := by decide +kernel
theorem d_M_allBlocked_78 : decode b_M_allBlocked 78 = .ok (.getfield 32, 3) := by decide +kernel
theorem d_M_allBlocked_81 : decode b_M_allBlocked 81 = .ok (.iload 5, 2) := by decide +kernel
theorem d_M_allBlocked_83 : decode b_M_allBlocked 83 = .ok (.iaload, 1) := by decide +kernel
theorem d_M_allBlocked_84 : decode b_M_allBlocked 84 = .ok (.iload_n 2, 1) := by decide +kernel
theorem d_M_allBlocked_85 : decode b_M_allBlocked 85 = .ok (.if_icmp .ne 32, 3) := by decide +kernel
theorem d_M_allBlocked_88 : decode b_M_allBlocked 88 = .ok (.aload_n 0, 1) := by decide +kernel
theorem d_M_allBlocked_89 : decode b_M_allBlocked 89 = .ok (.getfield 32, 3) := by decide +kernel
theorem d_M_allBlocked_92 : decode b_M_allBlocked 92 = .ok (.iload 5, 2) := by decide +kernel
theorem d_M_allBlocked_94 : decode b_M_allBlocked 94 = .ok (.iaload, 1) := by decide +kernel
theorem d_M_allBlocked_95 : decode b_M_allBlocked 95 = .ok (.iload_n 2, 1) := by decide +kernel
theorem d_M_allBlocked_96 : decode b_M_allBlocked 96 = .ok (.if_icmp .ne 15, 3) := by decide +kernel
theorem d_M_allBlocked_99 : decode b_M_allBlocked 99 = .ok (.aload_n 0, 1) := by decide +kernel
theorem d_M_allBlocked_100 : decode b_M_allBlocked 100 = .ok (.iload 4, 2) := by decide +kernel
theorem d_M_allBlocked_102 : decode b_M_allBlocked 102 = .ok (.iload_n 3, 1) := by decide +kernel
theorem d_M_allBlocked_103 : decode b_M_allBlocked 103 = .ok (.invokevirtual 77, 3) := by decide +kernel
theorem d_M_allBlocked_106 : decode b_M_allBlocked 106 = .ok (.ifCond .ne 5, 3) := by decide +kernel
theorem d_M_allBlocked_109 : decode b_M_allBlocked 109 = .ok (.iconst 0, 1) := by decide +kernel
theorem d_M_allBlocked_110 : decode b_M_allBlocked 110 = .ok (.ireturn, 1) := by decide +kernel
theorem d_M_allBlocked_111 : decode b_M_allBlocked 111 = .ok (.iinc 4 (-1), 3) := by decide +kernel
theorem d_M_allBlocked_114 : decode b_M_allBlocked 114 = .ok (.goto 61, 3) := by decide +kernel
theorem d_M_allBlocked_117 : decode b_M_allBlocked 117 = .ok (.aload_n 0, 1) := by decide +kernel
theorem d_M_allBlocked_118 : decode b_M_allBlocked 118 = .ok (.getfield 35, 3) := by decide +kernel
theorem d_M_allBlocked_121 : decode b_M_allBlocked 121 = .ok (.iload 5, 2) := by decide +kernel
theorem d_M_allBlocked_123 : decode b_M_allBlocked 123 = .ok (.dup2, 1) := by decide +kernel
theorem d_M_allBlocked_124 : decode b_M_allBlocked 124 = .ok (.iaload, 1) := by decide +kernel
theorem d_M_allBlocked_125 : decode b_M_allBlocked 125 = .ok (.iconst 1, 1) := by decide +kernel
theorem d_M_allBlocked_126 : decode b_M_allBlocked 126 = .ok (.iadd, 1) := by decide +kernel
theorem d_M_allBlocked_127 : decode b_M_allBlocked 127 = .ok (.iastore, 1) := by decide +kernel
theorem d_M_allBlocked_128 : decode b_M_allBlocked 128 = .ok (.aload_n 0, 1) := by decide +kernel
theorem d_M_allBlocked_129 : decode b_M_allBlocked 129 = .ok (.aload_n 0, 1) := by decide +kernel
theorem d_M_allBlocked_130 : decode b_M_allBlocked 130 = .ok (.getfield 32, 3) := by decide +kernel
theorem d_M_allBlocked_133 : decode b_M_allBlocked 133 = .ok (.iload 5, 2) := by decide +kernel
theorem d_M_allBlocked_135 : decode b_M_allBlocked 135 = .ok (.iaload, 1) := by decide +kernel
theorem d_M_allBlocked_136 : decode b_M_allBlocked 136 = .ok (.iload 6, 2) := by decide +kernel
theorem d_M_allBlocked_138 : decode b_M_allBlocked 138 = .ok (.invokevirtual 53, 3) := by decide +kernel
theorem d_M_allBlocked_141 : decode b_M_allBlocked 141 = .ok (.ifCond .eq 34, 3) := by decide +kernel
theorem d_M_allBlocked_144 : decode b_M_allBlocked 144 = .ok (.aload_n 0, 1) := by decide +kernel
theorem d_M_allBlocked_145 : decode b_M_allBlocked 145 = .ok (.iload 6, 2) := by decide +kernel
theorem d_M_allBlocked_147 : decode b_M_allBlocked 147 = .ok (.iload 4, 2) := by decide +kernel
theorem d_M_allBlocked_149 : decode b_M_allBlocked 149 = .ok (.invokevirtual 80, 3) := by decide +kernel
theorem d_M_allBlocked_152 : decode b_M_allBlocked 152 = .ok (.ifCond .ne 23, 3) := by decide +kernel
theorem d_M_allBlocked_155 : decode b_M_allBlocked 155 = .ok (.aload_n 0, 1) := by decide +kernel
theorem d_M_allBlocked_156 : decode b_M_allBlocked 156 = .ok (.getfield 32, 3) := by decide +kernel
theorem d_M_allBlocked_159 : decode b_M_allBlocked 159 = .ok (.iload 4, 2) := by decide +kernel
theorem d_M_allBlocked_161 : decode b_M_allBlocked 161 = .ok (.iload 6, 2) := by decide +kernel
theorem d_M_allBlocked_163 : decode b_M_allBlocked 163 = .ok (.iastore, 1) := by decide +kernel
theorem d_M_allBlocked_164 : decode b_M_allBlocked 164 = .ok (.aload_n 0, 1) := by decide +kernel
theorem d_M_allBlocked_165 : decode b_M_allBlocked 165 = .ok (.getfield 35, 3) := by decide +kernel
theorem d_M_allBlocked_168 : decode b_M_allBlocked 168 = .ok (.iload 4, 2) := by decide +kernel
theorem d_M_allBlocked_170 : decode b_M_allBlocked 170 = .ok (.iconst 0, 1) := by decide +kernel
theorem d_M_allBlocked_171 : decode b_M_allBlocked 171 = .ok (.iastore, 1) := by decide +kernel
theorem d_M_allBlocked_172 : decode b_M_allBlocked 172 = .ok (.iinc 4 1, 3) := by decide +kernel
theorem d_M_allBlocked_175 : decode b_M_allBlocked 175 = .ok (.goto (-127), 3) := by decide +kernel
theorem d_M_allBlocked_178 : decode b_M_allBlocked 178 = .ok (.iconst 1, 1) := by decide +kernel
theorem d_M_allBlocked_179 : decode b_M_allBlocked 179 = .ok (.ireturn, 1) := by decide +kernel
theorem d_M_blocked_0 : decode b_M_blocked 0 = .ok (.iconst 1, 1) := by decide +kernel
theorem d_M_blocked_1 : decode b_M_blocked 1 = .ok (.istore_n 3, 1) := by decide +kernel
theorem d_M_blocked_2 : decode b_M_blocked 2 = .ok (.iload_n 3, 1) := by decide +kernel
theorem d_M_blocked_3 : decode b_M_blocked 3 = .ok (.iload_n 1, 1) := by decide +kernel
theorem d_M_blocked_4 : decode b_M_blocked 4 = .ok (.iconst 1, 1) := by decide +kernel
theorem d_M_blocked_5 : decode b_M_blocked 5 = .ok (.isub, 1) := by decide +kernel
theorem d_M_blocked_6 : decode b_M_blocked 6 = .ok (.if_icmp .ge 100, 3) := by decide +kernel
theorem d_M_blocked_9 : decode b_M_blocked 9 = .ok (.aload_n 0, 1) := by decide +kernel
theorem d_M_blocked_10 : decode b_M_blocked 10 = .ok (.getfield 32, 3) := by decide +kernel
theorem d_M_blocked_13 : decode b_M_blocked 13 = .ok (.iload_n 3, 1) := by decide +kernel
theorem d_M_blocked_14 : decode b_M_blocked 14 = .ok (.iaload, 1) := by decide +kernel
theorem d_M_blocked_15 : decode b_M_blocked 15 = .ok (.istore 4, 2) := by decide +kernel
theorem d_M_blocked_17 : decode b_M_blocked 17 = .ok (.aload_n 0, 1) := by decide +kernel
theorem d_M_blocked_18 : decode b_M_blocked 18 = .ok (.getfield 7, 3) := by decide +kernel
theorem d_M_blocked_21 : decode b_M_blocked 21 = .ok (.bipush 6, 2) := by decide +kernel
theorem d_M_blocked_23 : decode b_M_blocked 23 = .ok (.aload_n 0, 1) := by decide +kernel
theorem d_M_blocked_24 : decode b_M_blocked 24 = .ok (.getfield 32, 3) := by decide +kernel
theorem d_M_blocked_27 : decode b_M_blocked 27 = .ok (.iload_n 3, 1) := by decide +kernel
theorem d_M_blocked_28 : decode b_M_blocked 28 = .ok (.iconst 1, 1) := by decide +kernel
theorem d_M_blocked_29 : decode b_M_blocked 29 = .ok (.isub, 1) := by decide +kernel
theorem d_M_blocked_30 : decode b_M_blocked 30 = .ok (.iaload, 1) := by decide +kernel
theorem d_M_blocked_31 : decode b_M_blocked 31 = .ok (.imul, 1) := by decide +kernel
theorem d_M_blocked_32 : decode b_M_blocked 32 = .ok (.iload 4, 2) := by decide +kernel
theorem d_M_blocked_34 : decode b_M_blocked 34 = .ok (.iadd, 1) := by decide +kernel
theorem d_M_blocked_35 : decode b_M_blocked 35 = .ok (.baload, 1) := by decide +kernel
theorem d_M_blocked_36 : decode b_M_blocked 36 = .ok (.ifCond .eq 29, 3) := by decide +kernel
theorem d_M_blocked_39 : decode b_M_blocked 39 = .ok (.aload_n 0, 1) := by decide +kernel
theorem d_M_blocked_40 : decode b_M_blocked 40 = .ok (.getfield 7, 3) := by decide +kernel
theorem d_M_blocked_43 : decode b_M_blocked 43 = .ok (.bipush 6, 2) := by decide +kernel
theorem d_M_blocked_45 : decode b_M_blocked 45 = .ok (.aload_n 0, 1) := by decide +kernel
theorem d_M_blocked_46 : decode b_M_blocked 46 = .ok (.getfield 32, 3) := by decide +kernel
theorem d_M_blocked_49 : decode b_M_blocked 49 = .ok (.iload_n 3, 1) := by decide +kernel
theorem d_M_blocked_50 : decode b_M_blocked 50 = .ok (.iconst 1, 1) := by decide +kernel
theorem d_M_blocked_51 : decode b_M_blocked 51 = .ok (.iadd, 1) := by decide +kernel
theorem d_M_blocked_52 : decode b_M_blocked 52 = .ok (.iaload, 1) := by decide +kernel
theorem d_M_blocked_53 : decode b_M_blocked 53 = .ok (.imul, 1) := by decide +kernel
theorem d_M_blocked_54 : decode b_M_blocked 54 = .ok (.iload 4, 2) := by decide +kernel
theorem d_M_blocked_56 : decode b_M_blocked 56 = .ok (.iadd, 1) := by decide +kernel
theorem d_M_blocked_57 : decode b_M_blocked 57 = .ok (.baload, 1) := by decide +kernel
theorem d_M_blocked_58 : decode b_M_blocked 58 = .ok (.ifCond .eq 7, 3) := by decide +kernel
theorem d_M_blocked_61 : decode b_M_blocked 61 = .ok (.iconst 1, 1) := by decide +kernel
theorem d_M_blocked_62 : decode b_M_blocked 62 = .ok (.goto 4, 3) := by decide +kernel
theorem d_M_blocked_65 : decode b_M_blocked 65 = .ok (.iconst 0, 1) := by decide +kernel
theorem d_M_blocked_66 : decode b_M_blocked 66 = .ok (.istore 5, 2) := by decide +kernel
theorem d_M_blocked_68 : decode b_M_blocked 68 = .ok (.iload 5, 2) := by decide +kernel
theorem d_M_blocked_70 : decode b_M_blocked 70 = .ok (.ifCond .eq 18, 3) := by decide +kernel
theorem d_M_blocked_73 : decode b_M_blocked 73 = .ok (.aload_n 0, 1) := by decide +kernel
theorem d_M_blocked_74 : decode b_M_blocked 74 = .ok (.getfield 38, 3) := by decide +kernel
theorem d_M_blocked_77 : decode b_M_blocked 77 = .ok (.iload 4, 2) := by decide +kernel
theorem d_M_blocked_79 : decode b_M_blocked 79 = .ok (.iaload, 1) := by decide +kernel
theorem d_M_blocked_80 : decode b_M_blocked 80 = .ok (.iload_n 2, 1) := by decide +kernel
theorem d_M_blocked_81 : decode b_M_blocked 81 = .ok (.iand, 1) := by decide +kernel
theorem d_M_blocked_82 : decode b_M_blocked 82 = .ok (.ifCond .ne 18, 3) := by decide +kernel
theorem d_M_blocked_85 : decode b_M_blocked 85 = .ok (.goto 13, 3) := by decide +kernel
theorem d_M_blocked_88 : decode b_M_blocked 88 = .ok (.iload_n 2, 1) := by decide +kernel
theorem d_M_blocked_89 : decode b_M_blocked 89 = .ok (.iload 4, 2) := by decide +kernel
theorem d_M_blocked_91 : decode b_M_blocked 91 = .ok (.ishr, 1) := by decide +kernel
theorem d_M_blocked_92 : decode b_M_blocked 92 = .ok (.iconst 1, 1) := by decide +kernel
theorem d_M_blocked_93 : decode b_M_blocked 93 = .ok (.iand, 1) := by decide +kernel
theorem d_M_blocked_94 : decode b_M_blocked 94 = .ok (.iconst 1, 1) := by decide +kernel
theorem d_M_blocked_95 : decode b_M_blocked 95 = .ok (.if_icmp .ne 5, 3) := by decide +kernel
theorem d_M_blocked_98 : decode b_M_blocked 98 = .ok (.iconst 1, 1) := by decide +kernel
theorem d_M_blocked_99 : decode b_M_blocked 99 = .ok (.ireturn, 1) := by decide +kernel
theorem d_M_blocked_100 : decode b_M_blocked 100 = .ok (.iinc 3 1, 3) := by decide +kernel
theorem d_M_blocked_103 : decode b_M_blocked 103 = .ok (.goto (-101), 3) := by decide +kernel
theorem d_M_blocked_106 : decode b_M_blocked 106 = .ok (.iconst 0, 1) := by decide +kernel
theorem d_M_blocked_107 : decode b_M_blocked 107 = .ok (.ireturn, 1) := by decide +kernel
theorem d_M_onPath_0 : decode b_M_onPath 0 = .ok (.iconst 0, 1) := by decide +kernel
theorem d_M_onPath_1 : decode b_M_onPath 1 = .ok (.istore_n 3, 1) := by decide +kernel
theorem d_M_onPath_2 : decode b_M_onPath 2 = .ok (.iconst 0, 1) := by decide +kernel
theorem d_M_onPath_3 : decode b_M_onPath 3 = .ok (.istore 4, 2) := by decide +kernel
theorem d_M_onPath_5 : decode b_M_onPath 5 = .ok (.iload 4, 2) := by decide +kernel
theorem d_M_onPath_7 : decode b_M_onPath 7 = .ok (.iload_n 2, 1) := by decide +kernel
theorem d_M_onPath_8 : decode b_M_onPath 8 = .ok (.if_icmp .ge 30, 3) := by decide +kernel
theorem d_M_onPath_11 : decode b_M_onPath 11 = .ok (.iload_n 3, 1) := by decide +kernel
theorem d_M_onPath_12 : decode b_M_onPath 12 = .ok (.ifCond .ne 14, 3) := by decide +kernel
theorem d_M_onPath_15 : decode b_M_onPath 15 = .ok (.aload_n 0, 1) := by decide +kernel
theorem d_M_onPath_16 : decode b_M_onPath 16 = .ok (.getfield 32, 3) := by decide +kernel
theorem d_M_onPath_19 : decode b_M_onPath 19 = .ok (.iload 4, 2) := by decide +kernel
theorem d_M_onPath_21 : decode b_M_onPath 21 = .ok (.iaload, 1) := by decide +kernel
theorem d_M_onPath_22 : decode b_M_onPath 22 = .ok (.iload_n 1, 1) := by decide +kernel
theorem d_M_onPath_23 : decode b_M_onPath 23 = .ok (.if_icmp .ne 7, 3) := by decide +kernel
theorem d_M_onPath_26 : decode b_M_onPath 26 = .ok (.iconst 1, 1) := by decide +kernel
theorem d_M_onPath_27 : decode b_M_onPath 27 = .ok (.goto 4, 3) := by decide +kernel
theorem d_M_onPath_30 : decode b_M_onPath 30 = .ok (.iconst 0, 1) := by decide +kernel
theorem d_M_onPath_31 : decode b_M_onPath 31 = .ok (.istore_n 3, 1) := by decide +kernel
theorem d_M_onPath_32 : decode b_M_onPath 32 = .ok (.iinc 4 1, 3) := by decide +kernel
theorem d_M_onPath_35 : decode b_M_onPath 35 = .ok (.goto (-30), 3) := by decide +kernel
theorem d_M_onPath_38 : decode b_M_onPath 38 = .ok (.iload_n 3, 1) := by decide +kernel
theorem d_M_onPath_39 : decode b_M_onPath 39 = .ok (.ireturn, 1) := by decide +kernel
theorem d_M_separator_0 : decode b_M_separator 0 = .ok (.aload_n 0, 1) := by decide +kernel
theorem d_M_separator_1 : decode b_M_separator 1 = .ok (.iload_n 1, 1) := by decide +kernel
theorem d_M_separator_2 : decode b_M_separator 2 = .ok (.iload_n 2, 1) := by decide +kernel
theorem d_M_separator_3 : decode b_M_separator 3 = .ok (.invokevirtual 49, 3) := by decide +kernel
theorem d_M_separator_6 : decode b_M_separator 6 = .ok (.ifCond .ne 5, 3) := by decide +kernel
theorem d_M_separator_9 : decode b_M_separator 9 = .ok (.iconst (-1), 1) := by decide +kernel
theorem d_M_separator_10 : decode b_M_separator 10 = .ok (.ireturn, 1) := by decide +kernel
theorem d_M_separator_11 : decode b_M_separator 11 = .ok (.iconst 0, 1) := by decide +kernel
theorem d_M_separator_12 : decode b_M_separator 12 = .ok (.istore_n 3, 1) := by decide +kernel
theorem d_M_separator_13 : decode b_M_separator 13 = .ok (.iload_n 3, 1) := by decide +kernel
theorem d_M_separator_14 : decode b_M_separator 14 = .ok (.aload_n 0, 1) := by decide +kernel
theorem d_M_separator_15 : decode b_M_separator 15 = .ok (.getfield 41, 3) := by decide +kernel
theorem d_M_separator_18 : decode b_M_separator 18 = .ok (.if_icmp .gt 52, 3) := by decide +kernel
theorem d_M_separator_21 : decode b_M_separator 21 = .ok (.iconst 0, 1) := by decide +kernel
theorem d_M_separator_22 : decode b_M_separator 22 = .ok (.istore 4, 2) := by decide +kernel
theorem d_M_separator_24 : decode b_M_separator 24 = .ok (.iload 4, 2) := by decide +kernel
theorem d_M_separator_26 : decode b_M_separator 26 = .ok (.iconst 1, 1) := by decide +kernel
theorem d_M_separator_27 : decode b_M_separator 27 = .ok (.aload_n 0, 1) := by decide +kernel
theorem d_M_separator_28 : decode b_M_separator 28 = .ok (.getfield 41, 3) := by decide +kernel
theorem d_M_separator_31 : decode b_M_separator 31 = .ok (.ishl, 1) := by decide +kernel
theorem d_M_separator_32 : decode b_M_separator 32 = .ok (.if_icmp .ge 32, 3) := by decide +kernel
theorem d_M_separator_35 : decode b_M_separator 35 = .ok (.iload 4, 2) := by decide +kernel
theorem d_M_separator_37 : decode b_M_separator 37 = .ok (.invokestatic 87, 3) := by decide +kernel
theorem d_M_separator_40 : decode b_M_separator 40 = .ok (.iload_n 3, 1) := by decide +kernel
theorem d_M_separator_41 : decode b_M_separator 41 = .ok (.if_icmp .ne 17, 3) := by decide +kernel
theorem d_M_separator_44 : decode b_M_separator 44 = .ok (.aload_n 0, 1) := by decide +kernel
theorem d_M_separator_45 : decode b_M_separator 45 = .ok (.iload_n 1, 1) := by decide +kernel
theorem d_M_separator_46 : decode b_M_separator 46 = .ok (.iload_n 2, 1) := by decide +kernel
theorem d_M_separator_47 : decode b_M_separator 47 = .ok (.iload 4, 2) := by decide +kernel
theorem d_M_separator_49 : decode b_M_separator 49 = .ok (.invokevirtual 90, 3) := by decide +kernel
theorem d_M_separator_52 : decode b_M_separator 52 = .ok (.ifCond .eq 6, 3) := by decide +kernel
theorem d_M_separator_55 : decode b_M_separator 55 = .ok (.iload 4, 2) := by decide +kernel
theorem d_M_separator_57 : decode b_M_separator 57 = .ok (.ireturn, 1) := by decide +kernel
theorem d_M_separator_58 : decode b_M_separator 58 = .ok (.iinc 4 1, 3) := by decide +kernel
theorem d_M_separator_61 : decode b_M_separator 61 = .ok (.goto (-37), 3) := by decide +kernel
theorem d_M_separator_64 : decode b_M_separator 64 = .ok (.iinc 3 1, 3) := by decide +kernel
theorem d_M_separator_67 : decode b_M_separator 67 = .ok (.goto (-54), 3) := by decide +kernel
theorem d_M_separator_70 : decode b_M_separator 70 = .ok (.iconst (-1), 1) := by decide +kernel
theorem d_M_separator_71 : decode b_M_separator 71 = .ok (.ireturn, 1) := by decide +kernel
theorem d_M_size_0 : decode b_M_size 0 = .ok (.iconst 0, 1) := by decide +kernel
theorem d_M_size_1 : decode b_M_size 1 = .ok (.istore_n 1, 1) := by decide +kernel
theorem d_M_size_2 : decode b_M_size 2 = .ok (.iconst 0, 1) := by decide +kernel
theorem d_M_size_3 : decode b_M_size 3 = .ok (.istore_n 2, 1) := by decide +kernel
theorem d_M_size_4 : decode b_M_size 4 = .ok (.iload_n 2, 1) := by decide +kernel
theorem d_M_size_5 : decode b_M_size 5 = .ok (.bipush 6, 2) := by decide +kernel
theorem d_M_size_7 : decode b_M_size 7 = .ok (.if_icmp .ge 17, 3) := by decide +kernel
theorem d_M_size_10 : decode b_M_size 10 = .ok (.iload_n 1, 1) := by decide +kernel
theorem d_M_size_11 : decode b_M_size 11 = .ok (.iload_n 0, 1) := by decide +kernel
theorem d_M_size_12 : decode b_M_size 12 = .ok (.iload_n 2, 1) := by decide +kernel
theorem d_M_size_13 : decode b_M_size 13 = .ok (.ishr, 1) := by decide +kernel
theorem d_M_size_14 : decode b_M_size 14 = .ok (.iconst 1, 1) := by decide +kernel
theorem d_M_size_15 : decode b_M_size 15 = .ok (.iand, 1) := by decide +kernel
theorem d_M_size_16 : decode b_M_size 16 = .ok (.iadd, 1) := by decide +kernel
theorem d_M_size_17 : decode b_M_size 17 = .ok (.istore_n 1, 1) := by decide +kernel
theorem d_M_size_18 : decode b_M_size 18 = .ok (.iinc 2 1, 3) := by decide +kernel
theorem d_M_size_21 : decode b_M_size 21 = .ok (.goto (-17), 3) := by decide +kernel
theorem d_M_size_24 : decode b_M_size 24 = .ok (.iload_n 1, 1) := by decide +kernel
theorem d_M_size_25 : decode b_M_size 25 = .ok (.ireturn, 1) := by decide +kernel
theorem d_M_separations_0 : decode b_M_separations 0 = .ok (.iconst 0, 1) := by decide +kernel
theorem d_M_separations_1 : decode b_M_separations 1 = .ok (.istore_n 1, 1) := by decide +kernel
theorem d_M_separations_2 : decode b_M_separations 2 = .ok (.iconst 0, 1) := by decide +kernel
theorem d_M_separations_3 : decode b_M_separations 3 = .ok (.istore_n 2, 1) := by decide +kernel
theorem d_M_separations_4 : decode b_M_separations 4 = .ok (.iload_n 2, 1) := by decide +kernel
theorem d_M_separations_5 : decode b_M_separations 5 = .ok (.aload_n 0, 1) := by decide +kernel
theorem d_M_separations_6 : decode b_M_separations 6 = .ok (.getfield 41, 3) := by decide +kernel
theorem d_M_separations_9 : decode b_M_separations 9 = .ok (.if_icmp .ge 66, 3) := by decide +kernel
theorem d_M_separations_12 : decode b_M_separations 12 = .ok (.iload_n 2, 1) := by decide +kernel
theorem d_M_separations_13 : decode b_M_separations 13 = .ok (.iconst 1, 1) := by decide +kernel
theorem d_M_separations_14 : decode b_M_separations 14 = .ok (.iadd, 1) := by decide +kernel
theorem d_M_separations_15 : decode b_M_separations 15 = .ok (.istore_n 3, 1) := by decide +kernel
theorem d_M_separations_16 : decode b_M_separations 16 = .ok (.iload_n 3, 1) := by decide +kernel
theorem d_M_separations_17 : decode b_M_separations 17 = .ok (.aload_n 0, 1) := by decide +kernel
theorem d_M_separations_18 : decode b_M_separations 18 = .ok (.getfield 41, 3) := by decide +kernel
theorem d_M_separations_21 : decode b_M_separations 21 = .ok (.if_icmp .ge 48, 3) := by decide +kernel
theorem d_M_separations_24 : decode b_M_separations 24 = .ok (.iconst 0, 1) := by decide +kernel
theorem d_M_separations_25 : decode b_M_separations 25 = .ok (.istore 4, 2) := by decide +kernel
theorem d_M_separations_27 : decode b_M_separations 27 = .ok (.iload 4, 2) := by decide +kernel
theorem d_M_separations_29 : decode b_M_separations 29 = .ok (.iconst 1, 1) := by decide +kernel
theorem d_M_separations_30 : decode b_M_separations 30 = .ok (.aload_n 0, 1) := by decide +kernel
theorem d_M_separations_31 : decode b_M_separations 31 = .ok (.getfield 41, 3) := by decide +kernel
theorem d_M_separations_34 : decode b_M_separations 34 = .ok (.ishl, 1) := by decide +kernel
theorem d_M_separations_35 : decode b_M_separations 35 = .ok (.if_icmp .ge 28, 3) := by decide +kernel
theorem d_M_separations_38 : decode b_M_separations 38 = .ok (.aload_n 0, 1) := by decide +kernel
theorem d_M_separations_39 : decode b_M_separations 39 = .ok (.iload_n 2, 1) := by decide +kernel
theorem d_M_separations_40 : decode b_M_separations 40 = .ok (.iload_n 3, 1) := by decide +kernel
theorem d_M_separations_41 : decode b_M_separations 41 = .ok (.iload 4, 2) := by decide +kernel
theorem d_M_separations_43 : decode b_M_separations 43 = .ok (.invokevirtual 90, 3) := by decide +kernel
theorem d_M_separations_46 : decode b_M_separations 46 = .ok (.ifCond .eq 9, 3) := by decide +kernel
theorem d_M_separations_49 : decode b_M_separations 49 = .ok (.iload_n 1, 1) := by decide +kernel
theorem d_M_separations_50 : decode b_M_separations 50 = .ok (.iconst 1, 1) := by decide +kernel
theorem d_M_separations_51 : decode b_M_separations 51 = .ok (.iadd, 1) := by decide +kernel
theorem d_M_separations_52 : decode b_M_separations 52 = .ok (.goto 4, 3) := by decide +kernel
theorem d_M_separations_55 : decode b_M_separations 55 = .ok (.iload_n 1, 1) := by decide +kernel
theorem d_M_separations_56 : decode b_M_separations 56 = .ok (.istore_n 1, 1) := by decide +kernel
theorem d_M_separations_57 : decode b_M_separations 57 = .ok (.iinc 4 1, 3) := by decide +kernel
theorem d_M_separations_60 : decode b_M_separations 60 = .ok (.goto (-33), 3) := by decide +kernel
theorem d_M_separations_63 : decode b_M_separations 63 = .ok (.iinc 3 1, 3) := by decide +kernel
theorem d_M_separations_66 : decode b_M_separations 66 = .ok (.goto (-50), 3) := by decide +kernel
theorem d_M_separations_69 : decode b_M_separations 69 = .ok (.iinc 2 1, 3) := by decide +kernel
theorem d_M_separations_72 : decode b_M_separations 72 = .ok (.goto (-68), 3) := by decide +kernel
theorem d_M_separations_75 : decode b_M_separations 75 = .ok (.iload_n 1, 1) := by decide +kernel
theorem d_M_separations_76 : decode b_M_separations 76 = .ok (.ireturn, 1) := by decide +kernel
theorem d_M_edge_0 : decode b_M_edge 0 = .ok (.aload_n 0, 1) := by decide +kernel
theorem d_M_edge_1 : decode b_M_edge 1 = .ok (.iload_n 1, 1) := by decide +kernel
theorem d_M_edge_2 : decode b_M_edge 2 = .ok (.iload_n 2, 1) := by decide +kernel
theorem d_M_edge_3 : decode b_M_edge 3 = .ok (.invokevirtual 49, 3) := by decide +kernel
theorem d_M_edge_6 : decode b_M_edge 6 = .ok (.ifCond .eq 12, 3) := by decide +kernel
theorem d_M_edge_9 : decode b_M_edge 9 = .ok (.aload_n 0, 1) := by decide +kernel
theorem d_M_edge_10 : decode b_M_edge 10 = .ok (.iload_n 1, 1) := by decide +kernel
theorem d_M_edge_11 : decode b_M_edge 11 = .ok (.iload_n 2, 1) := by decide +kernel
theorem d_M_edge_12 : decode b_M_edge 12 = .ok (.invokevirtual 53, 3) := by decide +kernel
theorem d_M_edge_15 : decode b_M_edge 15 = .ok (.ifCond .ne 5, 3) := by decide +kernel
theorem d_M_edge_18 : decode b_M_edge 18 = .ok (.iconst 0, 1) := by decide +kernel
theorem d_M_edge_19 : decode b_M_edge 19 = .ok (.ireturn, 1) := by decide +kernel
theorem d_M_edge_20 : decode b_M_edge 20 = .ok (.aload_n 0, 1) := by decide +kernel
theorem d_M_edge_21 : decode b_M_edge 21 = .ok (.invokevirtual 113, 3) := by decide +kernel
theorem d_M_edge_24 : decode b_M_edge 24 = .ok (.aload_n 0, 1) := by decide +kernel
theorem d_M_edge_25 : decode b_M_edge 25 = .ok (.getfield 19, 3) := by decide +kernel
theorem d_M_edge_28 : decode b_M_edge 28 = .ok (.bipush 6, 2) := by decide +kernel
theorem d_M_edge_30 : decode b_M_edge 30 = .ok (.iload_n 1, 1) := by decide +kernel
theorem d_M_edge_31 : decode b_M_edge 31 = .ok (.imul, 1) := by decide +kernel
theorem d_M_edge_32 : decode b_M_edge 32 = .ok (.iload_n 2, 1) := by decide +kernel
theorem d_M_edge_33 : decode b_M_edge 33 = .ok (.iadd, 1) := by decide +kernel
theorem d_M_edge_34 : decode b_M_edge 34 = .ok (.iaload, 1) := by decide +kernel
theorem d_M_edge_35 : decode b_M_edge 35 = .ok (.aload_n 0, 1) := by decide +kernel
theorem d_M_edge_36 : decode b_M_edge 36 = .ok (.getfield 103, 3) := by decide +kernel
theorem d_M_edge_39 : decode b_M_edge 39 = .ok (.if_icmp .ne 7, 3) := by decide +kernel
theorem d_M_edge_42 : decode b_M_edge 42 = .ok (.iconst 1, 1) := by decide +kernel
theorem d_M_edge_43 : decode b_M_edge 43 = .ok (.goto 26, 3) := by decide +kernel
theorem d_M_edge_46 : decode b_M_edge 46 = .ok (.aload_n 0, 1) := by decide +kernel
theorem d_M_edge_47 : decode b_M_edge 47 = .ok (.getfield 19, 3) := by decide +kernel
theorem d_M_edge_50 : decode b_M_edge 50 = .ok (.bipush 6, 2) := by decide +kernel
theorem d_M_edge_52 : decode b_M_edge 52 = .ok (.iload_n 2, 1) := by decide +kernel
theorem d_M_edge_53 : decode b_M_edge 53 = .ok (.imul, 1) := by decide +kernel
theorem d_M_edge_54 : decode b_M_edge 54 = .ok (.iload_n 1, 1) := by decide +kernel
theorem d_M_edge_55 : decode b_M_edge 55 = .ok (.iadd, 1) := by decide +kernel
theorem d_M_edge_56 : decode b_M_edge 56 = .ok (.iaload, 1) := by decide +kernel
theorem d_M_edge_57 : decode b_M_edge 57 = .ok (.aload_n 0, 1) := by decide +kernel
theorem d_M_edge_58 : decode b_M_edge 58 = .ok (.getfield 103, 3) := by decide +kernel
theorem d_M_edge_61 : decode b_M_edge 61 = .ok (.if_icmp .ne 7, 3) := by decide +kernel
theorem d_M_edge_64 : decode b_M_edge 64 = .ok (.iconst 2, 1) := by decide +kernel
theorem d_M_edge_65 : decode b_M_edge 65 = .ok (.goto 4, 3) := by decide +kernel
theorem d_M_edge_68 : decode b_M_edge 68 = .ok (.iconst 3, 1) := by decide +kernel
theorem d_M_edge_69 : decode b_M_edge 69 = .ok (.ireturn, 1) := by decide +kernel
theorem d_M_goThrough_0 : decode b_M_goThrough 0 = .ok (.aload_n 0, 1) := by decide +kernel
theorem d_M_goThrough_1 : decode b_M_goThrough 1 = .ok (.invokevirtual 100, 3) := by decide +kernel
theorem d_M_goThrough_4 : decode b_M_goThrough 4 = .ok (.aload_n 0, 1) := by decide +kernel
theorem d_M_goThrough_5 : decode b_M_goThrough 5 = .ok (.iconst 0, 1) := by decide +kernel
theorem d_M_goThrough_6 : decode b_M_goThrough 6 = .ok (.putfield 103, 3) := by decide +kernel
theorem d_M_goThrough_9 : decode b_M_goThrough 9 = .ok (.iconst 0, 1) := by decide +kernel
theorem d_M_goThrough_10 : decode b_M_goThrough 10 = .ok (.istore_n 1, 1) := by decide +kernel
theorem d_M_goThrough_11 : decode b_M_goThrough 11 = .ok (.iload_n 1, 1) := by decide +kernel
theorem d_M_goThrough_12 : decode b_M_goThrough 12 = .ok (.bipush 36, 2) := by decide +kernel
theorem d_M_goThrough_14 : decode b_M_goThrough 14 = .ok (.if_icmp .ge 16, 3) := by decide +kernel
theorem d_M_goThrough_17 : decode b_M_goThrough 17 = .ok (.aload_n 0, 1) := by decide +kernel
theorem d_M_goThrough_18 : decode b_M_goThrough 18 = .ok (.getfield 19, 3) := by decide +kernel
theorem d_M_goThrough_21 : decode b_M_goThrough 21 = .ok (.iload_n 1, 1) := by decide +kernel
theorem d_M_goThrough_22 : decode b_M_goThrough 22 = .ok (.iconst 0, 1) := by decide +kernel
theorem d_M_goThrough_23 : decode b_M_goThrough 23 = .ok (.iastore, 1) := by decide +kernel
theorem d_M_goThrough_24 : decode b_M_goThrough 24 = .ok (.iinc 1 1, 3) := by decide +kernel
theorem d_M_goThrough_27 : decode b_M_goThrough 27 = .ok (.goto (-16), 3) := by decide +kernel
theorem d_M_goThrough_30 : decode b_M_goThrough 30 = .ok (.iconst 0, 1) := by decide +kernel
theorem d_M_goThrough_31 : decode b_M_goThrough 31 = .ok (.istore_n 1, 1) := by decide +kernel
theorem d_M_goThrough_32 : decode b_M_goThrough 32 = .ok (.iload_n 1, 1) := by decide +kernel
theorem d_M_goThrough_33 : decode b_M_goThrough 33 = .ok (.iconst 1, 1) := by decide +kernel
theorem d_M_goThrough_34 : decode b_M_goThrough 34 = .ok (.aload_n 0, 1) := by decide +kernel
theorem d_M_goThrough_35 : decode b_M_goThrough 35 = .ok (.getfield 93, 3) := by decide +kernel
theorem d_M_goThrough_38 : decode b_M_goThrough 38 = .ok (.ishl, 1) := by decide +kernel
theorem d_M_goThrough_39 : decode b_M_goThrough 39 = .ok (.if_icmp .ge 105, 3) := by decide +kernel
theorem d_M_goThrough_42 : decode b_M_goThrough 42 = .ok (.aload_n 0, 1) := by decide +kernel
theorem d_M_goThrough_43 : decode b_M_goThrough 43 = .ok (.iload_n 1, 1) := by decide +kernel
theorem d_M_goThrough_44 : decode b_M_goThrough 44 = .ok (.invokevirtual 106, 3) := by decide +kernel
theorem d_M_goThrough_47 : decode b_M_goThrough 47 = .ok (.aload_n 0, 1) := by decide +kernel
theorem d_M_goThrough_48 : decode b_M_goThrough 48 = .ok (.invokevirtual 110, 3) := by decide +kernel
theorem d_M_goThrough_51 : decode b_M_goThrough 51 = .ok (.ifCond .eq 87, 3) := by decide +kernel
theorem d_M_goThrough_54 : decode b_M_goThrough 54 = .ok (.iconst 0, 1) := by decide +kernel
theorem d_M_goThrough_55 : decode b_M_goThrough 55 = .ok (.istore_n 2, 1) := by decide +kernel
theorem d_M_goThrough_56 : decode b_M_goThrough 56 = .ok (.iload_n 2, 1) := by decide +kernel
theorem d_M_goThrough_57 : decode b_M_goThrough 57 = .ok (.bipush 36, 2) := by decide +kernel
theorem d_M_goThrough_59 : decode b_M_goThrough 59 = .ok (.if_icmp .ge 69, 3) := by decide +kernel
theorem d_M_goThrough_62 : decode b_M_goThrough 62 = .ok (.aload_n 0, 1) := by decide +kernel
theorem d_M_goThrough_63 : decode b_M_goThrough 63 = .ok (.getfield 23, 3) := by decide +kernel
theorem d_M_goThrough_66 : decode b_M_goThrough 66 = .ok (.iload_n 2, 1) := by decide +kernel
theorem d_M_goThrough_67 : decode b_M_goThrough 67 = .ok (.aload_n 0, 1) := by decide +kernel
theorem d_M_goThrough_68 : decode b_M_goThrough 68 = .ok (.getfield 103, 3) := by decide +kernel
theorem d_M_goThrough_71 : decode b_M_goThrough 71 = .ok (.ifCond .ne 12, 3) := by decide +kernel
theorem d_M_goThrough_74 : decode b_M_goThrough 74 = .ok (.aload_n 0, 1) := by decide +kernel
theorem d_M_goThrough_75 : decode b_M_goThrough 75 = .ok (.getfield 16, 3) := by decide +kernel
theorem d_M_goThrough_78 : decode b_M_goThrough 78 = .ok (.iload_n 2, 1) := by decide +kernel
theorem d_M_goThrough_79 : decode b_M_goThrough 79 = .ok (.baload, 1) := by decide +kernel
theorem d_M_goThrough_80 : decode b_M_goThrough 80 = .ok (.goto 9, 3) := by decide +kernel
theorem d_M_goThrough_83 : decode b_M_goThrough 83 = .ok (.aload_n 0, 1) := by decide +kernel
theorem d_M_goThrough_84 : decode b_M_goThrough 84 = .ok (.getfield 23, 3) := by decide +kernel
theorem d_M_goThrough_87 : decode b_M_goThrough 87 = .ok (.iload_n 2, 1) := by decide +kernel
theorem d_M_goThrough_88 : decode b_M_goThrough 88 = .ok (.baload, 1) := by decide +kernel
theorem d_M_goThrough_89 : decode b_M_goThrough 89 = .ok (.bastore, 1) := by decide +kernel
theorem d_M_goThrough_90 : decode b_M_goThrough 90 = .ok (.aload_n 0, 1) := by decide +kernel
theorem d_M_goThrough_91 : decode b_M_goThrough 91 = .ok (.getfield 19, 3) := by decide +kernel
theorem d_M_goThrough_94 : decode b_M_goThrough 94 = .ok (.iload_n 2, 1) := by decide +kernel
theorem d_M_goThrough_95 : decode b_M_goThrough 95 = .ok (.aload_n 0, 1) := by decide +kernel
theorem d_M_goThrough_96 : decode b_M_goThrough 96 = .ok (.getfield 16, 3) := by decide +kernel
theorem d_M_goThrough_99 : decode b_M_goThrough 99 = .ok (.iload_n 2, 1) := by decide +kernel
theorem d_M_goThrough_100 : decode b_M_goThrough 100 = .ok (.baload, 1) := by decide +kernel
theorem d_M_goThrough_101 : decode b_M_goThrough 101 = .ok (.ifCond .eq 14, 3) := by decide +kernel
theorem d_M_goThrough_104 : decode b_M_goThrough 104 = .ok (.aload_n 0, 1) := by decide +kernel
theorem d_M_goThrough_105 : decode b_M_goThrough 105 = .ok (.getfield 19, 3) := by decide +kernel
theorem d_M_goThrough_108 : decode b_M_goThrough 108 = .ok (.iload_n 2, 1) := by decide +kernel
theorem d_M_goThrough_109 : decode b_M_goThrough 109 = .ok (.iaload, 1) := by decide +kernel
theorem d_M_goThrough_110 : decode b_M_goThrough 110 = .ok (.iconst 1, 1) := by decide +kernel
theorem d_M_goThrough_111 : decode b_M_goThrough 111 = .ok (.iadd, 1) := by decide +kernel
theorem d_M_goThrough_112 : decode b_M_goThrough 112 = .ok (.goto 9, 3) := by decide +kernel
theorem d_M_goThrough_115 : decode b_M_goThrough 115 = .ok (.aload_n 0, 1) := by decide +kernel
theorem d_M_goThrough_116 : decode b_M_goThrough 116 = .ok (.getfield 19, 3) := by decide +kernel
theorem d_M_goThrough_119 : decode b_M_goThrough 119 = .ok (.iload_n 2, 1) := by decide +kernel
theorem d_M_goThrough_120 : decode b_M_goThrough 120 = .ok (.iaload, 1) := by decide +kernel
theorem d_M_goThrough_121 : decode b_M_goThrough 121 = .ok (.iastore, 1) := by decide +kernel
theorem d_M_goThrough_122 : decode b_M_goThrough 122 = .ok (.iinc 2 1, 3) := by decide +kernel
theorem d_M_goThrough_125 : decode b_M_goThrough 125 = .ok (.goto (-69), 3) := by decide +kernel
theorem d_M_goThrough_128 : decode b_M_goThrough 128 = .ok (.aload_n 0, 1) := by decide +kernel
theorem d_M_goThrough_129 : decode b_M_goThrough 129 = .ok (.dup, 1) := by decide +kernel
theorem d_M_goThrough_130 : decode b_M_goThrough 130 = .ok (.getfield 103, 3) := by decide +kernel
theorem d_M_goThrough_133 : decode b_M_goThrough 133 = .ok (.iconst 1, 1) := by decide +kernel
theorem d_M_goThrough_134 : decode b_M_goThrough 134 = .ok (.iadd, 1) := by decide +kernel
theorem d_M_goThrough_135 : decode b_M_goThrough 135 = .ok (.putfield 103, 3) := by decide +kernel
theorem d_M_goThrough_138 : decode b_M_goThrough 138 = .ok (.iinc 1 1, 3) := by decide +kernel
theorem d_M_goThrough_141 : decode b_M_goThrough 141 = .ok (.goto (-109), 3) := by decide +kernel
theorem d_M_goThrough_144 : decode b_M_goThrough 144 = .ok (.return_, 1) := by decide +kernel
theorem d_M_findPairs_0 : decode b_M_findPairs 0 = .ok (.aload_n 0, 1) := by decide +kernel
theorem d_M_findPairs_1 : decode b_M_findPairs 1 = .ok (.iconst 0, 1) := by decide +kernel
theorem d_M_findPairs_2 : decode b_M_findPairs 2 = .ok (.putfield 93, 3) := by decide +kernel
theorem d_M_findPairs_5 : decode b_M_findPairs 5 = .ok (.iconst 0, 1) := by decide +kernel
theorem d_M_findPairs_6 : decode b_M_findPairs 6 = .ok (.istore_n 1, 1) := by decide +kernel
theorem d_M_findPairs_7 : decode b_M_findPairs 7 = .ok (.iload_n 1, 1) := by decide +kernel
theorem d_M_findPairs_8 : decode b_M_findPairs 8 = .ok (.aload_n 0, 1) := by decide +kernel
theorem d_M_findPairs_9 : decode b_M_findPairs 9 = .ok (.getfield 41, 3) := by decide +kernel
theorem d_M_findPairs_12 : decode b_M_findPairs 12 = .ok (.if_icmp .ge 66, 3) := by decide +kernel
theorem d_M_findPairs_15 : decode b_M_findPairs 15 = .ok (.iload_n 1, 1) := by decide +kernel
theorem d_M_findPairs_16 : decode b_M_findPairs 16 = .ok (.iconst 1, 1) := by decide +kernel
theorem d_M_findPairs_17 : decode b_M_findPairs 17 = .ok (.iadd, 1) := by decide +kernel
theorem d_M_findPairs_18 : decode b_M_findPairs 18 = .ok (.istore_n 2, 1) := by decide +kernel
theorem d_M_findPairs_19 : decode b_M_findPairs 19 = .ok (.iload_n 2, 1) := by decide +kernel
theorem d_M_findPairs_20 : decode b_M_findPairs 20 = .ok (.aload_n 0, 1) := by decide +kernel
theorem d_M_findPairs_21 : decode b_M_findPairs 21 = .ok (.getfield 41, 3) := by decide +kernel
theorem d_M_findPairs_24 : decode b_M_findPairs 24 = .ok (.if_icmp .ge 48, 3) := by decide +kernel
theorem d_M_findPairs_27 : decode b_M_findPairs 27 = .ok (.aload_n 0, 1) := by decide +kernel
theorem d_M_findPairs_28 : decode b_M_findPairs 28 = .ok (.iload_n 1, 1) := by decide +kernel
theorem d_M_findPairs_29 : decode b_M_findPairs 29 = .ok (.iload_n 2, 1) := by decide +kernel
theorem d_M_findPairs_30 : decode b_M_findPairs 30 = .ok (.invokevirtual 53, 3) := by decide +kernel
theorem d_M_findPairs_33 : decode b_M_findPairs 33 = .ok (.ifCond .eq 33, 3) := by decide +kernel
theorem d_M_findPairs_36 : decode b_M_findPairs 36 = .ok (.aload_n 0, 1) := by decide +kernel
theorem d_M_findPairs_37 : decode b_M_findPairs 37 = .ok (.getfield 26, 3) := by decide +kernel
theorem d_M_findPairs_40 : decode b_M_findPairs 40 = .ok (.aload_n 0, 1) := by decide +kernel
theorem d_M_findPairs_41 : decode b_M_findPairs 41 = .ok (.getfield 93, 3) := by decide +kernel
theorem d_M_findPairs_44 : decode b_M_findPairs 44 = .ok (.iload_n 1, 1) := by decide +kernel
theorem d_M_findPairs_45 : decode b_M_findPairs 45 = .ok (.iastore, 1) := by decide +kernel
theorem d_M_findPairs_46 : decode b_M_findPairs 46 = .ok (.aload_n 0, 1) := by decide +kernel
theorem d_M_findPairs_47 : decode b_M_findPairs 47 = .ok (.getfield 29, 3) := by decide +kernel
theorem d_M_findPairs_50 : decode b_M_findPairs 50 = .ok (.aload_n 0, 1) := by decide +kernel
theorem d_M_findPairs_51 : decode b_M_findPairs 51 = .ok (.getfield 93, 3) := by decide +kernel
theorem d_M_findPairs_54 : decode b_M_findPairs 54 = .ok (.iload_n 2, 1) := by decide +kernel
theorem d_M_findPairs_55 : decode b_M_findPairs 55 = .ok (.iastore, 1) := by decide +kernel
theorem d_M_findPairs_56 : decode b_M_findPairs 56 = .ok (.aload_n 0, 1) := by decide +kernel
theorem d_M_findPairs_57 : decode b_M_findPairs 57 = .ok (.dup, 1) := by decide +kernel
theorem d_M_findPairs_58 : decode b_M_findPairs 58 = .ok (.getfield 93, 3) := by decide +kernel
theorem d_M_findPairs_61 : decode b_M_findPairs 61 = .ok (.iconst 1, 1) := by decide +kernel
theorem d_M_findPairs_62 : decode b_M_findPairs 62 = .ok (.iadd, 1) := by decide +kernel
theorem d_M_findPairs_63 : decode b_M_findPairs 63 = .ok (.putfield 93, 3) := by decide +kernel
theorem d_M_findPairs_66 : decode b_M_findPairs 66 = .ok (.iinc 2 1, 3) := by decide +kernel
theorem d_M_findPairs_69 : decode b_M_findPairs 69 = .ok (.goto (-50), 3) := by decide +kernel
theorem d_M_findPairs_72 : decode b_M_findPairs 72 = .ok (.iinc 1 1, 3) := by decide +kernel
theorem d_M_findPairs_75 : decode b_M_findPairs 75 = .ok (.goto (-68), 3) := by decide +kernel
theorem d_M_findPairs_78 : decode b_M_findPairs 78 = .ok (.return_, 1) := by decide +kernel
theorem d_M_direct_0 : decode b_M_direct 0 = .ok (.iconst 0, 1) := by decide +kernel
theorem d_M_direct_1 : decode b_M_direct 1 = .ok (.istore_n 2, 1) := by decide +kernel
theorem d_M_direct_2 : decode b_M_direct 2 = .ok (.iload_n 2, 1) := by decide +kernel
theorem d_M_direct_3 : decode b_M_direct 3 = .ok (.bipush 36, 2) := by decide +kernel
theorem d_M_direct_5 : decode b_M_direct 5 = .ok (.if_icmp .ge 16, 3) := by decide +kernel
theorem d_M_direct_8 : decode b_M_direct 8 = .ok (.aload_n 0, 1) := by decide +kernel
theorem d_M_direct_9 : decode b_M_direct 9 = .ok (.getfield 16, 3) := by decide +kernel
theorem d_M_direct_12 : decode b_M_direct 12 = .ok (.iload_n 2, 1) := by decide +kernel
theorem d_M_direct_13 : decode b_M_direct 13 = .ok (.iconst 0, 1) := by decide +kernel
theorem d_M_direct_14 : decode b_M_direct 14 = .ok (.bastore, 1) := by decide +kernel
theorem d_M_direct_15 : decode b_M_direct 15 = .ok (.iinc 2 1, 3) := by decide +kernel
theorem d_M_direct_18 : decode b_M_direct 18 = .ok (.goto (-16), 3) := by decide +kernel
theorem d_M_direct_21 : decode b_M_direct 21 = .ok (.iconst 0, 1) := by decide +kernel
theorem d_M_direct_22 : decode b_M_direct 22 = .ok (.istore_n 2, 1) := by decide +kernel
theorem d_M_direct_23 : decode b_M_direct 23 = .ok (.iload_n 2, 1) := by decide +kernel
theorem d_M_direct_24 : decode b_M_direct 24 = .ok (.aload_n 0, 1) := by decide +kernel
theorem d_M_direct_25 : decode b_M_direct 25 = .ok (.getfield 93, 3) := by decide +kernel
theorem d_M_direct_28 : decode b_M_direct 28 = .ok (.if_icmp .ge 86, 3) := by decide +kernel
theorem d_M_direct_31 : decode b_M_direct 31 = .ok (.iload_n 1, 1) := by decide +kernel
theorem d_M_direct_32 : decode b_M_direct 32 = .ok (.aload_n 0, 1) := by decide +kernel
theorem d_M_direct_33 : decode b_M_direct 33 = .ok (.getfield 93, 3) := by decide +kernel
theorem d_M_direct_36 : decode b_M_direct 36 = .ok (.iconst 1, 1) := by decide +kernel
theorem d_M_direct_37 : decode b_M_direct 37 = .ok (.isub, 1) := by decide +kernel
theorem d_M_direct_38 : decode b_M_direct 38 = .ok (.iload_n 2, 1) := by decide +kernel
theorem d_M_direct_39 : decode b_M_direct 39 = .ok (.isub, 1) := by decide +kernel
theorem d_M_direct_40 : decode b_M_direct 40 = .ok (.ishr, 1) := by decide +kernel
theorem d_M_direct_41 : decode b_M_direct 41 = .ok (.iconst 1, 1) := by decide +kernel
theorem d_M_direct_42 : decode b_M_direct 42 = .ok (.iand, 1) := by decide +kernel
theorem d_M_direct_43 : decode b_M_direct 43 = .ok (.ifCond .ne 7, 3) := by decide +kernel
theorem d_M_direct_46 : decode b_M_direct 46 = .ok (.iconst 1, 1) := by decide +kernel
theorem d_M_direct_47 : decode b_M_direct 47 = .ok (.goto 4, 3) := by decide +kernel
theorem d_M_direct_50 : decode b_M_direct 50 = .ok (.iconst 0, 1) := by decide +kernel
theorem d_M_direct_51 : decode b_M_direct 51 = .ok (.istore_n 3, 1) := by decide +kernel
theorem d_M_direct_52 : decode b_M_direct 52 = .ok (.iload_n 3, 1) := by decide +kernel
theorem d_M_direct_53 : decode b_M_direct 53 = .ok (.ifCond .eq 12, 3) := by decide +kernel
theorem d_M_direct_56 : decode b_M_direct 56 = .ok (.aload_n 0, 1) := by decide +kernel
theorem d_M_direct_57 : decode b_M_direct 57 = .ok (.getfield 26, 3) := by decide +kernel
theorem d_M_direct_60 : decode b_M_direct 60 = .ok (.iload_n 2, 1) := by decide +kernel
theorem d_M_direct_61 : decode b_M_direct 61 = .ok (.iaload, 1) := by decide +kernel
theorem d_M_direct_62 : decode b_M_direct 62 = .ok (.goto 9, 3) := by decide +kernel
theorem d_M_direct_65 : decode b_M_direct 65 = .ok (.aload_n 0, 1) := by decide +kernel
theorem d_M_direct_66 : decode b_M_direct 66 = .ok (.getfield 29, 3) := by decide +kernel
theorem d_M_direct_69 : decode b_M_direct 69 = .ok (.iload_n 2, 1) := by decide +kernel
theorem d_M_direct_70 : decode b_M_direct 70 = .ok (.iaload, 1) := by decide +kernel
theorem d_M_direct_71 : decode b_M_direct 71 = .ok (.istore 4, 2) := by decide +kernel
theorem d_M_direct_73 : decode b_M_direct 73 = .ok (.iload_n 3, 1) := by decide +kernel
theorem d_M_direct_74 : decode b_M_direct 74 = .ok (.ifCond .eq 12, 3) := by decide +kernel
theorem d_M_direct_77 : decode b_M_direct 77 = .ok (.aload_n 0, 1) := by decide +kernel
theorem d_M_direct_78 : decode b_M_direct 78 = .ok (.getfield 29, 3) := by decide +kernel
theorem d_M_direct_81 : decode b_M_direct 81 = .ok (.iload_n 2, 1) := by decide +kernel
theorem d_M_direct_82 : decode b_M_direct 82 = .ok (.iaload, 1) := by decide +kernel
theorem d_M_direct_83 : decode b_M_direct 83 = .ok (.goto 9, 3) := by decide +kernel
theorem d_M_direct_86 : decode b_M_direct 86 = .ok (.aload_n 0, 1) := by decide +kernel
theorem d_M_direct_87 : decode b_M_direct 87 = .ok (.getfield 26, 3) := by decide +kernel
theorem d_M_direct_90 : decode b_M_direct 90 = .ok (.iload_n 2, 1) := by decide +kernel
theorem d_M_direct_91 : decode b_M_direct 91 = .ok (.iaload, 1) := by decide +kernel
theorem d_M_direct_92 : decode b_M_direct 92 = .ok (.istore 5, 2) := by decide +kernel
theorem d_M_direct_94 : decode b_M_direct 94 = .ok (.aload_n 0, 1) := by decide +kernel
theorem d_M_direct_95 : decode b_M_direct 95 = .ok (.getfield 16, 3) := by decide +kernel
theorem d_M_direct_98 : decode b_M_direct 98 = .ok (.bipush 6, 2) := by decide +kernel
theorem d_M_direct_100 : decode b_M_direct 100 = .ok (.iload 4, 2) := by decide +kernel
theorem d_M_direct_102 : decode b_M_direct 102 = .ok (.imul, 1) := by decide +kernel
theorem d_M_direct_103 : decode b_M_direct 103 = .ok (.iload 5, 2) := by decide +kernel
theorem d_M_direct_105 : decode b_M_direct 105 = .ok (.iadd, 1) := by decide +kernel
theorem d_M_direct_106 : decode b_M_direct 106 = .ok (.iconst 1, 1) := by decide +kernel
theorem d_M_direct_107 : decode b_M_direct 107 = .ok (.bastore, 1) := by decide +kernel
theorem d_M_direct_108 : decode b_M_direct 108 = .ok (.iinc 2 1, 3) := by decide +kernel
theorem d_M_direct_111 : decode b_M_direct 111 = .ok (.goto (-88), 3) := by decide +kernel
theorem d_M_direct_114 : decode b_M_direct 114 = .ok (.return_, 1) := by decide +kernel
theorem d_M_isMember_0 : decode b_M_isMember 0 = .ok (.iconst 0, 1) := by decide +kernel
theorem d_M_isMember_1 : decode b_M_isMember 1 = .ok (.istore_n 1, 1) := by decide +kernel
theorem d_M_isMember_2 : decode b_M_isMember 2 = .ok (.iload_n 1, 1) := by decide +kernel
theorem d_M_isMember_3 : decode b_M_isMember 3 = .ok (.bipush 36, 2) := by decide +kernel
theorem d_M_isMember_5 : decode b_M_isMember 5 = .ok (.if_icmp .ge 29, 3) := by decide +kernel
theorem d_M_isMember_8 : decode b_M_isMember 8 = .ok (.aload_n 0, 1) := by decide +kernel
theorem d_M_isMember_9 : decode b_M_isMember 9 = .ok (.getfield 13, 3) := by decide +kernel
theorem d_M_isMember_12 : decode b_M_isMember 12 = .ok (.iload_n 1, 1) := by decide +kernel
theorem d_M_isMember_13 : decode b_M_isMember 13 = .ok (.baload, 1) := by decide +kernel
theorem d_M_isMember_14 : decode b_M_isMember 14 = .ok (.ifCond .eq 14, 3) := by decide +kernel
theorem d_M_isMember_17 : decode b_M_isMember 17 = .ok (.aload_n 0, 1) := by decide +kernel
theorem d_M_isMember_18 : decode b_M_isMember 18 = .ok (.getfield 16, 3) := by decide +kernel
theorem d_M_isMember_21 : decode b_M_isMember 21 = .ok (.iload_n 1, 1) := by decide +kernel
theorem d_M_isMember_22 : decode b_M_isMember 22 = .ok (.baload, 1) := by decide +kernel
theorem d_M_isMember_23 : decode b_M_isMember 23 = .ok (.ifCond .ne 5, 3) := by decide +kernel
theorem d_M_isMember_26 : decode b_M_isMember 26 = .ok (.iconst 0, 1) := by decide +kernel
theorem d_M_isMember_27 : decode b_M_isMember 27 = .ok (.ireturn, 1) := by decide +kernel
theorem d_M_isMember_28 : decode b_M_isMember 28 = .ok (.iinc 1 1, 3) := by decide +kernel
theorem d_M_isMember_31 : decode b_M_isMember 31 = .ok (.goto (-29), 3) := by decide +kernel
theorem d_M_isMember_34 : decode b_M_isMember 34 = .ok (.iconst 0, 1) := by decide +kernel
theorem d_M_isMember_35 : decode b_M_isMember 35 = .ok (.istore_n 1, 1) := by decide +kernel
theorem d_M_isMember_36 : decode b_M_isMember 36 = .ok (.iload_n 1, 1) := by decide +kernel
theorem d_M_isMember_37 : decode b_M_isMember 37 = .ok (.aload_n 0, 1) := by decide +kernel
theorem d_M_isMember_38 : decode b_M_isMember 38 = .ok (.getfield 41, 3) := by decide +kernel
theorem d_M_isMember_41 : decode b_M_isMember 41 = .ok (.if_icmp .ge 68, 3) := by decide +kernel
theorem d_M_isMember_44 : decode b_M_isMember 44 = .ok (.iconst 0, 1) := by decide +kernel
theorem d_M_isMember_45 : decode b_M_isMember 45 = .ok (.istore_n 2, 1) := by decide +kernel
theorem d_M_isMember_46 : decode b_M_isMember 46 = .ok (.iload_n 2, 1) := by decide +kernel
theorem d_M_isMember_47 : decode b_M_isMember 47 = .ok (.aload_n 0, 1) := by decide +kernel
theorem d_M_isMember_48 : decode b_M_isMember 48 = .ok (.getfield 41, 3) := by decide +kernel
theorem d_M_isMember_51 : decode b_M_isMember 51 = .ok (.if_icmp .ge 52, 3) := by decide +kernel
theorem d_M_isMember_54 : decode b_M_isMember 54 = .ok (.iload_n 2, 1) := by decide +kernel
theorem d_M_isMember_55 : decode b_M_isMember 55 = .ok (.iconst 1, 1) := by decide +kernel
theorem d_M_isMember_56 : decode b_M_isMember 56 = .ok (.iadd, 1) := by decide +kernel
theorem d_M_isMember_57 : decode b_M_isMember 57 = .ok (.istore_n 3, 1) := by decide +kernel
theorem d_M_isMember_58 : decode b_M_isMember 58 = .ok (.iload_n 3, 1) := by decide +kernel
theorem d_M_isMember_59 : decode b_M_isMember 59 = .ok (.aload_n 0, 1) := by decide +kernel
theorem d_M_isMember_60 : decode b_M_isMember 60 = .ok (.getfield 41, 3) := by decide +kernel
theorem d_M_isMember_63 : decode b_M_isMember 63 = .ok (.if_icmp .ge 34, 3) := by decide +kernel
theorem d_M_isMember_66 : decode b_M_isMember 66 = .ok (.aload_n 0, 1) := by decide +kernel
theorem d_M_isMember_67 : decode b_M_isMember 67 = .ok (.getfield 7, 3) := by decide +kernel
theorem d_M_isMember_70 : decode b_M_isMember 70 = .ok (.iload_n 2, 1) := by decide +kernel
theorem d_M_isMember_71 : decode b_M_isMember 71 = .ok (.iload_n 1, 1) := by decide +kernel
theorem d_M_isMember_72 : decode b_M_isMember 72 = .ok (.iload_n 3, 1) := by decide +kernel
theorem d_M_isMember_73 : decode b_M_isMember 73 = .ok (.invokestatic 70, 3) := by decide +kernel
theorem d_M_isMember_76 : decode b_M_isMember 76 = .ok (.aload_n 0, 1) := by decide +kernel
theorem d_M_isMember_77 : decode b_M_isMember 77 = .ok (.getfield 16, 3) := by decide +kernel
theorem d_M_isMember_80 : decode b_M_isMember 80 = .ok (.iload_n 2, 1) := by decide +kernel
theorem d_M_isMember_81 : decode b_M_isMember 81 = .ok (.iload_n 1, 1) := by decide +kernel
theorem d_M_isMember_82 : decode b_M_isMember 82 = .ok (.iload_n 3, 1) := by decide +kernel
theorem d_M_isMember_83 : decode b_M_isMember 83 = .ok (.invokestatic 70, 3) := by decide +kernel
theorem d_M_isMember_86 : decode b_M_isMember 86 = .ok (.if_icmp .eq 5, 3) := by decide +kernel
theorem d_M_isMember_89 : decode b_M_isMember 89 = .ok (.iconst 0, 1) := by decide +kernel
theorem d_M_isMember_90 : decode b_M_isMember 90 = .ok (.ireturn, 1) := by decide +kernel
theorem d_M_isMember_91 : decode b_M_isMember 91 = .ok (.iinc 3 1, 3) := by decide +kernel
theorem d_M_isMember_94 : decode b_M_isMember 94 = .ok (.goto (-36), 3) := by decide +kernel
theorem d_M_isMember_97 : decode b_M_isMember 97 = .ok (.iinc 2 1, 3) := by decide +kernel
theorem d_M_isMember_100 : decode b_M_isMember 100 = .ok (.goto (-54), 3) := by decide +kernel
theorem d_M_isMember_103 : decode b_M_isMember 103 = .ok (.iinc 1 1, 3) := by decide +kernel
theorem d_M_isMember_106 : decode b_M_isMember 106 = .ok (.goto (-70), 3) := by decide +kernel
theorem d_M_isMember_109 : decode b_M_isMember 109 = .ok (.aload_n 0, 1) := by decide +kernel
theorem d_M_isMember_110 : decode b_M_isMember 110 = .ok (.invokevirtual 96, 3) := by decide +kernel
theorem d_M_isMember_113 : decode b_M_isMember 113 = .ok (.ifCond .ne 7, 3) := by decide +kernel
theorem d_M_isMember_116 : decode b_M_isMember 116 = .ok (.iconst 1, 1) := by decide +kernel
theorem d_M_isMember_117 : decode b_M_isMember 117 = .ok (.goto 4, 3) := by decide +kernel
theorem d_M_isMember_120 : decode b_M_isMember 120 = .ok (.iconst 0, 1) := by decide +kernel
theorem d_M_isMember_121 : decode b_M_isMember 121 = .ok (.ireturn, 1) := by decide +kernel
theorem d_M_hasRing_0 : decode b_M_hasRing 0 = .ok (.iconst 1, 1) := by decide +kernel
theorem d_M_hasRing_1 : decode b_M_hasRing 1 = .ok (.aload_n 0, 1) := by decide +kernel
theorem d_M_hasRing_2 : decode b_M_hasRing 2 = .ok (.getfield 41, 3) := by decide +kernel
theorem d_M_hasRing_5 : decode b_M_hasRing 5 = .ok (.ishl, 1) := by decide +kernel
theorem d_M_hasRing_6 : decode b_M_hasRing 6 = .ok (.iconst 1, 1) := by decide +kernel
theorem d_M_hasRing_7 : decode b_M_hasRing 7 = .ok (.isub, 1) := by decide +kernel
theorem d_M_hasRing_8 : decode b_M_hasRing 8 = .ok (.istore_n 1, 1) := by decide +kernel
theorem d_M_hasRing_9 : decode b_M_hasRing 9 = .ok (.iconst 0, 1) := by decide +kernel
theorem d_M_hasRing_10 : decode b_M_hasRing 10 = .ok (.istore_n 2, 1) := by decide +kernel
theorem d_M_hasRing_11 : decode b_M_hasRing 11 = .ok (.iload_n 2, 1) := by decide +kernel
theorem d_M_hasRing_12 : decode b_M_hasRing 12 = .ok (.bipush 6, 2) := by decide +kernel
theorem d_M_hasRing_14 : decode b_M_hasRing 14 = .ok (.if_icmp .ge 100, 3) := by decide +kernel
theorem d_M_hasRing_17 : decode b_M_hasRing 17 = .ok (.iconst 0, 1) := by decide +kernel
theorem d_M_hasRing_18 : decode b_M_hasRing 18 = .ok (.istore_n 3, 1) := by decide +kernel
theorem d_M_hasRing_19 : decode b_M_hasRing 19 = .ok (.iload_n 3, 1) := by decide +kernel
theorem d_M_hasRing_20 : decode b_M_hasRing 20 = .ok (.aload_n 0, 1) := by decide +kernel
theorem d_M_hasRing_21 : decode b_M_hasRing 21 = .ok (.getfield 41, 3) := by decide +kernel
theorem d_M_hasRing_24 : decode b_M_hasRing 24 = .ok (.if_icmp .ge 84, 3) := by decide +kernel
theorem d_M_hasRing_27 : decode b_M_hasRing 27 = .ok (.iconst 1, 1) := by decide +kernel
theorem d_M_hasRing_28 : decode b_M_hasRing 28 = .ok (.istore 4, 2) := by decide +kernel
theorem d_M_hasRing_30 : decode b_M_hasRing 30 = .ok (.iconst 0, 1) := by decide +kernel
theorem d_M_hasRing_31 : decode b_M_hasRing 31 = .ok (.istore 5, 2) := by decide +kernel
theorem d_M_hasRing_33 : decode b_M_hasRing 33 = .ok (.iload 5, 2) := by decide +kernel
theorem d_M_hasRing_35 : decode b_M_hasRing 35 = .ok (.aload_n 0, 1) := by decide +kernel
theorem d_M_hasRing_36 : decode b_M_hasRing 36 = .ok (.getfield 41, 3) := by decide +kernel
theorem d_M_hasRing_39 : decode b_M_hasRing 39 = .ok (.if_icmp .ge 46, 3) := by decide +kernel
theorem d_M_hasRing_42 : decode b_M_hasRing 42 = .ok (.iload 4, 2) := by decide +kernel
theorem d_M_hasRing_44 : decode b_M_hasRing 44 = .ok (.ifCond .eq 32, 3) := by decide +kernel
theorem d_M_hasRing_47 : decode b_M_hasRing 47 = .ok (.aload_n 0, 1) := by decide +kernel
theorem d_M_hasRing_48 : decode b_M_hasRing 48 = .ok (.getfield 16, 3) := by decide +kernel
theorem d_M_hasRing_51 : decode b_M_hasRing 51 = .ok (.bipush 6, 2) := by decide +kernel
theorem d_M_hasRing_53 : decode b_M_hasRing 53 = .ok (.iload 5, 2) := by decide +kernel
theorem d_M_hasRing_55 : decode b_M_hasRing 55 = .ok (.imul, 1) := by decide +kernel
theorem d_M_hasRing_56 : decode b_M_hasRing 56 = .ok (.iload_n 3, 1) := by decide +kernel
theorem d_M_hasRing_57 : decode b_M_hasRing 57 = .ok (.iadd, 1) := by decide +kernel
theorem d_M_hasRing_58 : decode b_M_hasRing 58 = .ok (.baload, 1) := by decide +kernel
theorem d_M_hasRing_59 : decode b_M_hasRing 59 = .ok (.ifCond .eq 13, 3) := by decide +kernel
theorem d_M_hasRing_62 : decode b_M_hasRing 62 = .ok (.iload_n 1, 1) := by decide +kernel
theorem d_M_hasRing_63 : decode b_M_hasRing 63 = .ok (.iload 5, 2) := by decide +kernel
theorem d_M_hasRing_65 : decode b_M_hasRing 65 = .ok (.ishr, 1) := by decide +kernel
theorem d_M_hasRing_66 : decode b_M_hasRing 66 = .ok (.iconst 1, 1) := by decide +kernel
theorem d_M_hasRing_67 : decode b_M_hasRing 67 = .ok (.iand, 1) := by decide +kernel
theorem d_M_hasRing_68 : decode b_M_hasRing 68 = .ok (.iconst 1, 1) := by decide +kernel
theorem d_M_hasRing_69 : decode b_M_hasRing 69 = .ok (.if_icmp .eq 7, 3) := by decide +kernel
theorem d_M_hasRing_72 : decode b_M_hasRing 72 = .ok (.iconst 1, 1) := by decide +kernel
theorem d_M_hasRing_73 : decode b_M_hasRing 73 = .ok (.goto 4, 3) := by decide +kernel
theorem d_M_hasRing_76 : decode b_M_hasRing 76 = .ok (.iconst 0, 1) := by decide +kernel
theorem d_M_hasRing_77 : decode b_M_hasRing 77 = .ok (.istore 4, 2) := by decide +kernel
theorem d_M_hasRing_79 : decode b_M_hasRing 79 = .ok (.iinc 5 1, 3) := by decide +kernel
theorem d_M_hasRing_82 : decode b_M_hasRing 82 = .ok (.goto (-49), 3) := by decide +kernel
theorem d_M_hasRing_85 : decode b_M_hasRing 85 = .ok (.iload 4, 2) := by decide +kernel
theorem d_M_hasRing_87 : decode b_M_hasRing 87 = .ok (.ifCond .eq 13, 3) := by decide +kernel
theorem d_M_hasRing_90 : decode b_M_hasRing 90 = .ok (.iload_n 1, 1) := by decide +kernel
theorem d_M_hasRing_91 : decode b_M_hasRing 91 = .ok (.iconst 1, 1) := by decide +kernel
theorem d_M_hasRing_92 : decode b_M_hasRing 92 = .ok (.iload_n 3, 1) := by decide +kernel
theorem d_M_hasRing_93 : decode b_M_hasRing 93 = .ok (.ishl, 1) := by decide +kernel
theorem d_M_hasRing_94 : decode b_M_hasRing 94 = .ok (.iconst (-1), 1) := by decide +kernel
theorem d_M_hasRing_95 : decode b_M_hasRing 95 = .ok (.ixor, 1) := by decide +kernel
theorem d_M_hasRing_96 : decode b_M_hasRing 96 = .ok (.iand, 1) := by decide +kernel
theorem d_M_hasRing_97 : decode b_M_hasRing 97 = .ok (.goto 4, 3) := by decide +kernel
theorem d_M_hasRing_100 : decode b_M_hasRing 100 = .ok (.iload_n 1, 1) := by decide +kernel
theorem d_M_hasRing_101 : decode b_M_hasRing 101 = .ok (.istore_n 1, 1) := by decide +kernel
theorem d_M_hasRing_102 : decode b_M_hasRing 102 = .ok (.iinc 3 1, 3) := by decide +kernel
theorem d_M_hasRing_105 : decode b_M_hasRing 105 = .ok (.goto (-86), 3) := by decide +kernel
theorem d_M_hasRing_108 : decode b_M_hasRing 108 = .ok (.iinc 2 1, 3) := by decide +kernel
theorem d_M_hasRing_111 : decode b_M_hasRing 111 = .ok (.goto (-100), 3) := by decide +kernel
theorem d_M_hasRing_114 : decode b_M_hasRing 114 = .ok (.iload_n 1, 1) := by decide +kernel
theorem d_M_hasRing_115 : decode b_M_hasRing 115 = .ok (.ifCond .eq 7, 3) := by decide +kernel
theorem d_M_hasRing_118 : decode b_M_hasRing 118 = .ok (.iconst 1, 1) := by decide +kernel
theorem d_M_hasRing_119 : decode b_M_hasRing 119 = .ok (.goto 4, 3) := by decide +kernel
theorem d_M_hasRing_122 : decode b_M_hasRing 122 = .ok (.iconst 0, 1) := by decide +kernel
theorem d_M_hasRing_123 : decode b_M_hasRing 123 = .ok (.ireturn, 1) := by decide +kernel
theorem d_M_loose_0 : decode b_M_loose 0 = .ok (.aload_n 0, 1) := by decide +kernel
theorem d_M_loose_1 : decode b_M_loose 1 = .ok (.invokevirtual 113, 3) := by decide +kernel
theorem d_M_loose_4 : decode b_M_loose 4 = .ok (.iconst 0, 1) := by decide +kernel
theorem d_M_loose_5 : decode b_M_loose 5 = .ok (.istore_n 1, 1) := by decide +kernel
theorem d_M_loose_6 : decode b_M_loose 6 = .ok (.iconst 0, 1) := by decide +kernel
theorem d_M_loose_7 : decode b_M_loose 7 = .ok (.istore_n 2, 1) := by decide +kernel
theorem d_M_loose_8 : decode b_M_loose 8 = .ok (.iload_n 2, 1) := by decide +kernel
theorem d_M_loose_9 : decode b_M_loose 9 = .ok (.aload_n 0, 1) := by decide +kernel
theorem d_M_loose_10 : decode b_M_loose 10 = .ok (.getfield 93, 3) := by decide +kernel
theorem d_M_loose_13 : decode b_M_loose 13 = .ok (.if_icmp .ge 51, 3) := by decide +kernel
theorem d_M_loose_16 : decode b_M_loose 16 = .ok (.aload_n 0, 1) := by decide +kernel
theorem d_M_loose_17 : decode b_M_loose 17 = .ok (.getfield 19, 3) := by decide +kernel
theorem d_M_loose_20 : decode b_M_loose 20 = .ok (.bipush 6, 2) := by decide +kernel
theorem d_M_loose_22 : decode b_M_loose 22 = .ok (.aload_n 0, 1) := by decide +kernel
theorem d_M_loose_23 : decode b_M_loose 23 = .ok (.getfield 26, 3) := by decide +kernel
theorem d_M_loose_26 : decode b_M_loose 26 = .ok (.iload_n 2, 1) := by decide +kernel
theorem d_M_loose_27 : decode b_M_loose 27 = .ok (.iaload, 1) := by decide +kernel
theorem d_M_loose_28 : decode b_M_loose 28 = .ok (.imul, 1) := by decide +kernel
theorem d_M_loose_29 : decode b_M_loose 29 = .ok (.aload_n 0, 1) := by decide +kernel
theorem d_M_loose_30 : decode b_M_loose 30 = .ok (.getfield 29, 3) := by decide +kernel
theorem d_M_loose_33 : decode b_M_loose 33 = .ok (.iload_n 2, 1) := by decide +kernel
theorem d_M_loose_34 : decode b_M_loose 34 = .ok (.iaload, 1) := by decide +kernel
theorem d_M_loose_35 : decode b_M_loose 35 = .ok (.iadd, 1) := by decide +kernel
theorem d_M_loose_36 : decode b_M_loose 36 = .ok (.iaload, 1) := by decide +kernel
theorem d_M_loose_37 : decode b_M_loose 37 = .ok (.istore_n 3, 1) := by decide +kernel
theorem d_M_loose_38 : decode b_M_loose 38 = .ok (.iload_n 3, 1) := by decide +kernel
theorem d_M_loose_39 : decode b_M_loose 39 = .ok (.ifCond .le 17, 3) := by decide +kernel
theorem d_M_loose_42 : decode b_M_loose 42 = .ok (.iload_n 3, 1) := by decide +kernel
theorem d_M_loose_43 : decode b_M_loose 43 = .ok (.aload_n 0, 1) := by decide +kernel
theorem d_M_loose_44 : decode b_M_loose 44 = .ok (.getfield 103, 3) := by decide +kernel
theorem d_M_loose_47 : decode b_M_loose 47 = .ok (.if_icmp .ge 9, 3) := by decide +kernel
theorem d_M_loose_50 : decode b_M_loose 50 = .ok (.iload_n 1, 1) := by decide +kernel
theorem d_M_loose_51 : decode b_M_loose 51 = .ok (.iconst 1, 1) := by decide +kernel
theorem d_M_loose_52 : decode b_M_loose 52 = .ok (.iadd, 1) := by decide +kernel
theorem d_M_loose_53 : decode b_M_loose 53 = .ok (.goto 4, 3) := by decide +kernel
theorem d_M_loose_56 : decode b_M_loose 56 = .ok (.iload_n 1, 1) := by decide +kernel
theorem d_M_loose_57 : decode b_M_loose 57 = .ok (.istore_n 1, 1) := by decide +kernel
theorem d_M_loose_58 : decode b_M_loose 58 = .ok (.iinc 2 1, 3) := by decide +kernel
theorem d_M_loose_61 : decode b_M_loose 61 = .ok (.goto (-53), 3) := by decide +kernel
theorem d_M_loose_64 : decode b_M_loose 64 = .ok (.iload_n 1, 1) := by decide +kernel
theorem d_M_loose_65 : decode b_M_loose 65 = .ok (.ireturn, 1) := by decide +kernel
theorem d_M_know_0 : decode b_M_know 0 = .ok (.aload_n 0, 1) := by decide +kernel
theorem d_M_know_1 : decode b_M_know 1 = .ok (.iload_n 1, 1) := by decide +kernel
theorem d_M_know_2 : decode b_M_know 2 = .ok (.iload_n 2, 1) := by decide +kernel
theorem d_M_know_3 : decode b_M_know 3 = .ok (.invokevirtual 49, 3) := by decide +kernel
theorem d_M_know_6 : decode b_M_know 6 = .ok (.ifCond .ne 5, 3) := by decide +kernel
theorem d_M_know_9 : decode b_M_know 9 = .ok (.iconst 0, 1) := by decide +kernel
theorem d_M_know_10 : decode b_M_know 10 = .ok (.ireturn, 1) := by decide +kernel
theorem d_M_know_11 : decode b_M_know 11 = .ok (.aload_n 0, 1) := by decide +kernel
theorem d_M_know_12 : decode b_M_know 12 = .ok (.invokevirtual 113, 3) := by decide +kernel
theorem d_M_know_15 : decode b_M_know 15 = .ok (.aload_n 0, 1) := by decide +kernel
theorem d_M_know_16 : decode b_M_know 16 = .ok (.getfield 19, 3) := by decide +kernel
theorem d_M_know_19 : decode b_M_know 19 = .ok (.bipush 6, 2) := by decide +kernel
theorem d_M_know_21 : decode b_M_know 21 = .ok (.iload_n 1, 1) := by decide +kernel
theorem d_M_know_22 : decode b_M_know 22 = .ok (.imul, 1) := by decide +kernel
theorem d_M_know_23 : decode b_M_know 23 = .ok (.iload_n 2, 1) := by decide +kernel
theorem d_M_know_24 : decode b_M_know 24 = .ok (.iadd, 1) := by decide +kernel
theorem d_M_know_25 : decode b_M_know 25 = .ok (.iaload, 1) := by decide +kernel
theorem d_M_know_26 : decode b_M_know 26 = .ok (.ifCond .ne 5, 3) := by decide +kernel
theorem d_M_know_29 : decode b_M_know 29 = .ok (.iconst 0, 1) := by decide +kernel
theorem d_M_know_30 : decode b_M_know 30 = .ok (.ireturn, 1) := by decide +kernel
theorem d_M_know_31 : decode b_M_know 31 = .ok (.aload_n 0, 1) := by decide +kernel
theorem d_M_know_32 : decode b_M_know 32 = .ok (.getfield 13, 3) := by decide +kernel
theorem d_M_know_35 : decode b_M_know 35 = .ok (.bipush 6, 2) := by decide +kernel
theorem d_M_know_37 : decode b_M_know 37 = .ok (.iload_n 1, 1) := by decide +kernel
theorem d_M_know_38 : decode b_M_know 38 = .ok (.imul, 1) := by decide +kernel
theorem d_M_know_39 : decode b_M_know 39 = .ok (.iload_n 2, 1) := by decide +kernel
theorem d_M_know_40 : decode b_M_know 40 = .ok (.iadd, 1) := by decide +kernel
theorem d_M_know_41 : decode b_M_know 41 = .ok (.iconst 1, 1) := by decide +kernel
theorem d_M_know_42 : decode b_M_know 42 = .ok (.bastore, 1) := by decide +kernel
theorem d_M_know_43 : decode b_M_know 43 = .ok (.iconst 1, 1) := by decide +kernel
theorem d_M_know_44 : decode b_M_know 44 = .ok (.ireturn, 1) := by decide +kernel
theorem d_M_forget_0 : decode b_M_forget 0 = .ok (.iconst 0, 1) := by decide +kernel
theorem d_M_forget_1 : decode b_M_forget 1 = .ok (.istore_n 1, 1) := by decide +kernel
theorem d_M_forget_2 : decode b_M_forget 2 = .ok (.iconst 0, 1) := by decide +kernel
theorem d_M_forget_3 : decode b_M_forget 3 = .ok (.istore_n 2, 1) := by decide +kernel
theorem d_M_forget_4 : decode b_M_forget 4 = .ok (.iload_n 2, 1) := by decide +kernel
theorem d_M_forget_5 : decode b_M_forget 5 = .ok (.bipush 36, 2) := by decide +kernel
theorem d_M_forget_7 : decode b_M_forget 7 = .ok (.if_icmp .ge 26, 3) := by decide +kernel
theorem d_M_forget_10 : decode b_M_forget 10 = .ok (.aload_n 0, 1) := by decide +kernel
theorem d_M_forget_11 : decode b_M_forget 11 = .ok (.getfield 13, 3) := by decide +kernel
theorem d_M_forget_14 : decode b_M_forget 14 = .ok (.iload_n 2, 1) := by decide +kernel
theorem d_M_forget_15 : decode b_M_forget 15 = .ok (.baload, 1) := by decide +kernel
theorem d_M_forget_16 : decode b_M_forget 16 = .ok (.ifCond .eq 9, 3) := by decide +kernel
theorem d_M_forget_19 : decode b_M_forget 19 = .ok (.iload_n 1, 1) := by decide +kernel
theorem d_M_forget_20 : decode b_M_forget 20 = .ok (.iconst 1, 1) := by decide +kernel
theorem d_M_forget_21 : decode b_M_forget 21 = .ok (.iadd, 1) := by decide +kernel
theorem d_M_forget_22 : decode b_M_forget 22 = .ok (.goto 4, 3) := by decide +kernel
theorem d_M_forget_25 : decode b_M_forget 25 = .ok (.iload_n 1, 1) := by decide +kernel
theorem d_M_forget_26 : decode b_M_forget 26 = .ok (.istore_n 1, 1) := by decide +kernel
theorem d_M_forget_27 : decode b_M_forget 27 = .ok (.iinc 2 1, 3) := by decide +kernel
theorem d_M_forget_30 : decode b_M_forget 30 = .ok (.goto (-26), 3) := by decide +kernel
theorem d_M_forget_33 : decode b_M_forget 33 = .ok (.aload_n 0, 1) := by decide +kernel
theorem d_M_forget_34 : decode b_M_forget 34 = .ok (.invokevirtual 64, 3) := by decide +kernel
theorem d_M_forget_37 : decode b_M_forget 37 = .ok (.iload_n 1, 1) := by decide +kernel
theorem d_M_forget_38 : decode b_M_forget 38 = .ok (.ireturn, 1) := by decide +kernel
theorem d_M_members_0 : decode b_M_members 0 = .ok (.aload_n 0, 1) := by decide +kernel
theorem d_M_members_1 : decode b_M_members 1 = .ok (.invokevirtual 113, 3) := by decide +kernel
theorem d_M_members_4 : decode b_M_members 4 = .ok (.aload_n 0, 1) := by decide +kernel
theorem d_M_members_5 : decode b_M_members 5 = .ok (.getfield 103, 3) := by decide +kernel
theorem d_M_members_8 : decode b_M_members 8 = .ok (.ireturn, 1) := by decide +kernel
theorem d_M_first_0 : decode b_M_first 0 = .ok (.aload_n 0, 1) := by decide +kernel
theorem d_M_first_1 : decode b_M_first 1 = .ok (.iload_n 1, 1) := by decide +kernel
theorem d_M_first_2 : decode b_M_first 2 = .ok (.iload_n 2, 1) := by decide +kernel
theorem d_M_first_3 : decode b_M_first 3 = .ok (.invokevirtual 49, 3) := by decide +kernel
theorem d_M_first_6 : decode b_M_first 6 = .ok (.ifCond .ne 5, 3) := by decide +kernel
theorem d_M_first_9 : decode b_M_first 9 = .ok (.iconst 0, 1) := by decide +kernel
theorem d_M_first_10 : decode b_M_first 10 = .ok (.ireturn, 1) := by decide +kernel
theorem d_M_first_11 : decode b_M_first 11 = .ok (.aload_n 0, 1) := by decide +kernel
theorem d_M_first_12 : decode b_M_first 12 = .ok (.invokevirtual 113, 3) := by decide +kernel
theorem d_M_first_15 : decode b_M_first 15 = .ok (.aload_n 0, 1) := by decide +kernel
theorem d_M_first_16 : decode b_M_first 16 = .ok (.getfield 23, 3) := by decide +kernel
theorem d_M_first_19 : decode b_M_first 19 = .ok (.bipush 6, 2) := by decide +kernel
theorem d_M_first_21 : decode b_M_first 21 = .ok (.iload_n 1, 1) := by decide +kernel
theorem d_M_first_22 : decode b_M_first 22 = .ok (.imul, 1) := by decide +kernel
theorem d_M_first_23 : decode b_M_first 23 = .ok (.iload_n 2, 1) := by decide +kernel
theorem d_M_first_24 : decode b_M_first 24 = .ok (.iadd, 1) := by decide +kernel
theorem d_M_first_25 : decode b_M_first 25 = .ok (.baload, 1) := by decide +kernel
theorem d_M_first_26 : decode b_M_first 26 = .ok (.ireturn, 1) := by decide +kernel
theorem d_M_turned_0 : decode b_M_turned 0 = .ok (.aload_n 0, 1) := by decide +kernel
theorem d_M_turned_1 : decode b_M_turned 1 = .ok (.invokevirtual 113, 3) := by decide +kernel
theorem d_M_turned_4 : decode b_M_turned 4 = .ok (.iconst 0, 1) := by decide +kernel
theorem d_M_turned_5 : decode b_M_turned 5 = .ok (.istore_n 1, 1) := by decide +kernel
theorem d_M_turned_6 : decode b_M_turned 6 = .ok (.iconst 0, 1) := by decide +kernel
theorem d_M_turned_7 : decode b_M_turned 7 = .ok (.istore_n 2, 1) := by decide +kernel
theorem d_M_turned_8 : decode b_M_turned 8 = .ok (.iload_n 2, 1) := by decide +kernel
theorem d_M_turned_9 : decode b_M_turned 9 = .ok (.aload_n 0, 1) := by decide +kernel
theorem d_M_turned_10 : decode b_M_turned 10 = .ok (.getfield 41, 3) := by decide +kernel
theorem d_M_turned_13 : decode b_M_turned 13 = .ok (.if_icmp .ge 61, 3) := by decide +kernel
theorem d_M_turned_16 : decode b_M_turned 16 = .ok (.iconst 0, 1) := by decide +kernel
theorem d_M_turned_17 : decode b_M_turned 17 = .ok (.istore_n 3, 1) := by decide +kernel
theorem d_M_turned_18 : decode b_M_turned 18 = .ok (.iload_n 3, 1) := by decide +kernel
theorem d_M_turned_19 : decode b_M_turned 19 = .ok (.aload_n 0, 1) := by decide +kernel
theorem d_M_turned_20 : decode b_M_turned 20 = .ok (.getfield 41, 3) := by decide +kernel
theorem d_M_turned_23 : decode b_M_turned 23 = .ok (.if_icmp .ge 45, 3) := by decide +kernel
theorem d_M_turned_26 : decode b_M_turned 26 = .ok (.aload_n 0, 1) := by decide +kernel
theorem d_M_turned_27 : decode b_M_turned 27 = .ok (.getfield 7, 3) := by decide +kernel
theorem d_M_turned_30 : decode b_M_turned 30 = .ok (.bipush 6, 2) := by decide +kernel
theorem d_M_turned_32 : decode b_M_turned 32 = .ok (.iload_n 2, 1) := by decide +kernel
theorem d_M_turned_33 : decode b_M_turned 33 = .ok (.imul, 1) := by decide +kernel
theorem d_M_turned_34 : decode b_M_turned 34 = .ok (.iload_n 3, 1) := by decide +kernel
theorem d_M_turned_35 : decode b_M_turned 35 = .ok (.iadd, 1) := by decide +kernel
theorem d_M_turned_36 : decode b_M_turned 36 = .ok (.baload, 1) := by decide +kernel
theorem d_M_turned_37 : decode b_M_turned 37 = .ok (.ifCond .eq 23, 3) := by decide +kernel
theorem d_M_turned_40 : decode b_M_turned 40 = .ok (.aload_n 0, 1) := by decide +kernel
theorem d_M_turned_41 : decode b_M_turned 41 = .ok (.getfield 23, 3) := by decide +kernel
theorem d_M_turned_44 : decode b_M_turned 44 = .ok (.bipush 6, 2) := by decide +kernel
theorem d_M_turned_46 : decode b_M_turned 46 = .ok (.iload_n 3, 1) := by decide +kernel
theorem d_M_turned_47 : decode b_M_turned 47 = .ok (.imul, 1) := by decide +kernel
theorem d_M_turned_48 : decode b_M_turned 48 = .ok (.iload_n 2, 1) := by decide +kernel
theorem d_M_turned_49 : decode b_M_turned 49 = .ok (.iadd, 1) := by decide +kernel
theorem d_M_turned_50 : decode b_M_turned 50 = .ok (.baload, 1) := by decide +kernel
theorem d_M_turned_51 : decode b_M_turned 51 = .ok (.ifCond .eq 9, 3) := by decide +kernel
theorem d_M_turned_54 : decode b_M_turned 54 = .ok (.iload_n 1, 1) := by decide +kernel
theorem d_M_turned_55 : decode b_M_turned 55 = .ok (.iconst 1, 1) := by decide +kernel
theorem d_M_turned_56 : decode b_M_turned 56 = .ok (.iadd, 1) := by decide +kernel
theorem d_M_turned_57 : decode b_M_turned 57 = .ok (.goto 4, 3) := by decide +kernel
theorem d_M_turned_60 : decode b_M_turned 60 = .ok (.iload_n 1, 1) := by decide +kernel
theorem d_M_turned_61 : decode b_M_turned 61 = .ok (.istore_n 1, 1) := by decide +kernel
theorem d_M_turned_62 : decode b_M_turned 62 = .ok (.iinc 3 1, 3) := by decide +kernel
theorem d_M_turned_65 : decode b_M_turned 65 = .ok (.goto (-47), 3) := by decide +kernel
theorem d_M_turned_68 : decode b_M_turned 68 = .ok (.iinc 2 1, 3) := by decide +kernel
theorem d_M_turned_71 : decode b_M_turned 71 = .ok (.goto (-63), 3) := by decide +kernel
theorem d_M_turned_74 : decode b_M_turned 74 = .ok (.iload_n 1, 1) := by decide +kernel
theorem d_M_turned_75 : decode b_M_turned 75 = .ok (.ireturn, 1) := by decide +kernel
