/-! decode rows -/
theorem d_K_init_0 : decode b_K_init 0 = .ok (.aload_n 0, 1) := by decide +kernel
theorem d_K_init_1 : decode b_K_init 1 = .ok (.invokespecial 3, 3) := by decide +kernel
theorem d_K_init_4 : decode b_K_init 4 = .ok (.aload_n 0, 1) := by decide +kernel
theorem d_K_init_5 : decode b_K_init 5 = .ok (.new 9, 3) := by decide +kernel
theorem d_K_init_8 : decode b_K_init 8 = .ok (.dup, 1) := by decide +kernel
theorem d_K_init_9 : decode b_K_init 9 = .ok (.iload_n 1, 1) := by decide +kernel
theorem d_K_init_10 : decode b_K_init 10 = .ok (.invokespecial 11, 3) := by decide +kernel
theorem d_K_init_13 : decode b_K_init 13 = .ok (.putfield 14, 3) := by decide +kernel
theorem d_K_init_16 : decode b_K_init 16 = .ok (.aload_n 0, 1) := by decide +kernel
theorem d_K_init_17 : decode b_K_init 17 = .ok (.new 9, 3) := by decide +kernel
theorem d_K_init_20 : decode b_K_init 20 = .ok (.dup, 1) := by decide +kernel
theorem d_K_init_21 : decode b_K_init 21 = .ok (.iload_n 1, 1) := by decide +kernel
theorem d_K_init_22 : decode b_K_init 22 = .ok (.invokespecial 11, 3) := by decide +kernel
theorem d_K_init_25 : decode b_K_init 25 = .ok (.putfield 20, 3) := by decide +kernel
theorem d_K_init_28 : decode b_K_init 28 = .ok (.aload_n 0, 1) := by decide +kernel
theorem d_K_init_29 : decode b_K_init 29 = .ok (.bipush 9, 2) := by decide +kernel
theorem d_K_init_31 : decode b_K_init 31 = .ok (.newarray .int, 2) := by decide +kernel
theorem d_K_init_33 : decode b_K_init 33 = .ok (.putfield 23, 3) := by decide +kernel
theorem d_K_init_36 : decode b_K_init 36 = .ok (.aload_n 0, 1) := by decide +kernel
theorem d_K_init_37 : decode b_K_init 37 = .ok (.bipush 9, 2) := by decide +kernel
theorem d_K_init_39 : decode b_K_init 39 = .ok (.newarray .int, 2) := by decide +kernel
theorem d_K_init_41 : decode b_K_init 41 = .ok (.putfield 27, 3) := by decide +kernel
theorem d_K_init_44 : decode b_K_init 44 = .ok (.return_, 1) := by decide +kernel
theorem d_K_restart_0 : decode b_K_restart 0 = .ok (.aload_n 0, 1) := by decide +kernel
theorem d_K_restart_1 : decode b_K_restart 1 = .ok (.iconst 0, 1) := by decide +kernel
theorem d_K_restart_2 : decode b_K_restart 2 = .ok (.putfield 30, 3) := by decide +kernel
theorem d_K_restart_5 : decode b_K_restart 5 = .ok (.aload_n 0, 1) := by decide +kernel
theorem d_K_restart_6 : decode b_K_restart 6 = .ok (.iconst 0, 1) := by decide +kernel
theorem d_K_restart_7 : decode b_K_restart 7 = .ok (.putfield 34, 3) := by decide +kernel
theorem d_K_restart_10 : decode b_K_restart 10 = .ok (.aload_n 0, 1) := by decide +kernel
theorem d_K_restart_11 : decode b_K_restart 11 = .ok (.iconst 0, 1) := by decide +kernel
theorem d_K_restart_12 : decode b_K_restart 12 = .ok (.putfield 37, 3) := by decide +kernel
theorem d_K_restart_15 : decode b_K_restart 15 = .ok (.aload_n 0, 1) := by decide +kernel
theorem d_K_restart_16 : decode b_K_restart 16 = .ok (.iconst 0, 1) := by decide +kernel
theorem d_K_restart_17 : decode b_K_restart 17 = .ok (.putfield 40, 3) := by decide +kernel
theorem d_K_restart_20 : decode b_K_restart 20 = .ok (.aload_n 0, 1) := by decide +kernel
theorem d_K_restart_21 : decode b_K_restart 21 = .ok (.iconst 0, 1) := by decide +kernel
theorem d_K_restart_22 : decode b_K_restart 22 = .ok (.putfield 43, 3) := by decide +kernel
theorem d_K_restart_25 : decode b_K_restart 25 = .ok (.aload_n 0, 1) := by decide +kernel
theorem d_K_restart_26 : decode b_K_restart 26 = .ok (.iconst 0, 1) := by decide +kernel
theorem d_K_restart_27 : decode b_K_restart 27 = .ok (.putfield 46, 3) := by decide +kernel
theorem d_K_restart_30 : decode b_K_restart 30 = .ok (.iconst 0, 1) := by decide +kernel
theorem d_K_restart_31 : decode b_K_restart 31 = .ok (.istore_n 1, 1) := by decide +kernel
theorem d_K_restart_32 : decode b_K_restart 32 = .ok (.iload_n 1, 1) := by decide +kernel
theorem d_K_restart_33 : decode b_K_restart 33 = .ok (.aload_n 0, 1) := by decide +kernel
theorem d_K_restart_34 : decode b_K_restart 34 = .ok (.getfield 14, 3) := by decide +kernel
theorem d_K_restart_37 : decode b_K_restart 37 = .ok (.getfield 50, 3) := by decide +kernel
theorem d_K_restart_40 : decode b_K_restart 40 = .ok (.if_icmp .ge 57, 3) := by decide +kernel
theorem d_K_restart_43 : decode b_K_restart 43 = .ok (.iload_n 1, 1) := by decide +kernel
theorem d_K_restart_44 : decode b_K_restart 44 = .ok (.iconst 1, 1) := by decide +kernel
theorem d_K_restart_45 : decode b_K_restart 45 = .ok (.iadd, 1) := by decide +kernel
theorem d_K_restart_46 : decode b_K_restart 46 = .ok (.istore_n 2, 1) := by decide +kernel
theorem d_K_restart_47 : decode b_K_restart 47 = .ok (.iload_n 2, 1) := by decide +kernel
theorem d_K_restart_48 : decode b_K_restart 48 = .ok (.aload_n 0, 1) := by decide +kernel
theorem d_K_restart_49 : decode b_K_restart 49 = .ok (.getfield 14, 3) := by decide +kernel
theorem d_K_restart_52 : decode b_K_restart 52 = .ok (.getfield 50, 3) := by decide +kernel
theorem d_K_restart_55 : decode b_K_restart 55 = .ok (.if_icmp .ge 36, 3) := by decide +kernel
theorem d_K_restart_58 : decode b_K_restart 58 = .ok (.aload_n 0, 1) := by decide +kernel
theorem d_K_restart_59 : decode b_K_restart 59 = .ok (.getfield 14, 3) := by decide +kernel
theorem d_K_restart_62 : decode b_K_restart 62 = .ok (.iload_n 1, 1) := by decide +kernel
theorem d_K_restart_63 : decode b_K_restart 63 = .ok (.iload_n 2, 1) := by decide +kernel
theorem d_K_restart_64 : decode b_K_restart 64 = .ok (.invokevirtual 53, 3) := by decide +kernel
theorem d_K_restart_67 : decode b_K_restart 67 = .ok (.ifCond .eq 18, 3) := by decide +kernel
theorem d_K_restart_70 : decode b_K_restart 70 = .ok (.aload_n 0, 1) := by decide +kernel
theorem d_K_restart_71 : decode b_K_restart 71 = .ok (.getfield 30, 3) := by decide +kernel
theorem d_K_restart_74 : decode b_K_restart 74 = .ok (.bipush 9, 2) := by decide +kernel
theorem d_K_restart_76 : decode b_K_restart 76 = .ok (.if_icmp .ge 9, 3) := by decide +kernel
theorem d_K_restart_79 : decode b_K_restart 79 = .ok (.aload_n 0, 1) := by decide +kernel
theorem d_K_restart_80 : decode b_K_restart 80 = .ok (.iload_n 1, 1) := by decide +kernel
theorem d_K_restart_81 : decode b_K_restart 81 = .ok (.iload_n 2, 1) := by decide +kernel
theorem d_K_restart_82 : decode b_K_restart 82 = .ok (.invokevirtual 57, 3) := by decide +kernel
theorem d_K_restart_85 : decode b_K_restart 85 = .ok (.iinc 2 1, 3) := by decide +kernel
theorem d_K_restart_88 : decode b_K_restart 88 = .ok (.goto (-41), 3) := by decide +kernel
theorem d_K_restart_91 : decode b_K_restart 91 = .ok (.iinc 1 1, 3) := by decide +kernel
theorem d_K_restart_94 : decode b_K_restart 94 = .ok (.goto (-62), 3) := by decide +kernel
theorem d_K_restart_97 : decode b_K_restart 97 = .ok (.return_, 1) := by decide +kernel
theorem d_K_listPair_0 : decode b_K_listPair 0 = .ok (.aload_n 0, 1) := by decide +kernel
theorem d_K_listPair_1 : decode b_K_listPair 1 = .ok (.getfield 14, 3) := by decide +kernel
theorem d_K_listPair_4 : decode b_K_listPair 4 = .ok (.iload_n 1, 1) := by decide +kernel
theorem d_K_listPair_5 : decode b_K_listPair 5 = .ok (.iload_n 2, 1) := by decide +kernel
theorem d_K_listPair_6 : decode b_K_listPair 6 = .ok (.invokevirtual 61, 3) := by decide +kernel
theorem d_K_listPair_9 : decode b_K_listPair 9 = .ok (.aload_n 0, 1) := by decide +kernel
theorem d_K_listPair_10 : decode b_K_listPair 10 = .ok (.getfield 14, 3) := by decide +kernel
theorem d_K_listPair_13 : decode b_K_listPair 13 = .ok (.iload_n 2, 1) := by decide +kernel
theorem d_K_listPair_14 : decode b_K_listPair 14 = .ok (.iload_n 1, 1) := by decide +kernel
theorem d_K_listPair_15 : decode b_K_listPair 15 = .ok (.invokevirtual 61, 3) := by decide +kernel
theorem d_K_listPair_18 : decode b_K_listPair 18 = .ok (.ior, 1) := by decide +kernel
theorem d_K_listPair_19 : decode b_K_listPair 19 = .ok (.ifCond .eq 7, 3) := by decide +kernel
theorem d_K_listPair_22 : decode b_K_listPair 22 = .ok (.iconst 1, 1) := by decide +kernel
theorem d_K_listPair_23 : decode b_K_listPair 23 = .ok (.goto 4, 3) := by decide +kernel
theorem d_K_listPair_26 : decode b_K_listPair 26 = .ok (.iconst 0, 1) := by decide +kernel
theorem d_K_listPair_27 : decode b_K_listPair 27 = .ok (.istore_n 3, 1) := by decide +kernel
theorem d_K_listPair_28 : decode b_K_listPair 28 = .ok (.aload_n 0, 1) := by decide +kernel
theorem d_K_listPair_29 : decode b_K_listPair 29 = .ok (.getfield 23, 3) := by decide +kernel
theorem d_K_listPair_32 : decode b_K_listPair 32 = .ok (.aload_n 0, 1) := by decide +kernel
theorem d_K_listPair_33 : decode b_K_listPair 33 = .ok (.getfield 30, 3) := by decide +kernel
theorem d_K_listPair_36 : decode b_K_listPair 36 = .ok (.iload_n 1, 1) := by decide +kernel
theorem d_K_listPair_37 : decode b_K_listPair 37 = .ok (.iastore, 1) := by decide +kernel
theorem d_K_listPair_38 : decode b_K_listPair 38 = .ok (.aload_n 0, 1) := by decide +kernel
theorem d_K_listPair_39 : decode b_K_listPair 39 = .ok (.getfield 27, 3) := by decide +kernel
theorem d_K_listPair_42 : decode b_K_listPair 42 = .ok (.aload_n 0, 1) := by decide +kernel
theorem d_K_listPair_43 : decode b_K_listPair 43 = .ok (.getfield 30, 3) := by decide +kernel
theorem d_K_listPair_46 : decode b_K_listPair 46 = .ok (.iload_n 2, 1) := by decide +kernel
theorem d_K_listPair_47 : decode b_K_listPair 47 = .ok (.iastore, 1) := by decide +kernel
theorem d_K_listPair_48 : decode b_K_listPair 48 = .ok (.aload_n 0, 1) := by decide +kernel
theorem d_K_listPair_49 : decode b_K_listPair 49 = .ok (.dup, 1) := by decide +kernel
theorem d_K_listPair_50 : decode b_K_listPair 50 = .ok (.getfield 30, 3) := by decide +kernel
theorem d_K_listPair_53 : decode b_K_listPair 53 = .ok (.iconst 1, 1) := by decide +kernel
theorem d_K_listPair_54 : decode b_K_listPair 54 = .ok (.iadd, 1) := by decide +kernel
theorem d_K_listPair_55 : decode b_K_listPair 55 = .ok (.putfield 30, 3) := by decide +kernel
theorem d_K_listPair_58 : decode b_K_listPair 58 = .ok (.aload_n 0, 1) := by decide +kernel
theorem d_K_listPair_59 : decode b_K_listPair 59 = .ok (.iconst 2, 1) := by decide +kernel
theorem d_K_listPair_60 : decode b_K_listPair 60 = .ok (.aload_n 0, 1) := by decide +kernel
theorem d_K_listPair_61 : decode b_K_listPair 61 = .ok (.getfield 34, 3) := by decide +kernel
theorem d_K_listPair_64 : decode b_K_listPair 64 = .ok (.imul, 1) := by decide +kernel
theorem d_K_listPair_65 : decode b_K_listPair 65 = .ok (.aload_n 0, 1) := by decide +kernel
theorem d_K_listPair_66 : decode b_K_listPair 66 = .ok (.getfield 14, 3) := by decide +kernel
theorem d_K_listPair_69 : decode b_K_listPair 69 = .ok (.iload_n 2, 1) := by decide +kernel
theorem d_K_listPair_70 : decode b_K_listPair 70 = .ok (.iload_n 1, 1) := by decide +kernel
theorem d_K_listPair_71 : decode b_K_listPair 71 = .ok (.invokevirtual 65, 3) := by decide +kernel
theorem d_K_listPair_74 : decode b_K_listPair 74 = .ok (.ifCond .eq 7, 3) := by decide +kernel
theorem d_K_listPair_77 : decode b_K_listPair 77 = .ok (.iconst 1, 1) := by decide +kernel
theorem d_K_listPair_78 : decode b_K_listPair 78 = .ok (.goto 4, 3) := by decide +kernel
theorem d_K_listPair_81 : decode b_K_listPair 81 = .ok (.iconst 0, 1) := by decide +kernel
theorem d_K_listPair_82 : decode b_K_listPair 82 = .ok (.iadd, 1) := by decide +kernel
theorem d_K_listPair_83 : decode b_K_listPair 83 = .ok (.putfield 34, 3) := by decide +kernel
theorem d_K_listPair_86 : decode b_K_listPair 86 = .ok (.aload_n 0, 1) := by decide +kernel
theorem d_K_listPair_87 : decode b_K_listPair 87 = .ok (.iconst 2, 1) := by decide +kernel
theorem d_K_listPair_88 : decode b_K_listPair 88 = .ok (.aload_n 0, 1) := by decide +kernel
theorem d_K_listPair_89 : decode b_K_listPair 89 = .ok (.getfield 37, 3) := by decide +kernel
theorem d_K_listPair_92 : decode b_K_listPair 92 = .ok (.imul, 1) := by decide +kernel
theorem d_K_listPair_93 : decode b_K_listPair 93 = .ok (.iload_n 3, 1) := by decide +kernel
theorem d_K_listPair_94 : decode b_K_listPair 94 = .ok (.ifCond .eq 7, 3) := by decide +kernel
theorem d_K_listPair_97 : decode b_K_listPair 97 = .ok (.iconst 1, 1) := by decide +kernel
theorem d_K_listPair_98 : decode b_K_listPair 98 = .ok (.goto 4, 3) := by decide +kernel
theorem d_K_listPair_101 : decode b_K_listPair 101 = .ok (.iconst 0, 1) := by decide +kernel
theorem d_K_listPair_102 : decode b_K_listPair 102 = .ok (.iadd, 1) := by decide +kernel
theorem d_K_listPair_103 : decode b_K_listPair 103 = .ok (.putfield 37, 3) := by decide +kernel
theorem d_K_listPair_106 : decode b_K_listPair 106 = .ok (.return_, 1) := by decide +kernel
theorem d_K_someHas_0 : decode b_K_someHas 0 = .ok (.aload_n 0, 1) := by decide +kernel
theorem d_K_someHas_1 : decode b_K_someHas 1 = .ok (.invokevirtual 68, 3) := by decide +kernel
theorem d_K_someHas_4 : decode b_K_someHas 4 = .ok (.aload_n 0, 1) := by decide +kernel
theorem d_K_someHas_5 : decode b_K_someHas 5 = .ok (.iload_n 1, 1) := by decide +kernel
theorem d_K_someHas_6 : decode b_K_someHas 6 = .ok (.iload_n 2, 1) := by decide +kernel
theorem d_K_someHas_7 : decode b_K_someHas 7 = .ok (.invokevirtual 74, 3) := by decide +kernel
theorem d_K_someHas_10 : decode b_K_someHas 10 = .ok (.istore_n 3, 1) := by decide +kernel
theorem d_K_someHas_11 : decode b_K_someHas 11 = .ok (.iload_n 3, 1) := by decide +kernel
theorem d_K_someHas_12 : decode b_K_someHas 12 = .ok (.iload_n 1, 1) := by decide +kernel
theorem d_K_someHas_13 : decode b_K_someHas 13 = .ok (.iload_n 2, 1) := by decide +kernel
theorem d_K_someHas_14 : decode b_K_someHas 14 = .ok (.if_icmp .ge 12, 3) := by decide +kernel
theorem d_K_someHas_17 : decode b_K_someHas 17 = .ok (.aload_n 0, 1) := by decide +kernel
theorem d_K_someHas_18 : decode b_K_someHas 18 = .ok (.getfield 77, 3) := by decide +kernel
theorem d_K_someHas_21 : decode b_K_someHas 21 = .ok (.iconst (-1), 1) := by decide +kernel
theorem d_K_someHas_22 : decode b_K_someHas 22 = .ok (.ixor, 1) := by decide +kernel
theorem d_K_someHas_23 : decode b_K_someHas 23 = .ok (.goto 7, 3) := by decide +kernel
theorem d_K_someHas_26 : decode b_K_someHas 26 = .ok (.aload_n 0, 1) := by decide +kernel
theorem d_K_someHas_27 : decode b_K_someHas 27 = .ok (.getfield 80, 3) := by decide +kernel
theorem d_K_someHas_30 : decode b_K_someHas 30 = .ok (.iand, 1) := by decide +kernel
theorem d_K_someHas_31 : decode b_K_someHas 31 = .ok (.ifCond .eq 7, 3) := by decide +kernel
theorem d_K_someHas_34 : decode b_K_someHas 34 = .ok (.iconst 1, 1) := by decide +kernel
theorem d_K_someHas_35 : decode b_K_someHas 35 = .ok (.goto 4, 3) := by decide +kernel
theorem d_K_someHas_38 : decode b_K_someHas 38 = .ok (.iconst 0, 1) := by decide +kernel
theorem d_K_someHas_39 : decode b_K_someHas 39 = .ok (.ireturn, 1) := by decide +kernel
theorem d_K_gather_0 : decode b_K_gather 0 = .ok (.aload_n 0, 1) := by decide +kernel
theorem d_K_gather_1 : decode b_K_gather 1 = .ok (.getfield 46, 3) := by decide +kernel
theorem d_K_gather_4 : decode b_K_gather 4 = .ok (.ifCond .eq 4, 3) := by decide +kernel
theorem d_K_gather_7 : decode b_K_gather 7 = .ok (.return_, 1) := by decide +kernel
theorem d_K_gather_8 : decode b_K_gather 8 = .ok (.aload_n 0, 1) := by decide +kernel
theorem d_K_gather_9 : decode b_K_gather 9 = .ok (.iconst 0, 1) := by decide +kernel
theorem d_K_gather_10 : decode b_K_gather 10 = .ok (.putfield 71, 3) := by decide +kernel
theorem d_K_gather_13 : decode b_K_gather 13 = .ok (.aload_n 0, 1) := by decide +kernel
theorem d_K_gather_14 : decode b_K_gather 14 = .ok (.iconst 0, 1) := by decide +kernel
theorem d_K_gather_15 : decode b_K_gather 15 = .ok (.putfield 80, 3) := by decide +kernel
theorem d_K_gather_18 : decode b_K_gather 18 = .ok (.aload_n 0, 1) := by decide +kernel
theorem d_K_gather_19 : decode b_K_gather 19 = .ok (.iconst (-1), 1) := by decide +kernel
theorem d_K_gather_20 : decode b_K_gather 20 = .ok (.putfield 77, 3) := by decide +kernel
theorem d_K_gather_23 : decode b_K_gather 23 = .ok (.iconst 0, 1) := by decide +kernel
theorem d_K_gather_24 : decode b_K_gather 24 = .ok (.istore_n 1, 1) := by decide +kernel
theorem d_K_gather_25 : decode b_K_gather 25 = .ok (.iload_n 1, 1) := by decide +kernel
theorem d_K_gather_26 : decode b_K_gather 26 = .ok (.iconst 1, 1) := by decide +kernel
theorem d_K_gather_27 : decode b_K_gather 27 = .ok (.aload_n 0, 1) := by decide +kernel
theorem d_K_gather_28 : decode b_K_gather 28 = .ok (.getfield 30, 3) := by decide +kernel
theorem d_K_gather_31 : decode b_K_gather 31 = .ok (.ishl, 1) := by decide +kernel
theorem d_K_gather_32 : decode b_K_gather 32 = .ok (.if_icmp .ge 66, 3) := by decide +kernel
theorem d_K_gather_35 : decode b_K_gather 35 = .ok (.aload_n 0, 1) := by decide +kernel
theorem d_K_gather_36 : decode b_K_gather 36 = .ok (.iload_n 1, 1) := by decide +kernel
theorem d_K_gather_37 : decode b_K_gather 37 = .ok (.invokevirtual 103, 3) := by decide +kernel
theorem d_K_gather_40 : decode b_K_gather 40 = .ok (.ifCond .eq 52, 3) := by decide +kernel
theorem d_K_gather_43 : decode b_K_gather 43 = .ok (.aload_n 0, 1) := by decide +kernel
theorem d_K_gather_44 : decode b_K_gather 44 = .ok (.aload_n 0, 1) := by decide +kernel
theorem d_K_gather_45 : decode b_K_gather 45 = .ok (.getfield 71, 3) := by decide +kernel
theorem d_K_gather_48 : decode b_K_gather 48 = .ok (.ifCond .ne 7, 3) := by decide +kernel
theorem d_K_gather_51 : decode b_K_gather 51 = .ok (.iload_n 1, 1) := by decide +kernel
theorem d_K_gather_52 : decode b_K_gather 52 = .ok (.goto 7, 3) := by decide +kernel
theorem d_K_gather_55 : decode b_K_gather 55 = .ok (.aload_n 0, 1) := by decide +kernel
theorem d_K_gather_56 : decode b_K_gather 56 = .ok (.getfield 83, 3) := by decide +kernel
theorem d_K_gather_59 : decode b_K_gather 59 = .ok (.putfield 83, 3) := by decide +kernel
theorem d_K_gather_62 : decode b_K_gather 62 = .ok (.aload_n 0, 1) := by decide +kernel
theorem d_K_gather_63 : decode b_K_gather 63 = .ok (.dup, 1) := by decide +kernel
theorem d_K_gather_64 : decode b_K_gather 64 = .ok (.getfield 80, 3) := by decide +kernel
theorem d_K_gather_67 : decode b_K_gather 67 = .ok (.iload_n 1, 1) := by decide +kernel
theorem d_K_gather_68 : decode b_K_gather 68 = .ok (.ior, 1) := by decide +kernel
theorem d_K_gather_69 : decode b_K_gather 69 = .ok (.putfield 80, 3) := by decide +kernel
theorem d_K_gather_72 : decode b_K_gather 72 = .ok (.aload_n 0, 1) := by decide +kernel
theorem d_K_gather_73 : decode b_K_gather 73 = .ok (.dup, 1) := by decide +kernel
theorem d_K_gather_74 : decode b_K_gather 74 = .ok (.getfield 77, 3) := by decide +kernel
theorem d_K_gather_77 : decode b_K_gather 77 = .ok (.iload_n 1, 1) := by decide +kernel
theorem d_K_gather_78 : decode b_K_gather 78 = .ok (.iand, 1) := by decide +kernel
theorem d_K_gather_79 : decode b_K_gather 79 = .ok (.putfield 77, 3) := by decide +kernel
theorem d_K_gather_82 : decode b_K_gather 82 = .ok (.aload_n 0, 1) := by decide +kernel
theorem d_K_gather_83 : decode b_K_gather 83 = .ok (.dup, 1) := by decide +kernel
theorem d_K_gather_84 : decode b_K_gather 84 = .ok (.getfield 71, 3) := by decide +kernel
theorem d_K_gather_87 : decode b_K_gather 87 = .ok (.iconst 1, 1) := by decide +kernel
theorem d_K_gather_88 : decode b_K_gather 88 = .ok (.iadd, 1) := by decide +kernel
theorem d_K_gather_89 : decode b_K_gather 89 = .ok (.putfield 71, 3) := by decide +kernel
theorem d_K_gather_92 : decode b_K_gather 92 = .ok (.iinc 1 1, 3) := by decide +kernel
theorem d_K_gather_95 : decode b_K_gather 95 = .ok (.goto (-70), 3) := by decide +kernel
theorem d_K_gather_98 : decode b_K_gather 98 = .ok (.aload_n 0, 1) := by decide +kernel
theorem d_K_gather_99 : decode b_K_gather 99 = .ok (.iconst 1, 1) := by decide +kernel
theorem d_K_gather_100 : decode b_K_gather 100 = .ok (.putfield 46, 3) := by decide +kernel
theorem d_K_gather_103 : decode b_K_gather 103 = .ok (.return_, 1) := by decide +kernel
theorem d_K_isMember_0 : decode b_K_isMember 0 = .ok (.iload_n 1, 1) := by decide +kernel
theorem d_K_isMember_1 : decode b_K_isMember 1 = .ok (.aload_n 0, 1) := by decide +kernel
theorem d_K_isMember_2 : decode b_K_isMember 2 = .ok (.getfield 40, 3) := by decide +kernel
theorem d_K_isMember_5 : decode b_K_isMember 5 = .ok (.iand, 1) := by decide +kernel
theorem d_K_isMember_6 : decode b_K_isMember 6 = .ok (.aload_n 0, 1) := by decide +kernel
theorem d_K_isMember_7 : decode b_K_isMember 7 = .ok (.getfield 43, 3) := by decide +kernel
theorem d_K_isMember_10 : decode b_K_isMember 10 = .ok (.if_icmp .eq 5, 3) := by decide +kernel
theorem d_K_isMember_13 : decode b_K_isMember 13 = .ok (.iconst 0, 1) := by decide +kernel
theorem d_K_isMember_14 : decode b_K_isMember 14 = .ok (.ireturn, 1) := by decide +kernel
theorem d_K_isMember_15 : decode b_K_isMember 15 = .ok (.iload_n 1, 1) := by decide +kernel
theorem d_K_isMember_16 : decode b_K_isMember 16 = .ok (.aload_n 0, 1) := by decide +kernel
theorem d_K_isMember_17 : decode b_K_isMember 17 = .ok (.getfield 34, 3) := by decide +kernel
theorem d_K_isMember_20 : decode b_K_isMember 20 = .ok (.ixor, 1) := by decide +kernel
theorem d_K_isMember_21 : decode b_K_isMember 21 = .ok (.aload_n 0, 1) := by decide +kernel
theorem d_K_isMember_22 : decode b_K_isMember 22 = .ok (.getfield 37, 3) := by decide +kernel
theorem d_K_isMember_25 : decode b_K_isMember 25 = .ok (.iand, 1) := by decide +kernel
theorem d_K_isMember_26 : decode b_K_isMember 26 = .ok (.ifCond .eq 5, 3) := by decide +kernel
theorem d_K_isMember_29 : decode b_K_isMember 29 = .ok (.iconst 0, 1) := by decide +kernel
theorem d_K_isMember_30 : decode b_K_isMember 30 = .ok (.ireturn, 1) := by decide +kernel
theorem d_K_isMember_31 : decode b_K_isMember 31 = .ok (.aload_n 0, 1) := by decide +kernel
theorem d_K_isMember_32 : decode b_K_isMember 32 = .ok (.getfield 20, 3) := by decide +kernel
theorem d_K_isMember_35 : decode b_K_isMember 35 = .ok (.invokevirtual 107, 3) := by decide +kernel
theorem d_K_isMember_38 : decode b_K_isMember 38 = .ok (.iconst 0, 1) := by decide +kernel
theorem d_K_isMember_39 : decode b_K_isMember 39 = .ok (.istore_n 2, 1) := by decide +kernel
theorem d_K_isMember_40 : decode b_K_isMember 40 = .ok (.iload_n 2, 1) := by decide +kernel
theorem d_K_isMember_41 : decode b_K_isMember 41 = .ok (.aload_n 0, 1) := by decide +kernel
theorem d_K_isMember_42 : decode b_K_isMember 42 = .ok (.getfield 30, 3) := by decide +kernel
theorem d_K_isMember_45 : decode b_K_isMember 45 = .ok (.if_icmp .ge 60, 3) := by decide +kernel
theorem d_K_isMember_48 : decode b_K_isMember 48 = .ok (.iload_n 1, 1) := by decide +kernel
theorem d_K_isMember_49 : decode b_K_isMember 49 = .ok (.aload_n 0, 1) := by decide +kernel
theorem d_K_isMember_50 : decode b_K_isMember 50 = .ok (.iload_n 2, 1) := by decide +kernel
theorem d_K_isMember_51 : decode b_K_isMember 51 = .ok (.invokevirtual 100, 3) := by decide +kernel
theorem d_K_isMember_54 : decode b_K_isMember 54 = .ok (.iand, 1) := by decide +kernel
theorem d_K_isMember_55 : decode b_K_isMember 55 = .ok (.ifCond .ne 25, 3) := by decide +kernel
theorem d_K_isMember_58 : decode b_K_isMember 58 = .ok (.aload_n 0, 1) := by decide +kernel
theorem d_K_isMember_59 : decode b_K_isMember 59 = .ok (.getfield 20, 3) := by decide +kernel
theorem d_K_isMember_62 : decode b_K_isMember 62 = .ok (.aload_n 0, 1) := by decide +kernel
theorem d_K_isMember_63 : decode b_K_isMember 63 = .ok (.getfield 23, 3) := by decide +kernel
theorem d_K_isMember_66 : decode b_K_isMember 66 = .ok (.iload_n 2, 1) := by decide +kernel
theorem d_K_isMember_67 : decode b_K_isMember 67 = .ok (.iaload, 1) := by decide +kernel
theorem d_K_isMember_68 : decode b_K_isMember 68 = .ok (.aload_n 0, 1) := by decide +kernel
theorem d_K_isMember_69 : decode b_K_isMember 69 = .ok (.getfield 27, 3) := by decide +kernel
theorem d_K_isMember_72 : decode b_K_isMember 72 = .ok (.iload_n 2, 1) := by decide +kernel
theorem d_K_isMember_73 : decode b_K_isMember 73 = .ok (.iaload, 1) := by decide +kernel
theorem d_K_isMember_74 : decode b_K_isMember 74 = .ok (.invokevirtual 110, 3) := by decide +kernel
theorem d_K_isMember_77 : decode b_K_isMember 77 = .ok (.goto 22, 3) := by decide +kernel
theorem d_K_isMember_80 : decode b_K_isMember 80 = .ok (.aload_n 0, 1) := by decide +kernel
theorem d_K_isMember_81 : decode b_K_isMember 81 = .ok (.getfield 20, 3) := by decide +kernel
theorem d_K_isMember_84 : decode b_K_isMember 84 = .ok (.aload_n 0, 1) := by decide +kernel
theorem d_K_isMember_85 : decode b_K_isMember 85 = .ok (.getfield 27, 3) := by decide +kernel
theorem d_K_isMember_88 : decode b_K_isMember 88 = .ok (.iload_n 2, 1) := by decide +kernel
theorem d_K_isMember_89 : decode b_K_isMember 89 = .ok (.iaload, 1) := by decide +kernel
theorem d_K_isMember_90 : decode b_K_isMember 90 = .ok (.aload_n 0, 1) := by decide +kernel
theorem d_K_isMember_91 : decode b_K_isMember 91 = .ok (.getfield 23, 3) := by decide +kernel
theorem d_K_isMember_94 : decode b_K_isMember 94 = .ok (.iload_n 2, 1) := by decide +kernel
theorem d_K_isMember_95 : decode b_K_isMember 95 = .ok (.iaload, 1) := by decide +kernel
theorem d_K_isMember_96 : decode b_K_isMember 96 = .ok (.invokevirtual 110, 3) := by decide +kernel
theorem d_K_isMember_99 : decode b_K_isMember 99 = .ok (.iinc 2 1, 3) := by decide +kernel
theorem d_K_isMember_102 : decode b_K_isMember 102 = .ok (.goto (-62), 3) := by decide +kernel
theorem d_K_isMember_105 : decode b_K_isMember 105 = .ok (.aload_n 0, 1) := by decide +kernel
theorem d_K_isMember_106 : decode b_K_isMember 106 = .ok (.getfield 20, 3) := by decide +kernel
theorem d_K_isMember_109 : decode b_K_isMember 109 = .ok (.aload_n 0, 1) := by decide +kernel
theorem d_K_isMember_110 : decode b_K_isMember 110 = .ok (.getfield 14, 3) := by decide +kernel
theorem d_K_isMember_113 : decode b_K_isMember 113 = .ok (.invokevirtual 113, 3) := by decide +kernel
theorem d_K_isMember_116 : decode b_K_isMember 116 = .ok (.ifCond .eq 17, 3) := by decide +kernel
theorem d_K_isMember_119 : decode b_K_isMember 119 = .ok (.aload_n 0, 1) := by decide +kernel
theorem d_K_isMember_120 : decode b_K_isMember 120 = .ok (.getfield 20, 3) := by decide +kernel
theorem d_K_isMember_123 : decode b_K_isMember 123 = .ok (.invokevirtual 117, 3) := by decide +kernel
theorem d_K_isMember_126 : decode b_K_isMember 126 = .ok (.ifCond .ne 7, 3) := by decide +kernel
theorem d_K_isMember_129 : decode b_K_isMember 129 = .ok (.iconst 1, 1) := by decide +kernel
theorem d_K_isMember_130 : decode b_K_isMember 130 = .ok (.goto 4, 3) := by decide +kernel
theorem d_K_isMember_133 : decode b_K_isMember 133 = .ok (.iconst 0, 1) := by decide +kernel
theorem d_K_isMember_134 : decode b_K_isMember 134 = .ok (.ireturn, 1) := by decide +kernel
theorem d_K_bitAt_0 : decode b_K_bitAt 0 = .ok (.iconst 1, 1) := by decide +kernel
theorem d_K_bitAt_1 : decode b_K_bitAt 1 = .ok (.aload_n 0, 1) := by decide +kernel
theorem d_K_bitAt_2 : decode b_K_bitAt 2 = .ok (.getfield 30, 3) := by decide +kernel
theorem d_K_bitAt_5 : decode b_K_bitAt 5 = .ok (.iconst 1, 1) := by decide +kernel
theorem d_K_bitAt_6 : decode b_K_bitAt 6 = .ok (.isub, 1) := by decide +kernel
theorem d_K_bitAt_7 : decode b_K_bitAt 7 = .ok (.iload_n 1, 1) := by decide +kernel
theorem d_K_bitAt_8 : decode b_K_bitAt 8 = .ok (.isub, 1) := by decide +kernel
theorem d_K_bitAt_9 : decode b_K_bitAt 9 = .ok (.ishl, 1) := by decide +kernel
theorem d_K_bitAt_10 : decode b_K_bitAt 10 = .ok (.ireturn, 1) := by decide +kernel
theorem d_K_bitOf_0 : decode b_K_bitOf 0 = .ok (.iconst 0, 1) := by decide +kernel
theorem d_K_bitOf_1 : decode b_K_bitOf 1 = .ok (.istore_n 3, 1) := by decide +kernel
theorem d_K_bitOf_2 : decode b_K_bitOf 2 = .ok (.iload_n 3, 1) := by decide +kernel
theorem d_K_bitOf_3 : decode b_K_bitOf 3 = .ok (.aload_n 0, 1) := by decide +kernel
theorem d_K_bitOf_4 : decode b_K_bitOf 4 = .ok (.getfield 30, 3) := by decide +kernel
theorem d_K_bitOf_7 : decode b_K_bitOf 7 = .ok (.if_icmp .ge 43, 3) := by decide +kernel
theorem d_K_bitOf_10 : decode b_K_bitOf 10 = .ok (.aload_n 0, 1) := by decide +kernel
theorem d_K_bitOf_11 : decode b_K_bitOf 11 = .ok (.getfield 23, 3) := by decide +kernel
theorem d_K_bitOf_14 : decode b_K_bitOf 14 = .ok (.iload_n 3, 1) := by decide +kernel
theorem d_K_bitOf_15 : decode b_K_bitOf 15 = .ok (.iaload, 1) := by decide +kernel
theorem d_K_bitOf_16 : decode b_K_bitOf 16 = .ok (.iload_n 1, 1) := by decide +kernel
theorem d_K_bitOf_17 : decode b_K_bitOf 17 = .ok (.iload_n 2, 1) := by decide +kernel
theorem d_K_bitOf_18 : decode b_K_bitOf 18 = .ok (.invokestatic 92, 3) := by decide +kernel
theorem d_K_bitOf_21 : decode b_K_bitOf 21 = .ok (.if_icmp .ne 23, 3) := by decide +kernel
theorem d_K_bitOf_24 : decode b_K_bitOf 24 = .ok (.aload_n 0, 1) := by decide +kernel
theorem d_K_bitOf_25 : decode b_K_bitOf 25 = .ok (.getfield 27, 3) := by decide +kernel
theorem d_K_bitOf_28 : decode b_K_bitOf 28 = .ok (.iload_n 3, 1) := by decide +kernel
theorem d_K_bitOf_29 : decode b_K_bitOf 29 = .ok (.iaload, 1) := by decide +kernel
theorem d_K_bitOf_30 : decode b_K_bitOf 30 = .ok (.iload_n 1, 1) := by decide +kernel
theorem d_K_bitOf_31 : decode b_K_bitOf 31 = .ok (.iload_n 2, 1) := by decide +kernel
theorem d_K_bitOf_32 : decode b_K_bitOf 32 = .ok (.invokestatic 97, 3) := by decide +kernel
theorem d_K_bitOf_35 : decode b_K_bitOf 35 = .ok (.if_icmp .ne 9, 3) := by decide +kernel
theorem d_K_bitOf_38 : decode b_K_bitOf 38 = .ok (.aload_n 0, 1) := by decide +kernel
theorem d_K_bitOf_39 : decode b_K_bitOf 39 = .ok (.iload_n 3, 1) := by decide +kernel
theorem d_K_bitOf_40 : decode b_K_bitOf 40 = .ok (.invokevirtual 100, 3) := by decide +kernel
theorem d_K_bitOf_43 : decode b_K_bitOf 43 = .ok (.ireturn, 1) := by decide +kernel
theorem d_K_bitOf_44 : decode b_K_bitOf 44 = .ok (.iinc 3 1, 3) := by decide +kernel
theorem d_K_bitOf_47 : decode b_K_bitOf 47 = .ok (.goto (-45), 3) := by decide +kernel
theorem d_K_bitOf_50 : decode b_K_bitOf 50 = .ok (.iconst 0, 1) := by decide +kernel
theorem d_K_bitOf_51 : decode b_K_bitOf 51 = .ok (.ireturn, 1) := by decide +kernel
theorem d_K_loosePairs_0 : decode b_K_loosePairs 0 = .ok (.aload_n 0, 1) := by decide +kernel
theorem d_K_loosePairs_1 : decode b_K_loosePairs 1 = .ok (.invokevirtual 68, 3) := by decide +kernel
theorem d_K_loosePairs_4 : decode b_K_loosePairs 4 = .ok (.aload_n 0, 1) := by decide +kernel
theorem d_K_loosePairs_5 : decode b_K_loosePairs 5 = .ok (.getfield 80, 3) := by decide +kernel
theorem d_K_loosePairs_8 : decode b_K_loosePairs 8 = .ok (.aload_n 0, 1) := by decide +kernel
theorem d_K_loosePairs_9 : decode b_K_loosePairs 9 = .ok (.getfield 77, 3) := by decide +kernel
theorem d_K_loosePairs_12 : decode b_K_loosePairs 12 = .ok (.iconst (-1), 1) := by decide +kernel
theorem d_K_loosePairs_13 : decode b_K_loosePairs 13 = .ok (.ixor, 1) := by decide +kernel
theorem d_K_loosePairs_14 : decode b_K_loosePairs 14 = .ok (.iand, 1) := by decide +kernel
theorem d_K_loosePairs_15 : decode b_K_loosePairs 15 = .ok (.invokestatic 86, 3) := by decide +kernel
theorem d_K_loosePairs_18 : decode b_K_loosePairs 18 = .ok (.ireturn, 1) := by decide +kernel
theorem d_K_fix_0 : decode b_K_fix 0 = .ok (.aload_n 0, 1) := by decide +kernel
theorem d_K_fix_1 : decode b_K_fix 1 = .ok (.iload_n 1, 1) := by decide +kernel
theorem d_K_fix_2 : decode b_K_fix 2 = .ok (.iload_n 2, 1) := by decide +kernel
theorem d_K_fix_3 : decode b_K_fix 3 = .ok (.invokevirtual 74, 3) := by decide +kernel
theorem d_K_fix_6 : decode b_K_fix 6 = .ok (.istore_n 3, 1) := by decide +kernel
theorem d_K_fix_7 : decode b_K_fix 7 = .ok (.aload_n 0, 1) := by decide +kernel
theorem d_K_fix_8 : decode b_K_fix 8 = .ok (.dup, 1) := by decide +kernel
theorem d_K_fix_9 : decode b_K_fix 9 = .ok (.getfield 40, 3) := by decide +kernel
theorem d_K_fix_12 : decode b_K_fix 12 = .ok (.iload_n 3, 1) := by decide +kernel
theorem d_K_fix_13 : decode b_K_fix 13 = .ok (.ior, 1) := by decide +kernel
theorem d_K_fix_14 : decode b_K_fix 14 = .ok (.putfield 40, 3) := by decide +kernel
theorem d_K_fix_17 : decode b_K_fix 17 = .ok (.iload_n 1, 1) := by decide +kernel
theorem d_K_fix_18 : decode b_K_fix 18 = .ok (.iload_n 2, 1) := by decide +kernel
theorem d_K_fix_19 : decode b_K_fix 19 = .ok (.if_icmp .le 13, 3) := by decide +kernel
theorem d_K_fix_22 : decode b_K_fix 22 = .ok (.aload_n 0, 1) := by decide +kernel
theorem d_K_fix_23 : decode b_K_fix 23 = .ok (.dup, 1) := by decide +kernel
theorem d_K_fix_24 : decode b_K_fix 24 = .ok (.getfield 43, 3) := by decide +kernel
theorem d_K_fix_27 : decode b_K_fix 27 = .ok (.iload_n 3, 1) := by decide +kernel
theorem d_K_fix_28 : decode b_K_fix 28 = .ok (.ior, 1) := by decide +kernel
theorem d_K_fix_29 : decode b_K_fix 29 = .ok (.putfield 43, 3) := by decide +kernel
theorem d_K_fix_32 : decode b_K_fix 32 = .ok (.aload_n 0, 1) := by decide +kernel
theorem d_K_fix_33 : decode b_K_fix 33 = .ok (.iconst 0, 1) := by decide +kernel
theorem d_K_fix_34 : decode b_K_fix 34 = .ok (.putfield 46, 3) := by decide +kernel
theorem d_K_fix_37 : decode b_K_fix 37 = .ok (.return_, 1) := by decide +kernel
theorem d_K_unfix_0 : decode b_K_unfix 0 = .ok (.aload_n 0, 1) := by decide +kernel
theorem d_K_unfix_1 : decode b_K_unfix 1 = .ok (.getfield 40, 3) := by decide +kernel
theorem d_K_unfix_4 : decode b_K_unfix 4 = .ok (.invokestatic 86, 3) := by decide +kernel
theorem d_K_unfix_7 : decode b_K_unfix 7 = .ok (.istore_n 1, 1) := by decide +kernel
theorem d_K_unfix_8 : decode b_K_unfix 8 = .ok (.aload_n 0, 1) := by decide +kernel
theorem d_K_unfix_9 : decode b_K_unfix 9 = .ok (.iconst 0, 1) := by decide +kernel
theorem d_K_unfix_10 : decode b_K_unfix 10 = .ok (.putfield 40, 3) := by decide +kernel
theorem d_K_unfix_13 : decode b_K_unfix 13 = .ok (.aload_n 0, 1) := by decide +kernel
theorem d_K_unfix_14 : decode b_K_unfix 14 = .ok (.iconst 0, 1) := by decide +kernel
theorem d_K_unfix_15 : decode b_K_unfix 15 = .ok (.putfield 43, 3) := by decide +kernel
theorem d_K_unfix_18 : decode b_K_unfix 18 = .ok (.aload_n 0, 1) := by decide +kernel
theorem d_K_unfix_19 : decode b_K_unfix 19 = .ok (.iconst 0, 1) := by decide +kernel
theorem d_K_unfix_20 : decode b_K_unfix 20 = .ok (.putfield 46, 3) := by decide +kernel
theorem d_K_unfix_23 : decode b_K_unfix 23 = .ok (.iload_n 1, 1) := by decide +kernel
theorem d_K_unfix_24 : decode b_K_unfix 24 = .ok (.ireturn, 1) := by decide +kernel
theorem d_K_size_0 : decode b_K_size 0 = .ok (.aload_n 0, 1) := by decide +kernel
theorem d_K_size_1 : decode b_K_size 1 = .ok (.invokevirtual 68, 3) := by decide +kernel
theorem d_K_size_4 : decode b_K_size 4 = .ok (.aload_n 0, 1) := by decide +kernel
theorem d_K_size_5 : decode b_K_size 5 = .ok (.getfield 71, 3) := by decide +kernel
theorem d_K_size_8 : decode b_K_size 8 = .ok (.ireturn, 1) := by decide +kernel
theorem d_K_firstHas_0 : decode b_K_firstHas 0 = .ok (.aload_n 0, 1) := by decide +kernel
theorem d_K_firstHas_1 : decode b_K_firstHas 1 = .ok (.invokevirtual 68, 3) := by decide +kernel
theorem d_K_firstHas_4 : decode b_K_firstHas 4 = .ok (.aload_n 0, 1) := by decide +kernel
theorem d_K_firstHas_5 : decode b_K_firstHas 5 = .ok (.iload_n 1, 1) := by decide +kernel
theorem d_K_firstHas_6 : decode b_K_firstHas 6 = .ok (.iload_n 2, 1) := by decide +kernel
theorem d_K_firstHas_7 : decode b_K_firstHas 7 = .ok (.invokevirtual 74, 3) := by decide +kernel
theorem d_K_firstHas_10 : decode b_K_firstHas 10 = .ok (.istore_n 3, 1) := by decide +kernel
theorem d_K_firstHas_11 : decode b_K_firstHas 11 = .ok (.iload_n 3, 1) := by decide +kernel
theorem d_K_firstHas_12 : decode b_K_firstHas 12 = .ok (.iload_n 1, 1) := by decide +kernel
theorem d_K_firstHas_13 : decode b_K_firstHas 13 = .ok (.iload_n 2, 1) := by decide +kernel
theorem d_K_firstHas_14 : decode b_K_firstHas 14 = .ok (.if_icmp .ge 12, 3) := by decide +kernel
theorem d_K_firstHas_17 : decode b_K_firstHas 17 = .ok (.aload_n 0, 1) := by decide +kernel
theorem d_K_firstHas_18 : decode b_K_firstHas 18 = .ok (.getfield 83, 3) := by decide +kernel
theorem d_K_firstHas_21 : decode b_K_firstHas 21 = .ok (.iconst (-1), 1) := by decide +kernel
theorem d_K_firstHas_22 : decode b_K_firstHas 22 = .ok (.ixor, 1) := by decide +kernel
theorem d_K_firstHas_23 : decode b_K_firstHas 23 = .ok (.goto 7, 3) := by decide +kernel
theorem d_K_firstHas_26 : decode b_K_firstHas 26 = .ok (.aload_n 0, 1) := by decide +kernel
theorem d_K_firstHas_27 : decode b_K_firstHas 27 = .ok (.getfield 83, 3) := by decide +kernel
theorem d_K_firstHas_30 : decode b_K_firstHas 30 = .ok (.iand, 1) := by decide +kernel
theorem d_K_firstHas_31 : decode b_K_firstHas 31 = .ok (.ifCond .eq 7, 3) := by decide +kernel
theorem d_K_firstHas_34 : decode b_K_firstHas 34 = .ok (.iconst 1, 1) := by decide +kernel
theorem d_K_firstHas_35 : decode b_K_firstHas 35 = .ok (.goto 4, 3) := by decide +kernel
theorem d_K_firstHas_38 : decode b_K_firstHas 38 = .ok (.iconst 0, 1) := by decide +kernel
theorem d_K_firstHas_39 : decode b_K_firstHas 39 = .ok (.ireturn, 1) := by decide +kernel
theorem d_K_turnedInFirst_0 : decode b_K_turnedInFirst 0 = .ok (.aload_n 0, 1) := by decide +kernel
theorem d_K_turnedInFirst_1 : decode b_K_turnedInFirst 1 = .ok (.invokevirtual 68, 3) := by decide +kernel
theorem d_K_turnedInFirst_4 : decode b_K_turnedInFirst 4 = .ok (.aload_n 0, 1) := by decide +kernel
theorem d_K_turnedInFirst_5 : decode b_K_turnedInFirst 5 = .ok (.getfield 83, 3) := by decide +kernel
theorem d_K_turnedInFirst_8 : decode b_K_turnedInFirst 8 = .ok (.aload_n 0, 1) := by decide +kernel
theorem d_K_turnedInFirst_9 : decode b_K_turnedInFirst 9 = .ok (.getfield 34, 3) := by decide +kernel
theorem d_K_turnedInFirst_12 : decode b_K_turnedInFirst 12 = .ok (.ixor, 1) := by decide +kernel
theorem d_K_turnedInFirst_13 : decode b_K_turnedInFirst 13 = .ok (.invokestatic 86, 3) := by decide +kernel
theorem d_K_turnedInFirst_16 : decode b_K_turnedInFirst 16 = .ok (.ireturn, 1) := by decide +kernel
