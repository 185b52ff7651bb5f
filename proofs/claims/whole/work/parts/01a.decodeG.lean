/-! decode rows -/
theorem d_G_init_0 : decode b_G_init 0 = .ok (.aload_n 0, 1) := by decide +kernel
theorem d_G_init_1 : decode b_G_init 1 = .ok (.invokespecial 1, 3) := by decide +kernel
theorem d_G_init_4 : decode b_G_init 4 = .ok (.aload_n 0, 1) := by decide +kernel
theorem d_G_init_5 : decode b_G_init 5 = .ok (.iload_n 1, 1) := by decide +kernel
theorem d_G_init_6 : decode b_G_init 6 = .ok (.putfield 7, 3) := by decide +kernel
theorem d_G_init_9 : decode b_G_init 9 = .ok (.aload_n 0, 1) := by decide +kernel
theorem d_G_init_10 : decode b_G_init 10 = .ok (.iload_n 1, 1) := by decide +kernel
theorem d_G_init_11 : decode b_G_init 11 = .ok (.newarray .int, 2) := by decide +kernel
theorem d_G_init_13 : decode b_G_init 13 = .ok (.putfield 13, 3) := by decide +kernel
theorem d_G_init_16 : decode b_G_init 16 = .ok (.aload_n 0, 1) := by decide +kernel
theorem d_G_init_17 : decode b_G_init 17 = .ok (.iload_n 1, 1) := by decide +kernel
theorem d_G_init_18 : decode b_G_init 18 = .ok (.newarray .int, 2) := by decide +kernel
theorem d_G_init_20 : decode b_G_init 20 = .ok (.putfield 17, 3) := by decide +kernel
theorem d_G_init_23 : decode b_G_init 23 = .ok (.return_, 1) := by decide +kernel
theorem d_G_joins_0 : decode b_G_joins 0 = .ok (.aload_n 0, 1) := by decide +kernel
theorem d_G_joins_1 : decode b_G_joins 1 = .ok (.iload_n 1, 1) := by decide +kernel
theorem d_G_joins_2 : decode b_G_joins 2 = .ok (.iload_n 2, 1) := by decide +kernel
theorem d_G_joins_3 : decode b_G_joins 3 = .ok (.invokevirtual 26, 3) := by decide +kernel
theorem d_G_joins_6 : decode b_G_joins 6 = .ok (.ifCond .ne 12, 3) := by decide +kernel
theorem d_G_joins_9 : decode b_G_joins 9 = .ok (.aload_n 0, 1) := by decide +kernel
theorem d_G_joins_10 : decode b_G_joins 10 = .ok (.iload_n 2, 1) := by decide +kernel
theorem d_G_joins_11 : decode b_G_joins 11 = .ok (.iload_n 1, 1) := by decide +kernel
theorem d_G_joins_12 : decode b_G_joins 12 = .ok (.invokevirtual 26, 3) := by decide +kernel
theorem d_G_joins_15 : decode b_G_joins 15 = .ok (.ifCond .eq 7, 3) := by decide +kernel
theorem d_G_joins_18 : decode b_G_joins 18 = .ok (.iconst 1, 1) := by decide +kernel
theorem d_G_joins_19 : decode b_G_joins 19 = .ok (.goto 4, 3) := by decide +kernel
theorem d_G_joins_22 : decode b_G_joins 22 = .ok (.iconst 0, 1) := by decide +kernel
theorem d_G_joins_23 : decode b_G_joins 23 = .ok (.ireturn, 1) := by decide +kernel
theorem d_G_has_0 : decode b_G_has 0 = .ok (.aload_n 0, 1) := by decide +kernel
theorem d_G_has_1 : decode b_G_has 1 = .ok (.getfield 13, 3) := by decide +kernel
theorem d_G_has_4 : decode b_G_has 4 = .ok (.iload_n 2, 1) := by decide +kernel
theorem d_G_has_5 : decode b_G_has 5 = .ok (.iaload, 1) := by decide +kernel
theorem d_G_has_6 : decode b_G_has 6 = .ok (.iload_n 1, 1) := by decide +kernel
theorem d_G_has_7 : decode b_G_has 7 = .ok (.invokestatic 20, 3) := by decide +kernel
theorem d_G_has_10 : decode b_G_has 10 = .ok (.ireturn, 1) := by decide +kernel
theorem d_G_size_0 : decode b_G_size 0 = .ok (.iconst 0, 1) := by decide +kernel
theorem d_G_size_1 : decode b_G_size 1 = .ok (.istore_n 1, 1) := by decide +kernel
theorem d_G_size_2 : decode b_G_size 2 = .ok (.iconst 0, 1) := by decide +kernel
theorem d_G_size_3 : decode b_G_size 3 = .ok (.istore_n 2, 1) := by decide +kernel
theorem d_G_size_4 : decode b_G_size 4 = .ok (.iload_n 2, 1) := by decide +kernel
theorem d_G_size_5 : decode b_G_size 5 = .ok (.aload_n 0, 1) := by decide +kernel
theorem d_G_size_6 : decode b_G_size 6 = .ok (.getfield 7, 3) := by decide +kernel
theorem d_G_size_9 : decode b_G_size 9 = .ok (.if_icmp .ge 21, 3) := by decide +kernel
theorem d_G_size_12 : decode b_G_size 12 = .ok (.iload_n 1, 1) := by decide +kernel
theorem d_G_size_13 : decode b_G_size 13 = .ok (.aload_n 0, 1) := by decide +kernel
theorem d_G_size_14 : decode b_G_size 14 = .ok (.getfield 13, 3) := by decide +kernel
theorem d_G_size_17 : decode b_G_size 17 = .ok (.iload_n 2, 1) := by decide +kernel
theorem d_G_size_18 : decode b_G_size 18 = .ok (.iaload, 1) := by decide +kernel
theorem d_G_size_19 : decode b_G_size 19 = .ok (.invokestatic 29, 3) := by decide +kernel
theorem d_G_size_22 : decode b_G_size 22 = .ok (.iadd, 1) := by decide +kernel
theorem d_G_size_23 : decode b_G_size 23 = .ok (.istore_n 1, 1) := by decide +kernel
theorem d_G_size_24 : decode b_G_size 24 = .ok (.iinc 2 1, 3) := by decide +kernel
theorem d_G_size_27 : decode b_G_size 27 = .ok (.goto (-23), 3) := by decide +kernel
theorem d_G_size_30 : decode b_G_size 30 = .ok (.iload_n 1, 1) := by decide +kernel
theorem d_G_size_31 : decode b_G_size 31 = .ok (.ireturn, 1) := by decide +kernel
theorem d_G_reachOf_0 : decode b_G_reachOf 0 = .ok (.iconst 1, 1) := by decide +kernel
theorem d_G_reachOf_1 : decode b_G_reachOf 1 = .ok (.iload_n 1, 1) := by decide +kernel
theorem d_G_reachOf_2 : decode b_G_reachOf 2 = .ok (.ishl, 1) := by decide +kernel
theorem d_G_reachOf_3 : decode b_G_reachOf 3 = .ok (.istore_n 2, 1) := by decide +kernel
theorem d_G_reachOf_4 : decode b_G_reachOf 4 = .ok (.iconst 1, 1) := by decide +kernel
theorem d_G_reachOf_5 : decode b_G_reachOf 5 = .ok (.istore_n 3, 1) := by decide +kernel
theorem d_G_reachOf_6 : decode b_G_reachOf 6 = .ok (.iload_n 3, 1) := by decide +kernel
theorem d_G_reachOf_7 : decode b_G_reachOf 7 = .ok (.aload_n 0, 1) := by decide +kernel
theorem d_G_reachOf_8 : decode b_G_reachOf 8 = .ok (.getfield 7, 3) := by decide +kernel
theorem d_G_reachOf_11 : decode b_G_reachOf 11 = .ok (.if_icmp .ge 46, 3) := by decide +kernel
theorem d_G_reachOf_14 : decode b_G_reachOf 14 = .ok (.iconst 0, 1) := by decide +kernel
theorem d_G_reachOf_15 : decode b_G_reachOf 15 = .ok (.istore 4, 2) := by decide +kernel
theorem d_G_reachOf_17 : decode b_G_reachOf 17 = .ok (.iload 4, 2) := by decide +kernel
theorem d_G_reachOf_19 : decode b_G_reachOf 19 = .ok (.aload_n 0, 1) := by decide +kernel
theorem d_G_reachOf_20 : decode b_G_reachOf 20 = .ok (.getfield 7, 3) := by decide +kernel
theorem d_G_reachOf_23 : decode b_G_reachOf 23 = .ok (.if_icmp .ge 28, 3) := by decide +kernel
theorem d_G_reachOf_26 : decode b_G_reachOf 26 = .ok (.iload_n 2, 1) := by decide +kernel
theorem d_G_reachOf_27 : decode b_G_reachOf 27 = .ok (.iload 4, 2) := by decide +kernel
theorem d_G_reachOf_29 : decode b_G_reachOf 29 = .ok (.invokestatic 20, 3) := by decide +kernel
theorem d_G_reachOf_32 : decode b_G_reachOf 32 = .ok (.ifCond .eq 13, 3) := by decide +kernel
theorem d_G_reachOf_35 : decode b_G_reachOf 35 = .ok (.iload_n 2, 1) := by decide +kernel
theorem d_G_reachOf_36 : decode b_G_reachOf 36 = .ok (.aload_n 0, 1) := by decide +kernel
theorem d_G_reachOf_37 : decode b_G_reachOf 37 = .ok (.getfield 17, 3) := by decide +kernel
theorem d_G_reachOf_40 : decode b_G_reachOf 40 = .ok (.iload 4, 2) := by decide +kernel
theorem d_G_reachOf_42 : decode b_G_reachOf 42 = .ok (.iaload, 1) := by decide +kernel
theorem d_G_reachOf_43 : decode b_G_reachOf 43 = .ok (.ior, 1) := by decide +kernel
theorem d_G_reachOf_44 : decode b_G_reachOf 44 = .ok (.istore_n 2, 1) := by decide +kernel
theorem d_G_reachOf_45 : decode b_G_reachOf 45 = .ok (.iinc 4 1, 3) := by decide +kernel
theorem d_G_reachOf_48 : decode b_G_reachOf 48 = .ok (.goto (-31), 3) := by decide +kernel
theorem d_G_reachOf_51 : decode b_G_reachOf 51 = .ok (.iinc 3 1, 3) := by decide +kernel
theorem d_G_reachOf_54 : decode b_G_reachOf 54 = .ok (.goto (-48), 3) := by decide +kernel
theorem d_G_reachOf_57 : decode b_G_reachOf 57 = .ok (.iload_n 2, 1) := by decide +kernel
theorem d_G_reachOf_58 : decode b_G_reachOf 58 = .ok (.ireturn, 1) := by decide +kernel
theorem d_G_put_0 : decode b_G_put 0 = .ok (.aload_n 0, 1) := by decide +kernel
theorem d_G_put_1 : decode b_G_put 1 = .ok (.getfield 13, 3) := by decide +kernel
theorem d_G_put_4 : decode b_G_put 4 = .ok (.iload_n 2, 1) := by decide +kernel
theorem d_G_put_5 : decode b_G_put 5 = .ok (.dup2, 1) := by decide +kernel
theorem d_G_put_6 : decode b_G_put 6 = .ok (.iaload, 1) := by decide +kernel
theorem d_G_put_7 : decode b_G_put 7 = .ok (.iconst 1, 1) := by decide +kernel
theorem d_G_put_8 : decode b_G_put 8 = .ok (.iload_n 1, 1) := by decide +kernel
theorem d_G_put_9 : decode b_G_put 9 = .ok (.ishl, 1) := by decide +kernel
theorem d_G_put_10 : decode b_G_put 10 = .ok (.ior, 1) := by decide +kernel
theorem d_G_put_11 : decode b_G_put 11 = .ok (.iastore, 1) := by decide +kernel
theorem d_G_put_12 : decode b_G_put 12 = .ok (.aload_n 0, 1) := by decide +kernel
theorem d_G_put_13 : decode b_G_put 13 = .ok (.getfield 17, 3) := by decide +kernel
theorem d_G_put_16 : decode b_G_put 16 = .ok (.iload_n 1, 1) := by decide +kernel
theorem d_G_put_17 : decode b_G_put 17 = .ok (.dup2, 1) := by decide +kernel
theorem d_G_put_18 : decode b_G_put 18 = .ok (.iaload, 1) := by decide +kernel
theorem d_G_put_19 : decode b_G_put 19 = .ok (.iconst 1, 1) := by decide +kernel
theorem d_G_put_20 : decode b_G_put 20 = .ok (.iload_n 2, 1) := by decide +kernel
theorem d_G_put_21 : decode b_G_put 21 = .ok (.ishl, 1) := by decide +kernel
theorem d_G_put_22 : decode b_G_put 22 = .ok (.ior, 1) := by decide +kernel
theorem d_G_put_23 : decode b_G_put 23 = .ok (.iastore, 1) := by decide +kernel
theorem d_G_put_24 : decode b_G_put 24 = .ok (.return_, 1) := by decide +kernel
theorem d_G_strangers_0 : decode b_G_strangers 0 = .ok (.aload_n 0, 1) := by decide +kernel
theorem d_G_strangers_1 : decode b_G_strangers 1 = .ok (.getfield 13, 3) := by decide +kernel
theorem d_G_strangers_4 : decode b_G_strangers 4 = .ok (.iload_n 2, 1) := by decide +kernel
theorem d_G_strangers_5 : decode b_G_strangers 5 = .ok (.iaload, 1) := by decide +kernel
theorem d_G_strangers_6 : decode b_G_strangers 6 = .ok (.iload_n 1, 1) := by decide +kernel
theorem d_G_strangers_7 : decode b_G_strangers 7 = .ok (.invokestatic 20, 3) := by decide +kernel
theorem d_G_strangers_10 : decode b_G_strangers 10 = .ok (.ifCond .ne 5, 3) := by decide +kernel
theorem d_G_strangers_13 : decode b_G_strangers 13 = .ok (.iconst 0, 1) := by decide +kernel
theorem d_G_strangers_14 : decode b_G_strangers 14 = .ok (.ireturn, 1) := by decide +kernel
theorem d_G_strangers_15 : decode b_G_strangers 15 = .ok (.aload_n 0, 1) := by decide +kernel
theorem d_G_strangers_16 : decode b_G_strangers 16 = .ok (.getfield 13, 3) := by decide +kernel
theorem d_G_strangers_19 : decode b_G_strangers 19 = .ok (.iload_n 2, 1) := by decide +kernel
theorem d_G_strangers_20 : decode b_G_strangers 20 = .ok (.iaload, 1) := by decide +kernel
theorem d_G_strangers_21 : decode b_G_strangers 21 = .ok (.aload_n 0, 1) := by decide +kernel
theorem d_G_strangers_22 : decode b_G_strangers 22 = .ok (.getfield 13, 3) := by decide +kernel
theorem d_G_strangers_25 : decode b_G_strangers 25 = .ok (.iload_n 1, 1) := by decide +kernel
theorem d_G_strangers_26 : decode b_G_strangers 26 = .ok (.iaload, 1) := by decide +kernel
theorem d_G_strangers_27 : decode b_G_strangers 27 = .ok (.aload_n 0, 1) := by decide +kernel
theorem d_G_strangers_28 : decode b_G_strangers 28 = .ok (.getfield 17, 3) := by decide +kernel
theorem d_G_strangers_31 : decode b_G_strangers 31 = .ok (.iload_n 1, 1) := by decide +kernel
theorem d_G_strangers_32 : decode b_G_strangers 32 = .ok (.iaload, 1) := by decide +kernel
theorem d_G_strangers_33 : decode b_G_strangers 33 = .ok (.ior, 1) := by decide +kernel
theorem d_G_strangers_34 : decode b_G_strangers 34 = .ok (.iconst 1, 1) := by decide +kernel
theorem d_G_strangers_35 : decode b_G_strangers 35 = .ok (.iload_n 1, 1) := by decide +kernel
theorem d_G_strangers_36 : decode b_G_strangers 36 = .ok (.ishl, 1) := by decide +kernel
theorem d_G_strangers_37 : decode b_G_strangers 37 = .ok (.ior, 1) := by decide +kernel
theorem d_G_strangers_38 : decode b_G_strangers 38 = .ok (.iconst (-1), 1) := by decide +kernel
theorem d_G_strangers_39 : decode b_G_strangers 39 = .ok (.ixor, 1) := by decide +kernel
theorem d_G_strangers_40 : decode b_G_strangers 40 = .ok (.iand, 1) := by decide +kernel
theorem d_G_strangers_41 : decode b_G_strangers 41 = .ok (.ireturn, 1) := by decide +kernel
theorem d_G_take_0 : decode b_G_take 0 = .ok (.aload_n 0, 1) := by decide +kernel
theorem d_G_take_1 : decode b_G_take 1 = .ok (.getfield 13, 3) := by decide +kernel
theorem d_G_take_4 : decode b_G_take 4 = .ok (.iload_n 2, 1) := by decide +kernel
theorem d_G_take_5 : decode b_G_take 5 = .ok (.dup2, 1) := by decide +kernel
theorem d_G_take_6 : decode b_G_take 6 = .ok (.iaload, 1) := by decide +kernel
theorem d_G_take_7 : decode b_G_take 7 = .ok (.iconst 1, 1) := by decide +kernel
theorem d_G_take_8 : decode b_G_take 8 = .ok (.iload_n 1, 1) := by decide +kernel
theorem d_G_take_9 : decode b_G_take 9 = .ok (.ishl, 1) := by decide +kernel
theorem d_G_take_10 : decode b_G_take 10 = .ok (.iconst (-1), 1) := by decide +kernel
theorem d_G_take_11 : decode b_G_take 11 = .ok (.ixor, 1) := by decide +kernel
theorem d_G_take_12 : decode b_G_take 12 = .ok (.iand, 1) := by decide +kernel
theorem d_G_take_13 : decode b_G_take 13 = .ok (.iastore, 1) := by decide +kernel
theorem d_G_take_14 : decode b_G_take 14 = .ok (.aload_n 0, 1) := by decide +kernel
theorem d_G_take_15 : decode b_G_take 15 = .ok (.getfield 17, 3) := by decide +kernel
theorem d_G_take_18 : decode b_G_take 18 = .ok (.iload_n 1, 1) := by decide +kernel
theorem d_G_take_19 : decode b_G_take 19 = .ok (.dup2, 1) := by decide +kernel
theorem d_G_take_20 : decode b_G_take 20 = .ok (.iaload, 1) := by decide +kernel
theorem d_G_take_21 : decode b_G_take 21 = .ok (.iconst 1, 1) := by decide +kernel
theorem d_G_take_22 : decode b_G_take 22 = .ok (.iload_n 2, 1) := by decide +kernel
theorem d_G_take_23 : decode b_G_take 23 = .ok (.ishl, 1) := by decide +kernel
theorem d_G_take_24 : decode b_G_take 24 = .ok (.iconst (-1), 1) := by decide +kernel
theorem d_G_take_25 : decode b_G_take 25 = .ok (.ixor, 1) := by decide +kernel
theorem d_G_take_26 : decode b_G_take 26 = .ok (.iand, 1) := by decide +kernel
theorem d_G_take_27 : decode b_G_take 27 = .ok (.iastore, 1) := by decide +kernel
theorem d_G_take_28 : decode b_G_take 28 = .ok (.return_, 1) := by decide +kernel
theorem d_G_openFrom_0 : decode b_G_openFrom 0 = .ok (.aload_n 0, 1) := by decide +kernel
theorem d_G_openFrom_1 : decode b_G_openFrom 1 = .ok (.getfield 13, 3) := by decide +kernel
theorem d_G_openFrom_4 : decode b_G_openFrom 4 = .ok (.iload_n 1, 1) := by decide +kernel
theorem d_G_openFrom_5 : decode b_G_openFrom 5 = .ok (.iaload, 1) := by decide +kernel
theorem d_G_openFrom_6 : decode b_G_openFrom 6 = .ok (.istore_n 3, 1) := by decide +kernel
theorem d_G_openFrom_7 : decode b_G_openFrom 7 = .ok (.aload_n 0, 1) := by decide +kernel
theorem d_G_openFrom_8 : decode b_G_openFrom 8 = .ok (.getfield 17, 3) := by decide +kernel
theorem d_G_openFrom_11 : decode b_G_openFrom 11 = .ok (.iload_n 1, 1) := by decide +kernel
theorem d_G_openFrom_12 : decode b_G_openFrom 12 = .ok (.iaload, 1) := by decide +kernel
theorem d_G_openFrom_13 : decode b_G_openFrom 13 = .ok (.istore 4, 2) := by decide +kernel
theorem d_G_openFrom_15 : decode b_G_openFrom 15 = .ok (.iconst 1, 1) := by decide +kernel
theorem d_G_openFrom_16 : decode b_G_openFrom 16 = .ok (.istore 5, 2) := by decide +kernel
theorem d_G_openFrom_18 : decode b_G_openFrom 18 = .ok (.iconst 0, 1) := by decide +kernel
theorem d_G_openFrom_19 : decode b_G_openFrom 19 = .ok (.istore 6, 2) := by decide +kernel
theorem d_G_openFrom_21 : decode b_G_openFrom 21 = .ok (.iload 6, 2) := by decide +kernel
theorem d_G_openFrom_23 : decode b_G_openFrom 23 = .ok (.iconst 2, 1) := by decide +kernel
theorem d_G_openFrom_24 : decode b_G_openFrom 24 = .ok (.aload_n 0, 1) := by decide +kernel
theorem d_G_openFrom_25 : decode b_G_openFrom 25 = .ok (.getfield 7, 3) := by decide +kernel
theorem d_G_openFrom_28 : decode b_G_openFrom 28 = .ok (.imul, 1) := by decide +kernel
theorem d_G_openFrom_29 : decode b_G_openFrom 29 = .ok (.if_icmp .gt 125, 3) := by decide +kernel
theorem d_G_openFrom_32 : decode b_G_openFrom 32 = .ok (.iload 5, 2) := by decide +kernel
theorem d_G_openFrom_34 : decode b_G_openFrom 34 = .ok (.ifCond .eq 120, 3) := by decide +kernel
theorem d_G_openFrom_37 : decode b_G_openFrom 37 = .ok (.iload_n 3, 1) := by decide +kernel
theorem d_G_openFrom_38 : decode b_G_openFrom 38 = .ok (.istore 7, 2) := by decide +kernel
theorem d_G_openFrom_40 : decode b_G_openFrom 40 = .ok (.iload 4, 2) := by decide +kernel
theorem d_G_openFrom_42 : decode b_G_openFrom 42 = .ok (.istore 8, 2) := by decide +kernel
theorem d_G_openFrom_44 : decode b_G_openFrom 44 = .ok (.iconst 0, 1) := by decide +kernel
theorem d_G_openFrom_45 : decode b_G_openFrom 45 = .ok (.istore 9, 2) := by decide +kernel
theorem d_G_openFrom_47 : decode b_G_openFrom 47 = .ok (.iload 9, 2) := by decide +kernel
theorem d_G_openFrom_49 : decode b_G_openFrom 49 = .ok (.aload_n 0, 1) := by decide +kernel
theorem d_G_openFrom_50 : decode b_G_openFrom 50 = .ok (.getfield 7, 3) := by decide +kernel
theorem d_G_openFrom_53 : decode b_G_openFrom 53 = .ok (.if_icmp .ge 75, 3) := by decide +kernel
theorem d_G_openFrom_56 : decode b_G_openFrom 56 = .ok (.iload_n 2, 1) := by decide +kernel
theorem d_G_openFrom_57 : decode b_G_openFrom 57 = .ok (.iload 9, 2) := by decide +kernel
theorem d_G_openFrom_59 : decode b_G_openFrom 59 = .ok (.invokestatic 20, 3) := by decide +kernel
theorem d_G_openFrom_62 : decode b_G_openFrom 62 = .ok (.istore 10, 2) := by decide +kernel
theorem d_G_openFrom_64 : decode b_G_openFrom 64 = .ok (.iload 10, 2) := by decide +kernel
theorem d_G_openFrom_66 : decode b_G_openFrom 66 = .ok (.ifCond .ne 27, 3) := by decide +kernel
theorem d_G_openFrom_69 : decode b_G_openFrom 69 = .ok (.iload_n 3, 1) := by decide +kernel
theorem d_G_openFrom_70 : decode b_G_openFrom 70 = .ok (.iload 4, 2) := by decide +kernel
theorem d_G_openFrom_72 : decode b_G_openFrom 72 = .ok (.ior, 1) := by decide +kernel
theorem d_G_openFrom_73 : decode b_G_openFrom 73 = .ok (.iload 9, 2) := by decide +kernel
theorem d_G_openFrom_75 : decode b_G_openFrom 75 = .ok (.invokestatic 20, 3) := by decide +kernel
theorem d_G_openFrom_78 : decode b_G_openFrom 78 = .ok (.ifCond .eq 15, 3) := by decide +kernel
theorem d_G_openFrom_81 : decode b_G_openFrom 81 = .ok (.iload 4, 2) := by decide +kernel
theorem d_G_openFrom_83 : decode b_G_openFrom 83 = .ok (.aload_n 0, 1) := by decide +kernel
theorem d_G_openFrom_84 : decode b_G_openFrom 84 = .ok (.getfield 17, 3) := by decide +kernel
theorem d_G_openFrom_87 : decode b_G_openFrom 87 = .ok (.iload 9, 2) := by decide +kernel
theorem d_G_openFrom_89 : decode b_G_openFrom 89 = .ok (.iaload, 1) := by decide +kernel
theorem d_G_openFrom_90 : decode b_G_openFrom 90 = .ok (.ior, 1) := by decide +kernel
theorem d_G_openFrom_91 : decode b_G_openFrom 91 = .ok (.istore 4, 2) := by decide +kernel
theorem d_G_openFrom_93 : decode b_G_openFrom 93 = .ok (.iload 10, 2) := by decide +kernel
theorem d_G_openFrom_95 : decode b_G_openFrom 95 = .ok (.ifCond .eq 8, 3) := by decide +kernel
theorem d_G_openFrom_98 : decode b_G_openFrom 98 = .ok (.iload 4, 2) := by decide +kernel
theorem d_G_openFrom_100 : decode b_G_openFrom 100 = .ok (.goto 4, 3) := by decide +kernel
theorem d_G_openFrom_103 : decode b_G_openFrom 103 = .ok (.iload_n 3, 1) := by decide +kernel
theorem d_G_openFrom_104 : decode b_G_openFrom 104 = .ok (.iload 9, 2) := by decide +kernel
theorem d_G_openFrom_106 : decode b_G_openFrom 106 = .ok (.invokestatic 20, 3) := by decide +kernel
theorem d_G_openFrom_109 : decode b_G_openFrom 109 = .ok (.ifCond .eq 13, 3) := by decide +kernel
theorem d_G_openFrom_112 : decode b_G_openFrom 112 = .ok (.iload_n 3, 1) := by decide +kernel
theorem d_G_openFrom_113 : decode b_G_openFrom 113 = .ok (.aload_n 0, 1) := by decide +kernel
theorem d_G_openFrom_114 : decode b_G_openFrom 114 = .ok (.getfield 13, 3) := by decide +kernel
theorem d_G_openFrom_117 : decode b_G_openFrom 117 = .ok (.iload 9, 2) := by decide +kernel
theorem d_G_openFrom_119 : decode b_G_openFrom 119 = .ok (.iaload, 1) := by decide +kernel
theorem d_G_openFrom_120 : decode b_G_openFrom 120 = .ok (.ior, 1) := by decide +kernel
theorem d_G_openFrom_121 : decode b_G_openFrom 121 = .ok (.istore_n 3, 1) := by decide +kernel
theorem d_G_openFrom_122 : decode b_G_openFrom 122 = .ok (.iinc 9 1, 3) := by decide +kernel
theorem d_G_openFrom_125 : decode b_G_openFrom 125 = .ok (.goto (-78), 3) := by decide +kernel
theorem d_G_openFrom_128 : decode b_G_openFrom 128 = .ok (.iload_n 3, 1) := by decide +kernel
theorem d_G_openFrom_129 : decode b_G_openFrom 129 = .ok (.iload 7, 2) := by decide +kernel
theorem d_G_openFrom_131 : decode b_G_openFrom 131 = .ok (.if_icmp .ne 10, 3) := by decide +kernel
theorem d_G_openFrom_134 : decode b_G_openFrom 134 = .ok (.iload 4, 2) := by decide +kernel
theorem d_G_openFrom_136 : decode b_G_openFrom 136 = .ok (.iload 8, 2) := by decide +kernel
theorem d_G_openFrom_138 : decode b_G_openFrom 138 = .ok (.if_icmp .eq 7, 3) := by decide +kernel
theorem d_G_openFrom_141 : decode b_G_openFrom 141 = .ok (.iconst 1, 1) := by decide +kernel
theorem d_G_openFrom_142 : decode b_G_openFrom 142 = .ok (.goto 4, 3) := by decide +kernel
theorem d_G_openFrom_145 : decode b_G_openFrom 145 = .ok (.iconst 0, 1) := by decide +kernel
theorem d_G_openFrom_146 : decode b_G_openFrom 146 = .ok (.istore 5, 2) := by decide +kernel
theorem d_G_openFrom_148 : decode b_G_openFrom 148 = .ok (.iinc 6 1, 3) := by decide +kernel
theorem d_G_openFrom_151 : decode b_G_openFrom 151 = .ok (.goto (-130), 3) := by decide +kernel
theorem d_G_openFrom_154 : decode b_G_openFrom 154 = .ok (.iload_n 3, 1) := by decide +kernel
theorem d_G_openFrom_155 : decode b_G_openFrom 155 = .ok (.iload 4, 2) := by decide +kernel
theorem d_G_openFrom_157 : decode b_G_openFrom 157 = .ok (.ior, 1) := by decide +kernel
theorem d_G_openFrom_158 : decode b_G_openFrom 158 = .ok (.ireturn, 1) := by decide +kernel
theorem d_G_empty_0 : decode b_G_empty 0 = .ok (.iconst 0, 1) := by decide +kernel
theorem d_G_empty_1 : decode b_G_empty 1 = .ok (.istore_n 1, 1) := by decide +kernel
theorem d_G_empty_2 : decode b_G_empty 2 = .ok (.iload_n 1, 1) := by decide +kernel
theorem d_G_empty_3 : decode b_G_empty 3 = .ok (.aload_n 0, 1) := by decide +kernel
theorem d_G_empty_4 : decode b_G_empty 4 = .ok (.getfield 7, 3) := by decide +kernel
theorem d_G_empty_7 : decode b_G_empty 7 = .ok (.if_icmp .ge 23, 3) := by decide +kernel
theorem d_G_empty_10 : decode b_G_empty 10 = .ok (.aload_n 0, 1) := by decide +kernel
theorem d_G_empty_11 : decode b_G_empty 11 = .ok (.getfield 13, 3) := by decide +kernel
theorem d_G_empty_14 : decode b_G_empty 14 = .ok (.iload_n 1, 1) := by decide +kernel
theorem d_G_empty_15 : decode b_G_empty 15 = .ok (.iconst 0, 1) := by decide +kernel
theorem d_G_empty_16 : decode b_G_empty 16 = .ok (.iastore, 1) := by decide +kernel
theorem d_G_empty_17 : decode b_G_empty 17 = .ok (.aload_n 0, 1) := by decide +kernel
theorem d_G_empty_18 : decode b_G_empty 18 = .ok (.getfield 17, 3) := by decide +kernel
theorem d_G_empty_21 : decode b_G_empty 21 = .ok (.iload_n 1, 1) := by decide +kernel
theorem d_G_empty_22 : decode b_G_empty 22 = .ok (.iconst 0, 1) := by decide +kernel
theorem d_G_empty_23 : decode b_G_empty 23 = .ok (.iastore, 1) := by decide +kernel
theorem d_G_empty_24 : decode b_G_empty 24 = .ok (.iinc 1 1, 3) := by decide +kernel
theorem d_G_empty_27 : decode b_G_empty 27 = .ok (.goto (-25), 3) := by decide +kernel
theorem d_G_empty_30 : decode b_G_empty 30 = .ok (.return_, 1) := by decide +kernel
theorem d_G_collidesLike_0 : decode b_G_collidesLike 0 = .ok (.iconst 0, 1) := by decide +kernel
theorem d_G_collidesLike_1 : decode b_G_collidesLike 1 = .ok (.istore_n 2, 1) := by decide +kernel
theorem d_G_collidesLike_2 : decode b_G_collidesLike 2 = .ok (.iload_n 2, 1) := by decide +kernel
theorem d_G_collidesLike_3 : decode b_G_collidesLike 3 = .ok (.aload_n 0, 1) := by decide +kernel
theorem d_G_collidesLike_4 : decode b_G_collidesLike 4 = .ok (.getfield 7, 3) := by decide +kernel
theorem d_G_collidesLike_7 : decode b_G_collidesLike 7 = .ok (.if_icmp .ge 42, 3) := by decide +kernel
theorem d_G_collidesLike_10 : decode b_G_collidesLike 10 = .ok (.iconst 0, 1) := by decide +kernel
theorem d_G_collidesLike_11 : decode b_G_collidesLike 11 = .ok (.istore_n 3, 1) := by decide +kernel
theorem d_G_collidesLike_12 : decode b_G_collidesLike 12 = .ok (.iload_n 3, 1) := by decide +kernel
theorem d_G_collidesLike_13 : decode b_G_collidesLike 13 = .ok (.aload_n 0, 1) := by decide +kernel
theorem d_G_collidesLike_14 : decode b_G_collidesLike 14 = .ok (.getfield 7, 3) := by decide +kernel
theorem d_G_collidesLike_17 : decode b_G_collidesLike 17 = .ok (.if_icmp .ge 26, 3) := by decide +kernel
theorem d_G_collidesLike_20 : decode b_G_collidesLike 20 = .ok (.aload_n 0, 1) := by decide +kernel
theorem d_G_collidesLike_21 : decode b_G_collidesLike 21 = .ok (.iload_n 3, 1) := by decide +kernel
theorem d_G_collidesLike_22 : decode b_G_collidesLike 22 = .ok (.iload_n 2, 1) := by decide +kernel
theorem d_G_collidesLike_23 : decode b_G_collidesLike 23 = .ok (.invokevirtual 35, 3) := by decide +kernel
theorem d_G_collidesLike_26 : decode b_G_collidesLike 26 = .ok (.aload_n 1, 1) := by decide +kernel
theorem d_G_collidesLike_27 : decode b_G_collidesLike 27 = .ok (.iload_n 3, 1) := by decide +kernel
theorem d_G_collidesLike_28 : decode b_G_collidesLike 28 = .ok (.iload_n 2, 1) := by decide +kernel
theorem d_G_collidesLike_29 : decode b_G_collidesLike 29 = .ok (.invokevirtual 35, 3) := by decide +kernel
theorem d_G_collidesLike_32 : decode b_G_collidesLike 32 = .ok (.if_icmp .eq 5, 3) := by decide +kernel
theorem d_G_collidesLike_35 : decode b_G_collidesLike 35 = .ok (.iconst 0, 1) := by decide +kernel
theorem d_G_collidesLike_36 : decode b_G_collidesLike 36 = .ok (.ireturn, 1) := by decide +kernel
theorem d_G_collidesLike_37 : decode b_G_collidesLike 37 = .ok (.iinc 3 1, 3) := by decide +kernel
theorem d_G_collidesLike_40 : decode b_G_collidesLike 40 = .ok (.goto (-28), 3) := by decide +kernel
theorem d_G_collidesLike_43 : decode b_G_collidesLike 43 = .ok (.iinc 2 1, 3) := by decide +kernel
theorem d_G_collidesLike_46 : decode b_G_collidesLike 46 = .ok (.goto (-44), 3) := by decide +kernel
theorem d_G_collidesLike_49 : decode b_G_collidesLike 49 = .ok (.iconst 1, 1) := by decide +kernel
theorem d_G_collidesLike_50 : decode b_G_collidesLike 50 = .ok (.ireturn, 1) := by decide +kernel
theorem d_G_hasRing_0 : decode b_G_hasRing 0 = .ok (.iconst 1, 1) := by decide +kernel
theorem d_G_hasRing_1 : decode b_G_hasRing 1 = .ok (.aload_n 0, 1) := by decide +kernel
theorem d_G_hasRing_2 : decode b_G_hasRing 2 = .ok (.getfield 7, 3) := by decide +kernel
theorem d_G_hasRing_5 : decode b_G_hasRing 5 = .ok (.ishl, 1) := by decide +kernel
theorem d_G_hasRing_6 : decode b_G_hasRing 6 = .ok (.iconst 1, 1) := by decide +kernel
theorem d_G_hasRing_7 : decode b_G_hasRing 7 = .ok (.isub, 1) := by decide +kernel
theorem d_G_hasRing_8 : decode b_G_hasRing 8 = .ok (.istore_n 1, 1) := by decide +kernel
theorem d_G_hasRing_9 : decode b_G_hasRing 9 = .ok (.iconst 0, 1) := by decide +kernel
theorem d_G_hasRing_10 : decode b_G_hasRing 10 = .ok (.istore_n 2, 1) := by decide +kernel
theorem d_G_hasRing_11 : decode b_G_hasRing 11 = .ok (.iload_n 2, 1) := by decide +kernel
theorem d_G_hasRing_12 : decode b_G_hasRing 12 = .ok (.aload_n 0, 1) := by decide +kernel
theorem d_G_hasRing_13 : decode b_G_hasRing 13 = .ok (.getfield 7, 3) := by decide +kernel
theorem d_G_hasRing_16 : decode b_G_hasRing 16 = .ok (.if_icmp .ge 48, 3) := by decide +kernel
theorem d_G_hasRing_19 : decode b_G_hasRing 19 = .ok (.iload_n 1, 1) := by decide +kernel
theorem d_G_hasRing_20 : decode b_G_hasRing 20 = .ok (.ifCond .eq 44, 3) := by decide +kernel
theorem d_G_hasRing_23 : decode b_G_hasRing 23 = .ok (.iconst 0, 1) := by decide +kernel
theorem d_G_hasRing_24 : decode b_G_hasRing 24 = .ok (.istore_n 3, 1) := by decide +kernel
theorem d_G_hasRing_25 : decode b_G_hasRing 25 = .ok (.iload_n 3, 1) := by decide +kernel
theorem d_G_hasRing_26 : decode b_G_hasRing 26 = .ok (.aload_n 0, 1) := by decide +kernel
theorem d_G_hasRing_27 : decode b_G_hasRing 27 = .ok (.getfield 7, 3) := by decide +kernel
theorem d_G_hasRing_30 : decode b_G_hasRing 30 = .ok (.if_icmp .ge 28, 3) := by decide +kernel
theorem d_G_hasRing_33 : decode b_G_hasRing 33 = .ok (.aload_n 0, 1) := by decide +kernel
theorem d_G_hasRing_34 : decode b_G_hasRing 34 = .ok (.getfield 13, 3) := by decide +kernel
theorem d_G_hasRing_37 : decode b_G_hasRing 37 = .ok (.iload_n 3, 1) := by decide +kernel
theorem d_G_hasRing_38 : decode b_G_hasRing 38 = .ok (.iaload, 1) := by decide +kernel
theorem d_G_hasRing_39 : decode b_G_hasRing 39 = .ok (.iload_n 1, 1) := by decide +kernel
theorem d_G_hasRing_40 : decode b_G_hasRing 40 = .ok (.iand, 1) := by decide +kernel
theorem d_G_hasRing_41 : decode b_G_hasRing 41 = .ok (.ifCond .ne 11, 3) := by decide +kernel
theorem d_G_hasRing_44 : decode b_G_hasRing 44 = .ok (.iload_n 1, 1) := by decide +kernel
theorem d_G_hasRing_45 : decode b_G_hasRing 45 = .ok (.iconst 1, 1) := by decide +kernel
theorem d_G_hasRing_46 : decode b_G_hasRing 46 = .ok (.iload_n 3, 1) := by decide +kernel
theorem d_G_hasRing_47 : decode b_G_hasRing 47 = .ok (.ishl, 1) := by decide +kernel
theorem d_G_hasRing_48 : decode b_G_hasRing 48 = .ok (.iconst (-1), 1) := by decide +kernel
theorem d_G_hasRing_49 : decode b_G_hasRing 49 = .ok (.ixor, 1) := by decide +kernel
theorem d_G_hasRing_50 : decode b_G_hasRing 50 = .ok (.iand, 1) := by decide +kernel
theorem d_G_hasRing_51 : decode b_G_hasRing 51 = .ok (.istore_n 1, 1) := by decide +kernel
theorem d_G_hasRing_52 : decode b_G_hasRing 52 = .ok (.iinc 3 1, 3) := by decide +kernel
theorem d_G_hasRing_55 : decode b_G_hasRing 55 = .ok (.goto (-30), 3) := by decide +kernel
theorem d_G_hasRing_58 : decode b_G_hasRing 58 = .ok (.iinc 2 1, 3) := by decide +kernel
theorem d_G_hasRing_61 : decode b_G_hasRing 61 = .ok (.goto (-50), 3) := by decide +kernel
theorem d_G_hasRing_64 : decode b_G_hasRing 64 = .ok (.iload_n 1, 1) := by decide +kernel
theorem d_G_hasRing_65 : decode b_G_hasRing 65 = .ok (.ifCond .eq 7, 3) := by decide +kernel
theorem d_G_hasRing_68 : decode b_G_hasRing 68 = .ok (.iconst 1, 1) := by decide +kernel
theorem d_G_hasRing_69 : decode b_G_hasRing 69 = .ok (.goto 4, 3) := by decide +kernel
theorem d_G_hasRing_72 : decode b_G_hasRing 72 = .ok (.iconst 0, 1) := by decide +kernel
theorem d_G_hasRing_73 : decode b_G_hasRing 73 = .ok (.ireturn, 1) := by decide +kernel
theorem d_J_bitCount_0 : decode b_J_bitCount 0 = .ok (.iload_n 0, 1) := by decide +kernel
theorem d_J_bitCount_1 : decode b_J_bitCount 1 = .ok (.iload_n 0, 1) := by decide +kernel
theorem d_J_bitCount_2 : decode b_J_bitCount 2 = .ok (.iconst 1, 1) := by decide +kernel
theorem d_J_bitCount_3 : decode b_J_bitCount 3 = .ok (.iushr, 1) := by decide +kernel
theorem d_J_bitCount_4 : decode b_J_bitCount 4 = .ok (.ldc_w 265, 3) := by decide +kernel
theorem d_J_bitCount_7 : decode b_J_bitCount 7 = .ok (.iand, 1) := by decide +kernel
theorem d_J_bitCount_8 : decode b_J_bitCount 8 = .ok (.isub, 1) := by decide +kernel
theorem d_J_bitCount_9 : decode b_J_bitCount 9 = .ok (.istore_n 0, 1) := by decide +kernel
theorem d_J_bitCount_10 : decode b_J_bitCount 10 = .ok (.iload_n 0, 1) := by decide +kernel
theorem d_J_bitCount_11 : decode b_J_bitCount 11 = .ok (.ldc_w 266, 3) := by decide +kernel
theorem d_J_bitCount_14 : decode b_J_bitCount 14 = .ok (.iand, 1) := by decide +kernel
theorem d_J_bitCount_15 : decode b_J_bitCount 15 = .ok (.iload_n 0, 1) := by decide +kernel
theorem d_J_bitCount_16 : decode b_J_bitCount 16 = .ok (.iconst 2, 1) := by decide +kernel
theorem d_J_bitCount_17 : decode b_J_bitCount 17 = .ok (.iushr, 1) := by decide +kernel
theorem d_J_bitCount_18 : decode b_J_bitCount 18 = .ok (.ldc_w 266, 3) := by decide +kernel
theorem d_J_bitCount_21 : decode b_J_bitCount 21 = .ok (.iand, 1) := by decide +kernel
theorem d_J_bitCount_22 : decode b_J_bitCount 22 = .ok (.iadd, 1) := by decide +kernel
theorem d_J_bitCount_23 : decode b_J_bitCount 23 = .ok (.istore_n 0, 1) := by decide +kernel
theorem d_J_bitCount_24 : decode b_J_bitCount 24 = .ok (.iload_n 0, 1) := by decide +kernel
theorem d_J_bitCount_25 : decode b_J_bitCount 25 = .ok (.iload_n 0, 1) := by decide +kernel
theorem d_J_bitCount_26 : decode b_J_bitCount 26 = .ok (.iconst 4, 1) := by decide +kernel
theorem d_J_bitCount_27 : decode b_J_bitCount 27 = .ok (.iushr, 1) := by decide +kernel
theorem d_J_bitCount_28 : decode b_J_bitCount 28 = .ok (.iadd, 1) := by decide +kernel
theorem d_J_bitCount_29 : decode b_J_bitCount 29 = .ok (.ldc_w 267, 3) := by decide +kernel
theorem d_J_bitCount_32 : decode b_J_bitCount 32 = .ok (.iand, 1) := by decide +kernel
theorem d_J_bitCount_33 : decode b_J_bitCount 33 = .ok (.istore_n 0, 1) := by decide +kernel
theorem d_J_bitCount_34 : decode b_J_bitCount 34 = .ok (.iload_n 0, 1) := by decide +kernel
theorem d_J_bitCount_35 : decode b_J_bitCount 35 = .ok (.iload_n 0, 1) := by decide +kernel
theorem d_J_bitCount_36 : decode b_J_bitCount 36 = .ok (.bipush 8, 2) := by decide +kernel
theorem d_J_bitCount_38 : decode b_J_bitCount 38 = .ok (.iushr, 1) := by decide +kernel
theorem d_J_bitCount_39 : decode b_J_bitCount 39 = .ok (.iadd, 1) := by decide +kernel
theorem d_J_bitCount_40 : decode b_J_bitCount 40 = .ok (.istore_n 0, 1) := by decide +kernel
theorem d_J_bitCount_41 : decode b_J_bitCount 41 = .ok (.iload_n 0, 1) := by decide +kernel
theorem d_J_bitCount_42 : decode b_J_bitCount 42 = .ok (.iload_n 0, 1) := by decide +kernel
theorem d_J_bitCount_43 : decode b_J_bitCount 43 = .ok (.bipush 16, 2) := by decide +kernel
theorem d_J_bitCount_45 : decode b_J_bitCount 45 = .ok (.iushr, 1) := by decide +kernel
theorem d_J_bitCount_46 : decode b_J_bitCount 46 = .ok (.iadd, 1) := by decide +kernel
theorem d_J_bitCount_47 : decode b_J_bitCount 47 = .ok (.istore_n 0, 1) := by decide +kernel
theorem d_J_bitCount_48 : decode b_J_bitCount 48 = .ok (.iload_n 0, 1) := by decide +kernel
theorem d_J_bitCount_49 : decode b_J_bitCount 49 = .ok (.bipush 63, 2) := by decide +kernel
theorem d_J_bitCount_51 : decode b_J_bitCount 51 = .ok (.iand, 1) := by decide +kernel
theorem d_J_bitCount_52 : decode b_J_bitCount 52 = .ok (.ireturn, 1) := by decide +kernel
