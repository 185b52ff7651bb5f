/-! decode rows -/
theorem d_A_init_0 : decode b_A_init 0 = .ok (.aload_n 0, 1) := by decide +kernel
theorem d_A_init_1 : decode b_A_init 1 = .ok (.invokespecial 1, 3) := by decide +kernel
theorem d_A_init_4 : decode b_A_init 4 = .ok (.aload_n 0, 1) := by decide +kernel
theorem d_A_init_5 : decode b_A_init 5 = .ok (.iload_n 1, 1) := by decide +kernel
theorem d_A_init_6 : decode b_A_init 6 = .ok (.iconst 2, 1) := by decide +kernel
theorem d_A_init_7 : decode b_A_init 7 = .ok (.if_icmp .lt 9, 3) := by decide +kernel
theorem d_A_init_10 : decode b_A_init 10 = .ok (.iload_n 1, 1) := by decide +kernel
theorem d_A_init_11 : decode b_A_init 11 = .ok (.bipush 6, 2) := by decide +kernel
theorem d_A_init_13 : decode b_A_init 13 = .ok (.if_icmp .le 8, 3) := by decide +kernel
theorem d_A_init_16 : decode b_A_init 16 = .ok (.bipush 6, 2) := by decide +kernel
theorem d_A_init_18 : decode b_A_init 18 = .ok (.goto 4, 3) := by decide +kernel
theorem d_A_init_21 : decode b_A_init 21 = .ok (.iload_n 1, 1) := by decide +kernel
theorem d_A_init_22 : decode b_A_init 22 = .ok (.putfield 9, 3) := by decide +kernel
theorem d_A_init_25 : decode b_A_init 25 = .ok (.aload_n 0, 1) := by decide +kernel
theorem d_A_init_26 : decode b_A_init 26 = .ok (.new 13, 3) := by decide +kernel
theorem d_A_init_29 : decode b_A_init 29 = .ok (.dup, 1) := by decide +kernel
theorem d_A_init_30 : decode b_A_init 30 = .ok (.aload_n 0, 1) := by decide +kernel
theorem d_A_init_31 : decode b_A_init 31 = .ok (.getfield 9, 3) := by decide +kernel
theorem d_A_init_34 : decode b_A_init 34 = .ok (.invokespecial 15, 3) := by decide +kernel
theorem d_A_init_37 : decode b_A_init 37 = .ok (.putfield 18, 3) := by decide +kernel
theorem d_A_init_40 : decode b_A_init 40 = .ok (.aload_n 0, 1) := by decide +kernel
theorem d_A_init_41 : decode b_A_init 41 = .ok (.aload_n 0, 1) := by decide +kernel
theorem d_A_init_42 : decode b_A_init 42 = .ok (.getfield 18, 3) := by decide +kernel
theorem d_A_init_45 : decode b_A_init 45 = .ok (.getfield 22, 3) := by decide +kernel
theorem d_A_init_48 : decode b_A_init 48 = .ok (.putfield 26, 3) := by decide +kernel
theorem d_A_init_51 : decode b_A_init 51 = .ok (.aload_n 0, 1) := by decide +kernel
theorem d_A_init_52 : decode b_A_init 52 = .ok (.iconst (-1), 1) := by decide +kernel
theorem d_A_init_53 : decode b_A_init 53 = .ok (.putfield 29, 3) := by decide +kernel
theorem d_A_init_56 : decode b_A_init 56 = .ok (.return_, 1) := by decide +kernel
theorem d_A_arrow_0 : decode b_A_arrow 0 = .ok (.aload_n 0, 1) := by decide +kernel
theorem d_A_arrow_1 : decode b_A_arrow 1 = .ok (.iload_n 1, 1) := by decide +kernel
theorem d_A_arrow_2 : decode b_A_arrow 2 = .ok (.iload_n 2, 1) := by decide +kernel
theorem d_A_arrow_3 : decode b_A_arrow 3 = .ok (.invokevirtual 32, 3) := by decide +kernel
theorem d_A_arrow_6 : decode b_A_arrow 6 = .ok (.ifCond .eq 27, 3) := by decide +kernel
theorem d_A_arrow_9 : decode b_A_arrow 9 = .ok (.aload_n 0, 1) := by decide +kernel
theorem d_A_arrow_10 : decode b_A_arrow 10 = .ok (.getfield 26, 3) := by decide +kernel
theorem d_A_arrow_13 : decode b_A_arrow 13 = .ok (.iload_n 1, 1) := by decide +kernel
theorem d_A_arrow_14 : decode b_A_arrow 14 = .ok (.iload_n 2, 1) := by decide +kernel
theorem d_A_arrow_15 : decode b_A_arrow 15 = .ok (.invokevirtual 36, 3) := by decide +kernel
theorem d_A_arrow_18 : decode b_A_arrow 18 = .ok (.ifCond .ne 15, 3) := by decide +kernel
theorem d_A_arrow_21 : decode b_A_arrow 21 = .ok (.aload_n 0, 1) := by decide +kernel
theorem d_A_arrow_22 : decode b_A_arrow 22 = .ok (.getfield 26, 3) := by decide +kernel
theorem d_A_arrow_25 : decode b_A_arrow 25 = .ok (.invokevirtual 41, 3) := by decide +kernel
theorem d_A_arrow_28 : decode b_A_arrow 28 = .ok (.bipush 9, 2) := by decide +kernel
theorem d_A_arrow_30 : decode b_A_arrow 30 = .ok (.if_icmp .lt 5, 3) := by decide +kernel
theorem d_A_arrow_33 : decode b_A_arrow 33 = .ok (.iconst 0, 1) := by decide +kernel
theorem d_A_arrow_34 : decode b_A_arrow 34 = .ok (.ireturn, 1) := by decide +kernel
theorem d_A_arrow_35 : decode b_A_arrow 35 = .ok (.aload_n 0, 1) := by decide +kernel
theorem d_A_arrow_36 : decode b_A_arrow 36 = .ok (.getfield 26, 3) := by decide +kernel
theorem d_A_arrow_39 : decode b_A_arrow 39 = .ok (.iload_n 2, 1) := by decide +kernel
theorem d_A_arrow_40 : decode b_A_arrow 40 = .ok (.invokevirtual 45, 3) := by decide +kernel
theorem d_A_arrow_43 : decode b_A_arrow 43 = .ok (.iload_n 1, 1) := by decide +kernel
theorem d_A_arrow_44 : decode b_A_arrow 44 = .ok (.invokestatic 49, 3) := by decide +kernel
theorem d_A_arrow_47 : decode b_A_arrow 47 = .ok (.ifCond .eq 5, 3) := by decide +kernel
theorem d_A_arrow_50 : decode b_A_arrow 50 = .ok (.iconst 0, 1) := by decide +kernel
theorem d_A_arrow_51 : decode b_A_arrow 51 = .ok (.ireturn, 1) := by decide +kernel
theorem d_A_arrow_52 : decode b_A_arrow 52 = .ok (.aload_n 0, 1) := by decide +kernel
theorem d_A_arrow_53 : decode b_A_arrow 53 = .ok (.getfield 26, 3) := by decide +kernel
theorem d_A_arrow_56 : decode b_A_arrow 56 = .ok (.iload_n 1, 1) := by decide +kernel
theorem d_A_arrow_57 : decode b_A_arrow 57 = .ok (.iload_n 2, 1) := by decide +kernel
theorem d_A_arrow_58 : decode b_A_arrow 58 = .ok (.invokevirtual 52, 3) := by decide +kernel
theorem d_A_arrow_61 : decode b_A_arrow 61 = .ok (.aload_n 0, 1) := by decide +kernel
theorem d_A_arrow_62 : decode b_A_arrow 62 = .ok (.invokevirtual 56, 3) := by decide +kernel
theorem d_A_arrow_65 : decode b_A_arrow 65 = .ok (.iconst 1, 1) := by decide +kernel
theorem d_A_arrow_66 : decode b_A_arrow 66 = .ok (.ireturn, 1) := by decide +kernel
theorem d_A_isPair_0 : decode b_A_isPair 0 = .ok (.aload_n 0, 1) := by decide +kernel
theorem d_A_isPair_1 : decode b_A_isPair 1 = .ok (.iload_n 1, 1) := by decide +kernel
theorem d_A_isPair_2 : decode b_A_isPair 2 = .ok (.invokevirtual 65, 3) := by decide +kernel
theorem d_A_isPair_5 : decode b_A_isPair 5 = .ok (.ifCond .eq 20, 3) := by decide +kernel
theorem d_A_isPair_8 : decode b_A_isPair 8 = .ok (.aload_n 0, 1) := by decide +kernel
theorem d_A_isPair_9 : decode b_A_isPair 9 = .ok (.iload_n 2, 1) := by decide +kernel
theorem d_A_isPair_10 : decode b_A_isPair 10 = .ok (.invokevirtual 65, 3) := by decide +kernel
theorem d_A_isPair_13 : decode b_A_isPair 13 = .ok (.ifCond .eq 12, 3) := by decide +kernel
theorem d_A_isPair_16 : decode b_A_isPair 16 = .ok (.iload_n 1, 1) := by decide +kernel
theorem d_A_isPair_17 : decode b_A_isPair 17 = .ok (.iload_n 2, 1) := by decide +kernel
theorem d_A_isPair_18 : decode b_A_isPair 18 = .ok (.if_icmp .eq 7, 3) := by decide +kernel
theorem d_A_isPair_21 : decode b_A_isPair 21 = .ok (.iconst 1, 1) := by decide +kernel
theorem d_A_isPair_22 : decode b_A_isPair 22 = .ok (.goto 4, 3) := by decide +kernel
theorem d_A_isPair_25 : decode b_A_isPair 25 = .ok (.iconst 0, 1) := by decide +kernel
theorem d_A_isPair_26 : decode b_A_isPair 26 = .ok (.ireturn, 1) := by decide +kernel
theorem d_A_isNode_0 : decode b_A_isNode 0 = .ok (.iload_n 1, 1) := by decide +kernel
theorem d_A_isNode_1 : decode b_A_isNode 1 = .ok (.ifCond .lt 15, 3) := by decide +kernel
theorem d_A_isNode_4 : decode b_A_isNode 4 = .ok (.iload_n 1, 1) := by decide +kernel
theorem d_A_isNode_5 : decode b_A_isNode 5 = .ok (.aload_n 0, 1) := by decide +kernel
theorem d_A_isNode_6 : decode b_A_isNode 6 = .ok (.getfield 9, 3) := by decide +kernel
theorem d_A_isNode_9 : decode b_A_isNode 9 = .ok (.if_icmp .ge 7, 3) := by decide +kernel
theorem d_A_isNode_12 : decode b_A_isNode 12 = .ok (.iconst 1, 1) := by decide +kernel
theorem d_A_isNode_13 : decode b_A_isNode 13 = .ok (.goto 4, 3) := by decide +kernel
theorem d_A_isNode_16 : decode b_A_isNode 16 = .ok (.iconst 0, 1) := by decide +kernel
theorem d_A_isNode_17 : decode b_A_isNode 17 = .ok (.ireturn, 1) := by decide +kernel
theorem d_A_holds_0 : decode b_A_holds 0 = .ok (.iload_n 0, 1) := by decide +kernel
theorem d_A_holds_1 : decode b_A_holds 1 = .ok (.iload_n 1, 1) := by decide +kernel
theorem d_A_holds_2 : decode b_A_holds 2 = .ok (.ishr, 1) := by decide +kernel
theorem d_A_holds_3 : decode b_A_holds 3 = .ok (.iconst 1, 1) := by decide +kernel
theorem d_A_holds_4 : decode b_A_holds 4 = .ok (.iand, 1) := by decide +kernel
theorem d_A_holds_5 : decode b_A_holds 5 = .ok (.ifCond .eq 7, 3) := by decide +kernel
theorem d_A_holds_8 : decode b_A_holds 8 = .ok (.iconst 1, 1) := by decide +kernel
theorem d_A_holds_9 : decode b_A_holds 9 = .ok (.goto 4, 3) := by decide +kernel
theorem d_A_holds_12 : decode b_A_holds 12 = .ok (.iconst 0, 1) := by decide +kernel
theorem d_A_holds_13 : decode b_A_holds 13 = .ok (.ireturn, 1) := by decide +kernel
theorem d_A_noteChange_0 : decode b_A_noteChange 0 = .ok (.aload_n 0, 1) := by decide +kernel
theorem d_A_noteChange_1 : decode b_A_noteChange 1 = .ok (.iconst (-1), 1) := by decide +kernel
theorem d_A_noteChange_2 : decode b_A_noteChange 2 = .ok (.putfield 29, 3) := by decide +kernel
theorem d_A_noteChange_5 : decode b_A_noteChange 5 = .ok (.aload_n 0, 1) := by decide +kernel
theorem d_A_noteChange_6 : decode b_A_noteChange 6 = .ok (.getfield 18, 3) := by decide +kernel
theorem d_A_noteChange_9 : decode b_A_noteChange 9 = .ok (.invokevirtual 116, 3) := by decide +kernel
theorem d_A_noteChange_12 : decode b_A_noteChange 12 = .ok (.return_, 1) := by decide +kernel
theorem d_A_erase_0 : decode b_A_erase 0 = .ok (.aload_n 0, 1) := by decide +kernel
theorem d_A_erase_1 : decode b_A_erase 1 = .ok (.iload_n 1, 1) := by decide +kernel
theorem d_A_erase_2 : decode b_A_erase 2 = .ok (.iload_n 2, 1) := by decide +kernel
theorem d_A_erase_3 : decode b_A_erase 3 = .ok (.invokevirtual 32, 3) := by decide +kernel
theorem d_A_erase_6 : decode b_A_erase 6 = .ok (.ifCond .eq 15, 3) := by decide +kernel
theorem d_A_erase_9 : decode b_A_erase 9 = .ok (.aload_n 0, 1) := by decide +kernel
theorem d_A_erase_10 : decode b_A_erase 10 = .ok (.getfield 26, 3) := by decide +kernel
theorem d_A_erase_13 : decode b_A_erase 13 = .ok (.iload_n 1, 1) := by decide +kernel
theorem d_A_erase_14 : decode b_A_erase 14 = .ok (.iload_n 2, 1) := by decide +kernel
theorem d_A_erase_15 : decode b_A_erase 15 = .ok (.invokevirtual 59, 3) := by decide +kernel
theorem d_A_erase_18 : decode b_A_erase 18 = .ok (.ifCond .ne 5, 3) := by decide +kernel
theorem d_A_erase_21 : decode b_A_erase 21 = .ok (.iconst 0, 1) := by decide +kernel
theorem d_A_erase_22 : decode b_A_erase 22 = .ok (.ireturn, 1) := by decide +kernel
theorem d_A_erase_23 : decode b_A_erase 23 = .ok (.aload_n 0, 1) := by decide +kernel
theorem d_A_erase_24 : decode b_A_erase 24 = .ok (.getfield 26, 3) := by decide +kernel
theorem d_A_erase_27 : decode b_A_erase 27 = .ok (.iload_n 1, 1) := by decide +kernel
theorem d_A_erase_28 : decode b_A_erase 28 = .ok (.iload_n 2, 1) := by decide +kernel
theorem d_A_erase_29 : decode b_A_erase 29 = .ok (.invokevirtual 62, 3) := by decide +kernel
theorem d_A_erase_32 : decode b_A_erase 32 = .ok (.aload_n 0, 1) := by decide +kernel
theorem d_A_erase_33 : decode b_A_erase 33 = .ok (.invokevirtual 56, 3) := by decide +kernel
theorem d_A_erase_36 : decode b_A_erase 36 = .ok (.iconst 1, 1) := by decide +kernel
theorem d_A_erase_37 : decode b_A_erase 37 = .ok (.ireturn, 1) := by decide +kernel
theorem d_A_turn_0 : decode b_A_turn 0 = .ok (.aload_n 0, 1) := by decide +kernel
theorem d_A_turn_1 : decode b_A_turn 1 = .ok (.iload_n 1, 1) := by decide +kernel
theorem d_A_turn_2 : decode b_A_turn 2 = .ok (.iload_n 2, 1) := by decide +kernel
theorem d_A_turn_3 : decode b_A_turn 3 = .ok (.invokevirtual 32, 3) := by decide +kernel
theorem d_A_turn_6 : decode b_A_turn 6 = .ok (.ifCond .eq 15, 3) := by decide +kernel
theorem d_A_turn_9 : decode b_A_turn 9 = .ok (.aload_n 0, 1) := by decide +kernel
theorem d_A_turn_10 : decode b_A_turn 10 = .ok (.getfield 26, 3) := by decide +kernel
theorem d_A_turn_13 : decode b_A_turn 13 = .ok (.iload_n 1, 1) := by decide +kernel
theorem d_A_turn_14 : decode b_A_turn 14 = .ok (.iload_n 2, 1) := by decide +kernel
theorem d_A_turn_15 : decode b_A_turn 15 = .ok (.invokevirtual 59, 3) := by decide +kernel
theorem d_A_turn_18 : decode b_A_turn 18 = .ok (.ifCond .ne 5, 3) := by decide +kernel
theorem d_A_turn_21 : decode b_A_turn 21 = .ok (.iconst 0, 1) := by decide +kernel
theorem d_A_turn_22 : decode b_A_turn 22 = .ok (.ireturn, 1) := by decide +kernel
theorem d_A_turn_23 : decode b_A_turn 23 = .ok (.aload_n 0, 1) := by decide +kernel
theorem d_A_turn_24 : decode b_A_turn 24 = .ok (.getfield 26, 3) := by decide +kernel
theorem d_A_turn_27 : decode b_A_turn 27 = .ok (.iload_n 1, 1) := by decide +kernel
theorem d_A_turn_28 : decode b_A_turn 28 = .ok (.iload_n 2, 1) := by decide +kernel
theorem d_A_turn_29 : decode b_A_turn 29 = .ok (.invokevirtual 62, 3) := by decide +kernel
theorem d_A_turn_32 : decode b_A_turn 32 = .ok (.aload_n 0, 1) := by decide +kernel
theorem d_A_turn_33 : decode b_A_turn 33 = .ok (.getfield 26, 3) := by decide +kernel
theorem d_A_turn_36 : decode b_A_turn 36 = .ok (.iload_n 1, 1) := by decide +kernel
theorem d_A_turn_37 : decode b_A_turn 37 = .ok (.invokevirtual 45, 3) := by decide +kernel
theorem d_A_turn_40 : decode b_A_turn 40 = .ok (.iload_n 2, 1) := by decide +kernel
theorem d_A_turn_41 : decode b_A_turn 41 = .ok (.invokestatic 49, 3) := by decide +kernel
theorem d_A_turn_44 : decode b_A_turn 44 = .ok (.ifCond .eq 14, 3) := by decide +kernel
theorem d_A_turn_47 : decode b_A_turn 47 = .ok (.aload_n 0, 1) := by decide +kernel
theorem d_A_turn_48 : decode b_A_turn 48 = .ok (.getfield 26, 3) := by decide +kernel
theorem d_A_turn_51 : decode b_A_turn 51 = .ok (.iload_n 1, 1) := by decide +kernel
theorem d_A_turn_52 : decode b_A_turn 52 = .ok (.iload_n 2, 1) := by decide +kernel
theorem d_A_turn_53 : decode b_A_turn 53 = .ok (.invokevirtual 52, 3) := by decide +kernel
theorem d_A_turn_56 : decode b_A_turn 56 = .ok (.iconst 0, 1) := by decide +kernel
theorem d_A_turn_57 : decode b_A_turn 57 = .ok (.ireturn, 1) := by decide +kernel
theorem d_A_turn_58 : decode b_A_turn 58 = .ok (.aload_n 0, 1) := by decide +kernel
theorem d_A_turn_59 : decode b_A_turn 59 = .ok (.getfield 26, 3) := by decide +kernel
theorem d_A_turn_62 : decode b_A_turn 62 = .ok (.iload_n 2, 1) := by decide +kernel
theorem d_A_turn_63 : decode b_A_turn 63 = .ok (.iload_n 1, 1) := by decide +kernel
theorem d_A_turn_64 : decode b_A_turn 64 = .ok (.invokevirtual 52, 3) := by decide +kernel
theorem d_A_turn_67 : decode b_A_turn 67 = .ok (.aload_n 0, 1) := by decide +kernel
theorem d_A_turn_68 : decode b_A_turn 68 = .ok (.invokevirtual 56, 3) := by decide +kernel
theorem d_A_turn_71 : decode b_A_turn 71 = .ok (.iconst 1, 1) := by decide +kernel
theorem d_A_turn_72 : decode b_A_turn 72 = .ok (.ireturn, 1) := by decide +kernel
theorem d_A_drawn_0 : decode b_A_drawn 0 = .ok (.aload_n 0, 1) := by decide +kernel
theorem d_A_drawn_1 : decode b_A_drawn 1 = .ok (.iload_n 1, 1) := by decide +kernel
theorem d_A_drawn_2 : decode b_A_drawn 2 = .ok (.iload_n 2, 1) := by decide +kernel
theorem d_A_drawn_3 : decode b_A_drawn 3 = .ok (.invokevirtual 32, 3) := by decide +kernel
theorem d_A_drawn_6 : decode b_A_drawn 6 = .ok (.ifCond .eq 19, 3) := by decide +kernel
theorem d_A_drawn_9 : decode b_A_drawn 9 = .ok (.aload_n 0, 1) := by decide +kernel
theorem d_A_drawn_10 : decode b_A_drawn 10 = .ok (.getfield 26, 3) := by decide +kernel
theorem d_A_drawn_13 : decode b_A_drawn 13 = .ok (.iload_n 1, 1) := by decide +kernel
theorem d_A_drawn_14 : decode b_A_drawn 14 = .ok (.iload_n 2, 1) := by decide +kernel
theorem d_A_drawn_15 : decode b_A_drawn 15 = .ok (.invokevirtual 59, 3) := by decide +kernel
theorem d_A_drawn_18 : decode b_A_drawn 18 = .ok (.ifCond .eq 7, 3) := by decide +kernel
theorem d_A_drawn_21 : decode b_A_drawn 21 = .ok (.iconst 1, 1) := by decide +kernel
theorem d_A_drawn_22 : decode b_A_drawn 22 = .ok (.goto 4, 3) := by decide +kernel
theorem d_A_drawn_25 : decode b_A_drawn 25 = .ok (.iconst 0, 1) := by decide +kernel
theorem d_A_drawn_26 : decode b_A_drawn 26 = .ok (.ireturn, 1) := by decide +kernel
theorem d_A_parents_0 : decode b_A_parents 0 = .ok (.aload_n 0, 1) := by decide +kernel
theorem d_A_parents_1 : decode b_A_parents 1 = .ok (.iload_n 1, 1) := by decide +kernel
theorem d_A_parents_2 : decode b_A_parents 2 = .ok (.invokevirtual 65, 3) := by decide +kernel
theorem d_A_parents_5 : decode b_A_parents 5 = .ok (.ifCond .eq 15, 3) := by decide +kernel
theorem d_A_parents_8 : decode b_A_parents 8 = .ok (.aload_n 0, 1) := by decide +kernel
theorem d_A_parents_9 : decode b_A_parents 9 = .ok (.getfield 26, 3) := by decide +kernel
theorem d_A_parents_12 : decode b_A_parents 12 = .ok (.getfield 69, 3) := by decide +kernel
theorem d_A_parents_15 : decode b_A_parents 15 = .ok (.iload_n 1, 1) := by decide +kernel
theorem d_A_parents_16 : decode b_A_parents 16 = .ok (.iaload, 1) := by decide +kernel
theorem d_A_parents_17 : decode b_A_parents 17 = .ok (.goto 4, 3) := by decide +kernel
theorem d_A_parents_20 : decode b_A_parents 20 = .ok (.iconst (-1), 1) := by decide +kernel
theorem d_A_parents_21 : decode b_A_parents 21 = .ok (.ireturn, 1) := by decide +kernel
theorem d_A_reached_0 : decode b_A_reached 0 = .ok (.aload_n 0, 1) := by decide +kernel
theorem d_A_reached_1 : decode b_A_reached 1 = .ok (.iload_n 1, 1) := by decide +kernel
theorem d_A_reached_2 : decode b_A_reached 2 = .ok (.invokevirtual 65, 3) := by decide +kernel
theorem d_A_reached_5 : decode b_A_reached 5 = .ok (.ifCond .eq 14, 3) := by decide +kernel
theorem d_A_reached_8 : decode b_A_reached 8 = .ok (.aload_n 0, 1) := by decide +kernel
theorem d_A_reached_9 : decode b_A_reached 9 = .ok (.getfield 26, 3) := by decide +kernel
theorem d_A_reached_12 : decode b_A_reached 12 = .ok (.iload_n 1, 1) := by decide +kernel
theorem d_A_reached_13 : decode b_A_reached 13 = .ok (.invokevirtual 45, 3) := by decide +kernel
theorem d_A_reached_16 : decode b_A_reached 16 = .ok (.goto 4, 3) := by decide +kernel
theorem d_A_reached_19 : decode b_A_reached 19 = .ok (.iconst (-1), 1) := by decide +kernel
theorem d_A_reached_20 : decode b_A_reached 20 = .ok (.ireturn, 1) := by decide +kernel
theorem d_A_around_0 : decode b_A_around 0 = .ok (.aload_n 0, 1) := by decide +kernel
theorem d_A_around_1 : decode b_A_around 1 = .ok (.iload_n 1, 1) := by decide +kernel
theorem d_A_around_2 : decode b_A_around 2 = .ok (.invokevirtual 65, 3) := by decide +kernel
theorem d_A_around_5 : decode b_A_around 5 = .ok (.ifCond .ne 5, 3) := by decide +kernel
theorem d_A_around_8 : decode b_A_around 8 = .ok (.iconst (-1), 1) := by decide +kernel
theorem d_A_around_9 : decode b_A_around 9 = .ok (.ireturn, 1) := by decide +kernel
theorem d_A_around_10 : decode b_A_around 10 = .ok (.aload_n 0, 1) := by decide +kernel
theorem d_A_around_11 : decode b_A_around 11 = .ok (.getfield 26, 3) := by decide +kernel
theorem d_A_around_14 : decode b_A_around 14 = .ok (.getfield 69, 3) := by decide +kernel
theorem d_A_around_17 : decode b_A_around 17 = .ok (.iload_n 1, 1) := by decide +kernel
theorem d_A_around_18 : decode b_A_around 18 = .ok (.iaload, 1) := by decide +kernel
theorem d_A_around_19 : decode b_A_around 19 = .ok (.aload_n 0, 1) := by decide +kernel
theorem d_A_around_20 : decode b_A_around 20 = .ok (.getfield 26, 3) := by decide +kernel
theorem d_A_around_23 : decode b_A_around 23 = .ok (.getfield 73, 3) := by decide +kernel
theorem d_A_around_26 : decode b_A_around 26 = .ok (.iload_n 1, 1) := by decide +kernel
theorem d_A_around_27 : decode b_A_around 27 = .ok (.iaload, 1) := by decide +kernel
theorem d_A_around_28 : decode b_A_around 28 = .ok (.ior, 1) := by decide +kernel
theorem d_A_around_29 : decode b_A_around 29 = .ok (.istore_n 2, 1) := by decide +kernel
theorem d_A_around_30 : decode b_A_around 30 = .ok (.iconst 0, 1) := by decide +kernel
theorem d_A_around_31 : decode b_A_around 31 = .ok (.istore_n 3, 1) := by decide +kernel
theorem d_A_around_32 : decode b_A_around 32 = .ok (.iload_n 3, 1) := by decide +kernel
theorem d_A_around_33 : decode b_A_around 33 = .ok (.aload_n 0, 1) := by decide +kernel
theorem d_A_around_34 : decode b_A_around 34 = .ok (.getfield 9, 3) := by decide +kernel
theorem d_A_around_37 : decode b_A_around 37 = .ok (.if_icmp .ge 33, 3) := by decide +kernel
theorem d_A_around_40 : decode b_A_around 40 = .ok (.aload_n 0, 1) := by decide +kernel
theorem d_A_around_41 : decode b_A_around 41 = .ok (.getfield 26, 3) := by decide +kernel
theorem d_A_around_44 : decode b_A_around 44 = .ok (.iload_n 1, 1) := by decide +kernel
theorem d_A_around_45 : decode b_A_around 45 = .ok (.iload_n 3, 1) := by decide +kernel
theorem d_A_around_46 : decode b_A_around 46 = .ok (.invokevirtual 59, 3) := by decide +kernel
theorem d_A_around_49 : decode b_A_around 49 = .ok (.ifCond .eq 15, 3) := by decide +kernel
theorem d_A_around_52 : decode b_A_around 52 = .ok (.iload_n 2, 1) := by decide +kernel
theorem d_A_around_53 : decode b_A_around 53 = .ok (.aload_n 0, 1) := by decide +kernel
theorem d_A_around_54 : decode b_A_around 54 = .ok (.getfield 26, 3) := by decide +kernel
theorem d_A_around_57 : decode b_A_around 57 = .ok (.getfield 69, 3) := by decide +kernel
theorem d_A_around_60 : decode b_A_around 60 = .ok (.iload_n 3, 1) := by decide +kernel
theorem d_A_around_61 : decode b_A_around 61 = .ok (.iaload, 1) := by decide +kernel
theorem d_A_around_62 : decode b_A_around 62 = .ok (.ior, 1) := by decide +kernel
theorem d_A_around_63 : decode b_A_around 63 = .ok (.istore_n 2, 1) := by decide +kernel
theorem d_A_around_64 : decode b_A_around 64 = .ok (.iinc 3 1, 3) := by decide +kernel
theorem d_A_around_67 : decode b_A_around 67 = .ok (.goto (-35), 3) := by decide +kernel
theorem d_A_around_70 : decode b_A_around 70 = .ok (.iload_n 2, 1) := by decide +kernel
theorem d_A_around_71 : decode b_A_around 71 = .ok (.iconst 1, 1) := by decide +kernel
theorem d_A_around_72 : decode b_A_around 72 = .ok (.iload_n 1, 1) := by decide +kernel
theorem d_A_around_73 : decode b_A_around 73 = .ok (.ishl, 1) := by decide +kernel
theorem d_A_around_74 : decode b_A_around 74 = .ok (.iconst (-1), 1) := by decide +kernel
theorem d_A_around_75 : decode b_A_around 75 = .ok (.ixor, 1) := by decide +kernel
theorem d_A_around_76 : decode b_A_around 76 = .ok (.iand, 1) := by decide +kernel
theorem d_A_around_77 : decode b_A_around 77 = .ok (.ireturn, 1) := by decide +kernel
theorem d_A_collisions_0 : decode b_A_collisions 0 = .ok (.iconst 0, 1) := by decide +kernel
theorem d_A_collisions_1 : decode b_A_collisions 1 = .ok (.istore_n 1, 1) := by decide +kernel
theorem d_A_collisions_2 : decode b_A_collisions 2 = .ok (.iconst 0, 1) := by decide +kernel
theorem d_A_collisions_3 : decode b_A_collisions 3 = .ok (.istore_n 2, 1) := by decide +kernel
theorem d_A_collisions_4 : decode b_A_collisions 4 = .ok (.iload_n 2, 1) := by decide +kernel
theorem d_A_collisions_5 : decode b_A_collisions 5 = .ok (.aload_n 0, 1) := by decide +kernel
theorem d_A_collisions_6 : decode b_A_collisions 6 = .ok (.getfield 9, 3) := by decide +kernel
theorem d_A_collisions_9 : decode b_A_collisions 9 = .ok (.if_icmp .ge 40, 3) := by decide +kernel
theorem d_A_collisions_12 : decode b_A_collisions 12 = .ok (.iconst 0, 1) := by decide +kernel
theorem d_A_collisions_13 : decode b_A_collisions 13 = .ok (.istore_n 3, 1) := by decide +kernel
theorem d_A_collisions_14 : decode b_A_collisions 14 = .ok (.iload_n 3, 1) := by decide +kernel
theorem d_A_collisions_15 : decode b_A_collisions 15 = .ok (.aload_n 0, 1) := by decide +kernel
theorem d_A_collisions_16 : decode b_A_collisions 16 = .ok (.getfield 9, 3) := by decide +kernel
theorem d_A_collisions_19 : decode b_A_collisions 19 = .ok (.if_icmp .ge 24, 3) := by decide +kernel
theorem d_A_collisions_22 : decode b_A_collisions 22 = .ok (.iload_n 1, 1) := by decide +kernel
theorem d_A_collisions_23 : decode b_A_collisions 23 = .ok (.aload_n 0, 1) := by decide +kernel
theorem d_A_collisions_24 : decode b_A_collisions 24 = .ok (.getfield 26, 3) := by decide +kernel
theorem d_A_collisions_27 : decode b_A_collisions 27 = .ok (.iload_n 3, 1) := by decide +kernel
theorem d_A_collisions_28 : decode b_A_collisions 28 = .ok (.iload_n 2, 1) := by decide +kernel
theorem d_A_collisions_29 : decode b_A_collisions 29 = .ok (.invokevirtual 76, 3) := by decide +kernel
theorem d_A_collisions_32 : decode b_A_collisions 32 = .ok (.invokestatic 80, 3) := by decide +kernel
theorem d_A_collisions_35 : decode b_A_collisions 35 = .ok (.iadd, 1) := by decide +kernel
theorem d_A_collisions_36 : decode b_A_collisions 36 = .ok (.istore_n 1, 1) := by decide +kernel
theorem d_A_collisions_37 : decode b_A_collisions 37 = .ok (.iinc 3 1, 3) := by decide +kernel
theorem d_A_collisions_40 : decode b_A_collisions 40 = .ok (.goto (-26), 3) := by decide +kernel
theorem d_A_collisions_43 : decode b_A_collisions 43 = .ok (.iinc 2 1, 3) := by decide +kernel
theorem d_A_collisions_46 : decode b_A_collisions 46 = .ok (.goto (-42), 3) := by decide +kernel
theorem d_A_collisions_49 : decode b_A_collisions 49 = .ok (.iload_n 1, 1) := by decide +kernel
theorem d_A_collisions_50 : decode b_A_collisions 50 = .ok (.iconst 2, 1) := by decide +kernel
theorem d_A_collisions_51 : decode b_A_collisions 51 = .ok (.idiv, 1) := by decide +kernel
theorem d_A_collisions_52 : decode b_A_collisions 52 = .ok (.ireturn, 1) := by decide +kernel
theorem d_A_covered_0 : decode b_A_covered 0 = .ok (.aload_n 0, 1) := by decide +kernel
theorem d_A_covered_1 : decode b_A_covered 1 = .ok (.iload_n 1, 1) := by decide +kernel
theorem d_A_covered_2 : decode b_A_covered 2 = .ok (.iload_n 2, 1) := by decide +kernel
theorem d_A_covered_3 : decode b_A_covered 3 = .ok (.invokevirtual 85, 3) := by decide +kernel
theorem d_A_covered_6 : decode b_A_covered 6 = .ok (.ifCond .eq 32, 3) := by decide +kernel
theorem d_A_covered_9 : decode b_A_covered 9 = .ok (.aload_n 0, 1) := by decide +kernel
theorem d_A_covered_10 : decode b_A_covered 10 = .ok (.getfield 26, 3) := by decide +kernel
theorem d_A_covered_13 : decode b_A_covered 13 = .ok (.getfield 69, 3) := by decide +kernel
theorem d_A_covered_16 : decode b_A_covered 16 = .ok (.iload_n 2, 1) := by decide +kernel
theorem d_A_covered_17 : decode b_A_covered 17 = .ok (.iaload, 1) := by decide +kernel
theorem d_A_covered_18 : decode b_A_covered 18 = .ok (.aload_n 0, 1) := by decide +kernel
theorem d_A_covered_19 : decode b_A_covered 19 = .ok (.getfield 26, 3) := by decide +kernel
theorem d_A_covered_22 : decode b_A_covered 22 = .ok (.getfield 69, 3) := by decide +kernel
theorem d_A_covered_25 : decode b_A_covered 25 = .ok (.iload_n 1, 1) := by decide +kernel
theorem d_A_covered_26 : decode b_A_covered 26 = .ok (.iaload, 1) := by decide +kernel
theorem d_A_covered_27 : decode b_A_covered 27 = .ok (.iconst 1, 1) := by decide +kernel
theorem d_A_covered_28 : decode b_A_covered 28 = .ok (.iload_n 1, 1) := by decide +kernel
theorem d_A_covered_29 : decode b_A_covered 29 = .ok (.ishl, 1) := by decide +kernel
theorem d_A_covered_30 : decode b_A_covered 30 = .ok (.ior, 1) := by decide +kernel
theorem d_A_covered_31 : decode b_A_covered 31 = .ok (.if_icmp .ne 7, 3) := by decide +kernel
theorem d_A_covered_34 : decode b_A_covered 34 = .ok (.iconst 1, 1) := by decide +kernel
theorem d_A_covered_35 : decode b_A_covered 35 = .ok (.goto 4, 3) := by decide +kernel
theorem d_A_covered_38 : decode b_A_covered 38 = .ok (.iconst 0, 1) := by decide +kernel
theorem d_A_covered_39 : decode b_A_covered 39 = .ok (.ireturn, 1) := by decide +kernel
theorem d_A_separated_0 : decode b_A_separated 0 = .ok (.aload_n 0, 1) := by decide +kernel
theorem d_A_separated_1 : decode b_A_separated 1 = .ok (.iload_n 1, 1) := by decide +kernel
theorem d_A_separated_2 : decode b_A_separated 2 = .ok (.iload_n 2, 1) := by decide +kernel
theorem d_A_separated_3 : decode b_A_separated 3 = .ok (.invokevirtual 32, 3) := by decide +kernel
theorem d_A_separated_6 : decode b_A_separated 6 = .ok (.ifCond .eq 33, 3) := by decide +kernel
theorem d_A_separated_9 : decode b_A_separated 9 = .ok (.iload_n 3, 1) := by decide +kernel
theorem d_A_separated_10 : decode b_A_separated 10 = .ok (.ifCond .lt 29, 3) := by decide +kernel
theorem d_A_separated_13 : decode b_A_separated 13 = .ok (.iload_n 3, 1) := by decide +kernel
theorem d_A_separated_14 : decode b_A_separated 14 = .ok (.iconst 1, 1) := by decide +kernel
theorem d_A_separated_15 : decode b_A_separated 15 = .ok (.aload_n 0, 1) := by decide +kernel
theorem d_A_separated_16 : decode b_A_separated 16 = .ok (.getfield 9, 3) := by decide +kernel
theorem d_A_separated_19 : decode b_A_separated 19 = .ok (.ishl, 1) := by decide +kernel
theorem d_A_separated_20 : decode b_A_separated 20 = .ok (.if_icmp .ge 19, 3) := by decide +kernel
theorem d_A_separated_23 : decode b_A_separated 23 = .ok (.iload_n 3, 1) := by decide +kernel
theorem d_A_separated_24 : decode b_A_separated 24 = .ok (.iload_n 1, 1) := by decide +kernel
theorem d_A_separated_25 : decode b_A_separated 25 = .ok (.invokestatic 49, 3) := by decide +kernel
theorem d_A_separated_28 : decode b_A_separated 28 = .ok (.ifCond .ne 11, 3) := by decide +kernel
theorem d_A_separated_31 : decode b_A_separated 31 = .ok (.iload_n 3, 1) := by decide +kernel
theorem d_A_separated_32 : decode b_A_separated 32 = .ok (.iload_n 2, 1) := by decide +kernel
theorem d_A_separated_33 : decode b_A_separated 33 = .ok (.invokestatic 49, 3) := by decide +kernel
theorem d_A_separated_36 : decode b_A_separated 36 = .ok (.ifCond .eq 5, 3) := by decide +kernel
theorem d_A_separated_39 : decode b_A_separated 39 = .ok (.iconst 0, 1) := by decide +kernel
theorem d_A_separated_40 : decode b_A_separated 40 = .ok (.ireturn, 1) := by decide +kernel
theorem d_A_separated_41 : decode b_A_separated 41 = .ok (.aload_n 0, 1) := by decide +kernel
theorem d_A_separated_42 : decode b_A_separated 42 = .ok (.getfield 26, 3) := by decide +kernel
theorem d_A_separated_45 : decode b_A_separated 45 = .ok (.iload_n 1, 1) := by decide +kernel
theorem d_A_separated_46 : decode b_A_separated 46 = .ok (.iload_n 3, 1) := by decide +kernel
theorem d_A_separated_47 : decode b_A_separated 47 = .ok (.invokevirtual 87, 3) := by decide +kernel
theorem d_A_separated_50 : decode b_A_separated 50 = .ok (.iload_n 2, 1) := by decide +kernel
theorem d_A_separated_51 : decode b_A_separated 51 = .ok (.invokestatic 49, 3) := by decide +kernel
theorem d_A_separated_54 : decode b_A_separated 54 = .ok (.ifCond .ne 7, 3) := by decide +kernel
theorem d_A_separated_57 : decode b_A_separated 57 = .ok (.iconst 1, 1) := by decide +kernel
theorem d_A_separated_58 : decode b_A_separated 58 = .ok (.goto 4, 3) := by decide +kernel
theorem d_A_separated_61 : decode b_A_separated 61 = .ok (.iconst 0, 1) := by decide +kernel
theorem d_A_separated_62 : decode b_A_separated 62 = .ok (.ireturn, 1) := by decide +kernel
theorem d_A_separator_0 : decode b_A_separator 0 = .ok (.iconst (-1), 1) := by decide +kernel
theorem d_A_separator_1 : decode b_A_separator 1 = .ok (.istore_n 3, 1) := by decide +kernel
theorem d_A_separator_2 : decode b_A_separator 2 = .ok (.aload_n 0, 1) := by decide +kernel
theorem d_A_separator_3 : decode b_A_separator 3 = .ok (.getfield 9, 3) := by decide +kernel
theorem d_A_separator_6 : decode b_A_separator 6 = .ok (.istore 4, 2) := by decide +kernel
theorem d_A_separator_8 : decode b_A_separator 8 = .ok (.iconst 0, 1) := by decide +kernel
theorem d_A_separator_9 : decode b_A_separator 9 = .ok (.istore 5, 2) := by decide +kernel
theorem d_A_separator_11 : decode b_A_separator 11 = .ok (.iload 5, 2) := by decide +kernel
theorem d_A_separator_13 : decode b_A_separator 13 = .ok (.iconst 1, 1) := by decide +kernel
theorem d_A_separator_14 : decode b_A_separator 14 = .ok (.aload_n 0, 1) := by decide +kernel
theorem d_A_separator_15 : decode b_A_separator 15 = .ok (.getfield 9, 3) := by decide +kernel
theorem d_A_separator_18 : decode b_A_separator 18 = .ok (.ishl, 1) := by decide +kernel
theorem d_A_separator_19 : decode b_A_separator 19 = .ok (.if_icmp .ge 41, 3) := by decide +kernel
theorem d_A_separator_22 : decode b_A_separator 22 = .ok (.iload 5, 2) := by decide +kernel
theorem d_A_separator_24 : decode b_A_separator 24 = .ok (.invokestatic 80, 3) := by decide +kernel
theorem d_A_separator_27 : decode b_A_separator 27 = .ok (.istore 6, 2) := by decide +kernel
theorem d_A_separator_29 : decode b_A_separator 29 = .ok (.iload 6, 2) := by decide +kernel
theorem d_A_separator_31 : decode b_A_separator 31 = .ok (.iload 4, 2) := by decide +kernel
theorem d_A_separator_33 : decode b_A_separator 33 = .ok (.if_icmp .ge 21, 3) := by decide +kernel
theorem d_A_separator_36 : decode b_A_separator 36 = .ok (.aload_n 0, 1) := by decide +kernel
theorem d_A_separator_37 : decode b_A_separator 37 = .ok (.iload_n 1, 1) := by decide +kernel
theorem d_A_separator_38 : decode b_A_separator 38 = .ok (.iload_n 2, 1) := by decide +kernel
theorem d_A_separator_39 : decode b_A_separator 39 = .ok (.iload 5, 2) := by decide +kernel
theorem d_A_separator_41 : decode b_A_separator 41 = .ok (.invokevirtual 90, 3) := by decide +kernel
theorem d_A_separator_44 : decode b_A_separator 44 = .ok (.ifCond .eq 10, 3) := by decide +kernel
theorem d_A_separator_47 : decode b_A_separator 47 = .ok (.iload 5, 2) := by decide +kernel
theorem d_A_separator_49 : decode b_A_separator 49 = .ok (.istore_n 3, 1) := by decide +kernel
theorem d_A_separator_50 : decode b_A_separator 50 = .ok (.iload 6, 2) := by decide +kernel
theorem d_A_separator_52 : decode b_A_separator 52 = .ok (.istore 4, 2) := by decide +kernel
theorem d_A_separator_54 : decode b_A_separator 54 = .ok (.iinc 5 1, 3) := by decide +kernel
theorem d_A_separator_57 : decode b_A_separator 57 = .ok (.goto (-46), 3) := by decide +kernel
theorem d_A_separator_60 : decode b_A_separator 60 = .ok (.iload_n 3, 1) := by decide +kernel
theorem d_A_separator_61 : decode b_A_separator 61 = .ok (.ireturn, 1) := by decide +kernel
theorem d_A_separations_0 : decode b_A_separations 0 = .ok (.aload_n 0, 1) := by decide +kernel
theorem d_A_separations_1 : decode b_A_separations 1 = .ok (.getfield 29, 3) := by decide +kernel
theorem d_A_separations_4 : decode b_A_separations 4 = .ok (.iconst (-1), 1) := by decide +kernel
theorem d_A_separations_5 : decode b_A_separations 5 = .ok (.if_icmp .ne 36, 3) := by decide +kernel
theorem d_A_separations_8 : decode b_A_separations 8 = .ok (.iconst 0, 1) := by decide +kernel
theorem d_A_separations_9 : decode b_A_separations 9 = .ok (.istore_n 1, 1) := by decide +kernel
theorem d_A_separations_10 : decode b_A_separations 10 = .ok (.iconst 0, 1) := by decide +kernel
theorem d_A_separations_11 : decode b_A_separations 11 = .ok (.istore_n 2, 1) := by decide +kernel
theorem d_A_separations_12 : decode b_A_separations 12 = .ok (.iload_n 2, 1) := by decide +kernel
theorem d_A_separations_13 : decode b_A_separations 13 = .ok (.iconst 1, 1) := by decide +kernel
theorem d_A_separations_14 : decode b_A_separations 14 = .ok (.aload_n 0, 1) := by decide +kernel
theorem d_A_separations_15 : decode b_A_separations 15 = .ok (.getfield 9, 3) := by decide +kernel
theorem d_A_separations_18 : decode b_A_separations 18 = .ok (.ishl, 1) := by decide +kernel
theorem d_A_separations_19 : decode b_A_separations 19 = .ok (.if_icmp .ge 17, 3) := by decide +kernel
theorem d_A_separations_22 : decode b_A_separations 22 = .ok (.iload_n 1, 1) := by decide +kernel
theorem d_A_separations_23 : decode b_A_separations 23 = .ok (.aload_n 0, 1) := by decide +kernel
theorem d_A_separations_24 : decode b_A_separations 24 = .ok (.iload_n 2, 1) := by decide +kernel
theorem d_A_separations_25 : decode b_A_separations 25 = .ok (.invokevirtual 94, 3) := by decide +kernel
theorem d_A_separations_28 : decode b_A_separations 28 = .ok (.iadd, 1) := by decide +kernel
theorem d_A_separations_29 : decode b_A_separations 29 = .ok (.istore_n 1, 1) := by decide +kernel
theorem d_A_separations_30 : decode b_A_separations 30 = .ok (.iinc 2 1, 3) := by decide +kernel
theorem d_A_separations_33 : decode b_A_separations 33 = .ok (.goto (-21), 3) := by decide +kernel
theorem d_A_separations_36 : decode b_A_separations 36 = .ok (.aload_n 0, 1) := by decide +kernel
theorem d_A_separations_37 : decode b_A_separations 37 = .ok (.iload_n 1, 1) := by decide +kernel
theorem d_A_separations_38 : decode b_A_separations 38 = .ok (.putfield 29, 3) := by decide +kernel
theorem d_A_separations_41 : decode b_A_separations 41 = .ok (.aload_n 0, 1) := by decide +kernel
theorem d_A_separations_42 : decode b_A_separations 42 = .ok (.getfield 29, 3) := by decide +kernel
theorem d_A_separations_45 : decode b_A_separations 45 = .ok (.ireturn, 1) := by decide +kernel
theorem d_A_separationsBy_0 : decode b_A_separationsBy 0 = .ok (.iconst 0, 1) := by decide +kernel
theorem d_A_separationsBy_1 : decode b_A_separationsBy 1 = .ok (.istore_n 2, 1) := by decide +kernel
theorem d_A_separationsBy_2 : decode b_A_separationsBy 2 = .ok (.iconst 0, 1) := by decide +kernel
theorem d_A_separationsBy_3 : decode b_A_separationsBy 3 = .ok (.istore_n 3, 1) := by decide +kernel
theorem d_A_separationsBy_4 : decode b_A_separationsBy 4 = .ok (.iload_n 3, 1) := by decide +kernel
theorem d_A_separationsBy_5 : decode b_A_separationsBy 5 = .ok (.aload_n 0, 1) := by decide +kernel
theorem d_A_separationsBy_6 : decode b_A_separationsBy 6 = .ok (.getfield 9, 3) := by decide +kernel
theorem d_A_separationsBy_9 : decode b_A_separationsBy 9 = .ok (.if_icmp .ge 53, 3) := by decide +kernel
theorem d_A_separationsBy_12 : decode b_A_separationsBy 12 = .ok (.iload_n 1, 1) := by decide +kernel
theorem d_A_separationsBy_13 : decode b_A_separationsBy 13 = .ok (.iload_n 3, 1) := by decide +kernel
theorem d_A_separationsBy_14 : decode b_A_separationsBy 14 = .ok (.invokestatic 49, 3) := by decide +kernel
theorem d_A_separationsBy_17 : decode b_A_separationsBy 17 = .ok (.ifCond .ne 39, 3) := by decide +kernel
theorem d_A_separationsBy_20 : decode b_A_separationsBy 20 = .ok (.iconst 1, 1) := by decide +kernel
theorem d_A_separationsBy_21 : decode b_A_separationsBy 21 = .ok (.aload_n 0, 1) := by decide +kernel
theorem d_A_separationsBy_22 : decode b_A_separationsBy 22 = .ok (.getfield 9, 3) := by decide +kernel
theorem d_A_separationsBy_25 : decode b_A_separationsBy 25 = .ok (.ishl, 1) := by decide +kernel
theorem d_A_separationsBy_26 : decode b_A_separationsBy 26 = .ok (.iconst 2, 1) := by decide +kernel
theorem d_A_separationsBy_27 : decode b_A_separationsBy 27 = .ok (.iload_n 3, 1) := by decide +kernel
theorem d_A_separationsBy_28 : decode b_A_separationsBy 28 = .ok (.ishl, 1) := by decide +kernel
theorem d_A_separationsBy_29 : decode b_A_separationsBy 29 = .ok (.isub, 1) := by decide +kernel
theorem d_A_separationsBy_30 : decode b_A_separationsBy 30 = .ok (.istore 4, 2) := by decide +kernel
theorem d_A_separationsBy_32 : decode b_A_separationsBy 32 = .ok (.iload_n 2, 1) := by decide +kernel
theorem d_A_separationsBy_33 : decode b_A_separationsBy 33 = .ok (.iload 4, 2) := by decide +kernel
theorem d_A_separationsBy_35 : decode b_A_separationsBy 35 = .ok (.iload_n 1, 1) := by decide +kernel
theorem d_A_separationsBy_36 : decode b_A_separationsBy 36 = .ok (.iconst (-1), 1) := by decide +kernel
theorem d_A_separationsBy_37 : decode b_A_separationsBy 37 = .ok (.ixor, 1) := by decide +kernel
theorem d_A_separationsBy_38 : decode b_A_separationsBy 38 = .ok (.iand, 1) := by decide +kernel
theorem d_A_separationsBy_39 : decode b_A_separationsBy 39 = .ok (.aload_n 0, 1) := by decide +kernel
theorem d_A_separationsBy_40 : decode b_A_separationsBy 40 = .ok (.getfield 26, 3) := by decide +kernel
theorem d_A_separationsBy_43 : decode b_A_separationsBy 43 = .ok (.iload_n 3, 1) := by decide +kernel
theorem d_A_separationsBy_44 : decode b_A_separationsBy 44 = .ok (.iload_n 1, 1) := by decide +kernel
theorem d_A_separationsBy_45 : decode b_A_separationsBy 45 = .ok (.invokevirtual 87, 3) := by decide +kernel
theorem d_A_separationsBy_48 : decode b_A_separationsBy 48 = .ok (.iconst (-1), 1) := by decide +kernel
theorem d_A_separationsBy_49 : decode b_A_separationsBy 49 = .ok (.ixor, 1) := by decide +kernel
theorem d_A_separationsBy_50 : decode b_A_separationsBy 50 = .ok (.iand, 1) := by decide +kernel
theorem d_A_separationsBy_51 : decode b_A_separationsBy 51 = .ok (.invokestatic 80, 3) := by decide +kernel
theorem d_A_separationsBy_54 : decode b_A_separationsBy 54 = .ok (.iadd, 1) := by decide +kernel
theorem d_A_separationsBy_55 : decode b_A_separationsBy 55 = .ok (.istore_n 2, 1) := by decide +kernel
theorem d_A_separationsBy_56 : decode b_A_separationsBy 56 = .ok (.iinc 3 1, 3) := by decide +kernel
theorem d_A_separationsBy_59 : decode b_A_separationsBy 59 = .ok (.goto (-55), 3) := by decide +kernel
theorem d_A_separationsBy_62 : decode b_A_separationsBy 62 = .ok (.iload_n 2, 1) := by decide +kernel
theorem d_A_separationsBy_63 : decode b_A_separationsBy 63 = .ok (.ireturn, 1) := by decide +kernel
theorem d_A_edge_0 : decode b_A_edge 0 = .ok (.aload_n 0, 1) := by decide +kernel
theorem d_A_edge_1 : decode b_A_edge 1 = .ok (.iload_n 1, 1) := by decide +kernel
theorem d_A_edge_2 : decode b_A_edge 2 = .ok (.iload_n 2, 1) := by decide +kernel
theorem d_A_edge_3 : decode b_A_edge 3 = .ok (.invokevirtual 32, 3) := by decide +kernel
theorem d_A_edge_6 : decode b_A_edge 6 = .ok (.ifCond .eq 15, 3) := by decide +kernel
theorem d_A_edge_9 : decode b_A_edge 9 = .ok (.aload_n 0, 1) := by decide +kernel
theorem d_A_edge_10 : decode b_A_edge 10 = .ok (.getfield 26, 3) := by decide +kernel
theorem d_A_edge_13 : decode b_A_edge 13 = .ok (.iload_n 1, 1) := by decide +kernel
theorem d_A_edge_14 : decode b_A_edge 14 = .ok (.iload_n 2, 1) := by decide +kernel
theorem d_A_edge_15 : decode b_A_edge 15 = .ok (.invokevirtual 36, 3) := by decide +kernel
theorem d_A_edge_18 : decode b_A_edge 18 = .ok (.ifCond .ne 5, 3) := by decide +kernel
theorem d_A_edge_21 : decode b_A_edge 21 = .ok (.iconst 0, 1) := by decide +kernel
theorem d_A_edge_22 : decode b_A_edge 22 = .ok (.ireturn, 1) := by decide +kernel
theorem d_A_edge_23 : decode b_A_edge 23 = .ok (.aload_n 0, 1) := by decide +kernel
theorem d_A_edge_24 : decode b_A_edge 24 = .ok (.getfield 18, 3) := by decide +kernel
theorem d_A_edge_27 : decode b_A_edge 27 = .ok (.iload_n 2, 1) := by decide +kernel
theorem d_A_edge_28 : decode b_A_edge 28 = .ok (.iload_n 1, 1) := by decide +kernel
theorem d_A_edge_29 : decode b_A_edge 29 = .ok (.invokevirtual 97, 3) := by decide +kernel
theorem d_A_edge_32 : decode b_A_edge 32 = .ok (.ifCond .ne 5, 3) := by decide +kernel
theorem d_A_edge_35 : decode b_A_edge 35 = .ok (.iconst 1, 1) := by decide +kernel
theorem d_A_edge_36 : decode b_A_edge 36 = .ok (.ireturn, 1) := by decide +kernel
theorem d_A_edge_37 : decode b_A_edge 37 = .ok (.aload_n 0, 1) := by decide +kernel
theorem d_A_edge_38 : decode b_A_edge 38 = .ok (.getfield 18, 3) := by decide +kernel
theorem d_A_edge_41 : decode b_A_edge 41 = .ok (.iload_n 1, 1) := by decide +kernel
theorem d_A_edge_42 : decode b_A_edge 42 = .ok (.iload_n 2, 1) := by decide +kernel
theorem d_A_edge_43 : decode b_A_edge 43 = .ok (.invokevirtual 97, 3) := by decide +kernel
theorem d_A_edge_46 : decode b_A_edge 46 = .ok (.ifCond .eq 7, 3) := by decide +kernel
theorem d_A_edge_49 : decode b_A_edge 49 = .ok (.iconst 3, 1) := by decide +kernel
theorem d_A_edge_50 : decode b_A_edge 50 = .ok (.goto 4, 3) := by decide +kernel
theorem d_A_edge_53 : decode b_A_edge 53 = .ok (.iconst 2, 1) := by decide +kernel
theorem d_A_edge_54 : decode b_A_edge 54 = .ok (.ireturn, 1) := by decide +kernel
theorem d_A_loose_0 : decode b_A_loose 0 = .ok (.aload_n 0, 1) := by decide +kernel
theorem d_A_loose_1 : decode b_A_loose 1 = .ok (.getfield 18, 3) := by decide +kernel
theorem d_A_loose_4 : decode b_A_loose 4 = .ok (.invokevirtual 100, 3) := by decide +kernel
theorem d_A_loose_7 : decode b_A_loose 7 = .ok (.ireturn, 1) := by decide +kernel
theorem d_A_know_0 : decode b_A_know 0 = .ok (.aload_n 0, 1) := by decide +kernel
theorem d_A_know_1 : decode b_A_know 1 = .ok (.iload_n 1, 1) := by decide +kernel
theorem d_A_know_2 : decode b_A_know 2 = .ok (.iload_n 2, 1) := by decide +kernel
theorem d_A_know_3 : decode b_A_know 3 = .ok (.invokevirtual 32, 3) := by decide +kernel
theorem d_A_know_6 : decode b_A_know 6 = .ok (.ifCond .eq 15, 3) := by decide +kernel
theorem d_A_know_9 : decode b_A_know 9 = .ok (.aload_n 0, 1) := by decide +kernel
theorem d_A_know_10 : decode b_A_know 10 = .ok (.getfield 18, 3) := by decide +kernel
theorem d_A_know_13 : decode b_A_know 13 = .ok (.iload_n 1, 1) := by decide +kernel
theorem d_A_know_14 : decode b_A_know 14 = .ok (.iload_n 2, 1) := by decide +kernel
theorem d_A_know_15 : decode b_A_know 15 = .ok (.invokevirtual 97, 3) := by decide +kernel
theorem d_A_know_18 : decode b_A_know 18 = .ok (.ifCond .ne 5, 3) := by decide +kernel
theorem d_A_know_21 : decode b_A_know 21 = .ok (.iconst 0, 1) := by decide +kernel
theorem d_A_know_22 : decode b_A_know 22 = .ok (.ireturn, 1) := by decide +kernel
theorem d_A_know_23 : decode b_A_know 23 = .ok (.aload_n 0, 1) := by decide +kernel
theorem d_A_know_24 : decode b_A_know 24 = .ok (.getfield 18, 3) := by decide +kernel
theorem d_A_know_27 : decode b_A_know 27 = .ok (.iload_n 1, 1) := by decide +kernel
theorem d_A_know_28 : decode b_A_know 28 = .ok (.iload_n 2, 1) := by decide +kernel
theorem d_A_know_29 : decode b_A_know 29 = .ok (.invokevirtual 103, 3) := by decide +kernel
theorem d_A_know_32 : decode b_A_know 32 = .ok (.iconst 1, 1) := by decide +kernel
theorem d_A_know_33 : decode b_A_know 33 = .ok (.ireturn, 1) := by decide +kernel
theorem d_A_forget_0 : decode b_A_forget 0 = .ok (.aload_n 0, 1) := by decide +kernel
theorem d_A_forget_1 : decode b_A_forget 1 = .ok (.getfield 18, 3) := by decide +kernel
theorem d_A_forget_4 : decode b_A_forget 4 = .ok (.invokevirtual 106, 3) := by decide +kernel
theorem d_A_forget_7 : decode b_A_forget 7 = .ok (.ireturn, 1) := by decide +kernel
theorem d_A_members_0 : decode b_A_members 0 = .ok (.aload_n 0, 1) := by decide +kernel
theorem d_A_members_1 : decode b_A_members 1 = .ok (.getfield 18, 3) := by decide +kernel
theorem d_A_members_4 : decode b_A_members 4 = .ok (.invokevirtual 109, 3) := by decide +kernel
theorem d_A_members_7 : decode b_A_members 7 = .ok (.ireturn, 1) := by decide +kernel
theorem d_A_first_0 : decode b_A_first 0 = .ok (.aload_n 0, 1) := by decide +kernel
theorem d_A_first_1 : decode b_A_first 1 = .ok (.iload_n 1, 1) := by decide +kernel
theorem d_A_first_2 : decode b_A_first 2 = .ok (.iload_n 2, 1) := by decide +kernel
theorem d_A_first_3 : decode b_A_first 3 = .ok (.invokevirtual 32, 3) := by decide +kernel
theorem d_A_first_6 : decode b_A_first 6 = .ok (.ifCond .eq 19, 3) := by decide +kernel
theorem d_A_first_9 : decode b_A_first 9 = .ok (.aload_n 0, 1) := by decide +kernel
theorem d_A_first_10 : decode b_A_first 10 = .ok (.getfield 18, 3) := by decide +kernel
theorem d_A_first_13 : decode b_A_first 13 = .ok (.iload_n 1, 1) := by decide +kernel
theorem d_A_first_14 : decode b_A_first 14 = .ok (.iload_n 2, 1) := by decide +kernel
theorem d_A_first_15 : decode b_A_first 15 = .ok (.invokevirtual 110, 3) := by decide +kernel
theorem d_A_first_18 : decode b_A_first 18 = .ok (.ifCond .eq 7, 3) := by decide +kernel
theorem d_A_first_21 : decode b_A_first 21 = .ok (.iconst 1, 1) := by decide +kernel
theorem d_A_first_22 : decode b_A_first 22 = .ok (.goto 4, 3) := by decide +kernel
theorem d_A_first_25 : decode b_A_first 25 = .ok (.iconst 0, 1) := by decide +kernel
theorem d_A_first_26 : decode b_A_first 26 = .ok (.ireturn, 1) := by decide +kernel
theorem d_A_turned_0 : decode b_A_turned 0 = .ok (.aload_n 0, 1) := by decide +kernel
theorem d_A_turned_1 : decode b_A_turned 1 = .ok (.getfield 18, 3) := by decide +kernel
theorem d_A_turned_4 : decode b_A_turned 4 = .ok (.invokevirtual 113, 3) := by decide +kernel
theorem d_A_turned_7 : decode b_A_turned 7 = .ok (.ireturn, 1) := by decide +kernel
