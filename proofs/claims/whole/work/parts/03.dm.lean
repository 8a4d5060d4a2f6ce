theorem dX5_init_0 : decode cX5_init 0 = .ok (.aload_n 0, 1) := by decide +kernel
theorem dX5_init_1 : decode cX5_init 1 = .ok (.invokespecial 1, 3) := by decide +kernel
theorem dX5_init_4 : decode cX5_init 4 = .ok (.aload_n 0, 1) := by decide +kernel
theorem dX5_init_5 : decode cX5_init 5 = .ok (.bipush 24, 2) := by decide +kernel
theorem dX5_init_7 : decode cX5_init 7 = .ok (.newarray .long, 2) := by decide +kernel
theorem dX5_init_9 : decode cX5_init 9 = .ok (.putfield 7, 3) := by decide +kernel
theorem dX5_init_12 : decode cX5_init 12 = .ok (.aload_n 0, 1) := by decide +kernel
theorem dX5_init_13 : decode cX5_init 13 = .ok (.bipush 24, 2) := by decide +kernel
theorem dX5_init_15 : decode cX5_init 15 = .ok (.newarray .int, 2) := by decide +kernel
theorem dX5_init_17 : decode cX5_init 17 = .ok (.putfield 13, 3) := by decide +kernel
theorem dX5_init_20 : decode cX5_init 20 = .ok (.aload_n 0, 1) := by decide +kernel
theorem dX5_init_21 : decode cX5_init 21 = .ok (.sipush 192, 3) := by decide +kernel
theorem dX5_init_24 : decode cX5_init 24 = .ok (.newarray .long, 2) := by decide +kernel
theorem dX5_init_26 : decode cX5_init 26 = .ok (.putfield 17, 3) := by decide +kernel
theorem dX5_init_29 : decode cX5_init 29 = .ok (.aload_n 0, 1) := by decide +kernel
theorem dX5_init_30 : decode cX5_init 30 = .ok (.bipush 96, 2) := by decide +kernel
theorem dX5_init_32 : decode cX5_init 32 = .ok (.newarray .long, 2) := by decide +kernel
theorem dX5_init_34 : decode cX5_init 34 = .ok (.putfield 20, 3) := by decide +kernel
theorem dX5_init_37 : decode cX5_init 37 = .ok (.aload_n 0, 1) := by decide +kernel
theorem dX5_init_38 : decode cX5_init 38 = .ok (.sipush 576, 3) := by decide +kernel
theorem dX5_init_41 : decode cX5_init 41 = .ok (.newarray .long, 2) := by decide +kernel
theorem dX5_init_43 : decode cX5_init 43 = .ok (.putfield 23, 3) := by decide +kernel
theorem dX5_init_46 : decode cX5_init 46 = .ok (.aload_n 0, 1) := by decide +kernel
theorem dX5_init_47 : decode cX5_init 47 = .ok (.sipush 576, 3) := by decide +kernel
theorem dX5_init_50 : decode cX5_init 50 = .ok (.newarray .boolean, 2) := by decide +kernel
theorem dX5_init_52 : decode cX5_init 52 = .ok (.putfield 26, 3) := by decide +kernel
theorem dX5_init_55 : decode cX5_init 55 = .ok (.aload_n 0, 1) := by decide +kernel
theorem dX5_init_56 : decode cX5_init 56 = .ok (.bipush 8, 2) := by decide +kernel
theorem dX5_init_58 : decode cX5_init 58 = .ok (.newarray .boolean, 2) := by decide +kernel
theorem dX5_init_60 : decode cX5_init 60 = .ok (.putfield 30, 3) := by decide +kernel
theorem dX5_init_63 : decode cX5_init 63 = .ok (.aload_n 0, 1) := by decide +kernel
theorem dX5_init_64 : decode cX5_init 64 = .ok (.bipush 8, 2) := by decide +kernel
theorem dX5_init_66 : decode cX5_init 66 = .ok (.newarray .long, 2) := by decide +kernel
theorem dX5_init_68 : decode cX5_init 68 = .ok (.putfield 33, 3) := by decide +kernel
theorem dX5_init_71 : decode cX5_init 71 = .ok (.aload_n 0, 1) := by decide +kernel
theorem dX5_init_72 : decode cX5_init 72 = .ok (.bipush 8, 2) := by decide +kernel
theorem dX5_init_74 : decode cX5_init 74 = .ok (.newarray .long, 2) := by decide +kernel
theorem dX5_init_76 : decode cX5_init 76 = .ok (.putfield 36, 3) := by decide +kernel
theorem dX5_init_79 : decode cX5_init 79 = .ok (.aload_n 0, 1) := by decide +kernel
theorem dX5_init_80 : decode cX5_init 80 = .ok (.lload_n 1, 1) := by decide +kernel
theorem dX5_init_81 : decode cX5_init 81 = .ok (.invokestatic 39, 3) := by decide +kernel
theorem dX5_init_84 : decode cX5_init 84 = .ok (.putfield 43, 3) := by decide +kernel
theorem dX5_init_87 : decode cX5_init 87 = .ok (.return_, 1) := by decide +kernel
theorem dX5_begun_0 : decode cX5_begun 0 = .ok (.lload_n 0, 1) := by decide +kernel
theorem dX5_begun_1 : decode cX5_begun 1 = .ok (.lconst 0, 1) := by decide +kernel
theorem dX5_begun_2 : decode cX5_begun 2 = .ok (.lcmp, 1) := by decide +kernel
theorem dX5_begun_3 : decode cX5_begun 3 = .ok (.ifCond .ne 9, 3) := by decide +kernel
theorem dX5_begun_6 : decode cX5_begun 6 = .ok (.ldc2_w 47, 3) := by decide +kernel
theorem dX5_begun_9 : decode cX5_begun 9 = .ok (.goto 4, 3) := by decide +kernel
theorem dX5_begun_12 : decode cX5_begun 12 = .ok (.lload_n 0, 1) := by decide +kernel
theorem dX5_begun_13 : decode cX5_begun 13 = .ok (.lreturn, 1) := by decide +kernel
theorem dX5_isCell_0 : decode cX5_isCell 0 = .ok (.iload_n 1, 1) := by decide +kernel
theorem dX5_isCell_1 : decode cX5_isCell 1 = .ok (.ifCond .lt 15, 3) := by decide +kernel
theorem dX5_isCell_4 : decode cX5_isCell 4 = .ok (.iload_n 1, 1) := by decide +kernel
theorem dX5_isCell_5 : decode cX5_isCell 5 = .ok (.aload_n 0, 1) := by decide +kernel
theorem dX5_isCell_6 : decode cX5_isCell 6 = .ok (.getfield 49, 3) := by decide +kernel
theorem dX5_isCell_9 : decode cX5_isCell 9 = .ok (.if_icmp .ge 7, 3) := by decide +kernel
theorem dX5_isCell_12 : decode cX5_isCell 12 = .ok (.iconst 1, 1) := by decide +kernel
theorem dX5_isCell_13 : decode cX5_isCell 13 = .ok (.goto 4, 3) := by decide +kernel
theorem dX5_isCell_16 : decode cX5_isCell 16 = .ok (.iconst 0, 1) := by decide +kernel
theorem dX5_isCell_17 : decode cX5_isCell 17 = .ok (.ireturn, 1) := by decide +kernel
theorem dX5_isKind_0 : decode cX5_isKind 0 = .ok (.iload_n 0, 1) := by decide +kernel
theorem dX5_isKind_1 : decode cX5_isKind 1 = .ok (.ifCond .lt 13, 3) := by decide +kernel
theorem dX5_isKind_4 : decode cX5_isKind 4 = .ok (.iload_n 0, 1) := by decide +kernel
theorem dX5_isKind_5 : decode cX5_isKind 5 = .ok (.bipush 8, 2) := by decide +kernel
theorem dX5_isKind_7 : decode cX5_isKind 7 = .ok (.if_icmp .ge 7, 3) := by decide +kernel
theorem dX5_isKind_10 : decode cX5_isKind 10 = .ok (.iconst 1, 1) := by decide +kernel
theorem dX5_isKind_11 : decode cX5_isKind 11 = .ok (.goto 4, 3) := by decide +kernel
theorem dX5_isKind_14 : decode cX5_isKind 14 = .ok (.iconst 0, 1) := by decide +kernel
theorem dX5_isKind_15 : decode cX5_isKind 15 = .ok (.ireturn, 1) := by decide +kernel
theorem dX5_isPort_0 : decode cX5_isPort 0 = .ok (.iload_n 0, 1) := by decide +kernel
theorem dX5_isPort_1 : decode cX5_isPort 1 = .ok (.ifCond .lt 12, 3) := by decide +kernel
theorem dX5_isPort_4 : decode cX5_isPort 4 = .ok (.iload_n 0, 1) := by decide +kernel
theorem dX5_isPort_5 : decode cX5_isPort 5 = .ok (.iconst 4, 1) := by decide +kernel
theorem dX5_isPort_6 : decode cX5_isPort 6 = .ok (.if_icmp .ge 7, 3) := by decide +kernel
theorem dX5_isPort_9 : decode cX5_isPort 9 = .ok (.iconst 1, 1) := by decide +kernel
theorem dX5_isPort_10 : decode cX5_isPort 10 = .ok (.goto 4, 3) := by decide +kernel
theorem dX5_isPort_13 : decode cX5_isPort 13 = .ok (.iconst 0, 1) := by decide +kernel
theorem dX5_isPort_14 : decode cX5_isPort 14 = .ok (.ireturn, 1) := by decide +kernel
theorem dX5_isShare_0 : decode cX5_isShare 0 = .ok (.lload_n 0, 1) := by decide +kernel
theorem dX5_isShare_1 : decode cX5_isShare 1 = .ok (.lconst 0, 1) := by decide +kernel
theorem dX5_isShare_2 : decode cX5_isShare 2 = .ok (.lcmp, 1) := by decide +kernel
theorem dX5_isShare_3 : decode cX5_isShare 3 = .ok (.ifCond .lt 27, 3) := by decide +kernel
theorem dX5_isShare_6 : decode cX5_isShare 6 = .ok (.lload_n 0, 1) := by decide +kernel
theorem dX5_isShare_7 : decode cX5_isShare 7 = .ok (.lload_n 2, 1) := by decide +kernel
theorem dX5_isShare_8 : decode cX5_isShare 8 = .ok (.lcmp, 1) := by decide +kernel
theorem dX5_isShare_9 : decode cX5_isShare 9 = .ok (.ifCond .gt 21, 3) := by decide +kernel
theorem dX5_isShare_12 : decode cX5_isShare 12 = .ok (.lload_n 2, 1) := by decide +kernel
theorem dX5_isShare_13 : decode cX5_isShare 13 = .ok (.lconst 1, 1) := by decide +kernel
theorem dX5_isShare_14 : decode cX5_isShare 14 = .ok (.lcmp, 1) := by decide +kernel
theorem dX5_isShare_15 : decode cX5_isShare 15 = .ok (.ifCond .lt 15, 3) := by decide +kernel
theorem dX5_isShare_18 : decode cX5_isShare 18 = .ok (.lload_n 2, 1) := by decide +kernel
theorem dX5_isShare_19 : decode cX5_isShare 19 = .ok (.ldc2_w 53, 3) := by decide +kernel
theorem dX5_isShare_22 : decode cX5_isShare 22 = .ok (.lcmp, 1) := by decide +kernel
theorem dX5_isShare_23 : decode cX5_isShare 23 = .ok (.ifCond .gt 7, 3) := by decide +kernel
theorem dX5_isShare_26 : decode cX5_isShare 26 = .ok (.iconst 1, 1) := by decide +kernel
theorem dX5_isShare_27 : decode cX5_isShare 27 = .ok (.goto 4, 3) := by decide +kernel
theorem dX5_isShare_30 : decode cX5_isShare 30 = .ok (.iconst 0, 1) := by decide +kernel
theorem dX5_isShare_31 : decode cX5_isShare 31 = .ok (.ireturn, 1) := by decide +kernel
theorem dX5_cell_0 : decode cX5_cell 0 = .ok (.aload_n 0, 1) := by decide +kernel
theorem dX5_cell_1 : decode cX5_cell 1 = .ok (.getfield 49, 3) := by decide +kernel
theorem dX5_cell_4 : decode cX5_cell 4 = .ok (.bipush 24, 2) := by decide +kernel
theorem dX5_cell_6 : decode cX5_cell 6 = .ok (.if_icmp .eq 17, 3) := by decide +kernel
theorem dX5_cell_9 : decode cX5_cell 9 = .ok (.lload_n 1, 1) := by decide +kernel
theorem dX5_cell_10 : decode cX5_cell 10 = .ok (.lconst 0, 1) := by decide +kernel
theorem dX5_cell_11 : decode cX5_cell 11 = .ok (.lcmp, 1) := by decide +kernel
theorem dX5_cell_12 : decode cX5_cell 12 = .ok (.ifCond .lt 11, 3) := by decide +kernel
theorem dX5_cell_15 : decode cX5_cell 15 = .ok (.lload_n 1, 1) := by decide +kernel
theorem dX5_cell_16 : decode cX5_cell 16 = .ok (.ldc2_w 55, 3) := by decide +kernel
theorem dX5_cell_19 : decode cX5_cell 19 = .ok (.lcmp, 1) := by decide +kernel
theorem dX5_cell_20 : decode cX5_cell 20 = .ok (.ifCond .le 5, 3) := by decide +kernel
theorem dX5_cell_23 : decode cX5_cell 23 = .ok (.iconst (-1), 1) := by decide +kernel
theorem dX5_cell_24 : decode cX5_cell 24 = .ok (.ireturn, 1) := by decide +kernel
theorem dX5_cell_25 : decode cX5_cell 25 = .ok (.aload_n 0, 1) := by decide +kernel
theorem dX5_cell_26 : decode cX5_cell 26 = .ok (.getfield 7, 3) := by decide +kernel
theorem dX5_cell_29 : decode cX5_cell 29 = .ok (.aload_n 0, 1) := by decide +kernel
theorem dX5_cell_30 : decode cX5_cell 30 = .ok (.getfield 49, 3) := by decide +kernel
theorem dX5_cell_33 : decode cX5_cell 33 = .ok (.lload_n 1, 1) := by decide +kernel
theorem dX5_cell_34 : decode cX5_cell 34 = .ok (.lastore, 1) := by decide +kernel
theorem dX5_cell_35 : decode cX5_cell 35 = .ok (.aload_n 0, 1) := by decide +kernel
theorem dX5_cell_36 : decode cX5_cell 36 = .ok (.dup, 1) := by decide +kernel
theorem dX5_cell_37 : decode cX5_cell 37 = .ok (.getfield 49, 3) := by decide +kernel
theorem dX5_cell_40 : decode cX5_cell 40 = .ok (.iconst 1, 1) := by decide +kernel
theorem dX5_cell_41 : decode cX5_cell 41 = .ok (.iadd, 1) := by decide +kernel
theorem dX5_cell_42 : decode cX5_cell 42 = .ok (.putfield 49, 3) := by decide +kernel
theorem dX5_cell_45 : decode cX5_cell 45 = .ok (.aload_n 0, 1) := by decide +kernel
theorem dX5_cell_46 : decode cX5_cell 46 = .ok (.getfield 49, 3) := by decide +kernel
theorem dX5_cell_49 : decode cX5_cell 49 = .ok (.iconst 1, 1) := by decide +kernel
theorem dX5_cell_50 : decode cX5_cell 50 = .ok (.isub, 1) := by decide +kernel
theorem dX5_cell_51 : decode cX5_cell 51 = .ok (.ireturn, 1) := by decide +kernel
theorem dX5_holds_0 : decode cX5_holds 0 = .ok (.aload_n 0, 1) := by decide +kernel
theorem dX5_holds_1 : decode cX5_holds 1 = .ok (.iload_n 1, 1) := by decide +kernel
theorem dX5_holds_2 : decode cX5_holds 2 = .ok (.invokevirtual 57, 3) := by decide +kernel
theorem dX5_holds_5 : decode cX5_holds 5 = .ok (.ifCond .eq 40, 3) := by decide +kernel
theorem dX5_holds_8 : decode cX5_holds 8 = .ok (.iload_n 2, 1) := by decide +kernel
theorem dX5_holds_9 : decode cX5_holds 9 = .ok (.invokestatic 61, 3) := by decide +kernel
theorem dX5_holds_12 : decode cX5_holds 12 = .ok (.ifCond .eq 33, 3) := by decide +kernel
theorem dX5_holds_15 : decode cX5_holds 15 = .ok (.lload_n 3, 1) := by decide +kernel
theorem dX5_holds_16 : decode cX5_holds 16 = .ok (.lconst 0, 1) := by decide +kernel
theorem dX5_holds_17 : decode cX5_holds 17 = .ok (.lcmp, 1) := by decide +kernel
theorem dX5_holds_18 : decode cX5_holds 18 = .ok (.ifCond .lt 27, 3) := by decide +kernel
theorem dX5_holds_21 : decode cX5_holds 21 = .ok (.lload_n 3, 1) := by decide +kernel
theorem dX5_holds_22 : decode cX5_holds 22 = .ok (.ldc2_w 64, 3) := by decide +kernel
theorem dX5_holds_25 : decode cX5_holds 25 = .ok (.lcmp, 1) := by decide +kernel
theorem dX5_holds_26 : decode cX5_holds 26 = .ok (.ifCond .gt 19, 3) := by decide +kernel
theorem dX5_holds_29 : decode cX5_holds 29 = .ok (.lload 5, 2) := by decide +kernel
theorem dX5_holds_31 : decode cX5_holds 31 = .ok (.lconst 1, 1) := by decide +kernel
theorem dX5_holds_32 : decode cX5_holds 32 = .ok (.lcmp, 1) := by decide +kernel
theorem dX5_holds_33 : decode cX5_holds 33 = .ok (.ifCond .lt 12, 3) := by decide +kernel
theorem dX5_holds_36 : decode cX5_holds 36 = .ok (.lload 5, 2) := by decide +kernel
theorem dX5_holds_38 : decode cX5_holds 38 = .ok (.ldc2_w 66, 3) := by decide +kernel
theorem dX5_holds_41 : decode cX5_holds 41 = .ok (.lcmp, 1) := by decide +kernel
theorem dX5_holds_42 : decode cX5_holds 42 = .ok (.ifCond .le 5, 3) := by decide +kernel
theorem dX5_holds_45 : decode cX5_holds 45 = .ok (.iconst 0, 1) := by decide +kernel
theorem dX5_holds_46 : decode cX5_holds 46 = .ok (.ireturn, 1) := by decide +kernel
theorem dX5_holds_47 : decode cX5_holds 47 = .ok (.aload_n 0, 1) := by decide +kernel
theorem dX5_holds_48 : decode cX5_holds 48 = .ok (.getfield 17, 3) := by decide +kernel
theorem dX5_holds_51 : decode cX5_holds 51 = .ok (.bipush 24, 2) := by decide +kernel
theorem dX5_holds_53 : decode cX5_holds 53 = .ok (.iload_n 2, 1) := by decide +kernel
theorem dX5_holds_54 : decode cX5_holds 54 = .ok (.imul, 1) := by decide +kernel
theorem dX5_holds_55 : decode cX5_holds 55 = .ok (.iload_n 1, 1) := by decide +kernel
theorem dX5_holds_56 : decode cX5_holds 56 = .ok (.iadd, 1) := by decide +kernel
theorem dX5_holds_57 : decode cX5_holds 57 = .ok (.lload_n 3, 1) := by decide +kernel
theorem dX5_holds_58 : decode cX5_holds 58 = .ok (.ldc2_w 68, 3) := by decide +kernel
theorem dX5_holds_61 : decode cX5_holds 61 = .ok (.lload 5, 2) := by decide +kernel
theorem dX5_holds_63 : decode cX5_holds 63 = .ok (.ldiv, 1) := by decide +kernel
theorem dX5_holds_64 : decode cX5_holds 64 = .ok (.lmul, 1) := by decide +kernel
theorem dX5_holds_65 : decode cX5_holds 65 = .ok (.lastore, 1) := by decide +kernel
theorem dX5_holds_66 : decode cX5_holds 66 = .ok (.iconst 1, 1) := by decide +kernel
theorem dX5_holds_67 : decode cX5_holds 67 = .ok (.ireturn, 1) := by decide +kernel
theorem dX5_goal_0 : decode cX5_goal 0 = .ok (.iload_n 1, 1) := by decide +kernel
theorem dX5_goal_1 : decode cX5_goal 1 = .ok (.invokestatic 61, 3) := by decide +kernel
theorem dX5_goal_4 : decode cX5_goal 4 = .ok (.ifCond .eq 12, 3) := by decide +kernel
theorem dX5_goal_7 : decode cX5_goal 7 = .ok (.lload_n 2, 1) := by decide +kernel
theorem dX5_goal_8 : decode cX5_goal 8 = .ok (.lload 4, 2) := by decide +kernel
theorem dX5_goal_10 : decode cX5_goal 10 = .ok (.invokestatic 70, 3) := by decide +kernel
theorem dX5_goal_13 : decode cX5_goal 13 = .ok (.ifCond .ne 5, 3) := by decide +kernel
theorem dX5_goal_16 : decode cX5_goal 16 = .ok (.iconst 0, 1) := by decide +kernel
theorem dX5_goal_17 : decode cX5_goal 17 = .ok (.ireturn, 1) := by decide +kernel
theorem dX5_goal_18 : decode cX5_goal 18 = .ok (.aload_n 0, 1) := by decide +kernel
theorem dX5_goal_19 : decode cX5_goal 19 = .ok (.getfield 30, 3) := by decide +kernel
theorem dX5_goal_22 : decode cX5_goal 22 = .ok (.iload_n 1, 1) := by decide +kernel
theorem dX5_goal_23 : decode cX5_goal 23 = .ok (.iconst 1, 1) := by decide +kernel
theorem dX5_goal_24 : decode cX5_goal 24 = .ok (.bastore, 1) := by decide +kernel
theorem dX5_goal_25 : decode cX5_goal 25 = .ok (.aload_n 0, 1) := by decide +kernel
theorem dX5_goal_26 : decode cX5_goal 26 = .ok (.getfield 33, 3) := by decide +kernel
theorem dX5_goal_29 : decode cX5_goal 29 = .ok (.iload_n 1, 1) := by decide +kernel
theorem dX5_goal_30 : decode cX5_goal 30 = .ok (.lload_n 2, 1) := by decide +kernel
theorem dX5_goal_31 : decode cX5_goal 31 = .ok (.lastore, 1) := by decide +kernel
theorem dX5_goal_32 : decode cX5_goal 32 = .ok (.aload_n 0, 1) := by decide +kernel
theorem dX5_goal_33 : decode cX5_goal 33 = .ok (.getfield 36, 3) := by decide +kernel
theorem dX5_goal_36 : decode cX5_goal 36 = .ok (.iload_n 1, 1) := by decide +kernel
theorem dX5_goal_37 : decode cX5_goal 37 = .ok (.lload 4, 2) := by decide +kernel
theorem dX5_goal_39 : decode cX5_goal 39 = .ok (.lastore, 1) := by decide +kernel
theorem dX5_goal_40 : decode cX5_goal 40 = .ok (.iconst 1, 1) := by decide +kernel
theorem dX5_goal_41 : decode cX5_goal 41 = .ok (.ireturn, 1) := by decide +kernel
theorem dX5_near_0 : decode cX5_near 0 = .ok (.aload_n 0, 1) := by decide +kernel
theorem dX5_near_1 : decode cX5_near 1 = .ok (.iload_n 1, 1) := by decide +kernel
theorem dX5_near_2 : decode cX5_near 2 = .ok (.invokevirtual 57, 3) := by decide +kernel
theorem dX5_near_5 : decode cX5_near 5 = .ok (.ifCond .eq 30, 3) := by decide +kernel
theorem dX5_near_8 : decode cX5_near 8 = .ok (.aload_n 0, 1) := by decide +kernel
theorem dX5_near_9 : decode cX5_near 9 = .ok (.iload_n 2, 1) := by decide +kernel
theorem dX5_near_10 : decode cX5_near 10 = .ok (.invokevirtual 57, 3) := by decide +kernel
theorem dX5_near_13 : decode cX5_near 13 = .ok (.ifCond .eq 22, 3) := by decide +kernel
theorem dX5_near_16 : decode cX5_near 16 = .ok (.iload_n 1, 1) := by decide +kernel
theorem dX5_near_17 : decode cX5_near 17 = .ok (.iload_n 2, 1) := by decide +kernel
theorem dX5_near_18 : decode cX5_near 18 = .ok (.if_icmp .eq 17, 3) := by decide +kernel
theorem dX5_near_21 : decode cX5_near 21 = .ok (.lload_n 3, 1) := by decide +kernel
theorem dX5_near_22 : decode cX5_near 22 = .ok (.lconst 0, 1) := by decide +kernel
theorem dX5_near_23 : decode cX5_near 23 = .ok (.lcmp, 1) := by decide +kernel
theorem dX5_near_24 : decode cX5_near 24 = .ok (.ifCond .lt 11, 3) := by decide +kernel
theorem dX5_near_27 : decode cX5_near 27 = .ok (.lload_n 3, 1) := by decide +kernel
theorem dX5_near_28 : decode cX5_near 28 = .ok (.ldc2_w 64, 3) := by decide +kernel
theorem dX5_near_31 : decode cX5_near 31 = .ok (.lcmp, 1) := by decide +kernel
theorem dX5_near_32 : decode cX5_near 32 = .ok (.ifCond .le 5, 3) := by decide +kernel
theorem dX5_near_35 : decode cX5_near 35 = .ok (.iconst 0, 1) := by decide +kernel
theorem dX5_near_36 : decode cX5_near 36 = .ok (.ireturn, 1) := by decide +kernel
theorem dX5_near_37 : decode cX5_near 37 = .ok (.aload_n 0, 1) := by decide +kernel
theorem dX5_near_38 : decode cX5_near 38 = .ok (.getfield 23, 3) := by decide +kernel
theorem dX5_near_41 : decode cX5_near 41 = .ok (.bipush 24, 2) := by decide +kernel
theorem dX5_near_43 : decode cX5_near 43 = .ok (.iload_n 1, 1) := by decide +kernel
theorem dX5_near_44 : decode cX5_near 44 = .ok (.imul, 1) := by decide +kernel
theorem dX5_near_45 : decode cX5_near 45 = .ok (.iload_n 2, 1) := by decide +kernel
theorem dX5_near_46 : decode cX5_near 46 = .ok (.iadd, 1) := by decide +kernel
theorem dX5_near_47 : decode cX5_near 47 = .ok (.lload_n 3, 1) := by decide +kernel
theorem dX5_near_48 : decode cX5_near 48 = .ok (.lastore, 1) := by decide +kernel
theorem dX5_near_49 : decode cX5_near 49 = .ok (.aload_n 0, 1) := by decide +kernel
theorem dX5_near_50 : decode cX5_near 50 = .ok (.getfield 23, 3) := by decide +kernel
theorem dX5_near_53 : decode cX5_near 53 = .ok (.bipush 24, 2) := by decide +kernel
theorem dX5_near_55 : decode cX5_near 55 = .ok (.iload_n 2, 1) := by decide +kernel
theorem dX5_near_56 : decode cX5_near 56 = .ok (.imul, 1) := by decide +kernel
theorem dX5_near_57 : decode cX5_near 57 = .ok (.iload_n 1, 1) := by decide +kernel
theorem dX5_near_58 : decode cX5_near 58 = .ok (.iadd, 1) := by decide +kernel
theorem dX5_near_59 : decode cX5_near 59 = .ok (.lload_n 3, 1) := by decide +kernel
theorem dX5_near_60 : decode cX5_near 60 = .ok (.lastore, 1) := by decide +kernel
theorem dX5_near_61 : decode cX5_near 61 = .ok (.iconst 1, 1) := by decide +kernel
theorem dX5_near_62 : decode cX5_near 62 = .ok (.ireturn, 1) := by decide +kernel
theorem dX5_far_0 : decode cX5_far 0 = .ok (.aload_n 0, 1) := by decide +kernel
theorem dX5_far_1 : decode cX5_far 1 = .ok (.iload_n 1, 1) := by decide +kernel
theorem dX5_far_2 : decode cX5_far 2 = .ok (.invokevirtual 57, 3) := by decide +kernel
theorem dX5_far_5 : decode cX5_far 5 = .ok (.ifCond .eq 16, 3) := by decide +kernel
theorem dX5_far_8 : decode cX5_far 8 = .ok (.aload_n 0, 1) := by decide +kernel
theorem dX5_far_9 : decode cX5_far 9 = .ok (.iload_n 2, 1) := by decide +kernel
theorem dX5_far_10 : decode cX5_far 10 = .ok (.invokevirtual 57, 3) := by decide +kernel
theorem dX5_far_13 : decode cX5_far 13 = .ok (.ifCond .eq 8, 3) := by decide +kernel
theorem dX5_far_16 : decode cX5_far 16 = .ok (.iload_n 1, 1) := by decide +kernel
theorem dX5_far_17 : decode cX5_far 17 = .ok (.iload_n 2, 1) := by decide +kernel
theorem dX5_far_18 : decode cX5_far 18 = .ok (.if_icmp .ne 5, 3) := by decide +kernel
theorem dX5_far_21 : decode cX5_far 21 = .ok (.iconst 0, 1) := by decide +kernel
theorem dX5_far_22 : decode cX5_far 22 = .ok (.ireturn, 1) := by decide +kernel
theorem dX5_far_23 : decode cX5_far 23 = .ok (.aload_n 0, 1) := by decide +kernel
theorem dX5_far_24 : decode cX5_far 24 = .ok (.getfield 26, 3) := by decide +kernel
theorem dX5_far_27 : decode cX5_far 27 = .ok (.bipush 24, 2) := by decide +kernel
theorem dX5_far_29 : decode cX5_far 29 = .ok (.iload_n 1, 1) := by decide +kernel
theorem dX5_far_30 : decode cX5_far 30 = .ok (.imul, 1) := by decide +kernel
theorem dX5_far_31 : decode cX5_far 31 = .ok (.iload_n 2, 1) := by decide +kernel
theorem dX5_far_32 : decode cX5_far 32 = .ok (.iadd, 1) := by decide +kernel
theorem dX5_far_33 : decode cX5_far 33 = .ok (.iload_n 3, 1) := by decide +kernel
theorem dX5_far_34 : decode cX5_far 34 = .ok (.ifCond .ge 7, 3) := by decide +kernel
theorem dX5_far_37 : decode cX5_far 37 = .ok (.iconst 1, 1) := by decide +kernel
theorem dX5_far_38 : decode cX5_far 38 = .ok (.goto 4, 3) := by decide +kernel
theorem dX5_far_41 : decode cX5_far 41 = .ok (.iconst 0, 1) := by decide +kernel
theorem dX5_far_42 : decode cX5_far 42 = .ok (.bastore, 1) := by decide +kernel
theorem dX5_far_43 : decode cX5_far 43 = .ok (.aload_n 0, 1) := by decide +kernel
theorem dX5_far_44 : decode cX5_far 44 = .ok (.getfield 26, 3) := by decide +kernel
theorem dX5_far_47 : decode cX5_far 47 = .ok (.bipush 24, 2) := by decide +kernel
theorem dX5_far_49 : decode cX5_far 49 = .ok (.iload_n 2, 1) := by decide +kernel
theorem dX5_far_50 : decode cX5_far 50 = .ok (.imul, 1) := by decide +kernel
theorem dX5_far_51 : decode cX5_far 51 = .ok (.iload_n 1, 1) := by decide +kernel
theorem dX5_far_52 : decode cX5_far 52 = .ok (.iadd, 1) := by decide +kernel
theorem dX5_far_53 : decode cX5_far 53 = .ok (.iload_n 3, 1) := by decide +kernel
theorem dX5_far_54 : decode cX5_far 54 = .ok (.ifCond .ge 7, 3) := by decide +kernel
theorem dX5_far_57 : decode cX5_far 57 = .ok (.iconst 1, 1) := by decide +kernel
theorem dX5_far_58 : decode cX5_far 58 = .ok (.goto 4, 3) := by decide +kernel
theorem dX5_far_61 : decode cX5_far 61 = .ok (.iconst 0, 1) := by decide +kernel
theorem dX5_far_62 : decode cX5_far 62 = .ok (.bastore, 1) := by decide +kernel
theorem dX5_far_63 : decode cX5_far 63 = .ok (.iconst 1, 1) := by decide +kernel
theorem dX5_far_64 : decode cX5_far 64 = .ok (.ireturn, 1) := by decide +kernel
theorem dX5_weight_0 : decode cX5_weight 0 = .ok (.lload_n 1, 1) := by decide +kernel
theorem dX5_weight_1 : decode cX5_weight 1 = .ok (.lconst 0, 1) := by decide +kernel
theorem dX5_weight_2 : decode cX5_weight 2 = .ok (.lcmp, 1) := by decide +kernel
theorem dX5_weight_3 : decode cX5_weight 3 = .ok (.ifCond .lt 11, 3) := by decide +kernel
theorem dX5_weight_6 : decode cX5_weight 6 = .ok (.lload_n 1, 1) := by decide +kernel
theorem dX5_weight_7 : decode cX5_weight 7 = .ok (.ldc2_w 64, 3) := by decide +kernel
theorem dX5_weight_10 : decode cX5_weight 10 = .ok (.lcmp, 1) := by decide +kernel
theorem dX5_weight_11 : decode cX5_weight 11 = .ok (.ifCond .le 5, 3) := by decide +kernel
theorem dX5_weight_14 : decode cX5_weight 14 = .ok (.iconst 0, 1) := by decide +kernel
theorem dX5_weight_15 : decode cX5_weight 15 = .ok (.ireturn, 1) := by decide +kernel
theorem dX5_weight_16 : decode cX5_weight 16 = .ok (.aload_n 0, 1) := by decide +kernel
theorem dX5_weight_17 : decode cX5_weight 17 = .ok (.lload_n 1, 1) := by decide +kernel
theorem dX5_weight_18 : decode cX5_weight 18 = .ok (.putfield 74, 3) := by decide +kernel
theorem dX5_weight_21 : decode cX5_weight 21 = .ok (.iconst 1, 1) := by decide +kernel
theorem dX5_weight_22 : decode cX5_weight 22 = .ok (.ireturn, 1) := by decide +kernel
theorem dX5_must_0 : decode cX5_must 0 = .ok (.aload_n 0, 1) := by decide +kernel
theorem dX5_must_1 : decode cX5_must 1 = .ok (.iload_n 1, 1) := by decide +kernel
theorem dX5_must_2 : decode cX5_must 2 = .ok (.invokevirtual 57, 3) := by decide +kernel
theorem dX5_must_5 : decode cX5_must 5 = .ok (.ifCond .ne 5, 3) := by decide +kernel
theorem dX5_must_8 : decode cX5_must 8 = .ok (.iconst 0, 1) := by decide +kernel
theorem dX5_must_9 : decode cX5_must 9 = .ok (.ireturn, 1) := by decide +kernel
theorem dX5_must_10 : decode cX5_must 10 = .ok (.aload_n 0, 1) := by decide +kernel
theorem dX5_must_11 : decode cX5_must 11 = .ok (.getfield 13, 3) := by decide +kernel
theorem dX5_must_14 : decode cX5_must 14 = .ok (.iload_n 1, 1) := by decide +kernel
theorem dX5_must_15 : decode cX5_must 15 = .ok (.iconst 1, 1) := by decide +kernel
theorem dX5_must_16 : decode cX5_must 16 = .ok (.iastore, 1) := by decide +kernel
theorem dX5_must_17 : decode cX5_must 17 = .ok (.iconst 1, 1) := by decide +kernel
theorem dX5_must_18 : decode cX5_must 18 = .ok (.ireturn, 1) := by decide +kernel
theorem dX5_bar_0 : decode cX5_bar 0 = .ok (.aload_n 0, 1) := by decide +kernel
theorem dX5_bar_1 : decode cX5_bar 1 = .ok (.iload_n 1, 1) := by decide +kernel
theorem dX5_bar_2 : decode cX5_bar 2 = .ok (.invokevirtual 57, 3) := by decide +kernel
theorem dX5_bar_5 : decode cX5_bar 5 = .ok (.ifCond .ne 5, 3) := by decide +kernel
theorem dX5_bar_8 : decode cX5_bar 8 = .ok (.iconst 0, 1) := by decide +kernel
theorem dX5_bar_9 : decode cX5_bar 9 = .ok (.ireturn, 1) := by decide +kernel
theorem dX5_bar_10 : decode cX5_bar 10 = .ok (.aload_n 0, 1) := by decide +kernel
theorem dX5_bar_11 : decode cX5_bar 11 = .ok (.getfield 13, 3) := by decide +kernel
theorem dX5_bar_14 : decode cX5_bar 14 = .ok (.iload_n 1, 1) := by decide +kernel
theorem dX5_bar_15 : decode cX5_bar 15 = .ok (.iconst 2, 1) := by decide +kernel
theorem dX5_bar_16 : decode cX5_bar 16 = .ok (.iastore, 1) := by decide +kernel
theorem dX5_bar_17 : decode cX5_bar 17 = .ok (.iconst 1, 1) := by decide +kernel
theorem dX5_bar_18 : decode cX5_bar 18 = .ok (.ireturn, 1) := by decide +kernel
theorem dX5_port_0 : decode cX5_port 0 = .ok (.aload_n 0, 1) := by decide +kernel
theorem dX5_port_1 : decode cX5_port 1 = .ok (.iload_n 1, 1) := by decide +kernel
theorem dX5_port_2 : decode cX5_port 2 = .ok (.invokevirtual 57, 3) := by decide +kernel
theorem dX5_port_5 : decode cX5_port 5 = .ok (.ifCond .eq 24, 3) := by decide +kernel
theorem dX5_port_8 : decode cX5_port 8 = .ok (.iload_n 2, 1) := by decide +kernel
theorem dX5_port_9 : decode cX5_port 9 = .ok (.invokestatic 77, 3) := by decide +kernel
theorem dX5_port_12 : decode cX5_port 12 = .ok (.ifCond .eq 17, 3) := by decide +kernel
theorem dX5_port_15 : decode cX5_port 15 = .ok (.lload_n 3, 1) := by decide +kernel
theorem dX5_port_16 : decode cX5_port 16 = .ok (.lconst 0, 1) := by decide +kernel
theorem dX5_port_17 : decode cX5_port 17 = .ok (.lcmp, 1) := by decide +kernel
theorem dX5_port_18 : decode cX5_port 18 = .ok (.ifCond .lt 11, 3) := by decide +kernel
theorem dX5_port_21 : decode cX5_port 21 = .ok (.lload_n 3, 1) := by decide +kernel
theorem dX5_port_22 : decode cX5_port 22 = .ok (.ldc2_w 55, 3) := by decide +kernel
theorem dX5_port_25 : decode cX5_port 25 = .ok (.lcmp, 1) := by decide +kernel
theorem dX5_port_26 : decode cX5_port 26 = .ok (.ifCond .le 5, 3) := by decide +kernel
theorem dX5_port_29 : decode cX5_port 29 = .ok (.iconst 0, 1) := by decide +kernel
theorem dX5_port_30 : decode cX5_port 30 = .ok (.ireturn, 1) := by decide +kernel
theorem dX5_port_31 : decode cX5_port 31 = .ok (.aload_n 0, 1) := by decide +kernel
theorem dX5_port_32 : decode cX5_port 32 = .ok (.getfield 20, 3) := by decide +kernel
theorem dX5_port_35 : decode cX5_port 35 = .ok (.bipush 24, 2) := by decide +kernel
theorem dX5_port_37 : decode cX5_port 37 = .ok (.iload_n 2, 1) := by decide +kernel
theorem dX5_port_38 : decode cX5_port 38 = .ok (.imul, 1) := by decide +kernel
theorem dX5_port_39 : decode cX5_port 39 = .ok (.iload_n 1, 1) := by decide +kernel
theorem dX5_port_40 : decode cX5_port 40 = .ok (.iadd, 1) := by decide +kernel
theorem dX5_port_41 : decode cX5_port 41 = .ok (.lload_n 3, 1) := by decide +kernel
theorem dX5_port_42 : decode cX5_port 42 = .ok (.lastore, 1) := by decide +kernel
theorem dX5_port_43 : decode cX5_port 43 = .ok (.iconst 1, 1) := by decide +kernel
theorem dX5_port_44 : decode cX5_port 44 = .ok (.ireturn, 1) := by decide +kernel
theorem dX5_fair_0 : decode cX5_fair 0 = .ok (.lload_n 1, 1) := by decide +kernel
theorem dX5_fair_1 : decode cX5_fair 1 = .ok (.lload_n 3, 1) := by decide +kernel
theorem dX5_fair_2 : decode cX5_fair 2 = .ok (.invokestatic 70, 3) := by decide +kernel
theorem dX5_fair_5 : decode cX5_fair 5 = .ok (.ifCond .ne 5, 3) := by decide +kernel
theorem dX5_fair_8 : decode cX5_fair 8 = .ok (.iconst 0, 1) := by decide +kernel
theorem dX5_fair_9 : decode cX5_fair 9 = .ok (.ireturn, 1) := by decide +kernel
theorem dX5_fair_10 : decode cX5_fair 10 = .ok (.aload_n 0, 1) := by decide +kernel
theorem dX5_fair_11 : decode cX5_fair 11 = .ok (.iconst 1, 1) := by decide +kernel
theorem dX5_fair_12 : decode cX5_fair 12 = .ok (.putfield 80, 3) := by decide +kernel
theorem dX5_fair_15 : decode cX5_fair 15 = .ok (.aload_n 0, 1) := by decide +kernel
theorem dX5_fair_16 : decode cX5_fair 16 = .ok (.lload_n 1, 1) := by decide +kernel
theorem dX5_fair_17 : decode cX5_fair 17 = .ok (.putfield 84, 3) := by decide +kernel
theorem dX5_fair_20 : decode cX5_fair 20 = .ok (.aload_n 0, 1) := by decide +kernel
theorem dX5_fair_21 : decode cX5_fair 21 = .ok (.lload_n 3, 1) := by decide +kernel
theorem dX5_fair_22 : decode cX5_fair 22 = .ok (.putfield 87, 3) := by decide +kernel
theorem dX5_fair_25 : decode cX5_fair 25 = .ok (.iconst 1, 1) := by decide +kernel
theorem dX5_fair_26 : decode cX5_fair 26 = .ok (.ireturn, 1) := by decide +kernel
theorem dX5_size_0 : decode cX5_size 0 = .ok (.iload_n 1, 1) := by decide +kernel
theorem dX5_size_1 : decode cX5_size 1 = .ok (.ifCond .lt 9, 3) := by decide +kernel
theorem dX5_size_4 : decode cX5_size 4 = .ok (.iload_n 1, 1) := by decide +kernel
theorem dX5_size_5 : decode cX5_size 5 = .ok (.bipush 24, 2) := by decide +kernel
theorem dX5_size_7 : decode cX5_size 7 = .ok (.if_icmp .le 5, 3) := by decide +kernel
theorem dX5_size_10 : decode cX5_size 10 = .ok (.iconst (-1), 1) := by decide +kernel
theorem dX5_size_11 : decode cX5_size 11 = .ok (.ireturn, 1) := by decide +kernel
theorem dX5_size_12 : decode cX5_size 12 = .ok (.aload_n 0, 1) := by decide +kernel
theorem dX5_size_13 : decode cX5_size 13 = .ok (.iload_n 1, 1) := by decide +kernel
theorem dX5_size_14 : decode cX5_size 14 = .ok (.putfield 90, 3) := by decide +kernel
theorem dX5_size_17 : decode cX5_size 17 = .ok (.aload_n 0, 1) := by decide +kernel
theorem dX5_size_18 : decode cX5_size 18 = .ok (.getfield 49, 3) := by decide +kernel
theorem dX5_size_21 : decode cX5_size 21 = .ok (.ireturn, 1) := by decide +kernel
theorem dX5_wind_0 : decode cX5_wind 0 = .ok (.aload_n 0, 1) := by decide +kernel
theorem dX5_wind_1 : decode cX5_wind 1 = .ok (.iload_n 1, 1) := by decide +kernel
theorem dX5_wind_2 : decode cX5_wind 2 = .ok (.invokevirtual 57, 3) := by decide +kernel
theorem dX5_wind_5 : decode cX5_wind 5 = .ok (.ifCond .eq 32, 3) := by decide +kernel
theorem dX5_wind_8 : decode cX5_wind 8 = .ok (.lload_n 2, 1) := by decide +kernel
theorem dX5_wind_9 : decode cX5_wind 9 = .ok (.lconst 0, 1) := by decide +kernel
theorem dX5_wind_10 : decode cX5_wind 10 = .ok (.lcmp, 1) := by decide +kernel
theorem dX5_wind_11 : decode cX5_wind 11 = .ok (.ifCond .lt 26, 3) := by decide +kernel
theorem dX5_wind_14 : decode cX5_wind 14 = .ok (.lload_n 2, 1) := by decide +kernel
theorem dX5_wind_15 : decode cX5_wind 15 = .ok (.ldc2_w 55, 3) := by decide +kernel
theorem dX5_wind_18 : decode cX5_wind 18 = .ok (.lcmp, 1) := by decide +kernel
theorem dX5_wind_19 : decode cX5_wind 19 = .ok (.ifCond .gt 18, 3) := by decide +kernel
theorem dX5_wind_22 : decode cX5_wind 22 = .ok (.aload_n 0, 1) := by decide +kernel
theorem dX5_wind_23 : decode cX5_wind 23 = .ok (.getfield 7, 3) := by decide +kernel
theorem dX5_wind_26 : decode cX5_wind 26 = .ok (.iload_n 1, 1) := by decide +kernel
theorem dX5_wind_27 : decode cX5_wind 27 = .ok (.laload, 1) := by decide +kernel
theorem dX5_wind_28 : decode cX5_wind 28 = .ok (.lload_n 2, 1) := by decide +kernel
theorem dX5_wind_29 : decode cX5_wind 29 = .ok (.ladd, 1) := by decide +kernel
theorem dX5_wind_30 : decode cX5_wind 30 = .ok (.ldc2_w 93, 3) := by decide +kernel
theorem dX5_wind_33 : decode cX5_wind 33 = .ok (.lcmp, 1) := by decide +kernel
theorem dX5_wind_34 : decode cX5_wind 34 = .ok (.ifCond .le 5, 3) := by decide +kernel
theorem dX5_wind_37 : decode cX5_wind 37 = .ok (.iconst 0, 1) := by decide +kernel
theorem dX5_wind_38 : decode cX5_wind 38 = .ok (.ireturn, 1) := by decide +kernel
theorem dX5_wind_39 : decode cX5_wind 39 = .ok (.aload_n 0, 1) := by decide +kernel
theorem dX5_wind_40 : decode cX5_wind 40 = .ok (.getfield 7, 3) := by decide +kernel
theorem dX5_wind_43 : decode cX5_wind 43 = .ok (.iload_n 1, 1) := by decide +kernel
theorem dX5_wind_44 : decode cX5_wind 44 = .ok (.aload_n 0, 1) := by decide +kernel
theorem dX5_wind_45 : decode cX5_wind 45 = .ok (.getfield 7, 3) := by decide +kernel
theorem dX5_wind_48 : decode cX5_wind 48 = .ok (.iload_n 1, 1) := by decide +kernel
theorem dX5_wind_49 : decode cX5_wind 49 = .ok (.laload, 1) := by decide +kernel
theorem dX5_wind_50 : decode cX5_wind 50 = .ok (.lload_n 2, 1) := by decide +kernel
theorem dX5_wind_51 : decode cX5_wind 51 = .ok (.ladd, 1) := by decide +kernel
theorem dX5_wind_52 : decode cX5_wind 52 = .ok (.lastore, 1) := by decide +kernel
theorem dX5_wind_53 : decode cX5_wind 53 = .ok (.iconst 1, 1) := by decide +kernel
theorem dX5_wind_54 : decode cX5_wind 54 = .ok (.ireturn, 1) := by decide +kernel
theorem dX5_has_0 : decode cX5_has 0 = .ok (.iload_n 0, 1) := by decide +kernel
theorem dX5_has_1 : decode cX5_has 1 = .ok (.iload_n 1, 1) := by decide +kernel
theorem dX5_has_2 : decode cX5_has 2 = .ok (.ishr, 1) := by decide +kernel
theorem dX5_has_3 : decode cX5_has 3 = .ok (.iconst 1, 1) := by decide +kernel
theorem dX5_has_4 : decode cX5_has 4 = .ok (.iand, 1) := by decide +kernel
theorem dX5_has_5 : decode cX5_has 5 = .ok (.iconst 1, 1) := by decide +kernel
theorem dX5_has_6 : decode cX5_has 6 = .ok (.if_icmp .ne 7, 3) := by decide +kernel
theorem dX5_has_9 : decode cX5_has 9 = .ok (.iconst 1, 1) := by decide +kernel
theorem dX5_has_10 : decode cX5_has 10 = .ok (.goto 4, 3) := by decide +kernel
theorem dX5_has_13 : decode cX5_has 13 = .ok (.iconst 0, 1) := by decide +kernel
theorem dX5_has_14 : decode cX5_has 14 = .ok (.ireturn, 1) := by decide +kernel
theorem dX5_count_0 : decode cX5_count 0 = .ok (.iconst 0, 1) := by decide +kernel
theorem dX5_count_1 : decode cX5_count 1 = .ok (.istore_n 2, 1) := by decide +kernel
theorem dX5_count_2 : decode cX5_count 2 = .ok (.iconst 0, 1) := by decide +kernel
theorem dX5_count_3 : decode cX5_count 3 = .ok (.istore_n 3, 1) := by decide +kernel
theorem dX5_count_4 : decode cX5_count 4 = .ok (.iload_n 3, 1) := by decide +kernel
theorem dX5_count_5 : decode cX5_count 5 = .ok (.aload_n 0, 1) := by decide +kernel
theorem dX5_count_6 : decode cX5_count 6 = .ok (.getfield 49, 3) := by decide +kernel
theorem dX5_count_9 : decode cX5_count 9 = .ok (.if_icmp .ge 25, 3) := by decide +kernel
theorem dX5_count_12 : decode cX5_count 12 = .ok (.iload_n 2, 1) := by decide +kernel
theorem dX5_count_13 : decode cX5_count 13 = .ok (.iload_n 1, 1) := by decide +kernel
theorem dX5_count_14 : decode cX5_count 14 = .ok (.iload_n 3, 1) := by decide +kernel
theorem dX5_count_15 : decode cX5_count 15 = .ok (.invokestatic 95, 3) := by decide +kernel
theorem dX5_count_18 : decode cX5_count 18 = .ok (.ifCond .eq 7, 3) := by decide +kernel
theorem dX5_count_21 : decode cX5_count 21 = .ok (.iconst 1, 1) := by decide +kernel
theorem dX5_count_22 : decode cX5_count 22 = .ok (.goto 4, 3) := by decide +kernel
theorem dX5_count_25 : decode cX5_count 25 = .ok (.iconst 0, 1) := by decide +kernel
theorem dX5_count_26 : decode cX5_count 26 = .ok (.iadd, 1) := by decide +kernel
theorem dX5_count_27 : decode cX5_count 27 = .ok (.istore_n 2, 1) := by decide +kernel
theorem dX5_count_28 : decode cX5_count 28 = .ok (.iinc 3 1, 3) := by decide +kernel
theorem dX5_count_31 : decode cX5_count 31 = .ok (.goto (-27), 3) := by decide +kernel
theorem dX5_count_34 : decode cX5_count 34 = .ok (.iload_n 2, 1) := by decide +kernel
theorem dX5_count_35 : decode cX5_count 35 = .ok (.ireturn, 1) := by decide +kernel
theorem dX5_all_0 : decode cX5_all 0 = .ok (.iconst 1, 1) := by decide +kernel
theorem dX5_all_1 : decode cX5_all 1 = .ok (.aload_n 0, 1) := by decide +kernel
theorem dX5_all_2 : decode cX5_all 2 = .ok (.getfield 49, 3) := by decide +kernel
theorem dX5_all_5 : decode cX5_all 5 = .ok (.ishl, 1) := by decide +kernel
theorem dX5_all_6 : decode cX5_all 6 = .ok (.iconst 1, 1) := by decide +kernel
theorem dX5_all_7 : decode cX5_all 7 = .ok (.isub, 1) := by decide +kernel
theorem dX5_all_8 : decode cX5_all 8 = .ok (.ireturn, 1) := by decide +kernel
theorem dX5_open_0 : decode cX5_open 0 = .ok (.iconst 0, 1) := by decide +kernel
theorem dX5_open_1 : decode cX5_open 1 = .ok (.istore_n 1, 1) := by decide +kernel
theorem dX5_open_2 : decode cX5_open 2 = .ok (.iconst 0, 1) := by decide +kernel
theorem dX5_open_3 : decode cX5_open 3 = .ok (.istore_n 2, 1) := by decide +kernel
theorem dX5_open_4 : decode cX5_open 4 = .ok (.iload_n 2, 1) := by decide +kernel
theorem dX5_open_5 : decode cX5_open 5 = .ok (.aload_n 0, 1) := by decide +kernel
theorem dX5_open_6 : decode cX5_open 6 = .ok (.getfield 49, 3) := by decide +kernel
theorem dX5_open_9 : decode cX5_open 9 = .ok (.if_icmp .ge 29, 3) := by decide +kernel
theorem dX5_open_12 : decode cX5_open 12 = .ok (.aload_n 0, 1) := by decide +kernel
theorem dX5_open_13 : decode cX5_open 13 = .ok (.getfield 13, 3) := by decide +kernel
theorem dX5_open_16 : decode cX5_open 16 = .ok (.iload_n 2, 1) := by decide +kernel
theorem dX5_open_17 : decode cX5_open 17 = .ok (.iaload, 1) := by decide +kernel
theorem dX5_open_18 : decode cX5_open 18 = .ok (.iconst 2, 1) := by decide +kernel
theorem dX5_open_19 : decode cX5_open 19 = .ok (.if_icmp .ne 7, 3) := by decide +kernel
theorem dX5_open_22 : decode cX5_open 22 = .ok (.iload_n 1, 1) := by decide +kernel
theorem dX5_open_23 : decode cX5_open 23 = .ok (.goto 8, 3) := by decide +kernel
theorem dX5_open_26 : decode cX5_open 26 = .ok (.iload_n 1, 1) := by decide +kernel
theorem dX5_open_27 : decode cX5_open 27 = .ok (.iconst 1, 1) := by decide +kernel
theorem dX5_open_28 : decode cX5_open 28 = .ok (.iload_n 2, 1) := by decide +kernel
theorem dX5_open_29 : decode cX5_open 29 = .ok (.ishl, 1) := by decide +kernel
theorem dX5_open_30 : decode cX5_open 30 = .ok (.ior, 1) := by decide +kernel
theorem dX5_open_31 : decode cX5_open 31 = .ok (.istore_n 1, 1) := by decide +kernel
theorem dX5_open_32 : decode cX5_open 32 = .ok (.iinc 2 1, 3) := by decide +kernel
theorem dX5_open_35 : decode cX5_open 35 = .ok (.goto (-31), 3) := by decide +kernel
theorem dX5_open_38 : decode cX5_open 38 = .ok (.iload_n 1, 1) := by decide +kernel
theorem dX5_open_39 : decode cX5_open 39 = .ok (.ireturn, 1) := by decide +kernel
theorem dX5_amount_0 : decode cX5_amount 0 = .ok (.lconst 0, 1) := by decide +kernel
theorem dX5_amount_1 : decode cX5_amount 1 = .ok (.lstore_n 3, 1) := by decide +kernel
theorem dX5_amount_2 : decode cX5_amount 2 = .ok (.iconst 0, 1) := by decide +kernel
theorem dX5_amount_3 : decode cX5_amount 3 = .ok (.istore 5, 2) := by decide +kernel
theorem dX5_amount_5 : decode cX5_amount 5 = .ok (.iload 5, 2) := by decide +kernel
theorem dX5_amount_7 : decode cX5_amount 7 = .ok (.aload_n 0, 1) := by decide +kernel
theorem dX5_amount_8 : decode cX5_amount 8 = .ok (.getfield 49, 3) := by decide +kernel
theorem dX5_amount_11 : decode cX5_amount 11 = .ok (.if_icmp .ge 37, 3) := by decide +kernel
theorem dX5_amount_14 : decode cX5_amount 14 = .ok (.lload_n 3, 1) := by decide +kernel
theorem dX5_amount_15 : decode cX5_amount 15 = .ok (.iload_n 2, 1) := by decide +kernel
theorem dX5_amount_16 : decode cX5_amount 16 = .ok (.iload 5, 2) := by decide +kernel
theorem dX5_amount_18 : decode cX5_amount 18 = .ok (.invokestatic 95, 3) := by decide +kernel
theorem dX5_amount_21 : decode cX5_amount 21 = .ok (.ifCond .eq 18, 3) := by decide +kernel
theorem dX5_amount_24 : decode cX5_amount 24 = .ok (.aload_n 0, 1) := by decide +kernel
theorem dX5_amount_25 : decode cX5_amount 25 = .ok (.getfield 17, 3) := by decide +kernel
theorem dX5_amount_28 : decode cX5_amount 28 = .ok (.bipush 24, 2) := by decide +kernel
theorem dX5_amount_30 : decode cX5_amount 30 = .ok (.iload_n 1, 1) := by decide +kernel
theorem dX5_amount_31 : decode cX5_amount 31 = .ok (.imul, 1) := by decide +kernel
theorem dX5_amount_32 : decode cX5_amount 32 = .ok (.iload 5, 2) := by decide +kernel
theorem dX5_amount_34 : decode cX5_amount 34 = .ok (.iadd, 1) := by decide +kernel
theorem dX5_amount_35 : decode cX5_amount 35 = .ok (.laload, 1) := by decide +kernel
theorem dX5_amount_36 : decode cX5_amount 36 = .ok (.goto 4, 3) := by decide +kernel
theorem dX5_amount_39 : decode cX5_amount 39 = .ok (.lconst 0, 1) := by decide +kernel
theorem dX5_amount_40 : decode cX5_amount 40 = .ok (.ladd, 1) := by decide +kernel
theorem dX5_amount_41 : decode cX5_amount 41 = .ok (.lstore_n 3, 1) := by decide +kernel
theorem dX5_amount_42 : decode cX5_amount 42 = .ok (.iinc 5 1, 3) := by decide +kernel
theorem dX5_amount_45 : decode cX5_amount 45 = .ok (.goto (-40), 3) := by decide +kernel
theorem dX5_amount_48 : decode cX5_amount 48 = .ok (.lload_n 3, 1) := by decide +kernel
theorem dX5_amount_49 : decode cX5_amount 49 = .ok (.lreturn, 1) := by decide +kernel
theorem dX5_hoursIn_0 : decode cX5_hoursIn 0 = .ok (.lconst 0, 1) := by decide +kernel
theorem dX5_hoursIn_1 : decode cX5_hoursIn 1 = .ok (.lstore_n 3, 1) := by decide +kernel
theorem dX5_hoursIn_2 : decode cX5_hoursIn 2 = .ok (.iconst 0, 1) := by decide +kernel
theorem dX5_hoursIn_3 : decode cX5_hoursIn 3 = .ok (.istore 5, 2) := by decide +kernel
theorem dX5_hoursIn_5 : decode cX5_hoursIn 5 = .ok (.iload 5, 2) := by decide +kernel
theorem dX5_hoursIn_7 : decode cX5_hoursIn 7 = .ok (.aload_n 0, 1) := by decide +kernel
theorem dX5_hoursIn_8 : decode cX5_hoursIn 8 = .ok (.getfield 49, 3) := by decide +kernel
theorem dX5_hoursIn_11 : decode cX5_hoursIn 11 = .ok (.if_icmp .ge 37, 3) := by decide +kernel
theorem dX5_hoursIn_14 : decode cX5_hoursIn 14 = .ok (.lload_n 3, 1) := by decide +kernel
theorem dX5_hoursIn_15 : decode cX5_hoursIn 15 = .ok (.iload_n 2, 1) := by decide +kernel
theorem dX5_hoursIn_16 : decode cX5_hoursIn 16 = .ok (.iload 5, 2) := by decide +kernel
theorem dX5_hoursIn_18 : decode cX5_hoursIn 18 = .ok (.invokestatic 95, 3) := by decide +kernel
theorem dX5_hoursIn_21 : decode cX5_hoursIn 21 = .ok (.ifCond .eq 18, 3) := by decide +kernel
theorem dX5_hoursIn_24 : decode cX5_hoursIn 24 = .ok (.aload_n 0, 1) := by decide +kernel
theorem dX5_hoursIn_25 : decode cX5_hoursIn 25 = .ok (.getfield 20, 3) := by decide +kernel
theorem dX5_hoursIn_28 : decode cX5_hoursIn 28 = .ok (.bipush 24, 2) := by decide +kernel
theorem dX5_hoursIn_30 : decode cX5_hoursIn 30 = .ok (.iload_n 1, 1) := by decide +kernel
theorem dX5_hoursIn_31 : decode cX5_hoursIn 31 = .ok (.imul, 1) := by decide +kernel
theorem dX5_hoursIn_32 : decode cX5_hoursIn 32 = .ok (.iload 5, 2) := by decide +kernel
theorem dX5_hoursIn_34 : decode cX5_hoursIn 34 = .ok (.iadd, 1) := by decide +kernel
theorem dX5_hoursIn_35 : decode cX5_hoursIn 35 = .ok (.laload, 1) := by decide +kernel
theorem dX5_hoursIn_36 : decode cX5_hoursIn 36 = .ok (.goto 4, 3) := by decide +kernel
theorem dX5_hoursIn_39 : decode cX5_hoursIn 39 = .ok (.lconst 0, 1) := by decide +kernel
theorem dX5_hoursIn_40 : decode cX5_hoursIn 40 = .ok (.ladd, 1) := by decide +kernel
theorem dX5_hoursIn_41 : decode cX5_hoursIn 41 = .ok (.lstore_n 3, 1) := by decide +kernel
theorem dX5_hoursIn_42 : decode cX5_hoursIn 42 = .ok (.iinc 5 1, 3) := by decide +kernel
theorem dX5_hoursIn_45 : decode cX5_hoursIn 45 = .ok (.goto (-40), 3) := by decide +kernel
theorem dX5_hoursIn_48 : decode cX5_hoursIn 48 = .ok (.lload_n 3, 1) := by decide +kernel
theorem dX5_hoursIn_49 : decode cX5_hoursIn 49 = .ok (.lreturn, 1) := by decide +kernel
theorem dX5_meets_0 : decode cX5_meets 0 = .ok (.aload_n 0, 1) := by decide +kernel
theorem dX5_meets_1 : decode cX5_meets 1 = .ok (.getfield 30, 3) := by decide +kernel
theorem dX5_meets_4 : decode cX5_meets 4 = .ok (.iload_n 1, 1) := by decide +kernel
theorem dX5_meets_5 : decode cX5_meets 5 = .ok (.baload, 1) := by decide +kernel
theorem dX5_meets_6 : decode cX5_meets 6 = .ok (.ifCond .eq 36, 3) := by decide +kernel
theorem dX5_meets_9 : decode cX5_meets 9 = .ok (.aload_n 0, 1) := by decide +kernel
theorem dX5_meets_10 : decode cX5_meets 10 = .ok (.iload_n 1, 1) := by decide +kernel
theorem dX5_meets_11 : decode cX5_meets 11 = .ok (.iload_n 2, 1) := by decide +kernel
theorem dX5_meets_12 : decode cX5_meets 12 = .ok (.invokevirtual 99, 3) := by decide +kernel
theorem dX5_meets_15 : decode cX5_meets 15 = .ok (.aload_n 0, 1) := by decide +kernel
theorem dX5_meets_16 : decode cX5_meets 16 = .ok (.getfield 36, 3) := by decide +kernel
theorem dX5_meets_19 : decode cX5_meets 19 = .ok (.iload_n 1, 1) := by decide +kernel
theorem dX5_meets_20 : decode cX5_meets 20 = .ok (.laload, 1) := by decide +kernel
theorem dX5_meets_21 : decode cX5_meets 21 = .ok (.lmul, 1) := by decide +kernel
theorem dX5_meets_22 : decode cX5_meets 22 = .ok (.aload_n 0, 1) := by decide +kernel
theorem dX5_meets_23 : decode cX5_meets 23 = .ok (.iload_n 1, 1) := by decide +kernel
theorem dX5_meets_24 : decode cX5_meets 24 = .ok (.aload_n 0, 1) := by decide +kernel
theorem dX5_meets_25 : decode cX5_meets 25 = .ok (.invokevirtual 103, 3) := by decide +kernel
theorem dX5_meets_28 : decode cX5_meets 28 = .ok (.invokevirtual 99, 3) := by decide +kernel
theorem dX5_meets_31 : decode cX5_meets 31 = .ok (.aload_n 0, 1) := by decide +kernel
theorem dX5_meets_32 : decode cX5_meets 32 = .ok (.getfield 33, 3) := by decide +kernel
theorem dX5_meets_35 : decode cX5_meets 35 = .ok (.iload_n 1, 1) := by decide +kernel
theorem dX5_meets_36 : decode cX5_meets 36 = .ok (.laload, 1) := by decide +kernel
theorem dX5_meets_37 : decode cX5_meets 37 = .ok (.lmul, 1) := by decide +kernel
theorem dX5_meets_38 : decode cX5_meets 38 = .ok (.lcmp, 1) := by decide +kernel
theorem dX5_meets_39 : decode cX5_meets 39 = .ok (.ifCond .lt 7, 3) := by decide +kernel
theorem dX5_meets_42 : decode cX5_meets 42 = .ok (.iconst 1, 1) := by decide +kernel
theorem dX5_meets_43 : decode cX5_meets 43 = .ok (.goto 4, 3) := by decide +kernel
theorem dX5_meets_46 : decode cX5_meets 46 = .ok (.iconst 0, 1) := by decide +kernel
theorem dX5_meets_47 : decode cX5_meets 47 = .ok (.ireturn, 1) := by decide +kernel
theorem dX5_stands_0 : decode cX5_stands 0 = .ok (.iconst 0, 1) := by decide +kernel
theorem dX5_stands_1 : decode cX5_stands 1 = .ok (.istore_n 2, 1) := by decide +kernel
theorem dX5_stands_2 : decode cX5_stands 2 = .ok (.iload_n 2, 1) := by decide +kernel
theorem dX5_stands_3 : decode cX5_stands 3 = .ok (.aload_n 0, 1) := by decide +kernel
theorem dX5_stands_4 : decode cX5_stands 4 = .ok (.getfield 49, 3) := by decide +kernel
theorem dX5_stands_7 : decode cX5_stands 7 = .ok (.if_icmp .ge 92, 3) := by decide +kernel
theorem dX5_stands_10 : decode cX5_stands 10 = .ok (.aload_n 0, 1) := by decide +kernel
theorem dX5_stands_11 : decode cX5_stands 11 = .ok (.getfield 13, 3) := by decide +kernel
theorem dX5_stands_14 : decode cX5_stands 14 = .ok (.iload_n 2, 1) := by decide +kernel
theorem dX5_stands_15 : decode cX5_stands 15 = .ok (.iaload, 1) := by decide +kernel
theorem dX5_stands_16 : decode cX5_stands 16 = .ok (.iconst 1, 1) := by decide +kernel
theorem dX5_stands_17 : decode cX5_stands 17 = .ok (.if_icmp .ne 11, 3) := by decide +kernel
theorem dX5_stands_20 : decode cX5_stands 20 = .ok (.iload_n 1, 1) := by decide +kernel
theorem dX5_stands_21 : decode cX5_stands 21 = .ok (.iload_n 2, 1) := by decide +kernel
theorem dX5_stands_22 : decode cX5_stands 22 = .ok (.invokestatic 95, 3) := by decide +kernel
theorem dX5_stands_25 : decode cX5_stands 25 = .ok (.ifCond .eq 21, 3) := by decide +kernel
theorem dX5_stands_28 : decode cX5_stands 28 = .ok (.aload_n 0, 1) := by decide +kernel
theorem dX5_stands_29 : decode cX5_stands 29 = .ok (.getfield 13, 3) := by decide +kernel
theorem dX5_stands_32 : decode cX5_stands 32 = .ok (.iload_n 2, 1) := by decide +kernel
theorem dX5_stands_33 : decode cX5_stands 33 = .ok (.iaload, 1) := by decide +kernel
theorem dX5_stands_34 : decode cX5_stands 34 = .ok (.iconst 2, 1) := by decide +kernel
theorem dX5_stands_35 : decode cX5_stands 35 = .ok (.if_icmp .ne 13, 3) := by decide +kernel
theorem dX5_stands_38 : decode cX5_stands 38 = .ok (.iload_n 1, 1) := by decide +kernel
theorem dX5_stands_39 : decode cX5_stands 39 = .ok (.iload_n 2, 1) := by decide +kernel
theorem dX5_stands_40 : decode cX5_stands 40 = .ok (.invokestatic 95, 3) := by decide +kernel
theorem dX5_stands_43 : decode cX5_stands 43 = .ok (.ifCond .eq 5, 3) := by decide +kernel
theorem dX5_stands_46 : decode cX5_stands 46 = .ok (.iconst 0, 1) := by decide +kernel
theorem dX5_stands_47 : decode cX5_stands 47 = .ok (.ireturn, 1) := by decide +kernel
theorem dX5_stands_48 : decode cX5_stands 48 = .ok (.iconst 0, 1) := by decide +kernel
theorem dX5_stands_49 : decode cX5_stands 49 = .ok (.istore_n 3, 1) := by decide +kernel
theorem dX5_stands_50 : decode cX5_stands 50 = .ok (.iload_n 3, 1) := by decide +kernel
theorem dX5_stands_51 : decode cX5_stands 51 = .ok (.iload_n 2, 1) := by decide +kernel
theorem dX5_stands_52 : decode cX5_stands 52 = .ok (.if_icmp .ge 41, 3) := by decide +kernel
theorem dX5_stands_55 : decode cX5_stands 55 = .ok (.iload_n 1, 1) := by decide +kernel
theorem dX5_stands_56 : decode cX5_stands 56 = .ok (.iload_n 2, 1) := by decide +kernel
theorem dX5_stands_57 : decode cX5_stands 57 = .ok (.invokestatic 95, 3) := by decide +kernel
theorem dX5_stands_60 : decode cX5_stands 60 = .ok (.ifCond .eq 33, 3) := by decide +kernel
theorem dX5_stands_63 : decode cX5_stands 63 = .ok (.iload_n 1, 1) := by decide +kernel
theorem dX5_stands_64 : decode cX5_stands 64 = .ok (.iload_n 3, 1) := by decide +kernel
theorem dX5_stands_65 : decode cX5_stands 65 = .ok (.invokestatic 95, 3) := by decide +kernel
theorem dX5_stands_68 : decode cX5_stands 68 = .ok (.ifCond .eq 19, 3) := by decide +kernel
theorem dX5_stands_71 : decode cX5_stands 71 = .ok (.aload_n 0, 1) := by decide +kernel
theorem dX5_stands_72 : decode cX5_stands 72 = .ok (.getfield 26, 3) := by decide +kernel
theorem dX5_stands_75 : decode cX5_stands 75 = .ok (.bipush 24, 2) := by decide +kernel
theorem dX5_stands_77 : decode cX5_stands 77 = .ok (.iload_n 2, 1) := by decide +kernel
theorem dX5_stands_78 : decode cX5_stands 78 = .ok (.imul, 1) := by decide +kernel
theorem dX5_stands_79 : decode cX5_stands 79 = .ok (.iload_n 3, 1) := by decide +kernel
theorem dX5_stands_80 : decode cX5_stands 80 = .ok (.iadd, 1) := by decide +kernel
theorem dX5_stands_81 : decode cX5_stands 81 = .ok (.baload, 1) := by decide +kernel
theorem dX5_stands_82 : decode cX5_stands 82 = .ok (.ifCond .eq 5, 3) := by decide +kernel
theorem dX5_stands_85 : decode cX5_stands 85 = .ok (.iconst 0, 1) := by decide +kernel
theorem dX5_stands_86 : decode cX5_stands 86 = .ok (.ireturn, 1) := by decide +kernel
theorem dX5_stands_87 : decode cX5_stands 87 = .ok (.iinc 3 1, 3) := by decide +kernel
theorem dX5_stands_90 : decode cX5_stands 90 = .ok (.goto (-40), 3) := by decide +kernel
theorem dX5_stands_93 : decode cX5_stands 93 = .ok (.iinc 2 1, 3) := by decide +kernel
theorem dX5_stands_96 : decode cX5_stands 96 = .ok (.goto (-94), 3) := by decide +kernel
theorem dX5_stands_99 : decode cX5_stands 99 = .ok (.aload_n 0, 1) := by decide +kernel
theorem dX5_stands_100 : decode cX5_stands 100 = .ok (.iload_n 1, 1) := by decide +kernel
theorem dX5_stands_101 : decode cX5_stands 101 = .ok (.invokevirtual 107, 3) := by decide +kernel
theorem dX5_stands_104 : decode cX5_stands 104 = .ok (.aload_n 0, 1) := by decide +kernel
theorem dX5_stands_105 : decode cX5_stands 105 = .ok (.getfield 90, 3) := by decide +kernel
theorem dX5_stands_108 : decode cX5_stands 108 = .ok (.if_icmp .ge 5, 3) := by decide +kernel
theorem dX5_stands_111 : decode cX5_stands 111 = .ok (.iconst 0, 1) := by decide +kernel
theorem dX5_stands_112 : decode cX5_stands 112 = .ok (.ireturn, 1) := by decide +kernel
theorem dX5_stands_113 : decode cX5_stands 113 = .ok (.iconst 0, 1) := by decide +kernel
theorem dX5_stands_114 : decode cX5_stands 114 = .ok (.istore_n 2, 1) := by decide +kernel
theorem dX5_stands_115 : decode cX5_stands 115 = .ok (.iload_n 2, 1) := by decide +kernel
theorem dX5_stands_116 : decode cX5_stands 116 = .ok (.bipush 8, 2) := by decide +kernel
theorem dX5_stands_118 : decode cX5_stands 118 = .ok (.if_icmp .ge 20, 3) := by decide +kernel
theorem dX5_stands_121 : decode cX5_stands 121 = .ok (.aload_n 0, 1) := by decide +kernel
theorem dX5_stands_122 : decode cX5_stands 122 = .ok (.iload_n 2, 1) := by decide +kernel
theorem dX5_stands_123 : decode cX5_stands 123 = .ok (.iload_n 1, 1) := by decide +kernel
theorem dX5_stands_124 : decode cX5_stands 124 = .ok (.invokevirtual 111, 3) := by decide +kernel
theorem dX5_stands_127 : decode cX5_stands 127 = .ok (.ifCond .ne 5, 3) := by decide +kernel
theorem dX5_stands_130 : decode cX5_stands 130 = .ok (.iconst 0, 1) := by decide +kernel
theorem dX5_stands_131 : decode cX5_stands 131 = .ok (.ireturn, 1) := by decide +kernel
theorem dX5_stands_132 : decode cX5_stands 132 = .ok (.iinc 2 1, 3) := by decide +kernel
theorem dX5_stands_135 : decode cX5_stands 135 = .ok (.goto (-20), 3) := by decide +kernel
theorem dX5_stands_138 : decode cX5_stands 138 = .ok (.iconst 0, 1) := by decide +kernel
theorem dX5_stands_139 : decode cX5_stands 139 = .ok (.istore_n 2, 1) := by decide +kernel
theorem dX5_stands_140 : decode cX5_stands 140 = .ok (.iload_n 2, 1) := by decide +kernel
theorem dX5_stands_141 : decode cX5_stands 141 = .ok (.iconst 4, 1) := by decide +kernel
theorem dX5_stands_142 : decode cX5_stands 142 = .ok (.if_icmp .ge 47, 3) := by decide +kernel
theorem dX5_stands_145 : decode cX5_stands 145 = .ok (.aload_n 0, 1) := by decide +kernel
theorem dX5_stands_146 : decode cX5_stands 146 = .ok (.getfield 80, 3) := by decide +kernel
theorem dX5_stands_149 : decode cX5_stands 149 = .ok (.ifCond .eq 40, 3) := by decide +kernel
theorem dX5_stands_152 : decode cX5_stands 152 = .ok (.aload_n 0, 1) := by decide +kernel
theorem dX5_stands_153 : decode cX5_stands 153 = .ok (.iload_n 2, 1) := by decide +kernel
theorem dX5_stands_154 : decode cX5_stands 154 = .ok (.iload_n 1, 1) := by decide +kernel
theorem dX5_stands_155 : decode cX5_stands 155 = .ok (.invokevirtual 114, 3) := by decide +kernel
theorem dX5_stands_158 : decode cX5_stands 158 = .ok (.aload_n 0, 1) := by decide +kernel
theorem dX5_stands_159 : decode cX5_stands 159 = .ok (.getfield 87, 3) := by decide +kernel
theorem dX5_stands_162 : decode cX5_stands 162 = .ok (.lmul, 1) := by decide +kernel
theorem dX5_stands_163 : decode cX5_stands 163 = .ok (.aload_n 0, 1) := by decide +kernel
theorem dX5_stands_164 : decode cX5_stands 164 = .ok (.iload_n 2, 1) := by decide +kernel
theorem dX5_stands_165 : decode cX5_stands 165 = .ok (.aload_n 0, 1) := by decide +kernel
theorem dX5_stands_166 : decode cX5_stands 166 = .ok (.invokevirtual 103, 3) := by decide +kernel
theorem dX5_stands_169 : decode cX5_stands 169 = .ok (.invokevirtual 114, 3) := by decide +kernel
theorem dX5_stands_172 : decode cX5_stands 172 = .ok (.aload_n 0, 1) := by decide +kernel
theorem dX5_stands_173 : decode cX5_stands 173 = .ok (.getfield 84, 3) := by decide +kernel
theorem dX5_stands_176 : decode cX5_stands 176 = .ok (.lmul, 1) := by decide +kernel
theorem dX5_stands_177 : decode cX5_stands 177 = .ok (.lcmp, 1) := by decide +kernel
theorem dX5_stands_178 : decode cX5_stands 178 = .ok (.ifCond .le 5, 3) := by decide +kernel
theorem dX5_stands_181 : decode cX5_stands 181 = .ok (.iconst 0, 1) := by decide +kernel
theorem dX5_stands_182 : decode cX5_stands 182 = .ok (.ireturn, 1) := by decide +kernel
theorem dX5_stands_183 : decode cX5_stands 183 = .ok (.iinc 2 1, 3) := by decide +kernel
theorem dX5_stands_186 : decode cX5_stands 186 = .ok (.goto (-46), 3) := by decide +kernel
theorem dX5_stands_189 : decode cX5_stands 189 = .ok (.iconst 1, 1) := by decide +kernel
theorem dX5_stands_190 : decode cX5_stands 190 = .ok (.ireturn, 1) := by decide +kernel
theorem dX5_borderOf_0 : decode cX5_borderOf 0 = .ok (.lconst 0, 1) := by decide +kernel
theorem dX5_borderOf_1 : decode cX5_borderOf 1 = .ok (.lstore_n 2, 1) := by decide +kernel
theorem dX5_borderOf_2 : decode cX5_borderOf 2 = .ok (.iconst 0, 1) := by decide +kernel
theorem dX5_borderOf_3 : decode cX5_borderOf 3 = .ok (.istore 4, 2) := by decide +kernel
theorem dX5_borderOf_5 : decode cX5_borderOf 5 = .ok (.iload 4, 2) := by decide +kernel
theorem dX5_borderOf_7 : decode cX5_borderOf 7 = .ok (.aload_n 0, 1) := by decide +kernel
theorem dX5_borderOf_8 : decode cX5_borderOf 8 = .ok (.getfield 49, 3) := by decide +kernel
theorem dX5_borderOf_11 : decode cX5_borderOf 11 = .ok (.if_icmp .ge 65, 3) := by decide +kernel
theorem dX5_borderOf_14 : decode cX5_borderOf 14 = .ok (.iconst 0, 1) := by decide +kernel
theorem dX5_borderOf_15 : decode cX5_borderOf 15 = .ok (.istore 5, 2) := by decide +kernel
theorem dX5_borderOf_17 : decode cX5_borderOf 17 = .ok (.iload 5, 2) := by decide +kernel
theorem dX5_borderOf_19 : decode cX5_borderOf 19 = .ok (.aload_n 0, 1) := by decide +kernel
theorem dX5_borderOf_20 : decode cX5_borderOf 20 = .ok (.getfield 49, 3) := by decide +kernel
theorem dX5_borderOf_23 : decode cX5_borderOf 23 = .ok (.if_icmp .ge 47, 3) := by decide +kernel
theorem dX5_borderOf_26 : decode cX5_borderOf 26 = .ok (.iload_n 1, 1) := by decide +kernel
theorem dX5_borderOf_27 : decode cX5_borderOf 27 = .ok (.iload 4, 2) := by decide +kernel
theorem dX5_borderOf_29 : decode cX5_borderOf 29 = .ok (.invokestatic 95, 3) := by decide +kernel
theorem dX5_borderOf_32 : decode cX5_borderOf 32 = .ok (.ifCond .eq 38, 3) := by decide +kernel
theorem dX5_borderOf_35 : decode cX5_borderOf 35 = .ok (.lload_n 2, 1) := by decide +kernel
theorem dX5_borderOf_36 : decode cX5_borderOf 36 = .ok (.iload_n 1, 1) := by decide +kernel
theorem dX5_borderOf_37 : decode cX5_borderOf 37 = .ok (.iload 5, 2) := by decide +kernel
theorem dX5_borderOf_39 : decode cX5_borderOf 39 = .ok (.invokestatic 95, 3) := by decide +kernel
theorem dX5_borderOf_42 : decode cX5_borderOf 42 = .ok (.ifCond .eq 7, 3) := by decide +kernel
theorem dX5_borderOf_45 : decode cX5_borderOf 45 = .ok (.lconst 0, 1) := by decide +kernel
theorem dX5_borderOf_46 : decode cX5_borderOf 46 = .ok (.goto 16, 3) := by decide +kernel
theorem dX5_borderOf_49 : decode cX5_borderOf 49 = .ok (.aload_n 0, 1) := by decide +kernel
theorem dX5_borderOf_50 : decode cX5_borderOf 50 = .ok (.getfield 23, 3) := by decide +kernel
theorem dX5_borderOf_53 : decode cX5_borderOf 53 = .ok (.bipush 24, 2) := by decide +kernel
theorem dX5_borderOf_55 : decode cX5_borderOf 55 = .ok (.iload 4, 2) := by decide +kernel
theorem dX5_borderOf_57 : decode cX5_borderOf 57 = .ok (.imul, 1) := by decide +kernel
theorem dX5_borderOf_58 : decode cX5_borderOf 58 = .ok (.iload 5, 2) := by decide +kernel
theorem dX5_borderOf_60 : decode cX5_borderOf 60 = .ok (.iadd, 1) := by decide +kernel
theorem dX5_borderOf_61 : decode cX5_borderOf 61 = .ok (.laload, 1) := by decide +kernel
theorem dX5_borderOf_62 : decode cX5_borderOf 62 = .ok (.ladd, 1) := by decide +kernel
theorem dX5_borderOf_63 : decode cX5_borderOf 63 = .ok (.lstore_n 2, 1) := by decide +kernel
theorem dX5_borderOf_64 : decode cX5_borderOf 64 = .ok (.iinc 5 1, 3) := by decide +kernel
theorem dX5_borderOf_67 : decode cX5_borderOf 67 = .ok (.goto (-50), 3) := by decide +kernel
theorem dX5_borderOf_70 : decode cX5_borderOf 70 = .ok (.iinc 4 1, 3) := by decide +kernel
theorem dX5_borderOf_73 : decode cX5_borderOf 73 = .ok (.goto (-68), 3) := by decide +kernel
theorem dX5_borderOf_76 : decode cX5_borderOf 76 = .ok (.lload_n 2, 1) := by decide +kernel
theorem dX5_borderOf_77 : decode cX5_borderOf 77 = .ok (.lreturn, 1) := by decide +kernel
theorem dX5_costOf_0 : decode cX5_costOf 0 = .ok (.aload_n 0, 1) := by decide +kernel
theorem dX5_costOf_1 : decode cX5_costOf 1 = .ok (.getfield 74, 3) := by decide +kernel
theorem dX5_costOf_4 : decode cX5_costOf 4 = .ok (.aload_n 0, 1) := by decide +kernel
theorem dX5_costOf_5 : decode cX5_costOf 5 = .ok (.iload_n 1, 1) := by decide +kernel
theorem dX5_costOf_6 : decode cX5_costOf 6 = .ok (.invokevirtual 117, 3) := by decide +kernel
theorem dX5_costOf_9 : decode cX5_costOf 9 = .ok (.lmul, 1) := by decide +kernel
theorem dX5_costOf_10 : decode cX5_costOf 10 = .ok (.lstore_n 2, 1) := by decide +kernel
theorem dX5_costOf_11 : decode cX5_costOf 11 = .ok (.iconst 0, 1) := by decide +kernel
theorem dX5_costOf_12 : decode cX5_costOf 12 = .ok (.istore 4, 2) := by decide +kernel
theorem dX5_costOf_14 : decode cX5_costOf 14 = .ok (.iload 4, 2) := by decide +kernel
theorem dX5_costOf_16 : decode cX5_costOf 16 = .ok (.aload_n 0, 1) := by decide +kernel
theorem dX5_costOf_17 : decode cX5_costOf 17 = .ok (.getfield 49, 3) := by decide +kernel
theorem dX5_costOf_20 : decode cX5_costOf 20 = .ok (.if_icmp .ge 32, 3) := by decide +kernel
theorem dX5_costOf_23 : decode cX5_costOf 23 = .ok (.lload_n 2, 1) := by decide +kernel
theorem dX5_costOf_24 : decode cX5_costOf 24 = .ok (.iload_n 1, 1) := by decide +kernel
theorem dX5_costOf_25 : decode cX5_costOf 25 = .ok (.iload 4, 2) := by decide +kernel
theorem dX5_costOf_27 : decode cX5_costOf 27 = .ok (.invokestatic 95, 3) := by decide +kernel
theorem dX5_costOf_30 : decode cX5_costOf 30 = .ok (.ifCond .eq 13, 3) := by decide +kernel
theorem dX5_costOf_33 : decode cX5_costOf 33 = .ok (.aload_n 0, 1) := by decide +kernel
theorem dX5_costOf_34 : decode cX5_costOf 34 = .ok (.getfield 7, 3) := by decide +kernel
theorem dX5_costOf_37 : decode cX5_costOf 37 = .ok (.iload 4, 2) := by decide +kernel
theorem dX5_costOf_39 : decode cX5_costOf 39 = .ok (.laload, 1) := by decide +kernel
theorem dX5_costOf_40 : decode cX5_costOf 40 = .ok (.goto 4, 3) := by decide +kernel
theorem dX5_costOf_43 : decode cX5_costOf 43 = .ok (.lconst 0, 1) := by decide +kernel
theorem dX5_costOf_44 : decode cX5_costOf 44 = .ok (.ladd, 1) := by decide +kernel
theorem dX5_costOf_45 : decode cX5_costOf 45 = .ok (.lstore_n 2, 1) := by decide +kernel
theorem dX5_costOf_46 : decode cX5_costOf 46 = .ok (.iinc 4 1, 3) := by decide +kernel
theorem dX5_costOf_49 : decode cX5_costOf 49 = .ok (.goto (-35), 3) := by decide +kernel
theorem dX5_costOf_52 : decode cX5_costOf 52 = .ok (.lload_n 2, 1) := by decide +kernel
theorem dX5_costOf_53 : decode cX5_costOf 53 = .ok (.lreturn, 1) := by decide +kernel
theorem dX5_isBefore_0 : decode cX5_isBefore 0 = .ok (.aload_n 0, 1) := by decide +kernel
theorem dX5_isBefore_1 : decode cX5_isBefore 1 = .ok (.iload_n 1, 1) := by decide +kernel
theorem dX5_isBefore_2 : decode cX5_isBefore 2 = .ok (.invokevirtual 107, 3) := by decide +kernel
theorem dX5_isBefore_5 : decode cX5_isBefore 5 = .ok (.istore_n 3, 1) := by decide +kernel
theorem dX5_isBefore_6 : decode cX5_isBefore 6 = .ok (.aload_n 0, 1) := by decide +kernel
theorem dX5_isBefore_7 : decode cX5_isBefore 7 = .ok (.iload_n 2, 1) := by decide +kernel
theorem dX5_isBefore_8 : decode cX5_isBefore 8 = .ok (.invokevirtual 107, 3) := by decide +kernel
theorem dX5_isBefore_11 : decode cX5_isBefore 11 = .ok (.istore 4, 2) := by decide +kernel
theorem dX5_isBefore_13 : decode cX5_isBefore 13 = .ok (.iload_n 3, 1) := by decide +kernel
theorem dX5_isBefore_14 : decode cX5_isBefore 14 = .ok (.iload 4, 2) := by decide +kernel
theorem dX5_isBefore_16 : decode cX5_isBefore 16 = .ok (.if_icmp .eq 15, 3) := by decide +kernel
theorem dX5_isBefore_19 : decode cX5_isBefore 19 = .ok (.iload_n 3, 1) := by decide +kernel
theorem dX5_isBefore_20 : decode cX5_isBefore 20 = .ok (.iload 4, 2) := by decide +kernel
theorem dX5_isBefore_22 : decode cX5_isBefore 22 = .ok (.if_icmp .ge 7, 3) := by decide +kernel
theorem dX5_isBefore_25 : decode cX5_isBefore 25 = .ok (.iconst 1, 1) := by decide +kernel
theorem dX5_isBefore_26 : decode cX5_isBefore 26 = .ok (.goto 4, 3) := by decide +kernel
theorem dX5_isBefore_29 : decode cX5_isBefore 29 = .ok (.iconst 0, 1) := by decide +kernel
theorem dX5_isBefore_30 : decode cX5_isBefore 30 = .ok (.ireturn, 1) := by decide +kernel
theorem dX5_isBefore_31 : decode cX5_isBefore 31 = .ok (.iload_n 1, 1) := by decide +kernel
theorem dX5_isBefore_32 : decode cX5_isBefore 32 = .ok (.iload_n 2, 1) := by decide +kernel
theorem dX5_isBefore_33 : decode cX5_isBefore 33 = .ok (.ixor, 1) := by decide +kernel
theorem dX5_isBefore_34 : decode cX5_isBefore 34 = .ok (.istore 5, 2) := by decide +kernel
theorem dX5_isBefore_36 : decode cX5_isBefore 36 = .ok (.iload_n 1, 1) := by decide +kernel
theorem dX5_isBefore_37 : decode cX5_isBefore 37 = .ok (.iload 5, 2) := by decide +kernel
theorem dX5_isBefore_39 : decode cX5_isBefore 39 = .ok (.iand, 1) := by decide +kernel
theorem dX5_isBefore_40 : decode cX5_isBefore 40 = .ok (.iload 5, 2) := by decide +kernel
theorem dX5_isBefore_42 : decode cX5_isBefore 42 = .ok (.ineg, 1) := by decide +kernel
theorem dX5_isBefore_43 : decode cX5_isBefore 43 = .ok (.iand, 1) := by decide +kernel
theorem dX5_isBefore_44 : decode cX5_isBefore 44 = .ok (.ifCond .eq 7, 3) := by decide +kernel
theorem dX5_isBefore_47 : decode cX5_isBefore 47 = .ok (.iconst 1, 1) := by decide +kernel
theorem dX5_isBefore_48 : decode cX5_isBefore 48 = .ok (.goto 4, 3) := by decide +kernel
theorem dX5_isBefore_51 : decode cX5_isBefore 51 = .ok (.iconst 0, 1) := by decide +kernel
theorem dX5_isBefore_52 : decode cX5_isBefore 52 = .ok (.ireturn, 1) := by decide +kernel
theorem dX5_become_0 : decode cX5_become 0 = .ok (.aload_n 0, 1) := by decide +kernel
theorem dX5_become_1 : decode cX5_become 1 = .ok (.aload_n 0, 1) := by decide +kernel
theorem dX5_become_2 : decode cX5_become 2 = .ok (.getfield 121, 3) := by decide +kernel
theorem dX5_become_5 : decode cX5_become 5 = .ok (.ifCond .eq 10, 3) := by decide +kernel
theorem dX5_become_8 : decode cX5_become 8 = .ok (.aload_n 0, 1) := by decide +kernel
theorem dX5_become_9 : decode cX5_become 9 = .ok (.getfield 124, 3) := by decide +kernel
theorem dX5_become_12 : decode cX5_become 12 = .ok (.goto 4, 3) := by decide +kernel
theorem dX5_become_15 : decode cX5_become 15 = .ok (.iconst 0, 1) := by decide +kernel
theorem dX5_become_16 : decode cX5_become 16 = .ok (.putfield 127, 3) := by decide +kernel
theorem dX5_become_19 : decode cX5_become 19 = .ok (.aload_n 0, 1) := by decide +kernel
theorem dX5_become_20 : decode cX5_become 20 = .ok (.iload_n 1, 1) := by decide +kernel
theorem dX5_become_21 : decode cX5_become 21 = .ok (.putfield 121, 3) := by decide +kernel
theorem dX5_become_24 : decode cX5_become 24 = .ok (.aload_n 0, 1) := by decide +kernel
theorem dX5_become_25 : decode cX5_become 25 = .ok (.iload_n 2, 1) := by decide +kernel
theorem dX5_become_26 : decode cX5_become 26 = .ok (.putfield 124, 3) := by decide +kernel
theorem dX5_become_29 : decode cX5_become 29 = .ok (.aload_n 0, 1) := by decide +kernel
theorem dX5_become_30 : decode cX5_become 30 = .ok (.lload_n 3, 1) := by decide +kernel
theorem dX5_become_31 : decode cX5_become 31 = .ok (.putfield 130, 3) := by decide +kernel
theorem dX5_become_34 : decode cX5_become 34 = .ok (.return_, 1) := by decide +kernel
theorem dX5_run_0 : decode cX5_run 0 = .ok (.aload_n 0, 1) := by decide +kernel
theorem dX5_run_1 : decode cX5_run 1 = .ok (.iconst 1, 1) := by decide +kernel
theorem dX5_run_2 : decode cX5_run 2 = .ok (.putfield 133, 3) := by decide +kernel
theorem dX5_run_5 : decode cX5_run 5 = .ok (.aload_n 0, 1) := by decide +kernel
theorem dX5_run_6 : decode cX5_run 6 = .ok (.iconst 0, 1) := by decide +kernel
theorem dX5_run_7 : decode cX5_run 7 = .ok (.putfield 136, 3) := by decide +kernel
theorem dX5_run_10 : decode cX5_run 10 = .ok (.iconst 0, 1) := by decide +kernel
theorem dX5_run_11 : decode cX5_run 11 = .ok (.istore_n 3, 1) := by decide +kernel
theorem dX5_run_12 : decode cX5_run 12 = .ok (.iload_n 3, 1) := by decide +kernel
theorem dX5_run_13 : decode cX5_run 13 = .ok (.bipush 8, 2) := by decide +kernel
theorem dX5_run_15 : decode cX5_run 15 = .ok (.if_icmp .ge 40, 3) := by decide +kernel
theorem dX5_run_18 : decode cX5_run 18 = .ok (.aload_n 0, 1) := by decide +kernel
theorem dX5_run_19 : decode cX5_run 19 = .ok (.aload_n 0, 1) := by decide +kernel
theorem dX5_run_20 : decode cX5_run 20 = .ok (.iload_n 3, 1) := by decide +kernel
theorem dX5_run_21 : decode cX5_run 21 = .ok (.aload_n 0, 1) := by decide +kernel
theorem dX5_run_22 : decode cX5_run 22 = .ok (.invokevirtual 139, 3) := by decide +kernel
theorem dX5_run_25 : decode cX5_run 25 = .ok (.invokevirtual 111, 3) := by decide +kernel
theorem dX5_run_28 : decode cX5_run 28 = .ok (.ifCond .eq 10, 3) := by decide +kernel
theorem dX5_run_31 : decode cX5_run 31 = .ok (.aload_n 0, 1) := by decide +kernel
theorem dX5_run_32 : decode cX5_run 32 = .ok (.getfield 136, 3) := by decide +kernel
theorem dX5_run_35 : decode cX5_run 35 = .ok (.goto 11, 3) := by decide +kernel
theorem dX5_run_38 : decode cX5_run 38 = .ok (.aload_n 0, 1) := by decide +kernel
theorem dX5_run_39 : decode cX5_run 39 = .ok (.getfield 136, 3) := by decide +kernel
theorem dX5_run_42 : decode cX5_run 42 = .ok (.iconst 1, 1) := by decide +kernel
theorem dX5_run_43 : decode cX5_run 43 = .ok (.iload_n 3, 1) := by decide +kernel
theorem dX5_run_44 : decode cX5_run 44 = .ok (.ishl, 1) := by decide +kernel
theorem dX5_run_45 : decode cX5_run 45 = .ok (.ior, 1) := by decide +kernel
theorem dX5_run_46 : decode cX5_run 46 = .ok (.putfield 136, 3) := by decide +kernel
theorem dX5_run_49 : decode cX5_run 49 = .ok (.iinc 3 1, 3) := by decide +kernel
theorem dX5_run_52 : decode cX5_run 52 = .ok (.goto (-40), 3) := by decide +kernel
theorem dX5_run_55 : decode cX5_run 55 = .ok (.iconst 0, 1) := by decide +kernel
theorem dX5_run_56 : decode cX5_run 56 = .ok (.istore_n 3, 1) := by decide +kernel
theorem dX5_run_57 : decode cX5_run 57 = .ok (.iconst 0, 1) := by decide +kernel
theorem dX5_run_58 : decode cX5_run 58 = .ok (.istore 4, 2) := by decide +kernel
theorem dX5_run_60 : decode cX5_run 60 = .ok (.lconst 0, 1) := by decide +kernel
theorem dX5_run_61 : decode cX5_run 61 = .ok (.lstore 5, 2) := by decide +kernel
theorem dX5_run_63 : decode cX5_run 63 = .ok (.iconst 0, 1) := by decide +kernel
theorem dX5_run_64 : decode cX5_run 64 = .ok (.istore 7, 2) := by decide +kernel
theorem dX5_run_66 : decode cX5_run 66 = .ok (.iload 7, 2) := by decide +kernel
theorem dX5_run_68 : decode cX5_run 68 = .ok (.aload_n 0, 1) := by decide +kernel
theorem dX5_run_69 : decode cX5_run 69 = .ok (.getfield 49, 3) := by decide +kernel
theorem dX5_run_72 : decode cX5_run 72 = .ok (.if_icmp .ge 79, 3) := by decide +kernel
theorem dX5_run_75 : decode cX5_run 75 = .ok (.iload_n 3, 1) := by decide +kernel
theorem dX5_run_76 : decode cX5_run 76 = .ok (.aload_n 0, 1) := by decide +kernel
theorem dX5_run_77 : decode cX5_run 77 = .ok (.getfield 13, 3) := by decide +kernel
theorem dX5_run_80 : decode cX5_run 80 = .ok (.iload 7, 2) := by decide +kernel
theorem dX5_run_82 : decode cX5_run 82 = .ok (.iaload, 1) := by decide +kernel
theorem dX5_run_83 : decode cX5_run 83 = .ok (.ifCond .ne 7, 3) := by decide +kernel
theorem dX5_run_86 : decode cX5_run 86 = .ok (.iconst 1, 1) := by decide +kernel
theorem dX5_run_87 : decode cX5_run 87 = .ok (.goto 4, 3) := by decide +kernel
theorem dX5_run_90 : decode cX5_run 90 = .ok (.iconst 0, 1) := by decide +kernel
theorem dX5_run_91 : decode cX5_run 91 = .ok (.iadd, 1) := by decide +kernel
theorem dX5_run_92 : decode cX5_run 92 = .ok (.istore_n 3, 1) := by decide +kernel
theorem dX5_run_93 : decode cX5_run 93 = .ok (.aload_n 0, 1) := by decide +kernel
theorem dX5_run_94 : decode cX5_run 94 = .ok (.getfield 13, 3) := by decide +kernel
theorem dX5_run_97 : decode cX5_run 97 = .ok (.iload 7, 2) := by decide +kernel
theorem dX5_run_99 : decode cX5_run 99 = .ok (.iaload, 1) := by decide +kernel
theorem dX5_run_100 : decode cX5_run 100 = .ok (.iconst 1, 1) := by decide +kernel
theorem dX5_run_101 : decode cX5_run 101 = .ok (.if_icmp .ne 13, 3) := by decide +kernel
theorem dX5_run_104 : decode cX5_run 104 = .ok (.iload 4, 2) := by decide +kernel
theorem dX5_run_106 : decode cX5_run 106 = .ok (.iconst 1, 1) := by decide +kernel
theorem dX5_run_107 : decode cX5_run 107 = .ok (.iload 7, 2) := by decide +kernel
theorem dX5_run_109 : decode cX5_run 109 = .ok (.ishl, 1) := by decide +kernel
theorem dX5_run_110 : decode cX5_run 110 = .ok (.ior, 1) := by decide +kernel
theorem dX5_run_111 : decode cX5_run 111 = .ok (.goto 5, 3) := by decide +kernel
theorem dX5_run_114 : decode cX5_run 114 = .ok (.iload 4, 2) := by decide +kernel
theorem dX5_run_116 : decode cX5_run 116 = .ok (.istore 4, 2) := by decide +kernel
theorem dX5_run_118 : decode cX5_run 118 = .ok (.lload 5, 2) := by decide +kernel
theorem dX5_run_120 : decode cX5_run 120 = .ok (.aload_n 0, 1) := by decide +kernel
theorem dX5_run_121 : decode cX5_run 121 = .ok (.getfield 13, 3) := by decide +kernel
theorem dX5_run_124 : decode cX5_run 124 = .ok (.iload 7, 2) := by decide +kernel
theorem dX5_run_126 : decode cX5_run 126 = .ok (.iaload, 1) := by decide +kernel
theorem dX5_run_127 : decode cX5_run 127 = .ok (.iconst 1, 1) := by decide +kernel
theorem dX5_run_128 : decode cX5_run 128 = .ok (.if_icmp .ne 13, 3) := by decide +kernel
theorem dX5_run_131 : decode cX5_run 131 = .ok (.aload_n 0, 1) := by decide +kernel
theorem dX5_run_132 : decode cX5_run 132 = .ok (.getfield 7, 3) := by decide +kernel
theorem dX5_run_135 : decode cX5_run 135 = .ok (.iload 7, 2) := by decide +kernel
theorem dX5_run_137 : decode cX5_run 137 = .ok (.laload, 1) := by decide +kernel
theorem dX5_run_138 : decode cX5_run 138 = .ok (.goto 4, 3) := by decide +kernel
theorem dX5_run_141 : decode cX5_run 141 = .ok (.lconst 0, 1) := by decide +kernel
theorem dX5_run_142 : decode cX5_run 142 = .ok (.ladd, 1) := by decide +kernel
theorem dX5_run_143 : decode cX5_run 143 = .ok (.lstore 5, 2) := by decide +kernel
theorem dX5_run_145 : decode cX5_run 145 = .ok (.iinc 7 1, 3) := by decide +kernel
theorem dX5_run_148 : decode cX5_run 148 = .ok (.goto (-82), 3) := by decide +kernel
theorem dX5_run_151 : decode cX5_run 151 = .ok (.iload_n 3, 1) := by decide +kernel
theorem dX5_run_152 : decode cX5_run 152 = .ok (.bipush 12, 2) := by decide +kernel
theorem dX5_run_154 : decode cX5_run 154 = .ok (.if_icmp .gt 11, 3) := by decide +kernel
theorem dX5_run_157 : decode cX5_run 157 = .ok (.lconst 1, 1) := by decide +kernel
theorem dX5_run_158 : decode cX5_run 158 = .ok (.iload_n 3, 1) := by decide +kernel
theorem dX5_run_159 : decode cX5_run 159 = .ok (.lshl, 1) := by decide +kernel
theorem dX5_run_160 : decode cX5_run 160 = .ok (.lload_n 1, 1) := by decide +kernel
theorem dX5_run_161 : decode cX5_run 161 = .ok (.lcmp, 1) := by decide +kernel
theorem dX5_run_162 : decode cX5_run 162 = .ok (.ifCond .le 23, 3) := by decide +kernel
theorem dX5_run_165 : decode cX5_run 165 = .ok (.aload_n 0, 1) := by decide +kernel
theorem dX5_run_166 : decode cX5_run 166 = .ok (.iconst 0, 1) := by decide +kernel
theorem dX5_run_167 : decode cX5_run 167 = .ok (.iconst 0, 1) := by decide +kernel
theorem dX5_run_168 : decode cX5_run 168 = .ok (.lconst 0, 1) := by decide +kernel
theorem dX5_run_169 : decode cX5_run 169 = .ok (.invokevirtual 142, 3) := by decide +kernel
theorem dX5_run_172 : decode cX5_run 172 = .ok (.aload_n 0, 1) := by decide +kernel
theorem dX5_run_173 : decode cX5_run 173 = .ok (.lload 5, 2) := by decide +kernel
theorem dX5_run_175 : decode cX5_run 175 = .ok (.putfield 146, 3) := by decide +kernel
theorem dX5_run_178 : decode cX5_run 178 = .ok (.aload_n 0, 1) := by decide +kernel
theorem dX5_run_179 : decode cX5_run 179 = .ok (.iconst 2, 1) := by decide +kernel
theorem dX5_run_180 : decode cX5_run 180 = .ok (.putfield 149, 3) := by decide +kernel
theorem dX5_run_183 : decode cX5_run 183 = .ok (.iconst 2, 1) := by decide +kernel
theorem dX5_run_184 : decode cX5_run 184 = .ok (.ireturn, 1) := by decide +kernel
theorem dX5_run_185 : decode cX5_run 185 = .ok (.iconst 0, 1) := by decide +kernel
theorem dX5_run_186 : decode cX5_run 186 = .ok (.istore 7, 2) := by decide +kernel
theorem dX5_run_188 : decode cX5_run 188 = .ok (.iconst 0, 1) := by decide +kernel
theorem dX5_run_189 : decode cX5_run 189 = .ok (.istore 8, 2) := by decide +kernel
theorem dX5_run_191 : decode cX5_run 191 = .ok (.lconst 0, 1) := by decide +kernel
theorem dX5_run_192 : decode cX5_run 192 = .ok (.lstore 9, 2) := by decide +kernel
theorem dX5_run_194 : decode cX5_run 194 = .ok (.iconst 0, 1) := by decide +kernel
theorem dX5_run_195 : decode cX5_run 195 = .ok (.istore 11, 2) := by decide +kernel
theorem dX5_run_197 : decode cX5_run 197 = .ok (.iload 11, 2) := by decide +kernel
theorem dX5_run_199 : decode cX5_run 199 = .ok (.iconst 1, 1) := by decide +kernel
theorem dX5_run_200 : decode cX5_run 200 = .ok (.iload_n 3, 1) := by decide +kernel
theorem dX5_run_201 : decode cX5_run 201 = .ok (.ishl, 1) := by decide +kernel
theorem dX5_run_202 : decode cX5_run 202 = .ok (.if_icmp .ge 131, 3) := by decide +kernel
theorem dX5_run_205 : decode cX5_run 205 = .ok (.iload 4, 2) := by decide +kernel
theorem dX5_run_207 : decode cX5_run 207 = .ok (.istore 12, 2) := by decide +kernel
theorem dX5_run_209 : decode cX5_run 209 = .ok (.iconst 0, 1) := by decide +kernel
theorem dX5_run_210 : decode cX5_run 210 = .ok (.istore 13, 2) := by decide +kernel
theorem dX5_run_212 : decode cX5_run 212 = .ok (.iconst 0, 1) := by decide +kernel
theorem dX5_run_213 : decode cX5_run 213 = .ok (.istore 14, 2) := by decide +kernel
theorem dX5_run_215 : decode cX5_run 215 = .ok (.iload 14, 2) := by decide +kernel
theorem dX5_run_217 : decode cX5_run 217 = .ok (.aload_n 0, 1) := by decide +kernel
theorem dX5_run_218 : decode cX5_run 218 = .ok (.getfield 49, 3) := by decide +kernel
theorem dX5_run_221 : decode cX5_run 221 = .ok (.if_icmp .ge 46, 3) := by decide +kernel
theorem dX5_run_224 : decode cX5_run 224 = .ok (.aload_n 0, 1) := by decide +kernel
theorem dX5_run_225 : decode cX5_run 225 = .ok (.getfield 13, 3) := by decide +kernel
theorem dX5_run_228 : decode cX5_run 228 = .ok (.iload 14, 2) := by decide +kernel
theorem dX5_run_230 : decode cX5_run 230 = .ok (.iaload, 1) := by decide +kernel
theorem dX5_run_231 : decode cX5_run 231 = .ok (.ifCond .ne 30, 3) := by decide +kernel
theorem dX5_run_234 : decode cX5_run 234 = .ok (.iload 11, 2) := by decide +kernel
theorem dX5_run_236 : decode cX5_run 236 = .ok (.iload 13, 2) := by decide +kernel
theorem dX5_run_238 : decode cX5_run 238 = .ok (.invokestatic 95, 3) := by decide +kernel
theorem dX5_run_241 : decode cX5_run 241 = .ok (.ifCond .eq 13, 3) := by decide +kernel
theorem dX5_run_244 : decode cX5_run 244 = .ok (.iload 12, 2) := by decide +kernel
theorem dX5_run_246 : decode cX5_run 246 = .ok (.iconst 1, 1) := by decide +kernel
theorem dX5_run_247 : decode cX5_run 247 = .ok (.iload 14, 2) := by decide +kernel
theorem dX5_run_249 : decode cX5_run 249 = .ok (.ishl, 1) := by decide +kernel
theorem dX5_run_250 : decode cX5_run 250 = .ok (.ior, 1) := by decide +kernel
theorem dX5_run_251 : decode cX5_run 251 = .ok (.goto 5, 3) := by decide +kernel
theorem dX5_run_254 : decode cX5_run 254 = .ok (.iload 12, 2) := by decide +kernel
theorem dX5_run_256 : decode cX5_run 256 = .ok (.istore 12, 2) := by decide +kernel
theorem dX5_run_258 : decode cX5_run 258 = .ok (.iinc 13 1, 3) := by decide +kernel
theorem dX5_run_261 : decode cX5_run 261 = .ok (.iinc 14 1, 3) := by decide +kernel
theorem dX5_run_264 : decode cX5_run 264 = .ok (.goto (-49), 3) := by decide +kernel
theorem dX5_run_267 : decode cX5_run 267 = .ok (.aload_n 0, 1) := by decide +kernel
theorem dX5_run_268 : decode cX5_run 268 = .ok (.iload 12, 2) := by decide +kernel
theorem dX5_run_270 : decode cX5_run 270 = .ok (.invokevirtual 152, 3) := by decide +kernel
theorem dX5_run_273 : decode cX5_run 273 = .ok (.lstore 14, 2) := by decide +kernel
theorem dX5_run_275 : decode cX5_run 275 = .ok (.iload 7, 2) := by decide +kernel
theorem dX5_run_277 : decode cX5_run 277 = .ok (.ifCond .eq 30, 3) := by decide +kernel
theorem dX5_run_280 : decode cX5_run 280 = .ok (.lload 14, 2) := by decide +kernel
theorem dX5_run_282 : decode cX5_run 282 = .ok (.lload 9, 2) := by decide +kernel
theorem dX5_run_284 : decode cX5_run 284 = .ok (.lcmp, 1) := by decide +kernel
theorem dX5_run_285 : decode cX5_run 285 = .ok (.ifCond .lt 22, 3) := by decide +kernel
theorem dX5_run_288 : decode cX5_run 288 = .ok (.lload 14, 2) := by decide +kernel
theorem dX5_run_290 : decode cX5_run 290 = .ok (.lload 9, 2) := by decide +kernel
theorem dX5_run_292 : decode cX5_run 292 = .ok (.lcmp, 1) := by decide +kernel
theorem dX5_run_293 : decode cX5_run 293 = .ok (.ifCond .ne 34, 3) := by decide +kernel
theorem dX5_run_296 : decode cX5_run 296 = .ok (.aload_n 0, 1) := by decide +kernel
theorem dX5_run_297 : decode cX5_run 297 = .ok (.iload 12, 2) := by decide +kernel
theorem dX5_run_299 : decode cX5_run 299 = .ok (.iload 8, 2) := by decide +kernel
theorem dX5_run_301 : decode cX5_run 301 = .ok (.invokevirtual 155, 3) := by decide +kernel
theorem dX5_run_304 : decode cX5_run 304 = .ok (.ifCond .eq 23, 3) := by decide +kernel
theorem dX5_run_307 : decode cX5_run 307 = .ok (.aload_n 0, 1) := by decide +kernel
theorem dX5_run_308 : decode cX5_run 308 = .ok (.iload 12, 2) := by decide +kernel
theorem dX5_run_310 : decode cX5_run 310 = .ok (.invokevirtual 158, 3) := by decide +kernel
theorem dX5_run_313 : decode cX5_run 313 = .ok (.ifCond .eq 14, 3) := by decide +kernel
theorem dX5_run_316 : decode cX5_run 316 = .ok (.iconst 1, 1) := by decide +kernel
theorem dX5_run_317 : decode cX5_run 317 = .ok (.istore 7, 2) := by decide +kernel
theorem dX5_run_319 : decode cX5_run 319 = .ok (.iload 12, 2) := by decide +kernel
theorem dX5_run_321 : decode cX5_run 321 = .ok (.istore 8, 2) := by decide +kernel
theorem dX5_run_323 : decode cX5_run 323 = .ok (.lload 14, 2) := by decide +kernel
theorem dX5_run_325 : decode cX5_run 325 = .ok (.lstore 9, 2) := by decide +kernel
theorem dX5_run_327 : decode cX5_run 327 = .ok (.iinc 11 1, 3) := by decide +kernel
theorem dX5_run_330 : decode cX5_run 330 = .ok (.goto (-133), 3) := by decide +kernel
theorem dX5_run_333 : decode cX5_run 333 = .ok (.aload_n 0, 1) := by decide +kernel
theorem dX5_run_334 : decode cX5_run 334 = .ok (.iload 7, 2) := by decide +kernel
theorem dX5_run_336 : decode cX5_run 336 = .ok (.iload 8, 2) := by decide +kernel
theorem dX5_run_338 : decode cX5_run 338 = .ok (.lload 9, 2) := by decide +kernel
theorem dX5_run_340 : decode cX5_run 340 = .ok (.invokevirtual 142, 3) := by decide +kernel
theorem dX5_run_343 : decode cX5_run 343 = .ok (.aload_n 0, 1) := by decide +kernel
theorem dX5_run_344 : decode cX5_run 344 = .ok (.iload 7, 2) := by decide +kernel
theorem dX5_run_346 : decode cX5_run 346 = .ok (.ifCond .eq 8, 3) := by decide +kernel
theorem dX5_run_349 : decode cX5_run 349 = .ok (.lload 9, 2) := by decide +kernel
theorem dX5_run_351 : decode cX5_run 351 = .ok (.goto 6, 3) := by decide +kernel
theorem dX5_run_354 : decode cX5_run 354 = .ok (.ldc2_w 161, 3) := by decide +kernel
theorem dX5_run_357 : decode cX5_run 357 = .ok (.putfield 146, 3) := by decide +kernel
theorem dX5_run_360 : decode cX5_run 360 = .ok (.aload_n 0, 1) := by decide +kernel
theorem dX5_run_361 : decode cX5_run 361 = .ok (.iload 7, 2) := by decide +kernel
theorem dX5_run_363 : decode cX5_run 363 = .ok (.ifCond .eq 7, 3) := by decide +kernel
theorem dX5_run_366 : decode cX5_run 366 = .ok (.iconst 0, 1) := by decide +kernel
theorem dX5_run_367 : decode cX5_run 367 = .ok (.goto 4, 3) := by decide +kernel
theorem dX5_run_370 : decode cX5_run 370 = .ok (.iconst 1, 1) := by decide +kernel
theorem dX5_run_371 : decode cX5_run 371 = .ok (.putfield 149, 3) := by decide +kernel
theorem dX5_run_374 : decode cX5_run 374 = .ok (.aload_n 0, 1) := by decide +kernel
theorem dX5_run_375 : decode cX5_run 375 = .ok (.getfield 149, 3) := by decide +kernel
theorem dX5_run_378 : decode cX5_run 378 = .ok (.ireturn, 1) := by decide +kernel
theorem dX5_chosen_0 : decode cX5_chosen 0 = .ok (.aload_n 0, 1) := by decide +kernel
theorem dX5_chosen_1 : decode cX5_chosen 1 = .ok (.getfield 121, 3) := by decide +kernel
theorem dX5_chosen_4 : decode cX5_chosen 4 = .ok (.ifCond .eq 26, 3) := by decide +kernel
theorem dX5_chosen_7 : decode cX5_chosen 7 = .ok (.aload_n 0, 1) := by decide +kernel
theorem dX5_chosen_8 : decode cX5_chosen 8 = .ok (.iload_n 1, 1) := by decide +kernel
theorem dX5_chosen_9 : decode cX5_chosen 9 = .ok (.invokevirtual 57, 3) := by decide +kernel
theorem dX5_chosen_12 : decode cX5_chosen 12 = .ok (.ifCond .eq 18, 3) := by decide +kernel
theorem dX5_chosen_15 : decode cX5_chosen 15 = .ok (.aload_n 0, 1) := by decide +kernel
theorem dX5_chosen_16 : decode cX5_chosen 16 = .ok (.getfield 124, 3) := by decide +kernel
theorem dX5_chosen_19 : decode cX5_chosen 19 = .ok (.iload_n 1, 1) := by decide +kernel
theorem dX5_chosen_20 : decode cX5_chosen 20 = .ok (.invokestatic 95, 3) := by decide +kernel
theorem dX5_chosen_23 : decode cX5_chosen 23 = .ok (.ifCond .eq 7, 3) := by decide +kernel
theorem dX5_chosen_26 : decode cX5_chosen 26 = .ok (.iconst 1, 1) := by decide +kernel
theorem dX5_chosen_27 : decode cX5_chosen 27 = .ok (.goto 4, 3) := by decide +kernel
theorem dX5_chosen_30 : decode cX5_chosen 30 = .ok (.iconst 0, 1) := by decide +kernel
theorem dX5_chosen_31 : decode cX5_chosen 31 = .ok (.ireturn, 1) := by decide +kernel
theorem dX5_cost_0 : decode cX5_cost 0 = .ok (.aload_n 0, 1) := by decide +kernel
theorem dX5_cost_1 : decode cX5_cost 1 = .ok (.getfield 121, 3) := by decide +kernel
theorem dX5_cost_4 : decode cX5_cost 4 = .ok (.ifCond .eq 10, 3) := by decide +kernel
theorem dX5_cost_7 : decode cX5_cost 7 = .ok (.aload_n 0, 1) := by decide +kernel
theorem dX5_cost_8 : decode cX5_cost 8 = .ok (.getfield 130, 3) := by decide +kernel
theorem dX5_cost_11 : decode cX5_cost 11 = .ok (.goto 6, 3) := by decide +kernel
theorem dX5_cost_14 : decode cX5_cost 14 = .ok (.ldc2_w 161, 3) := by decide +kernel
theorem dX5_cost_17 : decode cX5_cost 17 = .ok (.lreturn, 1) := by decide +kernel
theorem dX5_bound_0 : decode cX5_bound 0 = .ok (.aload_n 0, 1) := by decide +kernel
theorem dX5_bound_1 : decode cX5_bound 1 = .ok (.getfield 133, 3) := by decide +kernel
theorem dX5_bound_4 : decode cX5_bound 4 = .ok (.ifCond .eq 10, 3) := by decide +kernel
theorem dX5_bound_7 : decode cX5_bound 7 = .ok (.aload_n 0, 1) := by decide +kernel
theorem dX5_bound_8 : decode cX5_bound 8 = .ok (.getfield 146, 3) := by decide +kernel
theorem dX5_bound_11 : decode cX5_bound 11 = .ok (.goto 6, 3) := by decide +kernel
theorem dX5_bound_14 : decode cX5_bound 14 = .ok (.ldc2_w 161, 3) := by decide +kernel
theorem dX5_bound_17 : decode cX5_bound 17 = .ok (.lreturn, 1) := by decide +kernel
theorem dX5_proved_0 : decode cX5_proved 0 = .ok (.aload_n 0, 1) := by decide +kernel
theorem dX5_proved_1 : decode cX5_proved 1 = .ok (.getfield 133, 3) := by decide +kernel
theorem dX5_proved_4 : decode cX5_proved 4 = .ok (.ifCond .eq 15, 3) := by decide +kernel
theorem dX5_proved_7 : decode cX5_proved 7 = .ok (.aload_n 0, 1) := by decide +kernel
theorem dX5_proved_8 : decode cX5_proved 8 = .ok (.getfield 149, 3) := by decide +kernel
theorem dX5_proved_11 : decode cX5_proved 11 = .ok (.iconst 2, 1) := by decide +kernel
theorem dX5_proved_12 : decode cX5_proved 12 = .ok (.if_icmp .ge 7, 3) := by decide +kernel
theorem dX5_proved_15 : decode cX5_proved 15 = .ok (.iconst 1, 1) := by decide +kernel
theorem dX5_proved_16 : decode cX5_proved 16 = .ok (.goto 4, 3) := by decide +kernel
theorem dX5_proved_19 : decode cX5_proved 19 = .ok (.iconst 0, 1) := by decide +kernel
theorem dX5_proved_20 : decode cX5_proved 20 = .ok (.ireturn, 1) := by decide +kernel
theorem dX5_clash_0 : decode cX5_clash 0 = .ok (.iload_n 1, 1) := by decide +kernel
theorem dX5_clash_1 : decode cX5_clash 1 = .ok (.istore_n 2, 1) := by decide +kernel
theorem dX5_clash_2 : decode cX5_clash 2 = .ok (.iconst 0, 1) := by decide +kernel
theorem dX5_clash_3 : decode cX5_clash 3 = .ok (.istore_n 3, 1) := by decide +kernel
theorem dX5_clash_4 : decode cX5_clash 4 = .ok (.iload_n 3, 1) := by decide +kernel
theorem dX5_clash_5 : decode cX5_clash 5 = .ok (.bipush 8, 2) := by decide +kernel
theorem dX5_clash_7 : decode cX5_clash 7 = .ok (.if_icmp .ge 33, 3) := by decide +kernel
theorem dX5_clash_10 : decode cX5_clash 10 = .ok (.iload_n 1, 1) := by decide +kernel
theorem dX5_clash_11 : decode cX5_clash 11 = .ok (.ifCond .lt 29, 3) := by decide +kernel
theorem dX5_clash_14 : decode cX5_clash 14 = .ok (.aload_n 0, 1) := by decide +kernel
theorem dX5_clash_15 : decode cX5_clash 15 = .ok (.getfield 136, 3) := by decide +kernel
theorem dX5_clash_18 : decode cX5_clash 18 = .ok (.iload_n 3, 1) := by decide +kernel
theorem dX5_clash_19 : decode cX5_clash 19 = .ok (.invokestatic 95, 3) := by decide +kernel
theorem dX5_clash_22 : decode cX5_clash 22 = .ok (.ifCond .eq 12, 3) := by decide +kernel
theorem dX5_clash_25 : decode cX5_clash 25 = .ok (.iload_n 2, 1) := by decide +kernel
theorem dX5_clash_26 : decode cX5_clash 26 = .ok (.ifCond .ne 5, 3) := by decide +kernel
theorem dX5_clash_29 : decode cX5_clash 29 = .ok (.iload_n 3, 1) := by decide +kernel
theorem dX5_clash_30 : decode cX5_clash 30 = .ok (.ireturn, 1) := by decide +kernel
theorem dX5_clash_31 : decode cX5_clash 31 = .ok (.iinc 2 (-1), 3) := by decide +kernel
theorem dX5_clash_34 : decode cX5_clash 34 = .ok (.iinc 3 1, 3) := by decide +kernel
theorem dX5_clash_37 : decode cX5_clash 37 = .ok (.goto (-33), 3) := by decide +kernel
theorem dX5_clash_40 : decode cX5_clash 40 = .ok (.iconst (-1), 1) := by decide +kernel
theorem dX5_clash_41 : decode cX5_clash 41 = .ok (.ireturn, 1) := by decide +kernel
theorem dX5_next_0 : decode cX5_next 0 = .ok (.lload_n 0, 1) := by decide +kernel
theorem dX5_next_1 : decode cX5_next 1 = .ok (.lstore_n 2, 1) := by decide +kernel
theorem dX5_next_2 : decode cX5_next 2 = .ok (.lload_n 2, 1) := by decide +kernel
theorem dX5_next_3 : decode cX5_next 3 = .ok (.lload_n 2, 1) := by decide +kernel
theorem dX5_next_4 : decode cX5_next 4 = .ok (.bipush 13, 2) := by decide +kernel
theorem dX5_next_6 : decode cX5_next 6 = .ok (.lshl, 1) := by decide +kernel
theorem dX5_next_7 : decode cX5_next 7 = .ok (.lxor, 1) := by decide +kernel
theorem dX5_next_8 : decode cX5_next 8 = .ok (.lstore_n 2, 1) := by decide +kernel
theorem dX5_next_9 : decode cX5_next 9 = .ok (.lload_n 2, 1) := by decide +kernel
theorem dX5_next_10 : decode cX5_next 10 = .ok (.lload_n 2, 1) := by decide +kernel
theorem dX5_next_11 : decode cX5_next 11 = .ok (.bipush 7, 2) := by decide +kernel
theorem dX5_next_13 : decode cX5_next 13 = .ok (.lushr, 1) := by decide +kernel
theorem dX5_next_14 : decode cX5_next 14 = .ok (.lxor, 1) := by decide +kernel
theorem dX5_next_15 : decode cX5_next 15 = .ok (.lstore_n 2, 1) := by decide +kernel
theorem dX5_next_16 : decode cX5_next 16 = .ok (.lload_n 2, 1) := by decide +kernel
theorem dX5_next_17 : decode cX5_next 17 = .ok (.lload_n 2, 1) := by decide +kernel
theorem dX5_next_18 : decode cX5_next 18 = .ok (.bipush 17, 2) := by decide +kernel
theorem dX5_next_20 : decode cX5_next 20 = .ok (.lshl, 1) := by decide +kernel
theorem dX5_next_21 : decode cX5_next 21 = .ok (.lxor, 1) := by decide +kernel
theorem dX5_next_22 : decode cX5_next 22 = .ok (.lreturn, 1) := by decide +kernel
theorem dX5_steps_0 : decode cX5_steps 0 = .ok (.lload_n 1, 1) := by decide +kernel
theorem dX5_steps_1 : decode cX5_steps 1 = .ok (.lstore 4, 2) := by decide +kernel
theorem dX5_steps_3 : decode cX5_steps 3 = .ok (.aload_n 0, 1) := by decide +kernel
theorem dX5_steps_4 : decode cX5_steps 4 = .ok (.aload_n 0, 1) := by decide +kernel
theorem dX5_steps_5 : decode cX5_steps 5 = .ok (.invokevirtual 139, 3) := by decide +kernel
theorem dX5_steps_8 : decode cX5_steps 8 = .ok (.putfield 163, 3) := by decide +kernel
theorem dX5_steps_11 : decode cX5_steps 11 = .ok (.aload_n 0, 1) := by decide +kernel
theorem dX5_steps_12 : decode cX5_steps 12 = .ok (.aload_n 0, 1) := by decide +kernel
theorem dX5_steps_13 : decode cX5_steps 13 = .ok (.aload_n 0, 1) := by decide +kernel
theorem dX5_steps_14 : decode cX5_steps 14 = .ok (.getfield 163, 3) := by decide +kernel
theorem dX5_steps_17 : decode cX5_steps 17 = .ok (.invokevirtual 152, 3) := by decide +kernel
theorem dX5_steps_20 : decode cX5_steps 20 = .ok (.putfield 166, 3) := by decide +kernel
theorem dX5_steps_23 : decode cX5_steps 23 = .ok (.aload_n 0, 1) := by decide +kernel
theorem dX5_steps_24 : decode cX5_steps 24 = .ok (.iconst 0, 1) := by decide +kernel
theorem dX5_steps_25 : decode cX5_steps 25 = .ok (.putfield 169, 3) := by decide +kernel
theorem dX5_steps_28 : decode cX5_steps 28 = .ok (.iconst 0, 1) := by decide +kernel
theorem dX5_steps_29 : decode cX5_steps 29 = .ok (.istore 6, 2) := by decide +kernel
theorem dX5_steps_31 : decode cX5_steps 31 = .ok (.iload 6, 2) := by decide +kernel
theorem dX5_steps_33 : decode cX5_steps 33 = .ok (.iload_n 3, 1) := by decide +kernel
theorem dX5_steps_34 : decode cX5_steps 34 = .ok (.if_icmp .ge 85, 3) := by decide +kernel
theorem dX5_steps_37 : decode cX5_steps 37 = .ok (.lload 4, 2) := by decide +kernel
theorem dX5_steps_39 : decode cX5_steps 39 = .ok (.invokestatic 172, 3) := by decide +kernel
theorem dX5_steps_42 : decode cX5_steps 42 = .ok (.lstore 4, 2) := by decide +kernel
theorem dX5_steps_44 : decode cX5_steps 44 = .ok (.aload_n 0, 1) := by decide +kernel
theorem dX5_steps_45 : decode cX5_steps 45 = .ok (.getfield 163, 3) := by decide +kernel
theorem dX5_steps_48 : decode cX5_steps 48 = .ok (.iconst 1, 1) := by decide +kernel
theorem dX5_steps_49 : decode cX5_steps 49 = .ok (.lload 4, 2) := by decide +kernel
theorem dX5_steps_51 : decode cX5_steps 51 = .ok (.iconst 1, 1) := by decide +kernel
theorem dX5_steps_52 : decode cX5_steps 52 = .ok (.lushr, 1) := by decide +kernel
theorem dX5_steps_53 : decode cX5_steps 53 = .ok (.aload_n 0, 1) := by decide +kernel
theorem dX5_steps_54 : decode cX5_steps 54 = .ok (.getfield 49, 3) := by decide +kernel
theorem dX5_steps_57 : decode cX5_steps 57 = .ok (.i2l, 1) := by decide +kernel
theorem dX5_steps_58 : decode cX5_steps 58 = .ok (.lrem, 1) := by decide +kernel
theorem dX5_steps_59 : decode cX5_steps 59 = .ok (.l2i, 1) := by decide +kernel
theorem dX5_steps_60 : decode cX5_steps 60 = .ok (.ishl, 1) := by decide +kernel
theorem dX5_steps_61 : decode cX5_steps 61 = .ok (.ixor, 1) := by decide +kernel
theorem dX5_steps_62 : decode cX5_steps 62 = .ok (.istore 7, 2) := by decide +kernel
theorem dX5_steps_64 : decode cX5_steps 64 = .ok (.aload_n 0, 1) := by decide +kernel
theorem dX5_steps_65 : decode cX5_steps 65 = .ok (.iload 7, 2) := by decide +kernel
theorem dX5_steps_67 : decode cX5_steps 67 = .ok (.invokevirtual 152, 3) := by decide +kernel
theorem dX5_steps_70 : decode cX5_steps 70 = .ok (.aload_n 0, 1) := by decide +kernel
theorem dX5_steps_71 : decode cX5_steps 71 = .ok (.getfield 166, 3) := by decide +kernel
theorem dX5_steps_74 : decode cX5_steps 74 = .ok (.lcmp, 1) := by decide +kernel
theorem dX5_steps_75 : decode cX5_steps 75 = .ok (.ifCond .ge 38, 3) := by decide +kernel
theorem dX5_steps_78 : decode cX5_steps 78 = .ok (.aload_n 0, 1) := by decide +kernel
theorem dX5_steps_79 : decode cX5_steps 79 = .ok (.iload 7, 2) := by decide +kernel
theorem dX5_steps_81 : decode cX5_steps 81 = .ok (.invokevirtual 158, 3) := by decide +kernel
theorem dX5_steps_84 : decode cX5_steps 84 = .ok (.ifCond .eq 29, 3) := by decide +kernel
theorem dX5_steps_87 : decode cX5_steps 87 = .ok (.aload_n 0, 1) := by decide +kernel
theorem dX5_steps_88 : decode cX5_steps 88 = .ok (.iload 7, 2) := by decide +kernel
theorem dX5_steps_90 : decode cX5_steps 90 = .ok (.putfield 163, 3) := by decide +kernel
theorem dX5_steps_93 : decode cX5_steps 93 = .ok (.aload_n 0, 1) := by decide +kernel
theorem dX5_steps_94 : decode cX5_steps 94 = .ok (.aload_n 0, 1) := by decide +kernel
theorem dX5_steps_95 : decode cX5_steps 95 = .ok (.iload 7, 2) := by decide +kernel
theorem dX5_steps_97 : decode cX5_steps 97 = .ok (.invokevirtual 152, 3) := by decide +kernel
theorem dX5_steps_100 : decode cX5_steps 100 = .ok (.putfield 166, 3) := by decide +kernel
theorem dX5_steps_103 : decode cX5_steps 103 = .ok (.aload_n 0, 1) := by decide +kernel
theorem dX5_steps_104 : decode cX5_steps 104 = .ok (.dup, 1) := by decide +kernel
theorem dX5_steps_105 : decode cX5_steps 105 = .ok (.getfield 169, 3) := by decide +kernel
theorem dX5_steps_108 : decode cX5_steps 108 = .ok (.iconst 1, 1) := by decide +kernel
theorem dX5_steps_109 : decode cX5_steps 109 = .ok (.iadd, 1) := by decide +kernel
theorem dX5_steps_110 : decode cX5_steps 110 = .ok (.putfield 169, 3) := by decide +kernel
theorem dX5_steps_113 : decode cX5_steps 113 = .ok (.iinc 6 1, 3) := by decide +kernel
theorem dX5_steps_116 : decode cX5_steps 116 = .ok (.goto (-85), 3) := by decide +kernel
theorem dX5_steps_119 : decode cX5_steps 119 = .ok (.lload 4, 2) := by decide +kernel
theorem dX5_steps_121 : decode cX5_steps 121 = .ok (.lreturn, 1) := by decide +kernel
theorem dX5_improve_0 : decode cX5_improve 0 = .ok (.iload_n 1, 1) := by decide +kernel
theorem dX5_improve_1 : decode cX5_improve 1 = .ok (.iconst 1, 1) := by decide +kernel
theorem dX5_improve_2 : decode cX5_improve 2 = .ok (.if_icmp .lt 17, 3) := by decide +kernel
theorem dX5_improve_5 : decode cX5_improve 5 = .ok (.iload_n 1, 1) := by decide +kernel
theorem dX5_improve_6 : decode cX5_improve 6 = .ok (.sipush 1000, 3) := by decide +kernel
theorem dX5_improve_9 : decode cX5_improve 9 = .ok (.if_icmp .gt 10, 3) := by decide +kernel
theorem dX5_improve_12 : decode cX5_improve 12 = .ok (.aload_n 0, 1) := by decide +kernel
theorem dX5_improve_13 : decode cX5_improve 13 = .ok (.getfield 49, 3) := by decide +kernel
theorem dX5_improve_16 : decode cX5_improve 16 = .ok (.ifCond .ne 5, 3) := by decide +kernel
theorem dX5_improve_19 : decode cX5_improve 19 = .ok (.iconst (-1), 1) := by decide +kernel
theorem dX5_improve_20 : decode cX5_improve 20 = .ok (.ireturn, 1) := by decide +kernel
theorem dX5_improve_21 : decode cX5_improve 21 = .ok (.aload_n 0, 1) := by decide +kernel
theorem dX5_improve_22 : decode cX5_improve 22 = .ok (.aload_n 0, 1) := by decide +kernel
theorem dX5_improve_23 : decode cX5_improve 23 = .ok (.invokevirtual 139, 3) := by decide +kernel
theorem dX5_improve_26 : decode cX5_improve 26 = .ok (.invokevirtual 158, 3) := by decide +kernel
theorem dX5_improve_29 : decode cX5_improve 29 = .ok (.ifCond .ne 12, 3) := by decide +kernel
theorem dX5_improve_32 : decode cX5_improve 32 = .ok (.aload_n 0, 1) := by decide +kernel
theorem dX5_improve_33 : decode cX5_improve 33 = .ok (.iconst 0, 1) := by decide +kernel
theorem dX5_improve_34 : decode cX5_improve 34 = .ok (.iconst 0, 1) := by decide +kernel
theorem dX5_improve_35 : decode cX5_improve 35 = .ok (.lconst 0, 1) := by decide +kernel
theorem dX5_improve_36 : decode cX5_improve 36 = .ok (.invokevirtual 142, 3) := by decide +kernel
theorem dX5_improve_39 : decode cX5_improve 39 = .ok (.iconst (-1), 1) := by decide +kernel
theorem dX5_improve_40 : decode cX5_improve 40 = .ok (.ireturn, 1) := by decide +kernel
theorem dX5_improve_41 : decode cX5_improve 41 = .ok (.aload_n 0, 1) := by decide +kernel
theorem dX5_improve_42 : decode cX5_improve 42 = .ok (.aload_n 0, 1) := by decide +kernel
theorem dX5_improve_43 : decode cX5_improve 43 = .ok (.aload_n 0, 1) := by decide +kernel
theorem dX5_improve_44 : decode cX5_improve 44 = .ok (.getfield 43, 3) := by decide +kernel
theorem dX5_improve_47 : decode cX5_improve 47 = .ok (.iload_n 1, 1) := by decide +kernel
theorem dX5_improve_48 : decode cX5_improve 48 = .ok (.invokevirtual 175, 3) := by decide +kernel
theorem dX5_improve_51 : decode cX5_improve 51 = .ok (.putfield 43, 3) := by decide +kernel
theorem dX5_improve_54 : decode cX5_improve 54 = .ok (.aload_n 0, 1) := by decide +kernel
theorem dX5_improve_55 : decode cX5_improve 55 = .ok (.iconst 1, 1) := by decide +kernel
theorem dX5_improve_56 : decode cX5_improve 56 = .ok (.aload_n 0, 1) := by decide +kernel
theorem dX5_improve_57 : decode cX5_improve 57 = .ok (.getfield 163, 3) := by decide +kernel
theorem dX5_improve_60 : decode cX5_improve 60 = .ok (.aload_n 0, 1) := by decide +kernel
theorem dX5_improve_61 : decode cX5_improve 61 = .ok (.getfield 166, 3) := by decide +kernel
theorem dX5_improve_64 : decode cX5_improve 64 = .ok (.invokevirtual 142, 3) := by decide +kernel
theorem dX5_improve_67 : decode cX5_improve 67 = .ok (.aload_n 0, 1) := by decide +kernel
theorem dX5_improve_68 : decode cX5_improve 68 = .ok (.getfield 169, 3) := by decide +kernel
theorem dX5_improve_71 : decode cX5_improve 71 = .ok (.ireturn, 1) := by decide +kernel
theorem dX5_often_0 : decode cX5_often 0 = .ok (.aload_n 0, 1) := by decide +kernel
theorem dX5_often_1 : decode cX5_often 1 = .ok (.iload_n 1, 1) := by decide +kernel
theorem dX5_often_2 : decode cX5_often 2 = .ok (.invokevirtual 57, 3) := by decide +kernel
theorem dX5_often_5 : decode cX5_often 5 = .ok (.ifCond .eq 25, 3) := by decide +kernel
theorem dX5_often_8 : decode cX5_often 8 = .ok (.iload_n 2, 1) := by decide +kernel
theorem dX5_often_9 : decode cX5_often 9 = .ok (.iconst 1, 1) := by decide +kernel
theorem dX5_often_10 : decode cX5_often 10 = .ok (.if_icmp .lt 20, 3) := by decide +kernel
theorem dX5_often_13 : decode cX5_often 13 = .ok (.iload_n 2, 1) := by decide +kernel
theorem dX5_often_14 : decode cX5_often 14 = .ok (.bipush 20, 2) := by decide +kernel
theorem dX5_often_16 : decode cX5_often 16 = .ok (.if_icmp .gt 14, 3) := by decide +kernel
theorem dX5_often_19 : decode cX5_often 19 = .ok (.aload_n 0, 1) := by decide +kernel
theorem dX5_often_20 : decode cX5_often 20 = .ok (.aload_n 0, 1) := by decide +kernel
theorem dX5_often_21 : decode cX5_often 21 = .ok (.invokevirtual 139, 3) := by decide +kernel
theorem dX5_often_24 : decode cX5_often 24 = .ok (.invokevirtual 158, 3) := by decide +kernel
theorem dX5_often_27 : decode cX5_often 27 = .ok (.ifCond .ne 7, 3) := by decide +kernel
theorem dX5_often_30 : decode cX5_often 30 = .ok (.ldc2_w 161, 3) := by decide +kernel
theorem dX5_often_33 : decode cX5_often 33 = .ok (.lreturn, 1) := by decide +kernel
theorem dX5_often_34 : decode cX5_often 34 = .ok (.lconst 0, 1) := by decide +kernel
theorem dX5_often_35 : decode cX5_often 35 = .ok (.lstore_n 3, 1) := by decide +kernel
theorem dX5_often_36 : decode cX5_often 36 = .ok (.iconst 1, 1) := by decide +kernel
theorem dX5_often_37 : decode cX5_often 37 = .ok (.istore 5, 2) := by decide +kernel
theorem dX5_often_39 : decode cX5_often 39 = .ok (.iload 5, 2) := by decide +kernel
theorem dX5_often_41 : decode cX5_often 41 = .ok (.iload_n 2, 1) := by decide +kernel
theorem dX5_often_42 : decode cX5_often 42 = .ok (.if_icmp .gt 39, 3) := by decide +kernel
theorem dX5_often_45 : decode cX5_often 45 = .ok (.aload_n 0, 1) := by decide +kernel
theorem dX5_often_46 : decode cX5_often 46 = .ok (.iload 5, 2) := by decide +kernel
theorem dX5_often_48 : decode cX5_often 48 = .ok (.i2l, 1) := by decide +kernel
theorem dX5_often_49 : decode cX5_often 49 = .ok (.bipush 40, 2) := by decide +kernel
theorem dX5_often_51 : decode cX5_often 51 = .ok (.invokevirtual 175, 3) := by decide +kernel
theorem dX5_often_54 : decode cX5_often 54 = .ok (.lstore 6, 2) := by decide +kernel
theorem dX5_often_56 : decode cX5_often 56 = .ok (.lload_n 3, 1) := by decide +kernel
theorem dX5_often_57 : decode cX5_often 57 = .ok (.aload_n 0, 1) := by decide +kernel
theorem dX5_often_58 : decode cX5_often 58 = .ok (.getfield 163, 3) := by decide +kernel
theorem dX5_often_61 : decode cX5_often 61 = .ok (.iload_n 1, 1) := by decide +kernel
theorem dX5_often_62 : decode cX5_often 62 = .ok (.invokestatic 95, 3) := by decide +kernel
theorem dX5_often_65 : decode cX5_often 65 = .ok (.ifCond .eq 7, 3) := by decide +kernel
theorem dX5_often_68 : decode cX5_often 68 = .ok (.lconst 1, 1) := by decide +kernel
theorem dX5_often_69 : decode cX5_often 69 = .ok (.goto 4, 3) := by decide +kernel
theorem dX5_often_72 : decode cX5_often 72 = .ok (.lconst 0, 1) := by decide +kernel
theorem dX5_often_73 : decode cX5_often 73 = .ok (.ladd, 1) := by decide +kernel
theorem dX5_often_74 : decode cX5_often 74 = .ok (.lstore_n 3, 1) := by decide +kernel
theorem dX5_often_75 : decode cX5_often 75 = .ok (.iinc 5 1, 3) := by decide +kernel
theorem dX5_often_78 : decode cX5_often 78 = .ok (.goto (-39), 3) := by decide +kernel
theorem dX5_often_81 : decode cX5_often 81 = .ok (.lload_n 3, 1) := by decide +kernel
theorem dX5_often_82 : decode cX5_often 82 = .ok (.lreturn, 1) := by decide +kernel
theorem dX5_zone_0 : decode cX5_zone 0 = .ok (.iload_n 1, 1) := by decide +kernel
theorem dX5_zone_1 : decode cX5_zone 1 = .ok (.ifCond .lt 22, 3) := by decide +kernel
theorem dX5_zone_4 : decode cX5_zone 4 = .ok (.iload_n 1, 1) := by decide +kernel
theorem dX5_zone_5 : decode cX5_zone 5 = .ok (.iconst 3, 1) := by decide +kernel
theorem dX5_zone_6 : decode cX5_zone 6 = .ok (.if_icmp .gt 17, 3) := by decide +kernel
theorem dX5_zone_9 : decode cX5_zone 9 = .ok (.iload_n 2, 1) := by decide +kernel
theorem dX5_zone_10 : decode cX5_zone 10 = .ok (.invokestatic 61, 3) := by decide +kernel
theorem dX5_zone_13 : decode cX5_zone 13 = .ok (.ifCond .eq 10, 3) := by decide +kernel
theorem dX5_zone_16 : decode cX5_zone 16 = .ok (.aload_n 0, 1) := by decide +kernel
theorem dX5_zone_17 : decode cX5_zone 17 = .ok (.getfield 121, 3) := by decide +kernel
theorem dX5_zone_20 : decode cX5_zone 20 = .ok (.ifCond .ne 5, 3) := by decide +kernel
theorem dX5_zone_23 : decode cX5_zone 23 = .ok (.iconst (-1), 1) := by decide +kernel
theorem dX5_zone_24 : decode cX5_zone 24 = .ok (.ireturn, 1) := by decide +kernel
theorem dX5_zone_25 : decode cX5_zone 25 = .ok (.iconst 0, 1) := by decide +kernel
theorem dX5_zone_26 : decode cX5_zone 26 = .ok (.istore_n 3, 1) := by decide +kernel
theorem dX5_zone_27 : decode cX5_zone 27 = .ok (.iconst 0, 1) := by decide +kernel
theorem dX5_zone_28 : decode cX5_zone 28 = .ok (.istore 4, 2) := by decide +kernel
theorem dX5_zone_30 : decode cX5_zone 30 = .ok (.iload 4, 2) := by decide +kernel
theorem dX5_zone_32 : decode cX5_zone 32 = .ok (.aload_n 0, 1) := by decide +kernel
theorem dX5_zone_33 : decode cX5_zone 33 = .ok (.getfield 49, 3) := by decide +kernel
theorem dX5_zone_36 : decode cX5_zone 36 = .ok (.if_icmp .ge 54, 3) := by decide +kernel
theorem dX5_zone_39 : decode cX5_zone 39 = .ok (.iload_n 3, 1) := by decide +kernel
theorem dX5_zone_40 : decode cX5_zone 40 = .ok (.aload_n 0, 1) := by decide +kernel
theorem dX5_zone_41 : decode cX5_zone 41 = .ok (.getfield 124, 3) := by decide +kernel
theorem dX5_zone_44 : decode cX5_zone 44 = .ok (.iload 4, 2) := by decide +kernel
theorem dX5_zone_46 : decode cX5_zone 46 = .ok (.invokestatic 95, 3) := by decide +kernel
theorem dX5_zone_49 : decode cX5_zone 49 = .ok (.ifCond .eq 32, 3) := by decide +kernel
theorem dX5_zone_52 : decode cX5_zone 52 = .ok (.iload 4, 2) := by decide +kernel
theorem dX5_zone_54 : decode cX5_zone 54 = .ok (.iconst 4, 1) := by decide +kernel
theorem dX5_zone_55 : decode cX5_zone 55 = .ok (.irem, 1) := by decide +kernel
theorem dX5_zone_56 : decode cX5_zone 56 = .ok (.iload_n 1, 1) := by decide +kernel
theorem dX5_zone_57 : decode cX5_zone 57 = .ok (.if_icmp .ne 24, 3) := by decide +kernel
theorem dX5_zone_60 : decode cX5_zone 60 = .ok (.aload_n 0, 1) := by decide +kernel
theorem dX5_zone_61 : decode cX5_zone 61 = .ok (.getfield 17, 3) := by decide +kernel
theorem dX5_zone_64 : decode cX5_zone 64 = .ok (.bipush 24, 2) := by decide +kernel
theorem dX5_zone_66 : decode cX5_zone 66 = .ok (.iload_n 2, 1) := by decide +kernel
theorem dX5_zone_67 : decode cX5_zone 67 = .ok (.imul, 1) := by decide +kernel
theorem dX5_zone_68 : decode cX5_zone 68 = .ok (.iload 4, 2) := by decide +kernel
theorem dX5_zone_70 : decode cX5_zone 70 = .ok (.iadd, 1) := by decide +kernel
theorem dX5_zone_71 : decode cX5_zone 71 = .ok (.laload, 1) := by decide +kernel
theorem dX5_zone_72 : decode cX5_zone 72 = .ok (.lconst 0, 1) := by decide +kernel
theorem dX5_zone_73 : decode cX5_zone 73 = .ok (.lcmp, 1) := by decide +kernel
theorem dX5_zone_74 : decode cX5_zone 74 = .ok (.ifCond .le 7, 3) := by decide +kernel
theorem dX5_zone_77 : decode cX5_zone 77 = .ok (.iconst 1, 1) := by decide +kernel
theorem dX5_zone_78 : decode cX5_zone 78 = .ok (.goto 4, 3) := by decide +kernel
theorem dX5_zone_81 : decode cX5_zone 81 = .ok (.iconst 0, 1) := by decide +kernel
theorem dX5_zone_82 : decode cX5_zone 82 = .ok (.iadd, 1) := by decide +kernel
theorem dX5_zone_83 : decode cX5_zone 83 = .ok (.istore_n 3, 1) := by decide +kernel
theorem dX5_zone_84 : decode cX5_zone 84 = .ok (.iinc 4 1, 3) := by decide +kernel
theorem dX5_zone_87 : decode cX5_zone 87 = .ok (.goto (-57), 3) := by decide +kernel
theorem dX5_zone_90 : decode cX5_zone 90 = .ok (.iload_n 3, 1) := by decide +kernel
theorem dX5_zone_91 : decode cX5_zone 91 = .ok (.ireturn, 1) := by decide +kernel
theorem dX5_part_0 : decode cX5_part 0 = .ok (.lload_n 0, 1) := by decide +kernel
theorem dX5_part_1 : decode cX5_part 1 = .ok (.lconst 0, 1) := by decide +kernel
theorem dX5_part_2 : decode cX5_part 2 = .ok (.lcmp, 1) := by decide +kernel
theorem dX5_part_3 : decode cX5_part 3 = .ok (.ifCond .ne 7, 3) := by decide +kernel
theorem dX5_part_6 : decode cX5_part 6 = .ok (.iload 4, 2) := by decide +kernel
theorem dX5_part_8 : decode cX5_part 8 = .ok (.i2l, 1) := by decide +kernel
theorem dX5_part_9 : decode cX5_part 9 = .ok (.lreturn, 1) := by decide +kernel
theorem dX5_part_10 : decode cX5_part 10 = .ok (.lload_n 0, 1) := by decide +kernel
theorem dX5_part_11 : decode cX5_part 11 = .ok (.lstore 5, 2) := by decide +kernel
theorem dX5_part_13 : decode cX5_part 13 = .ok (.lload_n 2, 1) := by decide +kernel
theorem dX5_part_14 : decode cX5_part 14 = .ok (.lstore 7, 2) := by decide +kernel
theorem dX5_part_16 : decode cX5_part 16 = .ok (.lload 7, 2) := by decide +kernel
theorem dX5_part_18 : decode cX5_part 18 = .ok (.lconst 0, 1) := by decide +kernel
theorem dX5_part_19 : decode cX5_part 19 = .ok (.lcmp, 1) := by decide +kernel
theorem dX5_part_20 : decode cX5_part 20 = .ok (.ifCond .eq 21, 3) := by decide +kernel
theorem dX5_part_23 : decode cX5_part 23 = .ok (.lload 5, 2) := by decide +kernel
theorem dX5_part_25 : decode cX5_part 25 = .ok (.lload 7, 2) := by decide +kernel
theorem dX5_part_27 : decode cX5_part 27 = .ok (.lrem, 1) := by decide +kernel
theorem dX5_part_28 : decode cX5_part 28 = .ok (.lstore 9, 2) := by decide +kernel
theorem dX5_part_30 : decode cX5_part 30 = .ok (.lload 7, 2) := by decide +kernel
theorem dX5_part_32 : decode cX5_part 32 = .ok (.lstore 5, 2) := by decide +kernel
theorem dX5_part_34 : decode cX5_part 34 = .ok (.lload 9, 2) := by decide +kernel
theorem dX5_part_36 : decode cX5_part 36 = .ok (.lstore 7, 2) := by decide +kernel
theorem dX5_part_38 : decode cX5_part 38 = .ok (.goto (-22), 3) := by decide +kernel
theorem dX5_part_41 : decode cX5_part 41 = .ok (.iload 4, 2) := by decide +kernel
theorem dX5_part_43 : decode cX5_part 43 = .ok (.ifCond .ne 10, 3) := by decide +kernel
theorem dX5_part_46 : decode cX5_part 46 = .ok (.lload_n 0, 1) := by decide +kernel
theorem dX5_part_47 : decode cX5_part 47 = .ok (.lload 5, 2) := by decide +kernel
theorem dX5_part_49 : decode cX5_part 49 = .ok (.ldiv, 1) := by decide +kernel
theorem dX5_part_50 : decode cX5_part 50 = .ok (.goto 7, 3) := by decide +kernel
theorem dX5_part_53 : decode cX5_part 53 = .ok (.lload_n 2, 1) := by decide +kernel
theorem dX5_part_54 : decode cX5_part 54 = .ok (.lload 5, 2) := by decide +kernel
theorem dX5_part_56 : decode cX5_part 56 = .ok (.ldiv, 1) := by decide +kernel
theorem dX5_part_57 : decode cX5_part 57 = .ok (.lreturn, 1) := by decide +kernel
theorem dX5_met_0 : decode cX5_met 0 = .ok (.iload_n 1, 1) := by decide +kernel
theorem dX5_met_1 : decode cX5_met 1 = .ok (.invokestatic 61, 3) := by decide +kernel
theorem dX5_met_4 : decode cX5_met 4 = .ok (.ifCond .eq 19, 3) := by decide +kernel
theorem dX5_met_7 : decode cX5_met 7 = .ok (.aload_n 0, 1) := by decide +kernel
theorem dX5_met_8 : decode cX5_met 8 = .ok (.getfield 121, 3) := by decide +kernel
theorem dX5_met_11 : decode cX5_met 11 = .ok (.ifCond .eq 12, 3) := by decide +kernel
theorem dX5_met_14 : decode cX5_met 14 = .ok (.iload_n 2, 1) := by decide +kernel
theorem dX5_met_15 : decode cX5_met 15 = .ok (.ifCond .lt 8, 3) := by decide +kernel
theorem dX5_met_18 : decode cX5_met 18 = .ok (.iload_n 2, 1) := by decide +kernel
theorem dX5_met_19 : decode cX5_met 19 = .ok (.iconst 1, 1) := by decide +kernel
theorem dX5_met_20 : decode cX5_met 20 = .ok (.if_icmp .le 9, 3) := by decide +kernel
theorem dX5_met_23 : decode cX5_met 23 = .ok (.ldc2_w 161, 3) := by decide +kernel
theorem dX5_met_26 : decode cX5_met 26 = .ok (.goto 25, 3) := by decide +kernel
theorem dX5_met_29 : decode cX5_met 29 = .ok (.aload_n 0, 1) := by decide +kernel
theorem dX5_met_30 : decode cX5_met 30 = .ok (.iload_n 1, 1) := by decide +kernel
theorem dX5_met_31 : decode cX5_met 31 = .ok (.aload_n 0, 1) := by decide +kernel
theorem dX5_met_32 : decode cX5_met 32 = .ok (.getfield 124, 3) := by decide +kernel
theorem dX5_met_35 : decode cX5_met 35 = .ok (.invokevirtual 99, 3) := by decide +kernel
theorem dX5_met_38 : decode cX5_met 38 = .ok (.aload_n 0, 1) := by decide +kernel
theorem dX5_met_39 : decode cX5_met 39 = .ok (.iload_n 1, 1) := by decide +kernel
theorem dX5_met_40 : decode cX5_met 40 = .ok (.aload_n 0, 1) := by decide +kernel
theorem dX5_met_41 : decode cX5_met 41 = .ok (.invokevirtual 103, 3) := by decide +kernel
theorem dX5_met_44 : decode cX5_met 44 = .ok (.invokevirtual 99, 3) := by decide +kernel
theorem dX5_met_47 : decode cX5_met 47 = .ok (.iload_n 2, 1) := by decide +kernel
theorem dX5_met_48 : decode cX5_met 48 = .ok (.invokestatic 179, 3) := by decide +kernel
theorem dX5_met_51 : decode cX5_met 51 = .ok (.lreturn, 1) := by decide +kernel
theorem dX5_loss_0 : decode cX5_loss 0 = .ok (.iload_n 1, 1) := by decide +kernel
theorem dX5_loss_1 : decode cX5_loss 1 = .ok (.invokestatic 77, 3) := by decide +kernel
theorem dX5_loss_4 : decode cX5_loss 4 = .ok (.ifCond .eq 19, 3) := by decide +kernel
theorem dX5_loss_7 : decode cX5_loss 7 = .ok (.aload_n 0, 1) := by decide +kernel
theorem dX5_loss_8 : decode cX5_loss 8 = .ok (.getfield 121, 3) := by decide +kernel
theorem dX5_loss_11 : decode cX5_loss 11 = .ok (.ifCond .eq 12, 3) := by decide +kernel
theorem dX5_loss_14 : decode cX5_loss 14 = .ok (.iload_n 2, 1) := by decide +kernel
theorem dX5_loss_15 : decode cX5_loss 15 = .ok (.ifCond .lt 8, 3) := by decide +kernel
theorem dX5_loss_18 : decode cX5_loss 18 = .ok (.iload_n 2, 1) := by decide +kernel
theorem dX5_loss_19 : decode cX5_loss 19 = .ok (.iconst 1, 1) := by decide +kernel
theorem dX5_loss_20 : decode cX5_loss 20 = .ok (.if_icmp .le 9, 3) := by decide +kernel
theorem dX5_loss_23 : decode cX5_loss 23 = .ok (.ldc2_w 161, 3) := by decide +kernel
theorem dX5_loss_26 : decode cX5_loss 26 = .ok (.goto 25, 3) := by decide +kernel
theorem dX5_loss_29 : decode cX5_loss 29 = .ok (.aload_n 0, 1) := by decide +kernel
theorem dX5_loss_30 : decode cX5_loss 30 = .ok (.iload_n 1, 1) := by decide +kernel
theorem dX5_loss_31 : decode cX5_loss 31 = .ok (.aload_n 0, 1) := by decide +kernel
theorem dX5_loss_32 : decode cX5_loss 32 = .ok (.getfield 124, 3) := by decide +kernel
theorem dX5_loss_35 : decode cX5_loss 35 = .ok (.invokevirtual 114, 3) := by decide +kernel
theorem dX5_loss_38 : decode cX5_loss 38 = .ok (.aload_n 0, 1) := by decide +kernel
theorem dX5_loss_39 : decode cX5_loss 39 = .ok (.iload_n 1, 1) := by decide +kernel
theorem dX5_loss_40 : decode cX5_loss 40 = .ok (.aload_n 0, 1) := by decide +kernel
theorem dX5_loss_41 : decode cX5_loss 41 = .ok (.invokevirtual 103, 3) := by decide +kernel
theorem dX5_loss_44 : decode cX5_loss 44 = .ok (.invokevirtual 114, 3) := by decide +kernel
theorem dX5_loss_47 : decode cX5_loss 47 = .ok (.iload_n 2, 1) := by decide +kernel
theorem dX5_loss_48 : decode cX5_loss 48 = .ok (.invokestatic 179, 3) := by decide +kernel
theorem dX5_loss_51 : decode cX5_loss 51 = .ok (.lreturn, 1) := by decide +kernel
theorem dX5_border_0 : decode cX5_border 0 = .ok (.aload_n 0, 1) := by decide +kernel
theorem dX5_border_1 : decode cX5_border 1 = .ok (.getfield 121, 3) := by decide +kernel
theorem dX5_border_4 : decode cX5_border 4 = .ok (.ifCond .eq 14, 3) := by decide +kernel
theorem dX5_border_7 : decode cX5_border 7 = .ok (.aload_n 0, 1) := by decide +kernel
theorem dX5_border_8 : decode cX5_border 8 = .ok (.aload_n 0, 1) := by decide +kernel
theorem dX5_border_9 : decode cX5_border 9 = .ok (.getfield 124, 3) := by decide +kernel
theorem dX5_border_12 : decode cX5_border 12 = .ok (.invokevirtual 117, 3) := by decide +kernel
theorem dX5_border_15 : decode cX5_border 15 = .ok (.goto 6, 3) := by decide +kernel
theorem dX5_border_18 : decode cX5_border 18 = .ok (.ldc2_w 161, 3) := by decide +kernel
theorem dX5_border_21 : decode cX5_border 21 = .ok (.lreturn, 1) := by decide +kernel
theorem dX5_year_0 : decode cX5_year 0 = .ok (.aload_n 0, 1) := by decide +kernel
theorem dX5_year_1 : decode cX5_year 1 = .ok (.iload_n 1, 1) := by decide +kernel
theorem dX5_year_2 : decode cX5_year 2 = .ok (.invokevirtual 183, 3) := by decide +kernel
theorem dX5_year_5 : decode cX5_year 5 = .ok (.ifCond .ne 5, 3) := by decide +kernel
theorem dX5_year_8 : decode cX5_year 8 = .ok (.iconst (-1), 1) := by decide +kernel
theorem dX5_year_9 : decode cX5_year 9 = .ok (.ireturn, 1) := by decide +kernel
theorem dX5_year_10 : decode cX5_year 10 = .ok (.iconst 0, 1) := by decide +kernel
theorem dX5_year_11 : decode cX5_year 11 = .ok (.istore_n 2, 1) := by decide +kernel
theorem dX5_year_12 : decode cX5_year 12 = .ok (.iconst 0, 1) := by decide +kernel
theorem dX5_year_13 : decode cX5_year 13 = .ok (.istore_n 3, 1) := by decide +kernel
theorem dX5_year_14 : decode cX5_year 14 = .ok (.iload_n 3, 1) := by decide +kernel
theorem dX5_year_15 : decode cX5_year 15 = .ok (.aload_n 0, 1) := by decide +kernel
theorem dX5_year_16 : decode cX5_year 16 = .ok (.getfield 49, 3) := by decide +kernel
theorem dX5_year_19 : decode cX5_year 19 = .ok (.if_icmp .ge 65, 3) := by decide +kernel
theorem dX5_year_22 : decode cX5_year 22 = .ok (.iload_n 2, 1) := by decide +kernel
theorem dX5_year_23 : decode cX5_year 23 = .ok (.aload_n 0, 1) := by decide +kernel
theorem dX5_year_24 : decode cX5_year 24 = .ok (.getfield 124, 3) := by decide +kernel
theorem dX5_year_27 : decode cX5_year 27 = .ok (.iload_n 3, 1) := by decide +kernel
theorem dX5_year_28 : decode cX5_year 28 = .ok (.invokestatic 95, 3) := by decide +kernel
theorem dX5_year_31 : decode cX5_year 31 = .ok (.ifCond .eq 44, 3) := by decide +kernel
theorem dX5_year_34 : decode cX5_year 34 = .ok (.aload_n 0, 1) := by decide +kernel
theorem dX5_year_35 : decode cX5_year 35 = .ok (.getfield 7, 3) := by decide +kernel
theorem dX5_year_38 : decode cX5_year 38 = .ok (.iload_n 3, 1) := by decide +kernel
theorem dX5_year_39 : decode cX5_year 39 = .ok (.laload, 1) := by decide +kernel
theorem dX5_year_40 : decode cX5_year 40 = .ok (.aload_n 0, 1) := by decide +kernel
theorem dX5_year_41 : decode cX5_year 41 = .ok (.getfield 7, 3) := by decide +kernel
theorem dX5_year_44 : decode cX5_year 44 = .ok (.iload_n 1, 1) := by decide +kernel
theorem dX5_year_45 : decode cX5_year 45 = .ok (.laload, 1) := by decide +kernel
theorem dX5_year_46 : decode cX5_year 46 = .ok (.lcmp, 1) := by decide +kernel
theorem dX5_year_47 : decode cX5_year 47 = .ok (.ifCond .lt 24, 3) := by decide +kernel
theorem dX5_year_50 : decode cX5_year 50 = .ok (.aload_n 0, 1) := by decide +kernel
theorem dX5_year_51 : decode cX5_year 51 = .ok (.getfield 7, 3) := by decide +kernel
theorem dX5_year_54 : decode cX5_year 54 = .ok (.iload_n 3, 1) := by decide +kernel
theorem dX5_year_55 : decode cX5_year 55 = .ok (.laload, 1) := by decide +kernel
theorem dX5_year_56 : decode cX5_year 56 = .ok (.aload_n 0, 1) := by decide +kernel
theorem dX5_year_57 : decode cX5_year 57 = .ok (.getfield 7, 3) := by decide +kernel
theorem dX5_year_60 : decode cX5_year 60 = .ok (.iload_n 1, 1) := by decide +kernel
theorem dX5_year_61 : decode cX5_year 61 = .ok (.laload, 1) := by decide +kernel
theorem dX5_year_62 : decode cX5_year 62 = .ok (.lcmp, 1) := by decide +kernel
theorem dX5_year_63 : decode cX5_year 63 = .ok (.ifCond .ne 12, 3) := by decide +kernel
theorem dX5_year_66 : decode cX5_year 66 = .ok (.iload_n 3, 1) := by decide +kernel
theorem dX5_year_67 : decode cX5_year 67 = .ok (.iload_n 1, 1) := by decide +kernel
theorem dX5_year_68 : decode cX5_year 68 = .ok (.if_icmp .ge 7, 3) := by decide +kernel
theorem dX5_year_71 : decode cX5_year 71 = .ok (.iconst 1, 1) := by decide +kernel
theorem dX5_year_72 : decode cX5_year 72 = .ok (.goto 4, 3) := by decide +kernel
theorem dX5_year_75 : decode cX5_year 75 = .ok (.iconst 0, 1) := by decide +kernel
theorem dX5_year_76 : decode cX5_year 76 = .ok (.iadd, 1) := by decide +kernel
theorem dX5_year_77 : decode cX5_year 77 = .ok (.istore_n 2, 1) := by decide +kernel
theorem dX5_year_78 : decode cX5_year 78 = .ok (.iinc 3 1, 3) := by decide +kernel
theorem dX5_year_81 : decode cX5_year 81 = .ok (.goto (-67), 3) := by decide +kernel
theorem dX5_year_84 : decode cX5_year 84 = .ok (.iload_n 2, 1) := by decide +kernel
theorem dX5_year_85 : decode cX5_year 85 = .ok (.iconst 2, 1) := by decide +kernel
theorem dX5_year_86 : decode cX5_year 86 = .ok (.idiv, 1) := by decide +kernel
theorem dX5_year_87 : decode cX5_year 87 = .ok (.ireturn, 1) := by decide +kernel
theorem dX5_unlike_0 : decode cX5_unlike 0 = .ok (.iload_n 1, 1) := by decide +kernel
theorem dX5_unlike_1 : decode cX5_unlike 1 = .ok (.ifCond .lt 9, 3) := by decide +kernel
theorem dX5_unlike_4 : decode cX5_unlike 4 = .ok (.iload_n 1, 1) := by decide +kernel
theorem dX5_unlike_5 : decode cX5_unlike 5 = .ok (.bipush 24, 2) := by decide +kernel
theorem dX5_unlike_7 : decode cX5_unlike 7 = .ok (.if_icmp .le 5, 3) := by decide +kernel
theorem dX5_unlike_10 : decode cX5_unlike 10 = .ok (.iconst (-1), 1) := by decide +kernel
theorem dX5_unlike_11 : decode cX5_unlike 11 = .ok (.ireturn, 1) := by decide +kernel
theorem dX5_unlike_12 : decode cX5_unlike 12 = .ok (.iconst 0, 1) := by decide +kernel
theorem dX5_unlike_13 : decode cX5_unlike 13 = .ok (.istore_n 2, 1) := by decide +kernel
theorem dX5_unlike_14 : decode cX5_unlike 14 = .ok (.iconst 0, 1) := by decide +kernel
theorem dX5_unlike_15 : decode cX5_unlike 15 = .ok (.istore_n 3, 1) := by decide +kernel
theorem dX5_unlike_16 : decode cX5_unlike 16 = .ok (.iload_n 3, 1) := by decide +kernel
theorem dX5_unlike_17 : decode cX5_unlike 17 = .ok (.iload_n 1, 1) := by decide +kernel
theorem dX5_unlike_18 : decode cX5_unlike 18 = .ok (.if_icmp .ge 47, 3) := by decide +kernel
theorem dX5_unlike_21 : decode cX5_unlike 21 = .ok (.iload_n 2, 1) := by decide +kernel
theorem dX5_unlike_22 : decode cX5_unlike 22 = .ok (.aload_n 0, 1) := by decide +kernel
theorem dX5_unlike_23 : decode cX5_unlike 23 = .ok (.getfield 121, 3) := by decide +kernel
theorem dX5_unlike_26 : decode cX5_unlike 26 = .ok (.ifCond .eq 10, 3) := by decide +kernel
theorem dX5_unlike_29 : decode cX5_unlike 29 = .ok (.aload_n 0, 1) := by decide +kernel
theorem dX5_unlike_30 : decode cX5_unlike 30 = .ok (.getfield 124, 3) := by decide +kernel
theorem dX5_unlike_33 : decode cX5_unlike 33 = .ok (.goto 4, 3) := by decide +kernel
theorem dX5_unlike_36 : decode cX5_unlike 36 = .ok (.iconst 0, 1) := by decide +kernel
theorem dX5_unlike_37 : decode cX5_unlike 37 = .ok (.iload_n 3, 1) := by decide +kernel
theorem dX5_unlike_38 : decode cX5_unlike 38 = .ok (.invokestatic 95, 3) := by decide +kernel
theorem dX5_unlike_41 : decode cX5_unlike 41 = .ok (.aload_n 0, 1) := by decide +kernel
theorem dX5_unlike_42 : decode cX5_unlike 42 = .ok (.getfield 127, 3) := by decide +kernel
theorem dX5_unlike_45 : decode cX5_unlike 45 = .ok (.iload_n 3, 1) := by decide +kernel
theorem dX5_unlike_46 : decode cX5_unlike 46 = .ok (.invokestatic 95, 3) := by decide +kernel
theorem dX5_unlike_49 : decode cX5_unlike 49 = .ok (.if_icmp .eq 7, 3) := by decide +kernel
theorem dX5_unlike_52 : decode cX5_unlike 52 = .ok (.iconst 1, 1) := by decide +kernel
theorem dX5_unlike_53 : decode cX5_unlike 53 = .ok (.goto 4, 3) := by decide +kernel
theorem dX5_unlike_56 : decode cX5_unlike 56 = .ok (.iconst 0, 1) := by decide +kernel
theorem dX5_unlike_57 : decode cX5_unlike 57 = .ok (.iadd, 1) := by decide +kernel
theorem dX5_unlike_58 : decode cX5_unlike 58 = .ok (.istore_n 2, 1) := by decide +kernel
theorem dX5_unlike_59 : decode cX5_unlike 59 = .ok (.iinc 3 1, 3) := by decide +kernel
theorem dX5_unlike_62 : decode cX5_unlike 62 = .ok (.goto (-46), 3) := by decide +kernel
theorem dX5_unlike_65 : decode cX5_unlike 65 = .ok (.iload_n 2, 1) := by decide +kernel
theorem dX5_unlike_66 : decode cX5_unlike 66 = .ok (.ireturn, 1) := by decide +kernel
theorem dX5_tie_0 : decode cX5_tie 0 = .ok (.aload_n 0, 1) := by decide +kernel
theorem dX5_tie_1 : decode cX5_tie 1 = .ok (.getfield 121, 3) := by decide +kernel
theorem dX5_tie_4 : decode cX5_tie 4 = .ok (.ifCond .eq 7, 3) := by decide +kernel
theorem dX5_tie_7 : decode cX5_tie 7 = .ok (.iload_n 1, 1) := by decide +kernel
theorem dX5_tie_8 : decode cX5_tie 8 = .ok (.ifCond .ge 5, 3) := by decide +kernel
theorem dX5_tie_11 : decode cX5_tie 11 = .ok (.iconst (-1), 1) := by decide +kernel
theorem dX5_tie_12 : decode cX5_tie 12 = .ok (.ireturn, 1) := by decide +kernel
theorem dX5_tie_13 : decode cX5_tie 13 = .ok (.iload_n 1, 1) := by decide +kernel
theorem dX5_tie_14 : decode cX5_tie 14 = .ok (.istore_n 2, 1) := by decide +kernel
theorem dX5_tie_15 : decode cX5_tie 15 = .ok (.iconst 0, 1) := by decide +kernel
theorem dX5_tie_16 : decode cX5_tie 16 = .ok (.istore_n 3, 1) := by decide +kernel
theorem dX5_tie_17 : decode cX5_tie 17 = .ok (.iload_n 3, 1) := by decide +kernel
theorem dX5_tie_18 : decode cX5_tie 18 = .ok (.aload_n 0, 1) := by decide +kernel
theorem dX5_tie_19 : decode cX5_tie 19 = .ok (.getfield 49, 3) := by decide +kernel
theorem dX5_tie_22 : decode cX5_tie 22 = .ok (.if_icmp .ge 64, 3) := by decide +kernel
theorem dX5_tie_25 : decode cX5_tie 25 = .ok (.aload_n 0, 1) := by decide +kernel
theorem dX5_tie_26 : decode cX5_tie 26 = .ok (.getfield 124, 3) := by decide +kernel
theorem dX5_tie_29 : decode cX5_tie 29 = .ok (.iconst 1, 1) := by decide +kernel
theorem dX5_tie_30 : decode cX5_tie 30 = .ok (.iload_n 3, 1) := by decide +kernel
theorem dX5_tie_31 : decode cX5_tie 31 = .ok (.ishl, 1) := by decide +kernel
theorem dX5_tie_32 : decode cX5_tie 32 = .ok (.ixor, 1) := by decide +kernel
theorem dX5_tie_33 : decode cX5_tie 33 = .ok (.istore 4, 2) := by decide +kernel
theorem dX5_tie_35 : decode cX5_tie 35 = .ok (.aload_n 0, 1) := by decide +kernel
theorem dX5_tie_36 : decode cX5_tie 36 = .ok (.getfield 13, 3) := by decide +kernel
theorem dX5_tie_39 : decode cX5_tie 39 = .ok (.iload_n 3, 1) := by decide +kernel
theorem dX5_tie_40 : decode cX5_tie 40 = .ok (.iaload, 1) := by decide +kernel
theorem dX5_tie_41 : decode cX5_tie 41 = .ok (.ifCond .ne 39, 3) := by decide +kernel
theorem dX5_tie_44 : decode cX5_tie 44 = .ok (.aload_n 0, 1) := by decide +kernel
theorem dX5_tie_45 : decode cX5_tie 45 = .ok (.iload 4, 2) := by decide +kernel
theorem dX5_tie_47 : decode cX5_tie 47 = .ok (.invokevirtual 152, 3) := by decide +kernel
theorem dX5_tie_50 : decode cX5_tie 50 = .ok (.aload_n 0, 1) := by decide +kernel
theorem dX5_tie_51 : decode cX5_tie 51 = .ok (.aload_n 0, 1) := by decide +kernel
theorem dX5_tie_52 : decode cX5_tie 52 = .ok (.getfield 124, 3) := by decide +kernel
theorem dX5_tie_55 : decode cX5_tie 55 = .ok (.invokevirtual 152, 3) := by decide +kernel
theorem dX5_tie_58 : decode cX5_tie 58 = .ok (.lcmp, 1) := by decide +kernel
theorem dX5_tie_59 : decode cX5_tie 59 = .ok (.ifCond .ne 21, 3) := by decide +kernel
theorem dX5_tie_62 : decode cX5_tie 62 = .ok (.aload_n 0, 1) := by decide +kernel
theorem dX5_tie_63 : decode cX5_tie 63 = .ok (.iload 4, 2) := by decide +kernel
theorem dX5_tie_65 : decode cX5_tie 65 = .ok (.invokevirtual 158, 3) := by decide +kernel
theorem dX5_tie_68 : decode cX5_tie 68 = .ok (.ifCond .eq 12, 3) := by decide +kernel
theorem dX5_tie_71 : decode cX5_tie 71 = .ok (.iload_n 2, 1) := by decide +kernel
theorem dX5_tie_72 : decode cX5_tie 72 = .ok (.ifCond .ne 5, 3) := by decide +kernel
theorem dX5_tie_75 : decode cX5_tie 75 = .ok (.iload_n 3, 1) := by decide +kernel
theorem dX5_tie_76 : decode cX5_tie 76 = .ok (.ireturn, 1) := by decide +kernel
theorem dX5_tie_77 : decode cX5_tie 77 = .ok (.iinc 2 (-1), 3) := by decide +kernel
theorem dX5_tie_80 : decode cX5_tie 80 = .ok (.iinc 3 1, 3) := by decide +kernel
theorem dX5_tie_83 : decode cX5_tie 83 = .ok (.goto (-66), 3) := by decide +kernel
theorem dX5_tie_86 : decode cX5_tie 86 = .ok (.iconst (-1), 1) := by decide +kernel
theorem dX5_tie_87 : decode cX5_tie 87 = .ok (.ireturn, 1) := by decide +kernel
theorem dL_cell_0 : decode cL_cell 0 = .ok (.iload_n 1, 1) := by decide +kernel
theorem dL_cell_1 : decode cL_cell 1 = .ok (.aload_n 0, 1) := by decide +kernel
theorem dL_cell_2 : decode cL_cell 2 = .ok (.arraylength, 1) := by decide +kernel
theorem dL_cell_3 : decode cL_cell 3 = .ok (.if_icmp .ge 9, 3) := by decide +kernel
theorem dL_cell_6 : decode cL_cell 6 = .ok (.aload_n 0, 1) := by decide +kernel
theorem dL_cell_7 : decode cL_cell 7 = .ok (.iload_n 1, 1) := by decide +kernel
theorem dL_cell_8 : decode cL_cell 8 = .ok (.iaload, 1) := by decide +kernel
theorem dL_cell_9 : decode cL_cell 9 = .ok (.goto 4, 3) := by decide +kernel
theorem dL_cell_12 : decode cL_cell 12 = .ok (.iconst 0, 1) := by decide +kernel
theorem dL_cell_13 : decode cL_cell 13 = .ok (.ireturn, 1) := by decide +kernel
theorem dL_law_0 : decode cL_law 0 = .ok (.new 7, 3) := by decide +kernel
theorem dL_law_3 : decode cL_law 3 = .ok (.dup, 1) := by decide +kernel
theorem dL_law_4 : decode cL_law 4 = .ok (.aload_n 0, 1) := by decide +kernel
theorem dL_law_5 : decode cL_law 5 = .ok (.iconst 0, 1) := by decide +kernel
theorem dL_law_6 : decode cL_law 6 = .ok (.invokestatic 9, 3) := by decide +kernel
theorem dL_law_9 : decode cL_law 9 = .ok (.i2l, 1) := by decide +kernel
theorem dL_law_10 : decode cL_law 10 = .ok (.invokespecial 15, 3) := by decide +kernel
theorem dL_law_13 : decode cL_law 13 = .ok (.astore_n 1, 1) := by decide +kernel
theorem dL_law_14 : decode cL_law 14 = .ok (.new 18, 3) := by decide +kernel
theorem dL_law_17 : decode cL_law 17 = .ok (.dup, 1) := by decide +kernel
theorem dL_law_18 : decode cL_law 18 = .ok (.aload_n 0, 1) := by decide +kernel
theorem dL_law_19 : decode cL_law 19 = .ok (.iconst 0, 1) := by decide +kernel
theorem dL_law_20 : decode cL_law 20 = .ok (.invokestatic 9, 3) := by decide +kernel
theorem dL_law_23 : decode cL_law 23 = .ok (.i2l, 1) := by decide +kernel
theorem dL_law_24 : decode cL_law 24 = .ok (.invokespecial 20, 3) := by decide +kernel
theorem dL_law_27 : decode cL_law 27 = .ok (.astore_n 2, 1) := by decide +kernel
theorem dL_law_28 : decode cL_law 28 = .ok (.iconst 1, 1) := by decide +kernel
theorem dL_law_29 : decode cL_law 29 = .ok (.istore_n 3, 1) := by decide +kernel
theorem dL_law_30 : decode cL_law 30 = .ok (.iload_n 3, 1) := by decide +kernel
theorem dL_law_31 : decode cL_law 31 = .ok (.aload_n 0, 1) := by decide +kernel
theorem dL_law_32 : decode cL_law 32 = .ok (.arraylength, 1) := by decide +kernel
theorem dL_law_33 : decode cL_law 33 = .ok (.bipush 7, 2) := by decide +kernel
theorem dL_law_35 : decode cL_law 35 = .ok (.isub, 1) := by decide +kernel
theorem dL_law_36 : decode cL_law 36 = .ok (.if_icmp .gt 1257, 3) := by decide +kernel
theorem dL_law_39 : decode cL_law 39 = .ok (.aload_n 0, 1) := by decide +kernel
theorem dL_law_40 : decode cL_law 40 = .ok (.iload_n 3, 1) := by decide +kernel
theorem dL_law_41 : decode cL_law 41 = .ok (.iaload, 1) := by decide +kernel
theorem dL_law_42 : decode cL_law 42 = .ok (.bipush 31, 2) := by decide +kernel
theorem dL_law_44 : decode cL_law 44 = .ok (.iand, 1) := by decide +kernel
theorem dL_law_45 : decode cL_law 45 = .ok (.tableswitch 1242 0 26 #[123, 176, 291, 394, 467, 520, 543, 566, 599, 652, 675, 689, 703, 737, 760, 773, 796, 830, 903, 937, 1030, 1044, 1067, 1090, 1153, 1176, 1219], 123) := by decide +kernel
theorem dL_law_168 : decode cL_law 168 = .ok (.aload_n 1, 1) := by decide +kernel
theorem dL_law_169 : decode cL_law 169 = .ok (.aload_n 0, 1) := by decide +kernel
theorem dL_law_170 : decode cL_law 170 = .ok (.iload_n 3, 1) := by decide +kernel
theorem dL_law_171 : decode cL_law 171 = .ok (.iconst 1, 1) := by decide +kernel
theorem dL_law_172 : decode cL_law 172 = .ok (.iadd, 1) := by decide +kernel
theorem dL_law_173 : decode cL_law 173 = .ok (.iaload, 1) := by decide +kernel
theorem dL_law_174 : decode cL_law 174 = .ok (.i2l, 1) := by decide +kernel
theorem dL_law_175 : decode cL_law 175 = .ok (.bipush 32, 2) := by decide +kernel
theorem dL_law_177 : decode cL_law 177 = .ok (.lshl, 1) := by decide +kernel
theorem dL_law_178 : decode cL_law 178 = .ok (.aload_n 0, 1) := by decide +kernel
theorem dL_law_179 : decode cL_law 179 = .ok (.iload_n 3, 1) := by decide +kernel
theorem dL_law_180 : decode cL_law 180 = .ok (.iconst 2, 1) := by decide +kernel
theorem dL_law_181 : decode cL_law 181 = .ok (.iadd, 1) := by decide +kernel
theorem dL_law_182 : decode cL_law 182 = .ok (.iaload, 1) := by decide +kernel
theorem dL_law_183 : decode cL_law 183 = .ok (.i2l, 1) := by decide +kernel
theorem dL_law_184 : decode cL_law 184 = .ok (.ldc2_w 21, 3) := by decide +kernel
theorem dL_law_187 : decode cL_law 187 = .ok (.land, 1) := by decide +kernel
theorem dL_law_188 : decode cL_law 188 = .ok (.lor, 1) := by decide +kernel
theorem dL_law_189 : decode cL_law 189 = .ok (.invokevirtual 23, 3) := by decide +kernel
theorem dL_law_192 : decode cL_law 192 = .ok (.aload_n 2, 1) := by decide +kernel
theorem dL_law_193 : decode cL_law 193 = .ok (.aload_n 0, 1) := by decide +kernel
theorem dL_law_194 : decode cL_law 194 = .ok (.iload_n 3, 1) := by decide +kernel
theorem dL_law_195 : decode cL_law 195 = .ok (.iconst 1, 1) := by decide +kernel
theorem dL_law_196 : decode cL_law 196 = .ok (.iadd, 1) := by decide +kernel
theorem dL_law_197 : decode cL_law 197 = .ok (.iaload, 1) := by decide +kernel
theorem dL_law_198 : decode cL_law 198 = .ok (.i2l, 1) := by decide +kernel
theorem dL_law_199 : decode cL_law 199 = .ok (.bipush 32, 2) := by decide +kernel
theorem dL_law_201 : decode cL_law 201 = .ok (.lshl, 1) := by decide +kernel
theorem dL_law_202 : decode cL_law 202 = .ok (.aload_n 0, 1) := by decide +kernel
theorem dL_law_203 : decode cL_law 203 = .ok (.iload_n 3, 1) := by decide +kernel
theorem dL_law_204 : decode cL_law 204 = .ok (.iconst 2, 1) := by decide +kernel
theorem dL_law_205 : decode cL_law 205 = .ok (.iadd, 1) := by decide +kernel
theorem dL_law_206 : decode cL_law 206 = .ok (.iaload, 1) := by decide +kernel
theorem dL_law_207 : decode cL_law 207 = .ok (.i2l, 1) := by decide +kernel
theorem dL_law_208 : decode cL_law 208 = .ok (.ldc2_w 21, 3) := by decide +kernel
theorem dL_law_211 : decode cL_law 211 = .ok (.land, 1) := by decide +kernel
theorem dL_law_212 : decode cL_law 212 = .ok (.lor, 1) := by decide +kernel
theorem dL_law_213 : decode cL_law 213 = .ok (.invokevirtual 26, 3) := by decide +kernel
theorem dL_law_216 : decode cL_law 216 = .ok (.if_icmp .eq 1071, 3) := by decide +kernel
theorem dL_law_219 : decode cL_law 219 = .ok (.iconst 0, 1) := by decide +kernel
theorem dL_law_220 : decode cL_law 220 = .ok (.ireturn, 1) := by decide +kernel
theorem dL_law_221 : decode cL_law 221 = .ok (.aload_n 1, 1) := by decide +kernel
theorem dL_law_222 : decode cL_law 222 = .ok (.aload_n 0, 1) := by decide +kernel
theorem dL_law_223 : decode cL_law 223 = .ok (.iload_n 3, 1) := by decide +kernel
theorem dL_law_224 : decode cL_law 224 = .ok (.iconst 1, 1) := by decide +kernel
theorem dL_law_225 : decode cL_law 225 = .ok (.iadd, 1) := by decide +kernel
theorem dL_law_226 : decode cL_law 226 = .ok (.iaload, 1) := by decide +kernel
theorem dL_law_227 : decode cL_law 227 = .ok (.aload_n 0, 1) := by decide +kernel
theorem dL_law_228 : decode cL_law 228 = .ok (.iload_n 3, 1) := by decide +kernel
theorem dL_law_229 : decode cL_law 229 = .ok (.iconst 2, 1) := by decide +kernel
theorem dL_law_230 : decode cL_law 230 = .ok (.iadd, 1) := by decide +kernel
theorem dL_law_231 : decode cL_law 231 = .ok (.iaload, 1) := by decide +kernel
theorem dL_law_232 : decode cL_law 232 = .ok (.aload_n 0, 1) := by decide +kernel
theorem dL_law_233 : decode cL_law 233 = .ok (.iload_n 3, 1) := by decide +kernel
theorem dL_law_234 : decode cL_law 234 = .ok (.iconst 3, 1) := by decide +kernel
theorem dL_law_235 : decode cL_law 235 = .ok (.iadd, 1) := by decide +kernel
theorem dL_law_236 : decode cL_law 236 = .ok (.iaload, 1) := by decide +kernel
theorem dL_law_237 : decode cL_law 237 = .ok (.i2l, 1) := by decide +kernel
theorem dL_law_238 : decode cL_law 238 = .ok (.bipush 32, 2) := by decide +kernel
theorem dL_law_240 : decode cL_law 240 = .ok (.lshl, 1) := by decide +kernel
theorem dL_law_241 : decode cL_law 241 = .ok (.aload_n 0, 1) := by decide +kernel
theorem dL_law_242 : decode cL_law 242 = .ok (.iload_n 3, 1) := by decide +kernel
theorem dL_law_243 : decode cL_law 243 = .ok (.iconst 4, 1) := by decide +kernel
theorem dL_law_244 : decode cL_law 244 = .ok (.iadd, 1) := by decide +kernel
theorem dL_law_245 : decode cL_law 245 = .ok (.iaload, 1) := by decide +kernel
theorem dL_law_246 : decode cL_law 246 = .ok (.i2l, 1) := by decide +kernel
theorem dL_law_247 : decode cL_law 247 = .ok (.ldc2_w 21, 3) := by decide +kernel
theorem dL_law_250 : decode cL_law 250 = .ok (.land, 1) := by decide +kernel
theorem dL_law_251 : decode cL_law 251 = .ok (.lor, 1) := by decide +kernel
theorem dL_law_252 : decode cL_law 252 = .ok (.aload_n 0, 1) := by decide +kernel
theorem dL_law_253 : decode cL_law 253 = .ok (.iload_n 3, 1) := by decide +kernel
theorem dL_law_254 : decode cL_law 254 = .ok (.iconst 5, 1) := by decide +kernel
theorem dL_law_255 : decode cL_law 255 = .ok (.iadd, 1) := by decide +kernel
theorem dL_law_256 : decode cL_law 256 = .ok (.iaload, 1) := by decide +kernel
theorem dL_law_257 : decode cL_law 257 = .ok (.i2l, 1) := by decide +kernel
theorem dL_law_258 : decode cL_law 258 = .ok (.bipush 32, 2) := by decide +kernel
theorem dL_law_260 : decode cL_law 260 = .ok (.lshl, 1) := by decide +kernel
theorem dL_law_261 : decode cL_law 261 = .ok (.aload_n 0, 1) := by decide +kernel
theorem dL_law_262 : decode cL_law 262 = .ok (.iload_n 3, 1) := by decide +kernel
theorem dL_law_263 : decode cL_law 263 = .ok (.bipush 6, 2) := by decide +kernel
theorem dL_law_265 : decode cL_law 265 = .ok (.iadd, 1) := by decide +kernel
theorem dL_law_266 : decode cL_law 266 = .ok (.iaload, 1) := by decide +kernel
theorem dL_law_267 : decode cL_law 267 = .ok (.i2l, 1) := by decide +kernel
theorem dL_law_268 : decode cL_law 268 = .ok (.ldc2_w 21, 3) := by decide +kernel
theorem dL_law_271 : decode cL_law 271 = .ok (.land, 1) := by decide +kernel
theorem dL_law_272 : decode cL_law 272 = .ok (.lor, 1) := by decide +kernel
theorem dL_law_273 : decode cL_law 273 = .ok (.invokevirtual 27, 3) := by decide +kernel
theorem dL_law_276 : decode cL_law 276 = .ok (.aload_n 2, 1) := by decide +kernel
theorem dL_law_277 : decode cL_law 277 = .ok (.aload_n 0, 1) := by decide +kernel
theorem dL_law_278 : decode cL_law 278 = .ok (.iload_n 3, 1) := by decide +kernel
theorem dL_law_279 : decode cL_law 279 = .ok (.iconst 1, 1) := by decide +kernel
theorem dL_law_280 : decode cL_law 280 = .ok (.iadd, 1) := by decide +kernel
theorem dL_law_281 : decode cL_law 281 = .ok (.iaload, 1) := by decide +kernel
theorem dL_law_282 : decode cL_law 282 = .ok (.aload_n 0, 1) := by decide +kernel
theorem dL_law_283 : decode cL_law 283 = .ok (.iload_n 3, 1) := by decide +kernel
theorem dL_law_284 : decode cL_law 284 = .ok (.iconst 2, 1) := by decide +kernel
theorem dL_law_285 : decode cL_law 285 = .ok (.iadd, 1) := by decide +kernel
theorem dL_law_286 : decode cL_law 286 = .ok (.iaload, 1) := by decide +kernel
theorem dL_law_287 : decode cL_law 287 = .ok (.aload_n 0, 1) := by decide +kernel
theorem dL_law_288 : decode cL_law 288 = .ok (.iload_n 3, 1) := by decide +kernel
theorem dL_law_289 : decode cL_law 289 = .ok (.iconst 3, 1) := by decide +kernel
theorem dL_law_290 : decode cL_law 290 = .ok (.iadd, 1) := by decide +kernel
theorem dL_law_291 : decode cL_law 291 = .ok (.iaload, 1) := by decide +kernel
theorem dL_law_292 : decode cL_law 292 = .ok (.i2l, 1) := by decide +kernel
theorem dL_law_293 : decode cL_law 293 = .ok (.bipush 32, 2) := by decide +kernel
theorem dL_law_295 : decode cL_law 295 = .ok (.lshl, 1) := by decide +kernel
theorem dL_law_296 : decode cL_law 296 = .ok (.aload_n 0, 1) := by decide +kernel
theorem dL_law_297 : decode cL_law 297 = .ok (.iload_n 3, 1) := by decide +kernel
theorem dL_law_298 : decode cL_law 298 = .ok (.iconst 4, 1) := by decide +kernel
theorem dL_law_299 : decode cL_law 299 = .ok (.iadd, 1) := by decide +kernel
theorem dL_law_300 : decode cL_law 300 = .ok (.iaload, 1) := by decide +kernel
theorem dL_law_301 : decode cL_law 301 = .ok (.i2l, 1) := by decide +kernel
theorem dL_law_302 : decode cL_law 302 = .ok (.ldc2_w 21, 3) := by decide +kernel
theorem dL_law_305 : decode cL_law 305 = .ok (.land, 1) := by decide +kernel
theorem dL_law_306 : decode cL_law 306 = .ok (.lor, 1) := by decide +kernel
theorem dL_law_307 : decode cL_law 307 = .ok (.aload_n 0, 1) := by decide +kernel
theorem dL_law_308 : decode cL_law 308 = .ok (.iload_n 3, 1) := by decide +kernel
theorem dL_law_309 : decode cL_law 309 = .ok (.iconst 5, 1) := by decide +kernel
theorem dL_law_310 : decode cL_law 310 = .ok (.iadd, 1) := by decide +kernel
theorem dL_law_311 : decode cL_law 311 = .ok (.iaload, 1) := by decide +kernel
theorem dL_law_312 : decode cL_law 312 = .ok (.i2l, 1) := by decide +kernel
theorem dL_law_313 : decode cL_law 313 = .ok (.bipush 32, 2) := by decide +kernel
theorem dL_law_315 : decode cL_law 315 = .ok (.lshl, 1) := by decide +kernel
theorem dL_law_316 : decode cL_law 316 = .ok (.aload_n 0, 1) := by decide +kernel
theorem dL_law_317 : decode cL_law 317 = .ok (.iload_n 3, 1) := by decide +kernel
theorem dL_law_318 : decode cL_law 318 = .ok (.bipush 6, 2) := by decide +kernel
theorem dL_law_320 : decode cL_law 320 = .ok (.iadd, 1) := by decide +kernel
theorem dL_law_321 : decode cL_law 321 = .ok (.iaload, 1) := by decide +kernel
theorem dL_law_322 : decode cL_law 322 = .ok (.i2l, 1) := by decide +kernel
theorem dL_law_323 : decode cL_law 323 = .ok (.ldc2_w 21, 3) := by decide +kernel
theorem dL_law_326 : decode cL_law 326 = .ok (.land, 1) := by decide +kernel
theorem dL_law_327 : decode cL_law 327 = .ok (.lor, 1) := by decide +kernel
theorem dL_law_328 : decode cL_law 328 = .ok (.invokevirtual 31, 3) := by decide +kernel
theorem dL_law_331 : decode cL_law 331 = .ok (.if_icmp .eq 956, 3) := by decide +kernel
theorem dL_law_334 : decode cL_law 334 = .ok (.iconst 0, 1) := by decide +kernel
theorem dL_law_335 : decode cL_law 335 = .ok (.ireturn, 1) := by decide +kernel
theorem dL_law_336 : decode cL_law 336 = .ok (.aload_n 1, 1) := by decide +kernel
theorem dL_law_337 : decode cL_law 337 = .ok (.aload_n 0, 1) := by decide +kernel
theorem dL_law_338 : decode cL_law 338 = .ok (.iload_n 3, 1) := by decide +kernel
theorem dL_law_339 : decode cL_law 339 = .ok (.iconst 1, 1) := by decide +kernel
theorem dL_law_340 : decode cL_law 340 = .ok (.iadd, 1) := by decide +kernel
theorem dL_law_341 : decode cL_law 341 = .ok (.iaload, 1) := by decide +kernel
theorem dL_law_342 : decode cL_law 342 = .ok (.aload_n 0, 1) := by decide +kernel
theorem dL_law_343 : decode cL_law 343 = .ok (.iload_n 3, 1) := by decide +kernel
theorem dL_law_344 : decode cL_law 344 = .ok (.iconst 2, 1) := by decide +kernel
theorem dL_law_345 : decode cL_law 345 = .ok (.iadd, 1) := by decide +kernel
theorem dL_law_346 : decode cL_law 346 = .ok (.iaload, 1) := by decide +kernel
theorem dL_law_347 : decode cL_law 347 = .ok (.i2l, 1) := by decide +kernel
theorem dL_law_348 : decode cL_law 348 = .ok (.bipush 32, 2) := by decide +kernel
theorem dL_law_350 : decode cL_law 350 = .ok (.lshl, 1) := by decide +kernel
theorem dL_law_351 : decode cL_law 351 = .ok (.aload_n 0, 1) := by decide +kernel
theorem dL_law_352 : decode cL_law 352 = .ok (.iload_n 3, 1) := by decide +kernel
theorem dL_law_353 : decode cL_law 353 = .ok (.iconst 3, 1) := by decide +kernel
theorem dL_law_354 : decode cL_law 354 = .ok (.iadd, 1) := by decide +kernel
theorem dL_law_355 : decode cL_law 355 = .ok (.iaload, 1) := by decide +kernel
theorem dL_law_356 : decode cL_law 356 = .ok (.i2l, 1) := by decide +kernel
theorem dL_law_357 : decode cL_law 357 = .ok (.ldc2_w 21, 3) := by decide +kernel
theorem dL_law_360 : decode cL_law 360 = .ok (.land, 1) := by decide +kernel
theorem dL_law_361 : decode cL_law 361 = .ok (.lor, 1) := by decide +kernel
theorem dL_law_362 : decode cL_law 362 = .ok (.aload_n 0, 1) := by decide +kernel
theorem dL_law_363 : decode cL_law 363 = .ok (.iload_n 3, 1) := by decide +kernel
theorem dL_law_364 : decode cL_law 364 = .ok (.iconst 4, 1) := by decide +kernel
theorem dL_law_365 : decode cL_law 365 = .ok (.iadd, 1) := by decide +kernel
theorem dL_law_366 : decode cL_law 366 = .ok (.iaload, 1) := by decide +kernel
theorem dL_law_367 : decode cL_law 367 = .ok (.i2l, 1) := by decide +kernel
theorem dL_law_368 : decode cL_law 368 = .ok (.bipush 32, 2) := by decide +kernel
theorem dL_law_370 : decode cL_law 370 = .ok (.lshl, 1) := by decide +kernel
theorem dL_law_371 : decode cL_law 371 = .ok (.aload_n 0, 1) := by decide +kernel
theorem dL_law_372 : decode cL_law 372 = .ok (.iload_n 3, 1) := by decide +kernel
theorem dL_law_373 : decode cL_law 373 = .ok (.iconst 5, 1) := by decide +kernel
theorem dL_law_374 : decode cL_law 374 = .ok (.iadd, 1) := by decide +kernel
theorem dL_law_375 : decode cL_law 375 = .ok (.iaload, 1) := by decide +kernel
theorem dL_law_376 : decode cL_law 376 = .ok (.i2l, 1) := by decide +kernel
theorem dL_law_377 : decode cL_law 377 = .ok (.ldc2_w 21, 3) := by decide +kernel
theorem dL_law_380 : decode cL_law 380 = .ok (.land, 1) := by decide +kernel
theorem dL_law_381 : decode cL_law 381 = .ok (.lor, 1) := by decide +kernel
theorem dL_law_382 : decode cL_law 382 = .ok (.invokevirtual 32, 3) := by decide +kernel
theorem dL_law_385 : decode cL_law 385 = .ok (.aload_n 2, 1) := by decide +kernel
theorem dL_law_386 : decode cL_law 386 = .ok (.aload_n 0, 1) := by decide +kernel
theorem dL_law_387 : decode cL_law 387 = .ok (.iload_n 3, 1) := by decide +kernel
theorem dL_law_388 : decode cL_law 388 = .ok (.iconst 1, 1) := by decide +kernel
theorem dL_law_389 : decode cL_law 389 = .ok (.iadd, 1) := by decide +kernel
theorem dL_law_390 : decode cL_law 390 = .ok (.iaload, 1) := by decide +kernel
theorem dL_law_391 : decode cL_law 391 = .ok (.aload_n 0, 1) := by decide +kernel
theorem dL_law_392 : decode cL_law 392 = .ok (.iload_n 3, 1) := by decide +kernel
theorem dL_law_393 : decode cL_law 393 = .ok (.iconst 2, 1) := by decide +kernel
theorem dL_law_394 : decode cL_law 394 = .ok (.iadd, 1) := by decide +kernel
theorem dL_law_395 : decode cL_law 395 = .ok (.iaload, 1) := by decide +kernel
theorem dL_law_396 : decode cL_law 396 = .ok (.i2l, 1) := by decide +kernel
theorem dL_law_397 : decode cL_law 397 = .ok (.bipush 32, 2) := by decide +kernel
theorem dL_law_399 : decode cL_law 399 = .ok (.lshl, 1) := by decide +kernel
theorem dL_law_400 : decode cL_law 400 = .ok (.aload_n 0, 1) := by decide +kernel
theorem dL_law_401 : decode cL_law 401 = .ok (.iload_n 3, 1) := by decide +kernel
theorem dL_law_402 : decode cL_law 402 = .ok (.iconst 3, 1) := by decide +kernel
theorem dL_law_403 : decode cL_law 403 = .ok (.iadd, 1) := by decide +kernel
theorem dL_law_404 : decode cL_law 404 = .ok (.iaload, 1) := by decide +kernel
theorem dL_law_405 : decode cL_law 405 = .ok (.i2l, 1) := by decide +kernel
theorem dL_law_406 : decode cL_law 406 = .ok (.ldc2_w 21, 3) := by decide +kernel
theorem dL_law_409 : decode cL_law 409 = .ok (.land, 1) := by decide +kernel
theorem dL_law_410 : decode cL_law 410 = .ok (.lor, 1) := by decide +kernel
theorem dL_law_411 : decode cL_law 411 = .ok (.aload_n 0, 1) := by decide +kernel
theorem dL_law_412 : decode cL_law 412 = .ok (.iload_n 3, 1) := by decide +kernel
theorem dL_law_413 : decode cL_law 413 = .ok (.iconst 4, 1) := by decide +kernel
theorem dL_law_414 : decode cL_law 414 = .ok (.iadd, 1) := by decide +kernel
theorem dL_law_415 : decode cL_law 415 = .ok (.iaload, 1) := by decide +kernel
theorem dL_law_416 : decode cL_law 416 = .ok (.i2l, 1) := by decide +kernel
theorem dL_law_417 : decode cL_law 417 = .ok (.bipush 32, 2) := by decide +kernel
theorem dL_law_419 : decode cL_law 419 = .ok (.lshl, 1) := by decide +kernel
theorem dL_law_420 : decode cL_law 420 = .ok (.aload_n 0, 1) := by decide +kernel
theorem dL_law_421 : decode cL_law 421 = .ok (.iload_n 3, 1) := by decide +kernel
theorem dL_law_422 : decode cL_law 422 = .ok (.iconst 5, 1) := by decide +kernel
theorem dL_law_423 : decode cL_law 423 = .ok (.iadd, 1) := by decide +kernel
theorem dL_law_424 : decode cL_law 424 = .ok (.iaload, 1) := by decide +kernel
theorem dL_law_425 : decode cL_law 425 = .ok (.i2l, 1) := by decide +kernel
theorem dL_law_426 : decode cL_law 426 = .ok (.ldc2_w 21, 3) := by decide +kernel
theorem dL_law_429 : decode cL_law 429 = .ok (.land, 1) := by decide +kernel
theorem dL_law_430 : decode cL_law 430 = .ok (.lor, 1) := by decide +kernel
theorem dL_law_431 : decode cL_law 431 = .ok (.invokevirtual 36, 3) := by decide +kernel
theorem dL_law_434 : decode cL_law 434 = .ok (.if_icmp .eq 853, 3) := by decide +kernel
theorem dL_law_437 : decode cL_law 437 = .ok (.iconst 0, 1) := by decide +kernel
theorem dL_law_438 : decode cL_law 438 = .ok (.ireturn, 1) := by decide +kernel
theorem dL_law_439 : decode cL_law 439 = .ok (.aload_n 1, 1) := by decide +kernel
theorem dL_law_440 : decode cL_law 440 = .ok (.aload_n 0, 1) := by decide +kernel
theorem dL_law_441 : decode cL_law 441 = .ok (.iload_n 3, 1) := by decide +kernel
theorem dL_law_442 : decode cL_law 442 = .ok (.iconst 1, 1) := by decide +kernel
theorem dL_law_443 : decode cL_law 443 = .ok (.iadd, 1) := by decide +kernel
theorem dL_law_444 : decode cL_law 444 = .ok (.iaload, 1) := by decide +kernel
theorem dL_law_445 : decode cL_law 445 = .ok (.aload_n 0, 1) := by decide +kernel
theorem dL_law_446 : decode cL_law 446 = .ok (.iload_n 3, 1) := by decide +kernel
theorem dL_law_447 : decode cL_law 447 = .ok (.iconst 2, 1) := by decide +kernel
theorem dL_law_448 : decode cL_law 448 = .ok (.iadd, 1) := by decide +kernel
theorem dL_law_449 : decode cL_law 449 = .ok (.iaload, 1) := by decide +kernel
theorem dL_law_450 : decode cL_law 450 = .ok (.aload_n 0, 1) := by decide +kernel
theorem dL_law_451 : decode cL_law 451 = .ok (.iload_n 3, 1) := by decide +kernel
theorem dL_law_452 : decode cL_law 452 = .ok (.iconst 3, 1) := by decide +kernel
theorem dL_law_453 : decode cL_law 453 = .ok (.iadd, 1) := by decide +kernel
theorem dL_law_454 : decode cL_law 454 = .ok (.iaload, 1) := by decide +kernel
theorem dL_law_455 : decode cL_law 455 = .ok (.i2l, 1) := by decide +kernel
theorem dL_law_456 : decode cL_law 456 = .ok (.bipush 32, 2) := by decide +kernel
theorem dL_law_458 : decode cL_law 458 = .ok (.lshl, 1) := by decide +kernel
theorem dL_law_459 : decode cL_law 459 = .ok (.aload_n 0, 1) := by decide +kernel
theorem dL_law_460 : decode cL_law 460 = .ok (.iload_n 3, 1) := by decide +kernel
theorem dL_law_461 : decode cL_law 461 = .ok (.iconst 4, 1) := by decide +kernel
theorem dL_law_462 : decode cL_law 462 = .ok (.iadd, 1) := by decide +kernel
theorem dL_law_463 : decode cL_law 463 = .ok (.iaload, 1) := by decide +kernel
theorem dL_law_464 : decode cL_law 464 = .ok (.i2l, 1) := by decide +kernel
theorem dL_law_465 : decode cL_law 465 = .ok (.ldc2_w 21, 3) := by decide +kernel
theorem dL_law_468 : decode cL_law 468 = .ok (.land, 1) := by decide +kernel
theorem dL_law_469 : decode cL_law 469 = .ok (.lor, 1) := by decide +kernel
theorem dL_law_470 : decode cL_law 470 = .ok (.invokevirtual 37, 3) := by decide +kernel
theorem dL_law_473 : decode cL_law 473 = .ok (.aload_n 2, 1) := by decide +kernel
theorem dL_law_474 : decode cL_law 474 = .ok (.aload_n 0, 1) := by decide +kernel
theorem dL_law_475 : decode cL_law 475 = .ok (.iload_n 3, 1) := by decide +kernel
theorem dL_law_476 : decode cL_law 476 = .ok (.iconst 1, 1) := by decide +kernel
theorem dL_law_477 : decode cL_law 477 = .ok (.iadd, 1) := by decide +kernel
theorem dL_law_478 : decode cL_law 478 = .ok (.iaload, 1) := by decide +kernel
theorem dL_law_479 : decode cL_law 479 = .ok (.aload_n 0, 1) := by decide +kernel
theorem dL_law_480 : decode cL_law 480 = .ok (.iload_n 3, 1) := by decide +kernel
theorem dL_law_481 : decode cL_law 481 = .ok (.iconst 2, 1) := by decide +kernel
theorem dL_law_482 : decode cL_law 482 = .ok (.iadd, 1) := by decide +kernel
theorem dL_law_483 : decode cL_law 483 = .ok (.iaload, 1) := by decide +kernel
theorem dL_law_484 : decode cL_law 484 = .ok (.aload_n 0, 1) := by decide +kernel
theorem dL_law_485 : decode cL_law 485 = .ok (.iload_n 3, 1) := by decide +kernel
theorem dL_law_486 : decode cL_law 486 = .ok (.iconst 3, 1) := by decide +kernel
theorem dL_law_487 : decode cL_law 487 = .ok (.iadd, 1) := by decide +kernel
theorem dL_law_488 : decode cL_law 488 = .ok (.iaload, 1) := by decide +kernel
theorem dL_law_489 : decode cL_law 489 = .ok (.i2l, 1) := by decide +kernel
theorem dL_law_490 : decode cL_law 490 = .ok (.bipush 32, 2) := by decide +kernel
theorem dL_law_492 : decode cL_law 492 = .ok (.lshl, 1) := by decide +kernel
theorem dL_law_493 : decode cL_law 493 = .ok (.aload_n 0, 1) := by decide +kernel
theorem dL_law_494 : decode cL_law 494 = .ok (.iload_n 3, 1) := by decide +kernel
theorem dL_law_495 : decode cL_law 495 = .ok (.iconst 4, 1) := by decide +kernel
theorem dL_law_496 : decode cL_law 496 = .ok (.iadd, 1) := by decide +kernel
theorem dL_law_497 : decode cL_law 497 = .ok (.iaload, 1) := by decide +kernel
theorem dL_law_498 : decode cL_law 498 = .ok (.i2l, 1) := by decide +kernel
theorem dL_law_499 : decode cL_law 499 = .ok (.ldc2_w 21, 3) := by decide +kernel
theorem dL_law_502 : decode cL_law 502 = .ok (.land, 1) := by decide +kernel
theorem dL_law_503 : decode cL_law 503 = .ok (.lor, 1) := by decide +kernel
theorem dL_law_504 : decode cL_law 504 = .ok (.invokevirtual 41, 3) := by decide +kernel
theorem dL_law_507 : decode cL_law 507 = .ok (.if_icmp .eq 780, 3) := by decide +kernel
theorem dL_law_510 : decode cL_law 510 = .ok (.iconst 0, 1) := by decide +kernel
theorem dL_law_511 : decode cL_law 511 = .ok (.ireturn, 1) := by decide +kernel
theorem dL_law_512 : decode cL_law 512 = .ok (.aload_n 1, 1) := by decide +kernel
theorem dL_law_513 : decode cL_law 513 = .ok (.aload_n 0, 1) := by decide +kernel
theorem dL_law_514 : decode cL_law 514 = .ok (.iload_n 3, 1) := by decide +kernel
theorem dL_law_515 : decode cL_law 515 = .ok (.iconst 1, 1) := by decide +kernel
theorem dL_law_516 : decode cL_law 516 = .ok (.iadd, 1) := by decide +kernel
theorem dL_law_517 : decode cL_law 517 = .ok (.iaload, 1) := by decide +kernel
theorem dL_law_518 : decode cL_law 518 = .ok (.i2l, 1) := by decide +kernel
theorem dL_law_519 : decode cL_law 519 = .ok (.bipush 32, 2) := by decide +kernel
theorem dL_law_521 : decode cL_law 521 = .ok (.lshl, 1) := by decide +kernel
theorem dL_law_522 : decode cL_law 522 = .ok (.aload_n 0, 1) := by decide +kernel
theorem dL_law_523 : decode cL_law 523 = .ok (.iload_n 3, 1) := by decide +kernel
theorem dL_law_524 : decode cL_law 524 = .ok (.iconst 2, 1) := by decide +kernel
theorem dL_law_525 : decode cL_law 525 = .ok (.iadd, 1) := by decide +kernel
theorem dL_law_526 : decode cL_law 526 = .ok (.iaload, 1) := by decide +kernel
theorem dL_law_527 : decode cL_law 527 = .ok (.i2l, 1) := by decide +kernel
theorem dL_law_528 : decode cL_law 528 = .ok (.ldc2_w 21, 3) := by decide +kernel
theorem dL_law_531 : decode cL_law 531 = .ok (.land, 1) := by decide +kernel
theorem dL_law_532 : decode cL_law 532 = .ok (.lor, 1) := by decide +kernel
theorem dL_law_533 : decode cL_law 533 = .ok (.invokevirtual 42, 3) := by decide +kernel
theorem dL_law_536 : decode cL_law 536 = .ok (.aload_n 2, 1) := by decide +kernel
theorem dL_law_537 : decode cL_law 537 = .ok (.aload_n 0, 1) := by decide +kernel
theorem dL_law_538 : decode cL_law 538 = .ok (.iload_n 3, 1) := by decide +kernel
theorem dL_law_539 : decode cL_law 539 = .ok (.iconst 1, 1) := by decide +kernel
theorem dL_law_540 : decode cL_law 540 = .ok (.iadd, 1) := by decide +kernel
theorem dL_law_541 : decode cL_law 541 = .ok (.iaload, 1) := by decide +kernel
theorem dL_law_542 : decode cL_law 542 = .ok (.i2l, 1) := by decide +kernel
theorem dL_law_543 : decode cL_law 543 = .ok (.bipush 32, 2) := by decide +kernel
theorem dL_law_545 : decode cL_law 545 = .ok (.lshl, 1) := by decide +kernel
theorem dL_law_546 : decode cL_law 546 = .ok (.aload_n 0, 1) := by decide +kernel
theorem dL_law_547 : decode cL_law 547 = .ok (.iload_n 3, 1) := by decide +kernel
theorem dL_law_548 : decode cL_law 548 = .ok (.iconst 2, 1) := by decide +kernel
theorem dL_law_549 : decode cL_law 549 = .ok (.iadd, 1) := by decide +kernel
theorem dL_law_550 : decode cL_law 550 = .ok (.iaload, 1) := by decide +kernel
theorem dL_law_551 : decode cL_law 551 = .ok (.i2l, 1) := by decide +kernel
theorem dL_law_552 : decode cL_law 552 = .ok (.ldc2_w 21, 3) := by decide +kernel
theorem dL_law_555 : decode cL_law 555 = .ok (.land, 1) := by decide +kernel
theorem dL_law_556 : decode cL_law 556 = .ok (.lor, 1) := by decide +kernel
theorem dL_law_557 : decode cL_law 557 = .ok (.invokevirtual 46, 3) := by decide +kernel
theorem dL_law_560 : decode cL_law 560 = .ok (.if_icmp .eq 727, 3) := by decide +kernel
theorem dL_law_563 : decode cL_law 563 = .ok (.iconst 0, 1) := by decide +kernel
theorem dL_law_564 : decode cL_law 564 = .ok (.ireturn, 1) := by decide +kernel
theorem dL_law_565 : decode cL_law 565 = .ok (.aload_n 1, 1) := by decide +kernel
theorem dL_law_566 : decode cL_law 566 = .ok (.aload_n 0, 1) := by decide +kernel
theorem dL_law_567 : decode cL_law 567 = .ok (.iload_n 3, 1) := by decide +kernel
theorem dL_law_568 : decode cL_law 568 = .ok (.iconst 1, 1) := by decide +kernel
theorem dL_law_569 : decode cL_law 569 = .ok (.iadd, 1) := by decide +kernel
theorem dL_law_570 : decode cL_law 570 = .ok (.iaload, 1) := by decide +kernel
theorem dL_law_571 : decode cL_law 571 = .ok (.invokevirtual 47, 3) := by decide +kernel
theorem dL_law_574 : decode cL_law 574 = .ok (.aload_n 2, 1) := by decide +kernel
theorem dL_law_575 : decode cL_law 575 = .ok (.aload_n 0, 1) := by decide +kernel
theorem dL_law_576 : decode cL_law 576 = .ok (.iload_n 3, 1) := by decide +kernel
theorem dL_law_577 : decode cL_law 577 = .ok (.iconst 1, 1) := by decide +kernel
theorem dL_law_578 : decode cL_law 578 = .ok (.iadd, 1) := by decide +kernel
theorem dL_law_579 : decode cL_law 579 = .ok (.iaload, 1) := by decide +kernel
theorem dL_law_580 : decode cL_law 580 = .ok (.invokevirtual 51, 3) := by decide +kernel
theorem dL_law_583 : decode cL_law 583 = .ok (.if_icmp .eq 704, 3) := by decide +kernel
theorem dL_law_586 : decode cL_law 586 = .ok (.iconst 0, 1) := by decide +kernel
theorem dL_law_587 : decode cL_law 587 = .ok (.ireturn, 1) := by decide +kernel
theorem dL_law_588 : decode cL_law 588 = .ok (.aload_n 1, 1) := by decide +kernel
theorem dL_law_589 : decode cL_law 589 = .ok (.aload_n 0, 1) := by decide +kernel
theorem dL_law_590 : decode cL_law 590 = .ok (.iload_n 3, 1) := by decide +kernel
theorem dL_law_591 : decode cL_law 591 = .ok (.iconst 1, 1) := by decide +kernel
theorem dL_law_592 : decode cL_law 592 = .ok (.iadd, 1) := by decide +kernel
theorem dL_law_593 : decode cL_law 593 = .ok (.iaload, 1) := by decide +kernel
theorem dL_law_594 : decode cL_law 594 = .ok (.invokevirtual 52, 3) := by decide +kernel
theorem dL_law_597 : decode cL_law 597 = .ok (.aload_n 2, 1) := by decide +kernel
theorem dL_law_598 : decode cL_law 598 = .ok (.aload_n 0, 1) := by decide +kernel
theorem dL_law_599 : decode cL_law 599 = .ok (.iload_n 3, 1) := by decide +kernel
theorem dL_law_600 : decode cL_law 600 = .ok (.iconst 1, 1) := by decide +kernel
theorem dL_law_601 : decode cL_law 601 = .ok (.iadd, 1) := by decide +kernel
theorem dL_law_602 : decode cL_law 602 = .ok (.iaload, 1) := by decide +kernel
theorem dL_law_603 : decode cL_law 603 = .ok (.invokevirtual 55, 3) := by decide +kernel
theorem dL_law_606 : decode cL_law 606 = .ok (.if_icmp .eq 681, 3) := by decide +kernel
theorem dL_law_609 : decode cL_law 609 = .ok (.iconst 0, 1) := by decide +kernel
theorem dL_law_610 : decode cL_law 610 = .ok (.ireturn, 1) := by decide +kernel
theorem dL_law_611 : decode cL_law 611 = .ok (.aload_n 1, 1) := by decide +kernel
theorem dL_law_612 : decode cL_law 612 = .ok (.aload_n 0, 1) := by decide +kernel
theorem dL_law_613 : decode cL_law 613 = .ok (.iload_n 3, 1) := by decide +kernel
theorem dL_law_614 : decode cL_law 614 = .ok (.iconst 1, 1) := by decide +kernel
theorem dL_law_615 : decode cL_law 615 = .ok (.iadd, 1) := by decide +kernel
theorem dL_law_616 : decode cL_law 616 = .ok (.iaload, 1) := by decide +kernel
theorem dL_law_617 : decode cL_law 617 = .ok (.aload_n 0, 1) := by decide +kernel
theorem dL_law_618 : decode cL_law 618 = .ok (.iload_n 3, 1) := by decide +kernel
theorem dL_law_619 : decode cL_law 619 = .ok (.iconst 2, 1) := by decide +kernel
theorem dL_law_620 : decode cL_law 620 = .ok (.iadd, 1) := by decide +kernel
theorem dL_law_621 : decode cL_law 621 = .ok (.iaload, 1) := by decide +kernel
theorem dL_law_622 : decode cL_law 622 = .ok (.invokevirtual 56, 3) := by decide +kernel
theorem dL_law_625 : decode cL_law 625 = .ok (.aload_n 2, 1) := by decide +kernel
theorem dL_law_626 : decode cL_law 626 = .ok (.aload_n 0, 1) := by decide +kernel
theorem dL_law_627 : decode cL_law 627 = .ok (.iload_n 3, 1) := by decide +kernel
theorem dL_law_628 : decode cL_law 628 = .ok (.iconst 1, 1) := by decide +kernel
theorem dL_law_629 : decode cL_law 629 = .ok (.iadd, 1) := by decide +kernel
theorem dL_law_630 : decode cL_law 630 = .ok (.iaload, 1) := by decide +kernel
theorem dL_law_631 : decode cL_law 631 = .ok (.aload_n 0, 1) := by decide +kernel
theorem dL_law_632 : decode cL_law 632 = .ok (.iload_n 3, 1) := by decide +kernel
theorem dL_law_633 : decode cL_law 633 = .ok (.iconst 2, 1) := by decide +kernel
theorem dL_law_634 : decode cL_law 634 = .ok (.iadd, 1) := by decide +kernel
theorem dL_law_635 : decode cL_law 635 = .ok (.iaload, 1) := by decide +kernel
theorem dL_law_636 : decode cL_law 636 = .ok (.invokevirtual 60, 3) := by decide +kernel
theorem dL_law_639 : decode cL_law 639 = .ok (.if_icmp .eq 648, 3) := by decide +kernel
theorem dL_law_642 : decode cL_law 642 = .ok (.iconst 0, 1) := by decide +kernel
theorem dL_law_643 : decode cL_law 643 = .ok (.ireturn, 1) := by decide +kernel
theorem dL_law_644 : decode cL_law 644 = .ok (.aload_n 1, 1) := by decide +kernel
theorem dL_law_645 : decode cL_law 645 = .ok (.aload_n 0, 1) := by decide +kernel
theorem dL_law_646 : decode cL_law 646 = .ok (.iload_n 3, 1) := by decide +kernel
theorem dL_law_647 : decode cL_law 647 = .ok (.iconst 1, 1) := by decide +kernel
theorem dL_law_648 : decode cL_law 648 = .ok (.iadd, 1) := by decide +kernel
theorem dL_law_649 : decode cL_law 649 = .ok (.iaload, 1) := by decide +kernel
theorem dL_law_650 : decode cL_law 650 = .ok (.i2l, 1) := by decide +kernel
theorem dL_law_651 : decode cL_law 651 = .ok (.bipush 32, 2) := by decide +kernel
theorem dL_law_653 : decode cL_law 653 = .ok (.lshl, 1) := by decide +kernel
theorem dL_law_654 : decode cL_law 654 = .ok (.aload_n 0, 1) := by decide +kernel
theorem dL_law_655 : decode cL_law 655 = .ok (.iload_n 3, 1) := by decide +kernel
theorem dL_law_656 : decode cL_law 656 = .ok (.iconst 2, 1) := by decide +kernel
theorem dL_law_657 : decode cL_law 657 = .ok (.iadd, 1) := by decide +kernel
theorem dL_law_658 : decode cL_law 658 = .ok (.iaload, 1) := by decide +kernel
theorem dL_law_659 : decode cL_law 659 = .ok (.i2l, 1) := by decide +kernel
theorem dL_law_660 : decode cL_law 660 = .ok (.ldc2_w 21, 3) := by decide +kernel
theorem dL_law_663 : decode cL_law 663 = .ok (.land, 1) := by decide +kernel
theorem dL_law_664 : decode cL_law 664 = .ok (.lor, 1) := by decide +kernel
theorem dL_law_665 : decode cL_law 665 = .ok (.invokevirtual 61, 3) := by decide +kernel
theorem dL_law_668 : decode cL_law 668 = .ok (.aload_n 2, 1) := by decide +kernel
theorem dL_law_669 : decode cL_law 669 = .ok (.aload_n 0, 1) := by decide +kernel
theorem dL_law_670 : decode cL_law 670 = .ok (.iload_n 3, 1) := by decide +kernel
theorem dL_law_671 : decode cL_law 671 = .ok (.iconst 1, 1) := by decide +kernel
theorem dL_law_672 : decode cL_law 672 = .ok (.iadd, 1) := by decide +kernel
theorem dL_law_673 : decode cL_law 673 = .ok (.iaload, 1) := by decide +kernel
theorem dL_law_674 : decode cL_law 674 = .ok (.i2l, 1) := by decide +kernel
theorem dL_law_675 : decode cL_law 675 = .ok (.bipush 32, 2) := by decide +kernel
theorem dL_law_677 : decode cL_law 677 = .ok (.lshl, 1) := by decide +kernel
theorem dL_law_678 : decode cL_law 678 = .ok (.aload_n 0, 1) := by decide +kernel
theorem dL_law_679 : decode cL_law 679 = .ok (.iload_n 3, 1) := by decide +kernel
theorem dL_law_680 : decode cL_law 680 = .ok (.iconst 2, 1) := by decide +kernel
theorem dL_law_681 : decode cL_law 681 = .ok (.iadd, 1) := by decide +kernel
theorem dL_law_682 : decode cL_law 682 = .ok (.iaload, 1) := by decide +kernel
theorem dL_law_683 : decode cL_law 683 = .ok (.i2l, 1) := by decide +kernel
theorem dL_law_684 : decode cL_law 684 = .ok (.ldc2_w 21, 3) := by decide +kernel
theorem dL_law_687 : decode cL_law 687 = .ok (.land, 1) := by decide +kernel
theorem dL_law_688 : decode cL_law 688 = .ok (.lor, 1) := by decide +kernel
theorem dL_law_689 : decode cL_law 689 = .ok (.invokevirtual 64, 3) := by decide +kernel
theorem dL_law_692 : decode cL_law 692 = .ok (.if_icmp .eq 595, 3) := by decide +kernel
theorem dL_law_695 : decode cL_law 695 = .ok (.iconst 0, 1) := by decide +kernel
theorem dL_law_696 : decode cL_law 696 = .ok (.ireturn, 1) := by decide +kernel
theorem dL_law_697 : decode cL_law 697 = .ok (.aload_n 1, 1) := by decide +kernel
theorem dL_law_698 : decode cL_law 698 = .ok (.aload_n 0, 1) := by decide +kernel
theorem dL_law_699 : decode cL_law 699 = .ok (.iload_n 3, 1) := by decide +kernel
theorem dL_law_700 : decode cL_law 700 = .ok (.iconst 1, 1) := by decide +kernel
theorem dL_law_701 : decode cL_law 701 = .ok (.iadd, 1) := by decide +kernel
theorem dL_law_702 : decode cL_law 702 = .ok (.iaload, 1) := by decide +kernel
theorem dL_law_703 : decode cL_law 703 = .ok (.invokevirtual 65, 3) := by decide +kernel
theorem dL_law_706 : decode cL_law 706 = .ok (.aload_n 2, 1) := by decide +kernel
theorem dL_law_707 : decode cL_law 707 = .ok (.aload_n 0, 1) := by decide +kernel
theorem dL_law_708 : decode cL_law 708 = .ok (.iload_n 3, 1) := by decide +kernel
theorem dL_law_709 : decode cL_law 709 = .ok (.iconst 1, 1) := by decide +kernel
theorem dL_law_710 : decode cL_law 710 = .ok (.iadd, 1) := by decide +kernel
theorem dL_law_711 : decode cL_law 711 = .ok (.iaload, 1) := by decide +kernel
theorem dL_law_712 : decode cL_law 712 = .ok (.invokevirtual 68, 3) := by decide +kernel
theorem dL_law_715 : decode cL_law 715 = .ok (.if_icmp .eq 572, 3) := by decide +kernel
theorem dL_law_718 : decode cL_law 718 = .ok (.iconst 0, 1) := by decide +kernel
theorem dL_law_719 : decode cL_law 719 = .ok (.ireturn, 1) := by decide +kernel
theorem dL_law_720 : decode cL_law 720 = .ok (.aload_n 1, 1) := by decide +kernel
theorem dL_law_721 : decode cL_law 721 = .ok (.invokevirtual 69, 3) := by decide +kernel
theorem dL_law_724 : decode cL_law 724 = .ok (.aload_n 2, 1) := by decide +kernel
theorem dL_law_725 : decode cL_law 725 = .ok (.invokevirtual 73, 3) := by decide +kernel
theorem dL_law_728 : decode cL_law 728 = .ok (.lcmp, 1) := by decide +kernel
theorem dL_law_729 : decode cL_law 729 = .ok (.ifCond .eq 558, 3) := by decide +kernel
theorem dL_law_732 : decode cL_law 732 = .ok (.iconst 0, 1) := by decide +kernel
theorem dL_law_733 : decode cL_law 733 = .ok (.ireturn, 1) := by decide +kernel
theorem dL_law_734 : decode cL_law 734 = .ok (.aload_n 1, 1) := by decide +kernel
theorem dL_law_735 : decode cL_law 735 = .ok (.invokevirtual 74, 3) := by decide +kernel
theorem dL_law_738 : decode cL_law 738 = .ok (.aload_n 2, 1) := by decide +kernel
theorem dL_law_739 : decode cL_law 739 = .ok (.invokevirtual 77, 3) := by decide +kernel
theorem dL_law_742 : decode cL_law 742 = .ok (.lcmp, 1) := by decide +kernel
theorem dL_law_743 : decode cL_law 743 = .ok (.ifCond .eq 544, 3) := by decide +kernel
theorem dL_law_746 : decode cL_law 746 = .ok (.iconst 0, 1) := by decide +kernel
theorem dL_law_747 : decode cL_law 747 = .ok (.ireturn, 1) := by decide +kernel
theorem dL_law_748 : decode cL_law 748 = .ok (.aload_n 1, 1) := by decide +kernel
theorem dL_law_749 : decode cL_law 749 = .ok (.aload_n 0, 1) := by decide +kernel
theorem dL_law_750 : decode cL_law 750 = .ok (.iload_n 3, 1) := by decide +kernel
theorem dL_law_751 : decode cL_law 751 = .ok (.iconst 1, 1) := by decide +kernel
theorem dL_law_752 : decode cL_law 752 = .ok (.iadd, 1) := by decide +kernel
theorem dL_law_753 : decode cL_law 753 = .ok (.iaload, 1) := by decide +kernel
theorem dL_law_754 : decode cL_law 754 = .ok (.aload_n 0, 1) := by decide +kernel
theorem dL_law_755 : decode cL_law 755 = .ok (.iload_n 3, 1) := by decide +kernel
theorem dL_law_756 : decode cL_law 756 = .ok (.iconst 2, 1) := by decide +kernel
theorem dL_law_757 : decode cL_law 757 = .ok (.iadd, 1) := by decide +kernel
theorem dL_law_758 : decode cL_law 758 = .ok (.iaload, 1) := by decide +kernel
theorem dL_law_759 : decode cL_law 759 = .ok (.invokevirtual 78, 3) := by decide +kernel
theorem dL_law_762 : decode cL_law 762 = .ok (.aload_n 2, 1) := by decide +kernel
theorem dL_law_763 : decode cL_law 763 = .ok (.aload_n 0, 1) := by decide +kernel
theorem dL_law_764 : decode cL_law 764 = .ok (.iload_n 3, 1) := by decide +kernel
theorem dL_law_765 : decode cL_law 765 = .ok (.iconst 1, 1) := by decide +kernel
theorem dL_law_766 : decode cL_law 766 = .ok (.iadd, 1) := by decide +kernel
theorem dL_law_767 : decode cL_law 767 = .ok (.iaload, 1) := by decide +kernel
theorem dL_law_768 : decode cL_law 768 = .ok (.aload_n 0, 1) := by decide +kernel
theorem dL_law_769 : decode cL_law 769 = .ok (.iload_n 3, 1) := by decide +kernel
theorem dL_law_770 : decode cL_law 770 = .ok (.iconst 2, 1) := by decide +kernel
theorem dL_law_771 : decode cL_law 771 = .ok (.iadd, 1) := by decide +kernel
theorem dL_law_772 : decode cL_law 772 = .ok (.iaload, 1) := by decide +kernel
theorem dL_law_773 : decode cL_law 773 = .ok (.invokevirtual 82, 3) := by decide +kernel
theorem dL_law_776 : decode cL_law 776 = .ok (.lcmp, 1) := by decide +kernel
theorem dL_law_777 : decode cL_law 777 = .ok (.ifCond .eq 510, 3) := by decide +kernel
theorem dL_law_780 : decode cL_law 780 = .ok (.iconst 0, 1) := by decide +kernel
theorem dL_law_781 : decode cL_law 781 = .ok (.ireturn, 1) := by decide +kernel
theorem dL_law_782 : decode cL_law 782 = .ok (.aload_n 1, 1) := by decide +kernel
theorem dL_law_783 : decode cL_law 783 = .ok (.aload_n 0, 1) := by decide +kernel
theorem dL_law_784 : decode cL_law 784 = .ok (.iload_n 3, 1) := by decide +kernel
theorem dL_law_785 : decode cL_law 785 = .ok (.iconst 1, 1) := by decide +kernel
theorem dL_law_786 : decode cL_law 786 = .ok (.iadd, 1) := by decide +kernel
theorem dL_law_787 : decode cL_law 787 = .ok (.iaload, 1) := by decide +kernel
theorem dL_law_788 : decode cL_law 788 = .ok (.invokevirtual 83, 3) := by decide +kernel
theorem dL_law_791 : decode cL_law 791 = .ok (.aload_n 2, 1) := by decide +kernel
theorem dL_law_792 : decode cL_law 792 = .ok (.aload_n 0, 1) := by decide +kernel
theorem dL_law_793 : decode cL_law 793 = .ok (.iload_n 3, 1) := by decide +kernel
theorem dL_law_794 : decode cL_law 794 = .ok (.iconst 1, 1) := by decide +kernel
theorem dL_law_795 : decode cL_law 795 = .ok (.iadd, 1) := by decide +kernel
theorem dL_law_796 : decode cL_law 796 = .ok (.iaload, 1) := by decide +kernel
theorem dL_law_797 : decode cL_law 797 = .ok (.invokevirtual 87, 3) := by decide +kernel
theorem dL_law_800 : decode cL_law 800 = .ok (.if_icmp .eq 487, 3) := by decide +kernel
theorem dL_law_803 : decode cL_law 803 = .ok (.iconst 0, 1) := by decide +kernel
theorem dL_law_804 : decode cL_law 804 = .ok (.ireturn, 1) := by decide +kernel
theorem dL_law_805 : decode cL_law 805 = .ok (.aload_n 1, 1) := by decide +kernel
theorem dL_law_806 : decode cL_law 806 = .ok (.invokevirtual 88, 3) := by decide +kernel
theorem dL_law_809 : decode cL_law 809 = .ok (.aload_n 2, 1) := by decide +kernel
theorem dL_law_810 : decode cL_law 810 = .ok (.invokevirtual 92, 3) := by decide +kernel
theorem dL_law_813 : decode cL_law 813 = .ok (.if_icmp .eq 474, 3) := by decide +kernel
theorem dL_law_816 : decode cL_law 816 = .ok (.iconst 0, 1) := by decide +kernel
theorem dL_law_817 : decode cL_law 817 = .ok (.ireturn, 1) := by decide +kernel
theorem dL_law_818 : decode cL_law 818 = .ok (.aload_n 1, 1) := by decide +kernel
theorem dL_law_819 : decode cL_law 819 = .ok (.aload_n 0, 1) := by decide +kernel
theorem dL_law_820 : decode cL_law 820 = .ok (.iload_n 3, 1) := by decide +kernel
theorem dL_law_821 : decode cL_law 821 = .ok (.iconst 1, 1) := by decide +kernel
theorem dL_law_822 : decode cL_law 822 = .ok (.iadd, 1) := by decide +kernel
theorem dL_law_823 : decode cL_law 823 = .ok (.iaload, 1) := by decide +kernel
theorem dL_law_824 : decode cL_law 824 = .ok (.invokevirtual 93, 3) := by decide +kernel
theorem dL_law_827 : decode cL_law 827 = .ok (.aload_n 2, 1) := by decide +kernel
theorem dL_law_828 : decode cL_law 828 = .ok (.aload_n 0, 1) := by decide +kernel
theorem dL_law_829 : decode cL_law 829 = .ok (.iload_n 3, 1) := by decide +kernel
theorem dL_law_830 : decode cL_law 830 = .ok (.iconst 1, 1) := by decide +kernel
theorem dL_law_831 : decode cL_law 831 = .ok (.iadd, 1) := by decide +kernel
theorem dL_law_832 : decode cL_law 832 = .ok (.iaload, 1) := by decide +kernel
theorem dL_law_833 : decode cL_law 833 = .ok (.invokevirtual 96, 3) := by decide +kernel
theorem dL_law_836 : decode cL_law 836 = .ok (.if_icmp .eq 451, 3) := by decide +kernel
theorem dL_law_839 : decode cL_law 839 = .ok (.iconst 0, 1) := by decide +kernel
theorem dL_law_840 : decode cL_law 840 = .ok (.ireturn, 1) := by decide +kernel
theorem dL_law_841 : decode cL_law 841 = .ok (.aload_n 1, 1) := by decide +kernel
theorem dL_law_842 : decode cL_law 842 = .ok (.aload_n 0, 1) := by decide +kernel
theorem dL_law_843 : decode cL_law 843 = .ok (.iload_n 3, 1) := by decide +kernel
theorem dL_law_844 : decode cL_law 844 = .ok (.iconst 1, 1) := by decide +kernel
theorem dL_law_845 : decode cL_law 845 = .ok (.iadd, 1) := by decide +kernel
theorem dL_law_846 : decode cL_law 846 = .ok (.iaload, 1) := by decide +kernel
theorem dL_law_847 : decode cL_law 847 = .ok (.aload_n 0, 1) := by decide +kernel
theorem dL_law_848 : decode cL_law 848 = .ok (.iload_n 3, 1) := by decide +kernel
theorem dL_law_849 : decode cL_law 849 = .ok (.iconst 2, 1) := by decide +kernel
theorem dL_law_850 : decode cL_law 850 = .ok (.iadd, 1) := by decide +kernel
theorem dL_law_851 : decode cL_law 851 = .ok (.iaload, 1) := by decide +kernel
theorem dL_law_852 : decode cL_law 852 = .ok (.invokevirtual 97, 3) := by decide +kernel
theorem dL_law_855 : decode cL_law 855 = .ok (.aload_n 2, 1) := by decide +kernel
theorem dL_law_856 : decode cL_law 856 = .ok (.aload_n 0, 1) := by decide +kernel
theorem dL_law_857 : decode cL_law 857 = .ok (.iload_n 3, 1) := by decide +kernel
theorem dL_law_858 : decode cL_law 858 = .ok (.iconst 1, 1) := by decide +kernel
theorem dL_law_859 : decode cL_law 859 = .ok (.iadd, 1) := by decide +kernel
theorem dL_law_860 : decode cL_law 860 = .ok (.iaload, 1) := by decide +kernel
theorem dL_law_861 : decode cL_law 861 = .ok (.aload_n 0, 1) := by decide +kernel
theorem dL_law_862 : decode cL_law 862 = .ok (.iload_n 3, 1) := by decide +kernel
theorem dL_law_863 : decode cL_law 863 = .ok (.iconst 2, 1) := by decide +kernel
theorem dL_law_864 : decode cL_law 864 = .ok (.iadd, 1) := by decide +kernel
theorem dL_law_865 : decode cL_law 865 = .ok (.iaload, 1) := by decide +kernel
theorem dL_law_866 : decode cL_law 866 = .ok (.invokevirtual 100, 3) := by decide +kernel
theorem dL_law_869 : decode cL_law 869 = .ok (.lcmp, 1) := by decide +kernel
theorem dL_law_870 : decode cL_law 870 = .ok (.ifCond .eq 417, 3) := by decide +kernel
theorem dL_law_873 : decode cL_law 873 = .ok (.iconst 0, 1) := by decide +kernel
theorem dL_law_874 : decode cL_law 874 = .ok (.ireturn, 1) := by decide +kernel
theorem dL_law_875 : decode cL_law 875 = .ok (.aload_n 1, 1) := by decide +kernel
theorem dL_law_876 : decode cL_law 876 = .ok (.aload_n 0, 1) := by decide +kernel
theorem dL_law_877 : decode cL_law 877 = .ok (.iload_n 3, 1) := by decide +kernel
theorem dL_law_878 : decode cL_law 878 = .ok (.iconst 1, 1) := by decide +kernel
theorem dL_law_879 : decode cL_law 879 = .ok (.iadd, 1) := by decide +kernel
theorem dL_law_880 : decode cL_law 880 = .ok (.iaload, 1) := by decide +kernel
theorem dL_law_881 : decode cL_law 881 = .ok (.aload_n 0, 1) := by decide +kernel
theorem dL_law_882 : decode cL_law 882 = .ok (.iload_n 3, 1) := by decide +kernel
theorem dL_law_883 : decode cL_law 883 = .ok (.iconst 2, 1) := by decide +kernel
theorem dL_law_884 : decode cL_law 884 = .ok (.iadd, 1) := by decide +kernel
theorem dL_law_885 : decode cL_law 885 = .ok (.iaload, 1) := by decide +kernel
theorem dL_law_886 : decode cL_law 886 = .ok (.aload_n 0, 1) := by decide +kernel
theorem dL_law_887 : decode cL_law 887 = .ok (.iload_n 3, 1) := by decide +kernel
theorem dL_law_888 : decode cL_law 888 = .ok (.iconst 3, 1) := by decide +kernel
theorem dL_law_889 : decode cL_law 889 = .ok (.iadd, 1) := by decide +kernel
theorem dL_law_890 : decode cL_law 890 = .ok (.iaload, 1) := by decide +kernel
theorem dL_law_891 : decode cL_law 891 = .ok (.i2l, 1) := by decide +kernel
theorem dL_law_892 : decode cL_law 892 = .ok (.bipush 32, 2) := by decide +kernel
theorem dL_law_894 : decode cL_law 894 = .ok (.lshl, 1) := by decide +kernel
theorem dL_law_895 : decode cL_law 895 = .ok (.aload_n 0, 1) := by decide +kernel
theorem dL_law_896 : decode cL_law 896 = .ok (.iload_n 3, 1) := by decide +kernel
theorem dL_law_897 : decode cL_law 897 = .ok (.iconst 4, 1) := by decide +kernel
theorem dL_law_898 : decode cL_law 898 = .ok (.iadd, 1) := by decide +kernel
theorem dL_law_899 : decode cL_law 899 = .ok (.iaload, 1) := by decide +kernel
theorem dL_law_900 : decode cL_law 900 = .ok (.i2l, 1) := by decide +kernel
theorem dL_law_901 : decode cL_law 901 = .ok (.ldc2_w 21, 3) := by decide +kernel
theorem dL_law_904 : decode cL_law 904 = .ok (.land, 1) := by decide +kernel
theorem dL_law_905 : decode cL_law 905 = .ok (.lor, 1) := by decide +kernel
theorem dL_law_906 : decode cL_law 906 = .ok (.invokevirtual 101, 3) := by decide +kernel
theorem dL_law_909 : decode cL_law 909 = .ok (.aload_n 2, 1) := by decide +kernel
theorem dL_law_910 : decode cL_law 910 = .ok (.aload_n 0, 1) := by decide +kernel
theorem dL_law_911 : decode cL_law 911 = .ok (.iload_n 3, 1) := by decide +kernel
theorem dL_law_912 : decode cL_law 912 = .ok (.iconst 1, 1) := by decide +kernel
theorem dL_law_913 : decode cL_law 913 = .ok (.iadd, 1) := by decide +kernel
theorem dL_law_914 : decode cL_law 914 = .ok (.iaload, 1) := by decide +kernel
theorem dL_law_915 : decode cL_law 915 = .ok (.aload_n 0, 1) := by decide +kernel
theorem dL_law_916 : decode cL_law 916 = .ok (.iload_n 3, 1) := by decide +kernel
theorem dL_law_917 : decode cL_law 917 = .ok (.iconst 2, 1) := by decide +kernel
theorem dL_law_918 : decode cL_law 918 = .ok (.iadd, 1) := by decide +kernel
theorem dL_law_919 : decode cL_law 919 = .ok (.iaload, 1) := by decide +kernel
theorem dL_law_920 : decode cL_law 920 = .ok (.aload_n 0, 1) := by decide +kernel
theorem dL_law_921 : decode cL_law 921 = .ok (.iload_n 3, 1) := by decide +kernel
theorem dL_law_922 : decode cL_law 922 = .ok (.iconst 3, 1) := by decide +kernel
theorem dL_law_923 : decode cL_law 923 = .ok (.iadd, 1) := by decide +kernel
theorem dL_law_924 : decode cL_law 924 = .ok (.iaload, 1) := by decide +kernel
theorem dL_law_925 : decode cL_law 925 = .ok (.i2l, 1) := by decide +kernel
theorem dL_law_926 : decode cL_law 926 = .ok (.bipush 32, 2) := by decide +kernel
theorem dL_law_928 : decode cL_law 928 = .ok (.lshl, 1) := by decide +kernel
theorem dL_law_929 : decode cL_law 929 = .ok (.aload_n 0, 1) := by decide +kernel
theorem dL_law_930 : decode cL_law 930 = .ok (.iload_n 3, 1) := by decide +kernel
theorem dL_law_931 : decode cL_law 931 = .ok (.iconst 4, 1) := by decide +kernel
theorem dL_law_932 : decode cL_law 932 = .ok (.iadd, 1) := by decide +kernel
theorem dL_law_933 : decode cL_law 933 = .ok (.iaload, 1) := by decide +kernel
theorem dL_law_934 : decode cL_law 934 = .ok (.i2l, 1) := by decide +kernel
theorem dL_law_935 : decode cL_law 935 = .ok (.ldc2_w 21, 3) := by decide +kernel
theorem dL_law_938 : decode cL_law 938 = .ok (.land, 1) := by decide +kernel
theorem dL_law_939 : decode cL_law 939 = .ok (.lor, 1) := by decide +kernel
theorem dL_law_940 : decode cL_law 940 = .ok (.invokevirtual 104, 3) := by decide +kernel
theorem dL_law_943 : decode cL_law 943 = .ok (.if_icmp .eq 344, 3) := by decide +kernel
theorem dL_law_946 : decode cL_law 946 = .ok (.iconst 0, 1) := by decide +kernel
theorem dL_law_947 : decode cL_law 947 = .ok (.ireturn, 1) := by decide +kernel
theorem dL_law_948 : decode cL_law 948 = .ok (.aload_n 1, 1) := by decide +kernel
theorem dL_law_949 : decode cL_law 949 = .ok (.aload_n 0, 1) := by decide +kernel
theorem dL_law_950 : decode cL_law 950 = .ok (.iload_n 3, 1) := by decide +kernel
theorem dL_law_951 : decode cL_law 951 = .ok (.iconst 1, 1) := by decide +kernel
theorem dL_law_952 : decode cL_law 952 = .ok (.iadd, 1) := by decide +kernel
theorem dL_law_953 : decode cL_law 953 = .ok (.iaload, 1) := by decide +kernel
theorem dL_law_954 : decode cL_law 954 = .ok (.aload_n 0, 1) := by decide +kernel
theorem dL_law_955 : decode cL_law 955 = .ok (.iload_n 3, 1) := by decide +kernel
theorem dL_law_956 : decode cL_law 956 = .ok (.iconst 2, 1) := by decide +kernel
theorem dL_law_957 : decode cL_law 957 = .ok (.iadd, 1) := by decide +kernel
theorem dL_law_958 : decode cL_law 958 = .ok (.iaload, 1) := by decide +kernel
theorem dL_law_959 : decode cL_law 959 = .ok (.invokevirtual 105, 3) := by decide +kernel
theorem dL_law_962 : decode cL_law 962 = .ok (.aload_n 2, 1) := by decide +kernel
theorem dL_law_963 : decode cL_law 963 = .ok (.aload_n 0, 1) := by decide +kernel
theorem dL_law_964 : decode cL_law 964 = .ok (.iload_n 3, 1) := by decide +kernel
theorem dL_law_965 : decode cL_law 965 = .ok (.iconst 1, 1) := by decide +kernel
theorem dL_law_966 : decode cL_law 966 = .ok (.iadd, 1) := by decide +kernel
theorem dL_law_967 : decode cL_law 967 = .ok (.iaload, 1) := by decide +kernel
theorem dL_law_968 : decode cL_law 968 = .ok (.aload_n 0, 1) := by decide +kernel
theorem dL_law_969 : decode cL_law 969 = .ok (.iload_n 3, 1) := by decide +kernel
theorem dL_law_970 : decode cL_law 970 = .ok (.iconst 2, 1) := by decide +kernel
theorem dL_law_971 : decode cL_law 971 = .ok (.iadd, 1) := by decide +kernel
theorem dL_law_972 : decode cL_law 972 = .ok (.iaload, 1) := by decide +kernel
theorem dL_law_973 : decode cL_law 973 = .ok (.invokevirtual 108, 3) := by decide +kernel
theorem dL_law_976 : decode cL_law 976 = .ok (.lcmp, 1) := by decide +kernel
theorem dL_law_977 : decode cL_law 977 = .ok (.ifCond .eq 310, 3) := by decide +kernel
theorem dL_law_980 : decode cL_law 980 = .ok (.iconst 0, 1) := by decide +kernel
theorem dL_law_981 : decode cL_law 981 = .ok (.ireturn, 1) := by decide +kernel
theorem dL_law_982 : decode cL_law 982 = .ok (.aload_n 1, 1) := by decide +kernel
theorem dL_law_983 : decode cL_law 983 = .ok (.aload_n 0, 1) := by decide +kernel
theorem dL_law_984 : decode cL_law 984 = .ok (.iload_n 3, 1) := by decide +kernel
theorem dL_law_985 : decode cL_law 985 = .ok (.iconst 1, 1) := by decide +kernel
theorem dL_law_986 : decode cL_law 986 = .ok (.iadd, 1) := by decide +kernel
theorem dL_law_987 : decode cL_law 987 = .ok (.iaload, 1) := by decide +kernel
theorem dL_law_988 : decode cL_law 988 = .ok (.i2l, 1) := by decide +kernel
theorem dL_law_989 : decode cL_law 989 = .ok (.bipush 32, 2) := by decide +kernel
theorem dL_law_991 : decode cL_law 991 = .ok (.lshl, 1) := by decide +kernel
theorem dL_law_992 : decode cL_law 992 = .ok (.aload_n 0, 1) := by decide +kernel
theorem dL_law_993 : decode cL_law 993 = .ok (.iload_n 3, 1) := by decide +kernel
theorem dL_law_994 : decode cL_law 994 = .ok (.iconst 2, 1) := by decide +kernel
theorem dL_law_995 : decode cL_law 995 = .ok (.iadd, 1) := by decide +kernel
theorem dL_law_996 : decode cL_law 996 = .ok (.iaload, 1) := by decide +kernel
theorem dL_law_997 : decode cL_law 997 = .ok (.i2l, 1) := by decide +kernel
theorem dL_law_998 : decode cL_law 998 = .ok (.ldc2_w 21, 3) := by decide +kernel
theorem dL_law_1001 : decode cL_law 1001 = .ok (.land, 1) := by decide +kernel
theorem dL_law_1002 : decode cL_law 1002 = .ok (.lor, 1) := by decide +kernel
theorem dL_law_1003 : decode cL_law 1003 = .ok (.aload_n 0, 1) := by decide +kernel
theorem dL_law_1004 : decode cL_law 1004 = .ok (.iload_n 3, 1) := by decide +kernel
theorem dL_law_1005 : decode cL_law 1005 = .ok (.iconst 3, 1) := by decide +kernel
theorem dL_law_1006 : decode cL_law 1006 = .ok (.iadd, 1) := by decide +kernel
theorem dL_law_1007 : decode cL_law 1007 = .ok (.iaload, 1) := by decide +kernel
theorem dL_law_1008 : decode cL_law 1008 = .ok (.i2l, 1) := by decide +kernel
theorem dL_law_1009 : decode cL_law 1009 = .ok (.bipush 32, 2) := by decide +kernel
theorem dL_law_1011 : decode cL_law 1011 = .ok (.lshl, 1) := by decide +kernel
theorem dL_law_1012 : decode cL_law 1012 = .ok (.aload_n 0, 1) := by decide +kernel
theorem dL_law_1013 : decode cL_law 1013 = .ok (.iload_n 3, 1) := by decide +kernel
theorem dL_law_1014 : decode cL_law 1014 = .ok (.iconst 4, 1) := by decide +kernel
theorem dL_law_1015 : decode cL_law 1015 = .ok (.iadd, 1) := by decide +kernel
theorem dL_law_1016 : decode cL_law 1016 = .ok (.iaload, 1) := by decide +kernel
theorem dL_law_1017 : decode cL_law 1017 = .ok (.i2l, 1) := by decide +kernel
theorem dL_law_1018 : decode cL_law 1018 = .ok (.ldc2_w 21, 3) := by decide +kernel
theorem dL_law_1021 : decode cL_law 1021 = .ok (.land, 1) := by decide +kernel
theorem dL_law_1022 : decode cL_law 1022 = .ok (.lor, 1) := by decide +kernel
theorem dL_law_1023 : decode cL_law 1023 = .ok (.invokevirtual 109, 3) := by decide +kernel
theorem dL_law_1026 : decode cL_law 1026 = .ok (.aload_n 2, 1) := by decide +kernel
theorem dL_law_1027 : decode cL_law 1027 = .ok (.aload_n 0, 1) := by decide +kernel
theorem dL_law_1028 : decode cL_law 1028 = .ok (.iload_n 3, 1) := by decide +kernel
theorem dL_law_1029 : decode cL_law 1029 = .ok (.iconst 1, 1) := by decide +kernel
theorem dL_law_1030 : decode cL_law 1030 = .ok (.iadd, 1) := by decide +kernel
theorem dL_law_1031 : decode cL_law 1031 = .ok (.iaload, 1) := by decide +kernel
theorem dL_law_1032 : decode cL_law 1032 = .ok (.i2l, 1) := by decide +kernel
theorem dL_law_1033 : decode cL_law 1033 = .ok (.bipush 32, 2) := by decide +kernel
theorem dL_law_1035 : decode cL_law 1035 = .ok (.lshl, 1) := by decide +kernel
theorem dL_law_1036 : decode cL_law 1036 = .ok (.aload_n 0, 1) := by decide +kernel
theorem dL_law_1037 : decode cL_law 1037 = .ok (.iload_n 3, 1) := by decide +kernel
theorem dL_law_1038 : decode cL_law 1038 = .ok (.iconst 2, 1) := by decide +kernel
theorem dL_law_1039 : decode cL_law 1039 = .ok (.iadd, 1) := by decide +kernel
theorem dL_law_1040 : decode cL_law 1040 = .ok (.iaload, 1) := by decide +kernel
theorem dL_law_1041 : decode cL_law 1041 = .ok (.i2l, 1) := by decide +kernel
theorem dL_law_1042 : decode cL_law 1042 = .ok (.ldc2_w 21, 3) := by decide +kernel
theorem dL_law_1045 : decode cL_law 1045 = .ok (.land, 1) := by decide +kernel
theorem dL_law_1046 : decode cL_law 1046 = .ok (.lor, 1) := by decide +kernel
theorem dL_law_1047 : decode cL_law 1047 = .ok (.aload_n 0, 1) := by decide +kernel
theorem dL_law_1048 : decode cL_law 1048 = .ok (.iload_n 3, 1) := by decide +kernel
theorem dL_law_1049 : decode cL_law 1049 = .ok (.iconst 3, 1) := by decide +kernel
theorem dL_law_1050 : decode cL_law 1050 = .ok (.iadd, 1) := by decide +kernel
theorem dL_law_1051 : decode cL_law 1051 = .ok (.iaload, 1) := by decide +kernel
theorem dL_law_1052 : decode cL_law 1052 = .ok (.i2l, 1) := by decide +kernel
theorem dL_law_1053 : decode cL_law 1053 = .ok (.bipush 32, 2) := by decide +kernel
theorem dL_law_1055 : decode cL_law 1055 = .ok (.lshl, 1) := by decide +kernel
theorem dL_law_1056 : decode cL_law 1056 = .ok (.aload_n 0, 1) := by decide +kernel
theorem dL_law_1057 : decode cL_law 1057 = .ok (.iload_n 3, 1) := by decide +kernel
theorem dL_law_1058 : decode cL_law 1058 = .ok (.iconst 4, 1) := by decide +kernel
theorem dL_law_1059 : decode cL_law 1059 = .ok (.iadd, 1) := by decide +kernel
theorem dL_law_1060 : decode cL_law 1060 = .ok (.iaload, 1) := by decide +kernel
theorem dL_law_1061 : decode cL_law 1061 = .ok (.i2l, 1) := by decide +kernel
theorem dL_law_1062 : decode cL_law 1062 = .ok (.ldc2_w 21, 3) := by decide +kernel
theorem dL_law_1065 : decode cL_law 1065 = .ok (.land, 1) := by decide +kernel
theorem dL_law_1066 : decode cL_law 1066 = .ok (.lor, 1) := by decide +kernel
theorem dL_law_1067 : decode cL_law 1067 = .ok (.invokevirtual 113, 3) := by decide +kernel
theorem dL_law_1070 : decode cL_law 1070 = .ok (.if_icmp .eq 217, 3) := by decide +kernel
theorem dL_law_1073 : decode cL_law 1073 = .ok (.iconst 0, 1) := by decide +kernel
theorem dL_law_1074 : decode cL_law 1074 = .ok (.ireturn, 1) := by decide +kernel
theorem dL_law_1075 : decode cL_law 1075 = .ok (.aload_n 1, 1) := by decide +kernel
theorem dL_law_1076 : decode cL_law 1076 = .ok (.invokevirtual 114, 3) := by decide +kernel
theorem dL_law_1079 : decode cL_law 1079 = .ok (.aload_n 2, 1) := by decide +kernel
theorem dL_law_1080 : decode cL_law 1080 = .ok (.invokevirtual 117, 3) := by decide +kernel
theorem dL_law_1083 : decode cL_law 1083 = .ok (.lcmp, 1) := by decide +kernel
theorem dL_law_1084 : decode cL_law 1084 = .ok (.ifCond .eq 203, 3) := by decide +kernel
theorem dL_law_1087 : decode cL_law 1087 = .ok (.iconst 0, 1) := by decide +kernel
theorem dL_law_1088 : decode cL_law 1088 = .ok (.ireturn, 1) := by decide +kernel
theorem dL_law_1089 : decode cL_law 1089 = .ok (.aload_n 1, 1) := by decide +kernel
theorem dL_law_1090 : decode cL_law 1090 = .ok (.aload_n 0, 1) := by decide +kernel
theorem dL_law_1091 : decode cL_law 1091 = .ok (.iload_n 3, 1) := by decide +kernel
theorem dL_law_1092 : decode cL_law 1092 = .ok (.iconst 1, 1) := by decide +kernel
theorem dL_law_1093 : decode cL_law 1093 = .ok (.iadd, 1) := by decide +kernel
theorem dL_law_1094 : decode cL_law 1094 = .ok (.iaload, 1) := by decide +kernel
theorem dL_law_1095 : decode cL_law 1095 = .ok (.invokevirtual 118, 3) := by decide +kernel
theorem dL_law_1098 : decode cL_law 1098 = .ok (.aload_n 2, 1) := by decide +kernel
theorem dL_law_1099 : decode cL_law 1099 = .ok (.aload_n 0, 1) := by decide +kernel
theorem dL_law_1100 : decode cL_law 1100 = .ok (.iload_n 3, 1) := by decide +kernel
theorem dL_law_1101 : decode cL_law 1101 = .ok (.iconst 1, 1) := by decide +kernel
theorem dL_law_1102 : decode cL_law 1102 = .ok (.iadd, 1) := by decide +kernel
theorem dL_law_1103 : decode cL_law 1103 = .ok (.iaload, 1) := by decide +kernel
theorem dL_law_1104 : decode cL_law 1104 = .ok (.invokevirtual 121, 3) := by decide +kernel
theorem dL_law_1107 : decode cL_law 1107 = .ok (.if_icmp .eq 180, 3) := by decide +kernel
theorem dL_law_1110 : decode cL_law 1110 = .ok (.iconst 0, 1) := by decide +kernel
theorem dL_law_1111 : decode cL_law 1111 = .ok (.ireturn, 1) := by decide +kernel
theorem dL_law_1112 : decode cL_law 1112 = .ok (.aload_n 1, 1) := by decide +kernel
theorem dL_law_1113 : decode cL_law 1113 = .ok (.aload_n 0, 1) := by decide +kernel
theorem dL_law_1114 : decode cL_law 1114 = .ok (.iload_n 3, 1) := by decide +kernel
theorem dL_law_1115 : decode cL_law 1115 = .ok (.iconst 1, 1) := by decide +kernel
theorem dL_law_1116 : decode cL_law 1116 = .ok (.iadd, 1) := by decide +kernel
theorem dL_law_1117 : decode cL_law 1117 = .ok (.iaload, 1) := by decide +kernel
theorem dL_law_1118 : decode cL_law 1118 = .ok (.invokevirtual 122, 3) := by decide +kernel
theorem dL_law_1121 : decode cL_law 1121 = .ok (.aload_n 2, 1) := by decide +kernel
theorem dL_law_1122 : decode cL_law 1122 = .ok (.aload_n 0, 1) := by decide +kernel
theorem dL_law_1123 : decode cL_law 1123 = .ok (.iload_n 3, 1) := by decide +kernel
theorem dL_law_1124 : decode cL_law 1124 = .ok (.iconst 1, 1) := by decide +kernel
theorem dL_law_1125 : decode cL_law 1125 = .ok (.iadd, 1) := by decide +kernel
theorem dL_law_1126 : decode cL_law 1126 = .ok (.iaload, 1) := by decide +kernel
theorem dL_law_1127 : decode cL_law 1127 = .ok (.invokevirtual 125, 3) := by decide +kernel
theorem dL_law_1130 : decode cL_law 1130 = .ok (.if_icmp .eq 157, 3) := by decide +kernel
theorem dL_law_1133 : decode cL_law 1133 = .ok (.iconst 0, 1) := by decide +kernel
theorem dL_law_1134 : decode cL_law 1134 = .ok (.ireturn, 1) := by decide +kernel
theorem dL_law_1135 : decode cL_law 1135 = .ok (.aload_n 1, 1) := by decide +kernel
theorem dL_law_1136 : decode cL_law 1136 = .ok (.aload_n 0, 1) := by decide +kernel
theorem dL_law_1137 : decode cL_law 1137 = .ok (.iload_n 3, 1) := by decide +kernel
theorem dL_law_1138 : decode cL_law 1138 = .ok (.iconst 1, 1) := by decide +kernel
theorem dL_law_1139 : decode cL_law 1139 = .ok (.iadd, 1) := by decide +kernel
theorem dL_law_1140 : decode cL_law 1140 = .ok (.iaload, 1) := by decide +kernel
theorem dL_law_1141 : decode cL_law 1141 = .ok (.aload_n 0, 1) := by decide +kernel
theorem dL_law_1142 : decode cL_law 1142 = .ok (.iload_n 3, 1) := by decide +kernel
theorem dL_law_1143 : decode cL_law 1143 = .ok (.iconst 2, 1) := by decide +kernel
theorem dL_law_1144 : decode cL_law 1144 = .ok (.iadd, 1) := by decide +kernel
theorem dL_law_1145 : decode cL_law 1145 = .ok (.iaload, 1) := by decide +kernel
theorem dL_law_1146 : decode cL_law 1146 = .ok (.i2l, 1) := by decide +kernel
theorem dL_law_1147 : decode cL_law 1147 = .ok (.bipush 32, 2) := by decide +kernel
theorem dL_law_1149 : decode cL_law 1149 = .ok (.lshl, 1) := by decide +kernel
theorem dL_law_1150 : decode cL_law 1150 = .ok (.aload_n 0, 1) := by decide +kernel
theorem dL_law_1151 : decode cL_law 1151 = .ok (.iload_n 3, 1) := by decide +kernel
theorem dL_law_1152 : decode cL_law 1152 = .ok (.iconst 3, 1) := by decide +kernel
theorem dL_law_1153 : decode cL_law 1153 = .ok (.iadd, 1) := by decide +kernel
theorem dL_law_1154 : decode cL_law 1154 = .ok (.iaload, 1) := by decide +kernel
theorem dL_law_1155 : decode cL_law 1155 = .ok (.i2l, 1) := by decide +kernel
theorem dL_law_1156 : decode cL_law 1156 = .ok (.ldc2_w 21, 3) := by decide +kernel
theorem dL_law_1159 : decode cL_law 1159 = .ok (.land, 1) := by decide +kernel
theorem dL_law_1160 : decode cL_law 1160 = .ok (.lor, 1) := by decide +kernel
theorem dL_law_1161 : decode cL_law 1161 = .ok (.invokevirtual 126, 3) := by decide +kernel
theorem dL_law_1164 : decode cL_law 1164 = .ok (.aload_n 2, 1) := by decide +kernel
theorem dL_law_1165 : decode cL_law 1165 = .ok (.aload_n 0, 1) := by decide +kernel
theorem dL_law_1166 : decode cL_law 1166 = .ok (.iload_n 3, 1) := by decide +kernel
theorem dL_law_1167 : decode cL_law 1167 = .ok (.iconst 1, 1) := by decide +kernel
theorem dL_law_1168 : decode cL_law 1168 = .ok (.iadd, 1) := by decide +kernel
theorem dL_law_1169 : decode cL_law 1169 = .ok (.iaload, 1) := by decide +kernel
theorem dL_law_1170 : decode cL_law 1170 = .ok (.aload_n 0, 1) := by decide +kernel
theorem dL_law_1171 : decode cL_law 1171 = .ok (.iload_n 3, 1) := by decide +kernel
theorem dL_law_1172 : decode cL_law 1172 = .ok (.iconst 2, 1) := by decide +kernel
theorem dL_law_1173 : decode cL_law 1173 = .ok (.iadd, 1) := by decide +kernel
theorem dL_law_1174 : decode cL_law 1174 = .ok (.iaload, 1) := by decide +kernel
theorem dL_law_1175 : decode cL_law 1175 = .ok (.i2l, 1) := by decide +kernel
theorem dL_law_1176 : decode cL_law 1176 = .ok (.bipush 32, 2) := by decide +kernel
theorem dL_law_1178 : decode cL_law 1178 = .ok (.lshl, 1) := by decide +kernel
theorem dL_law_1179 : decode cL_law 1179 = .ok (.aload_n 0, 1) := by decide +kernel
theorem dL_law_1180 : decode cL_law 1180 = .ok (.iload_n 3, 1) := by decide +kernel
theorem dL_law_1181 : decode cL_law 1181 = .ok (.iconst 3, 1) := by decide +kernel
theorem dL_law_1182 : decode cL_law 1182 = .ok (.iadd, 1) := by decide +kernel
theorem dL_law_1183 : decode cL_law 1183 = .ok (.iaload, 1) := by decide +kernel
theorem dL_law_1184 : decode cL_law 1184 = .ok (.i2l, 1) := by decide +kernel
theorem dL_law_1185 : decode cL_law 1185 = .ok (.ldc2_w 21, 3) := by decide +kernel
theorem dL_law_1188 : decode cL_law 1188 = .ok (.land, 1) := by decide +kernel
theorem dL_law_1189 : decode cL_law 1189 = .ok (.lor, 1) := by decide +kernel
theorem dL_law_1190 : decode cL_law 1190 = .ok (.invokevirtual 130, 3) := by decide +kernel
theorem dL_law_1193 : decode cL_law 1193 = .ok (.if_icmp .eq 94, 3) := by decide +kernel
theorem dL_law_1196 : decode cL_law 1196 = .ok (.iconst 0, 1) := by decide +kernel
theorem dL_law_1197 : decode cL_law 1197 = .ok (.ireturn, 1) := by decide +kernel
theorem dL_law_1198 : decode cL_law 1198 = .ok (.aload_n 1, 1) := by decide +kernel
theorem dL_law_1199 : decode cL_law 1199 = .ok (.aload_n 0, 1) := by decide +kernel
theorem dL_law_1200 : decode cL_law 1200 = .ok (.iload_n 3, 1) := by decide +kernel
theorem dL_law_1201 : decode cL_law 1201 = .ok (.iconst 1, 1) := by decide +kernel
theorem dL_law_1202 : decode cL_law 1202 = .ok (.iadd, 1) := by decide +kernel
theorem dL_law_1203 : decode cL_law 1203 = .ok (.iaload, 1) := by decide +kernel
theorem dL_law_1204 : decode cL_law 1204 = .ok (.invokevirtual 131, 3) := by decide +kernel
theorem dL_law_1207 : decode cL_law 1207 = .ok (.aload_n 2, 1) := by decide +kernel
theorem dL_law_1208 : decode cL_law 1208 = .ok (.aload_n 0, 1) := by decide +kernel
theorem dL_law_1209 : decode cL_law 1209 = .ok (.iload_n 3, 1) := by decide +kernel
theorem dL_law_1210 : decode cL_law 1210 = .ok (.iconst 1, 1) := by decide +kernel
theorem dL_law_1211 : decode cL_law 1211 = .ok (.iadd, 1) := by decide +kernel
theorem dL_law_1212 : decode cL_law 1212 = .ok (.iaload, 1) := by decide +kernel
theorem dL_law_1213 : decode cL_law 1213 = .ok (.invokevirtual 134, 3) := by decide +kernel
theorem dL_law_1216 : decode cL_law 1216 = .ok (.if_icmp .eq 71, 3) := by decide +kernel
theorem dL_law_1219 : decode cL_law 1219 = .ok (.iconst 0, 1) := by decide +kernel
theorem dL_law_1220 : decode cL_law 1220 = .ok (.ireturn, 1) := by decide +kernel
theorem dL_law_1221 : decode cL_law 1221 = .ok (.aload_n 1, 1) := by decide +kernel
theorem dL_law_1222 : decode cL_law 1222 = .ok (.aload_n 0, 1) := by decide +kernel
theorem dL_law_1223 : decode cL_law 1223 = .ok (.iload_n 3, 1) := by decide +kernel
theorem dL_law_1224 : decode cL_law 1224 = .ok (.iconst 1, 1) := by decide +kernel
theorem dL_law_1225 : decode cL_law 1225 = .ok (.iadd, 1) := by decide +kernel
theorem dL_law_1226 : decode cL_law 1226 = .ok (.iaload, 1) := by decide +kernel
theorem dL_law_1227 : decode cL_law 1227 = .ok (.aload_n 0, 1) := by decide +kernel
theorem dL_law_1228 : decode cL_law 1228 = .ok (.iload_n 3, 1) := by decide +kernel
theorem dL_law_1229 : decode cL_law 1229 = .ok (.iconst 2, 1) := by decide +kernel
theorem dL_law_1230 : decode cL_law 1230 = .ok (.iadd, 1) := by decide +kernel
theorem dL_law_1231 : decode cL_law 1231 = .ok (.iaload, 1) := by decide +kernel
theorem dL_law_1232 : decode cL_law 1232 = .ok (.aload_n 0, 1) := by decide +kernel
theorem dL_law_1233 : decode cL_law 1233 = .ok (.iload_n 3, 1) := by decide +kernel
theorem dL_law_1234 : decode cL_law 1234 = .ok (.iconst 3, 1) := by decide +kernel
theorem dL_law_1235 : decode cL_law 1235 = .ok (.iadd, 1) := by decide +kernel
theorem dL_law_1236 : decode cL_law 1236 = .ok (.iaload, 1) := by decide +kernel
theorem dL_law_1237 : decode cL_law 1237 = .ok (.invokevirtual 135, 3) := by decide +kernel
theorem dL_law_1240 : decode cL_law 1240 = .ok (.aload_n 2, 1) := by decide +kernel
theorem dL_law_1241 : decode cL_law 1241 = .ok (.aload_n 0, 1) := by decide +kernel
theorem dL_law_1242 : decode cL_law 1242 = .ok (.iload_n 3, 1) := by decide +kernel
theorem dL_law_1243 : decode cL_law 1243 = .ok (.iconst 1, 1) := by decide +kernel
theorem dL_law_1244 : decode cL_law 1244 = .ok (.iadd, 1) := by decide +kernel
theorem dL_law_1245 : decode cL_law 1245 = .ok (.iaload, 1) := by decide +kernel
theorem dL_law_1246 : decode cL_law 1246 = .ok (.aload_n 0, 1) := by decide +kernel
theorem dL_law_1247 : decode cL_law 1247 = .ok (.iload_n 3, 1) := by decide +kernel
theorem dL_law_1248 : decode cL_law 1248 = .ok (.iconst 2, 1) := by decide +kernel
theorem dL_law_1249 : decode cL_law 1249 = .ok (.iadd, 1) := by decide +kernel
theorem dL_law_1250 : decode cL_law 1250 = .ok (.iaload, 1) := by decide +kernel
theorem dL_law_1251 : decode cL_law 1251 = .ok (.aload_n 0, 1) := by decide +kernel
theorem dL_law_1252 : decode cL_law 1252 = .ok (.iload_n 3, 1) := by decide +kernel
theorem dL_law_1253 : decode cL_law 1253 = .ok (.iconst 3, 1) := by decide +kernel
theorem dL_law_1254 : decode cL_law 1254 = .ok (.iadd, 1) := by decide +kernel
theorem dL_law_1255 : decode cL_law 1255 = .ok (.iaload, 1) := by decide +kernel
theorem dL_law_1256 : decode cL_law 1256 = .ok (.invokevirtual 139, 3) := by decide +kernel
theorem dL_law_1259 : decode cL_law 1259 = .ok (.if_icmp .eq 28, 3) := by decide +kernel
theorem dL_law_1262 : decode cL_law 1262 = .ok (.iconst 0, 1) := by decide +kernel
theorem dL_law_1263 : decode cL_law 1263 = .ok (.ireturn, 1) := by decide +kernel
theorem dL_law_1264 : decode cL_law 1264 = .ok (.aload_n 1, 1) := by decide +kernel
theorem dL_law_1265 : decode cL_law 1265 = .ok (.aload_n 0, 1) := by decide +kernel
theorem dL_law_1266 : decode cL_law 1266 = .ok (.iload_n 3, 1) := by decide +kernel
theorem dL_law_1267 : decode cL_law 1267 = .ok (.iconst 1, 1) := by decide +kernel
theorem dL_law_1268 : decode cL_law 1268 = .ok (.iadd, 1) := by decide +kernel
theorem dL_law_1269 : decode cL_law 1269 = .ok (.iaload, 1) := by decide +kernel
theorem dL_law_1270 : decode cL_law 1270 = .ok (.invokevirtual 140, 3) := by decide +kernel
theorem dL_law_1273 : decode cL_law 1273 = .ok (.aload_n 2, 1) := by decide +kernel
theorem dL_law_1274 : decode cL_law 1274 = .ok (.aload_n 0, 1) := by decide +kernel
theorem dL_law_1275 : decode cL_law 1275 = .ok (.iload_n 3, 1) := by decide +kernel
theorem dL_law_1276 : decode cL_law 1276 = .ok (.iconst 1, 1) := by decide +kernel
theorem dL_law_1277 : decode cL_law 1277 = .ok (.iadd, 1) := by decide +kernel
theorem dL_law_1278 : decode cL_law 1278 = .ok (.iaload, 1) := by decide +kernel
theorem dL_law_1279 : decode cL_law 1279 = .ok (.invokevirtual 143, 3) := by decide +kernel
theorem dL_law_1282 : decode cL_law 1282 = .ok (.if_icmp .eq 5, 3) := by decide +kernel
theorem dL_law_1285 : decode cL_law 1285 = .ok (.iconst 0, 1) := by decide +kernel
theorem dL_law_1286 : decode cL_law 1286 = .ok (.ireturn, 1) := by decide +kernel
theorem dL_law_1287 : decode cL_law 1287 = .ok (.iinc 3 7, 3) := by decide +kernel
theorem dL_law_1290 : decode cL_law 1290 = .ok (.goto (-1260), 3) := by decide +kernel
theorem dL_law_1293 : decode cL_law 1293 = .ok (.iconst 1, 1) := by decide +kernel
theorem dL_law_1294 : decode cL_law 1294 = .ok (.ireturn, 1) := by decide +kernel
