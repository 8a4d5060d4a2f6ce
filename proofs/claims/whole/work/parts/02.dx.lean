theorem dX0_init_0 : decode cX0_init 0 = .ok (.aload_n 0, 1) := by decide +kernel
theorem dX0_init_1 : decode cX0_init 1 = .ok (.invokespecial 3, 3) := by decide +kernel
theorem dX0_init_4 : decode cX0_init 4 = .ok (.aload_n 0, 1) := by decide +kernel
theorem dX0_init_5 : decode cX0_init 5 = .ok (.ldc2_w 9, 3) := by decide +kernel
theorem dX0_init_8 : decode cX0_init 8 = .ok (.putfield 11, 3) := by decide +kernel
theorem dX0_init_11 : decode cX0_init 11 = .ok (.return_, 1) := by decide +kernel
theorem dX0_clear_0 : decode cX0_clear 0 = .ok (.aload_n 0, 1) := by decide +kernel
theorem dX0_clear_1 : decode cX0_clear 1 = .ok (.iconst 0, 1) := by decide +kernel
theorem dX0_clear_2 : decode cX0_clear 2 = .ok (.putfield 17, 3) := by decide +kernel
theorem dX0_clear_5 : decode cX0_clear 5 = .ok (.aload_n 0, 1) := by decide +kernel
theorem dX0_clear_6 : decode cX0_clear 6 = .ok (.iconst 0, 1) := by decide +kernel
theorem dX0_clear_7 : decode cX0_clear 7 = .ok (.putfield 21, 3) := by decide +kernel
theorem dX0_clear_10 : decode cX0_clear 10 = .ok (.aload_n 0, 1) := by decide +kernel
theorem dX0_clear_11 : decode cX0_clear 11 = .ok (.ldc2_w 9, 3) := by decide +kernel
theorem dX0_clear_14 : decode cX0_clear 14 = .ok (.putfield 11, 3) := by decide +kernel
theorem dX0_clear_17 : decode cX0_clear 17 = .ok (.return_, 1) := by decide +kernel
theorem dX0_take_0 : decode cX0_take 0 = .ok (.aload_n 0, 1) := by decide +kernel
theorem dX0_take_1 : decode cX0_take 1 = .ok (.iconst 1, 1) := by decide +kernel
theorem dX0_take_2 : decode cX0_take 2 = .ok (.putfield 17, 3) := by decide +kernel
theorem dX0_take_5 : decode cX0_take 5 = .ok (.aload_n 0, 1) := by decide +kernel
theorem dX0_take_6 : decode cX0_take 6 = .ok (.iload_n 1, 1) := by decide +kernel
theorem dX0_take_7 : decode cX0_take 7 = .ok (.putfield 21, 3) := by decide +kernel
theorem dX0_take_10 : decode cX0_take 10 = .ok (.aload_n 0, 1) := by decide +kernel
theorem dX0_take_11 : decode cX0_take 11 = .ok (.lload_n 2, 1) := by decide +kernel
theorem dX0_take_12 : decode cX0_take 12 = .ok (.putfield 11, 3) := by decide +kernel
theorem dX0_take_15 : decode cX0_take 15 = .ok (.return_, 1) := by decide +kernel
theorem dX0_isBeatenBy_0 : decode cX0_isBeatenBy 0 = .ok (.aload_n 0, 1) := by decide +kernel
theorem dX0_isBeatenBy_1 : decode cX0_isBeatenBy 1 = .ok (.getfield 17, 3) := by decide +kernel
theorem dX0_isBeatenBy_4 : decode cX0_isBeatenBy 4 = .ok (.ifCond .ne 5, 3) := by decide +kernel
theorem dX0_isBeatenBy_7 : decode cX0_isBeatenBy 7 = .ok (.iconst 1, 1) := by decide +kernel
theorem dX0_isBeatenBy_8 : decode cX0_isBeatenBy 8 = .ok (.ireturn, 1) := by decide +kernel
theorem dX0_isBeatenBy_9 : decode cX0_isBeatenBy 9 = .ok (.lload_n 2, 1) := by decide +kernel
theorem dX0_isBeatenBy_10 : decode cX0_isBeatenBy 10 = .ok (.aload_n 0, 1) := by decide +kernel
theorem dX0_isBeatenBy_11 : decode cX0_isBeatenBy 11 = .ok (.getfield 11, 3) := by decide +kernel
theorem dX0_isBeatenBy_14 : decode cX0_isBeatenBy 14 = .ok (.lcmp, 1) := by decide +kernel
theorem dX0_isBeatenBy_15 : decode cX0_isBeatenBy 15 = .ok (.ifCond .eq 18, 3) := by decide +kernel
theorem dX0_isBeatenBy_18 : decode cX0_isBeatenBy 18 = .ok (.lload_n 2, 1) := by decide +kernel
theorem dX0_isBeatenBy_19 : decode cX0_isBeatenBy 19 = .ok (.aload_n 0, 1) := by decide +kernel
theorem dX0_isBeatenBy_20 : decode cX0_isBeatenBy 20 = .ok (.getfield 11, 3) := by decide +kernel
theorem dX0_isBeatenBy_23 : decode cX0_isBeatenBy 23 = .ok (.lcmp, 1) := by decide +kernel
theorem dX0_isBeatenBy_24 : decode cX0_isBeatenBy 24 = .ok (.ifCond .ge 7, 3) := by decide +kernel
theorem dX0_isBeatenBy_27 : decode cX0_isBeatenBy 27 = .ok (.iconst 1, 1) := by decide +kernel
theorem dX0_isBeatenBy_28 : decode cX0_isBeatenBy 28 = .ok (.goto 4, 3) := by decide +kernel
theorem dX0_isBeatenBy_31 : decode cX0_isBeatenBy 31 = .ok (.iconst 0, 1) := by decide +kernel
theorem dX0_isBeatenBy_32 : decode cX0_isBeatenBy 32 = .ok (.ireturn, 1) := by decide +kernel
theorem dX0_isBeatenBy_33 : decode cX0_isBeatenBy 33 = .ok (.iload_n 1, 1) := by decide +kernel
theorem dX0_isBeatenBy_34 : decode cX0_isBeatenBy 34 = .ok (.invokestatic 25, 3) := by decide +kernel
theorem dX0_isBeatenBy_37 : decode cX0_isBeatenBy 37 = .ok (.aload_n 0, 1) := by decide +kernel
theorem dX0_isBeatenBy_38 : decode cX0_isBeatenBy 38 = .ok (.getfield 21, 3) := by decide +kernel
theorem dX0_isBeatenBy_41 : decode cX0_isBeatenBy 41 = .ok (.invokestatic 25, 3) := by decide +kernel
theorem dX0_isBeatenBy_44 : decode cX0_isBeatenBy 44 = .ok (.isub, 1) := by decide +kernel
theorem dX0_isBeatenBy_45 : decode cX0_isBeatenBy 45 = .ok (.istore 4, 2) := by decide +kernel
theorem dX0_isBeatenBy_47 : decode cX0_isBeatenBy 47 = .ok (.iload_n 1, 1) := by decide +kernel
theorem dX0_isBeatenBy_48 : decode cX0_isBeatenBy 48 = .ok (.aload_n 0, 1) := by decide +kernel
theorem dX0_isBeatenBy_49 : decode cX0_isBeatenBy 49 = .ok (.getfield 21, 3) := by decide +kernel
theorem dX0_isBeatenBy_52 : decode cX0_isBeatenBy 52 = .ok (.ixor, 1) := by decide +kernel
theorem dX0_isBeatenBy_53 : decode cX0_isBeatenBy 53 = .ok (.istore 5, 2) := by decide +kernel
theorem dX0_isBeatenBy_55 : decode cX0_isBeatenBy 55 = .ok (.iload 4, 2) := by decide +kernel
theorem dX0_isBeatenBy_57 : decode cX0_isBeatenBy 57 = .ok (.ifCond .eq 16, 3) := by decide +kernel
theorem dX0_isBeatenBy_60 : decode cX0_isBeatenBy 60 = .ok (.iload 4, 2) := by decide +kernel
theorem dX0_isBeatenBy_62 : decode cX0_isBeatenBy 62 = .ok (.ifCond .ge 7, 3) := by decide +kernel
theorem dX0_isBeatenBy_65 : decode cX0_isBeatenBy 65 = .ok (.iconst 1, 1) := by decide +kernel
theorem dX0_isBeatenBy_66 : decode cX0_isBeatenBy 66 = .ok (.goto 23, 3) := by decide +kernel
theorem dX0_isBeatenBy_69 : decode cX0_isBeatenBy 69 = .ok (.iconst 0, 1) := by decide +kernel
theorem dX0_isBeatenBy_70 : decode cX0_isBeatenBy 70 = .ok (.goto 19, 3) := by decide +kernel
theorem dX0_isBeatenBy_73 : decode cX0_isBeatenBy 73 = .ok (.iload 5, 2) := by decide +kernel
theorem dX0_isBeatenBy_75 : decode cX0_isBeatenBy 75 = .ok (.iload 5, 2) := by decide +kernel
theorem dX0_isBeatenBy_77 : decode cX0_isBeatenBy 77 = .ok (.ineg, 1) := by decide +kernel
theorem dX0_isBeatenBy_78 : decode cX0_isBeatenBy 78 = .ok (.iand, 1) := by decide +kernel
theorem dX0_isBeatenBy_79 : decode cX0_isBeatenBy 79 = .ok (.iload_n 1, 1) := by decide +kernel
theorem dX0_isBeatenBy_80 : decode cX0_isBeatenBy 80 = .ok (.iand, 1) := by decide +kernel
theorem dX0_isBeatenBy_81 : decode cX0_isBeatenBy 81 = .ok (.ifCond .eq 7, 3) := by decide +kernel
theorem dX0_isBeatenBy_84 : decode cX0_isBeatenBy 84 = .ok (.iconst 1, 1) := by decide +kernel
theorem dX0_isBeatenBy_85 : decode cX0_isBeatenBy 85 = .ok (.goto 4, 3) := by decide +kernel
theorem dX0_isBeatenBy_88 : decode cX0_isBeatenBy 88 = .ok (.iconst 0, 1) := by decide +kernel
theorem dX0_isBeatenBy_89 : decode cX0_isBeatenBy 89 = .ok (.ireturn, 1) := by decide +kernel
theorem dX1_init_0 : decode cX1_init 0 = .ok (.aload_n 0, 1) := by decide +kernel
theorem dX1_init_1 : decode cX1_init 1 = .ok (.invokespecial 1, 3) := by decide +kernel
theorem dX1_init_4 : decode cX1_init 4 = .ok (.return_, 1) := by decide +kernel
theorem dX1_start_0 : decode cX1_start 0 = .ok (.aload_n 0, 1) := by decide +kernel
theorem dX1_start_1 : decode cX1_start 1 = .ok (.lload_n 1, 1) := by decide +kernel
theorem dX1_start_2 : decode cX1_start 2 = .ok (.lconst 0, 1) := by decide +kernel
theorem dX1_start_3 : decode cX1_start 3 = .ok (.lcmp, 1) := by decide +kernel
theorem dX1_start_4 : decode cX1_start 4 = .ok (.ifCond .ne 9, 3) := by decide +kernel
theorem dX1_start_7 : decode cX1_start 7 = .ok (.ldc2_w 9, 3) := by decide +kernel
theorem dX1_start_10 : decode cX1_start 10 = .ok (.goto 4, 3) := by decide +kernel
theorem dX1_start_13 : decode cX1_start 13 = .ok (.lload_n 1, 1) := by decide +kernel
theorem dX1_start_14 : decode cX1_start 14 = .ok (.putfield 11, 3) := by decide +kernel
theorem dX1_start_17 : decode cX1_start 17 = .ok (.return_, 1) := by decide +kernel
theorem dX1_next_0 : decode cX1_next 0 = .ok (.aload_n 0, 1) := by decide +kernel
theorem dX1_next_1 : decode cX1_next 1 = .ok (.dup, 1) := by decide +kernel
theorem dX1_next_2 : decode cX1_next 2 = .ok (.getfield 11, 3) := by decide +kernel
theorem dX1_next_5 : decode cX1_next 5 = .ok (.aload_n 0, 1) := by decide +kernel
theorem dX1_next_6 : decode cX1_next 6 = .ok (.getfield 11, 3) := by decide +kernel
theorem dX1_next_9 : decode cX1_next 9 = .ok (.bipush 13, 2) := by decide +kernel
theorem dX1_next_11 : decode cX1_next 11 = .ok (.lshl, 1) := by decide +kernel
theorem dX1_next_12 : decode cX1_next 12 = .ok (.lxor, 1) := by decide +kernel
theorem dX1_next_13 : decode cX1_next 13 = .ok (.putfield 11, 3) := by decide +kernel
theorem dX1_next_16 : decode cX1_next 16 = .ok (.aload_n 0, 1) := by decide +kernel
theorem dX1_next_17 : decode cX1_next 17 = .ok (.dup, 1) := by decide +kernel
theorem dX1_next_18 : decode cX1_next 18 = .ok (.getfield 11, 3) := by decide +kernel
theorem dX1_next_21 : decode cX1_next 21 = .ok (.aload_n 0, 1) := by decide +kernel
theorem dX1_next_22 : decode cX1_next 22 = .ok (.getfield 11, 3) := by decide +kernel
theorem dX1_next_25 : decode cX1_next 25 = .ok (.bipush 7, 2) := by decide +kernel
theorem dX1_next_27 : decode cX1_next 27 = .ok (.lushr, 1) := by decide +kernel
theorem dX1_next_28 : decode cX1_next 28 = .ok (.lxor, 1) := by decide +kernel
theorem dX1_next_29 : decode cX1_next 29 = .ok (.putfield 11, 3) := by decide +kernel
theorem dX1_next_32 : decode cX1_next 32 = .ok (.aload_n 0, 1) := by decide +kernel
theorem dX1_next_33 : decode cX1_next 33 = .ok (.dup, 1) := by decide +kernel
theorem dX1_next_34 : decode cX1_next 34 = .ok (.getfield 11, 3) := by decide +kernel
theorem dX1_next_37 : decode cX1_next 37 = .ok (.aload_n 0, 1) := by decide +kernel
theorem dX1_next_38 : decode cX1_next 38 = .ok (.getfield 11, 3) := by decide +kernel
theorem dX1_next_41 : decode cX1_next 41 = .ok (.bipush 17, 2) := by decide +kernel
theorem dX1_next_43 : decode cX1_next 43 = .ok (.lshl, 1) := by decide +kernel
theorem dX1_next_44 : decode cX1_next 44 = .ok (.lxor, 1) := by decide +kernel
theorem dX1_next_45 : decode cX1_next 45 = .ok (.putfield 11, 3) := by decide +kernel
theorem dX1_next_48 : decode cX1_next 48 = .ok (.aload_n 0, 1) := by decide +kernel
theorem dX1_next_49 : decode cX1_next 49 = .ok (.getfield 11, 3) := by decide +kernel
theorem dX1_next_52 : decode cX1_next 52 = .ok (.iconst 1, 1) := by decide +kernel
theorem dX1_next_53 : decode cX1_next 53 = .ok (.lushr, 1) := by decide +kernel
theorem dX1_next_54 : decode cX1_next 54 = .ok (.lreturn, 1) := by decide +kernel
theorem dX2_init_0 : decode cX2_init 0 = .ok (.aload_n 0, 1) := by decide +kernel
theorem dX2_init_1 : decode cX2_init 1 = .ok (.invokespecial 3, 3) := by decide +kernel
theorem dX2_init_4 : decode cX2_init 4 = .ok (.aload_n 0, 1) := by decide +kernel
theorem dX2_init_5 : decode cX2_init 5 = .ok (.bipush 24, 2) := by decide +kernel
theorem dX2_init_7 : decode cX2_init 7 = .ok (.newarray .long, 2) := by decide +kernel
theorem dX2_init_9 : decode cX2_init 9 = .ok (.putfield 9, 3) := by decide +kernel
theorem dX2_init_12 : decode cX2_init 12 = .ok (.aload_n 0, 1) := by decide +kernel
theorem dX2_init_13 : decode cX2_init 13 = .ok (.sipush 192, 3) := by decide +kernel
theorem dX2_init_16 : decode cX2_init 16 = .ok (.newarray .long, 2) := by decide +kernel
theorem dX2_init_18 : decode cX2_init 18 = .ok (.putfield 15, 3) := by decide +kernel
theorem dX2_init_21 : decode cX2_init 21 = .ok (.aload_n 0, 1) := by decide +kernel
theorem dX2_init_22 : decode cX2_init 22 = .ok (.bipush 96, 2) := by decide +kernel
theorem dX2_init_24 : decode cX2_init 24 = .ok (.newarray .long, 2) := by decide +kernel
theorem dX2_init_26 : decode cX2_init 26 = .ok (.putfield 18, 3) := by decide +kernel
theorem dX2_init_29 : decode cX2_init 29 = .ok (.aload_n 0, 1) := by decide +kernel
theorem dX2_init_30 : decode cX2_init 30 = .ok (.sipush 576, 3) := by decide +kernel
theorem dX2_init_33 : decode cX2_init 33 = .ok (.newarray .long, 2) := by decide +kernel
theorem dX2_init_35 : decode cX2_init 35 = .ok (.putfield 21, 3) := by decide +kernel
theorem dX2_init_38 : decode cX2_init 38 = .ok (.aload_n 0, 1) := by decide +kernel
theorem dX2_init_39 : decode cX2_init 39 = .ok (.bipush 24, 2) := by decide +kernel
theorem dX2_init_41 : decode cX2_init 41 = .ok (.newarray .int, 2) := by decide +kernel
theorem dX2_init_43 : decode cX2_init 43 = .ok (.putfield 24, 3) := by decide +kernel
theorem dX2_init_46 : decode cX2_init 46 = .ok (.aload_n 0, 1) := by decide +kernel
theorem dX2_init_47 : decode cX2_init 47 = .ok (.bipush 8, 2) := by decide +kernel
theorem dX2_init_49 : decode cX2_init 49 = .ok (.newarray .long, 2) := by decide +kernel
theorem dX2_init_51 : decode cX2_init 51 = .ok (.putfield 28, 3) := by decide +kernel
theorem dX2_init_54 : decode cX2_init 54 = .ok (.aload_n 0, 1) := by decide +kernel
theorem dX2_init_55 : decode cX2_init 55 = .ok (.iconst 4, 1) := by decide +kernel
theorem dX2_init_56 : decode cX2_init 56 = .ok (.newarray .long, 2) := by decide +kernel
theorem dX2_init_58 : decode cX2_init 58 = .ok (.putfield 31, 3) := by decide +kernel
theorem dX2_init_61 : decode cX2_init 61 = .ok (.aload_n 0, 1) := by decide +kernel
theorem dX2_init_62 : decode cX2_init 62 = .ok (.bipush 8, 2) := by decide +kernel
theorem dX2_init_64 : decode cX2_init 64 = .ok (.newarray .long, 2) := by decide +kernel
theorem dX2_init_66 : decode cX2_init 66 = .ok (.putfield 34, 3) := by decide +kernel
theorem dX2_init_69 : decode cX2_init 69 = .ok (.aload_n 0, 1) := by decide +kernel
theorem dX2_init_70 : decode cX2_init 70 = .ok (.bipush 8, 2) := by decide +kernel
theorem dX2_init_72 : decode cX2_init 72 = .ok (.newarray .long, 2) := by decide +kernel
theorem dX2_init_74 : decode cX2_init 74 = .ok (.putfield 37, 3) := by decide +kernel
theorem dX2_init_77 : decode cX2_init 77 = .ok (.iconst 0, 1) := by decide +kernel
theorem dX2_init_78 : decode cX2_init 78 = .ok (.istore_n 1, 1) := by decide +kernel
theorem dX2_init_79 : decode cX2_init 79 = .ok (.iload_n 1, 1) := by decide +kernel
theorem dX2_init_80 : decode cX2_init 80 = .ok (.bipush 8, 2) := by decide +kernel
theorem dX2_init_82 : decode cX2_init 82 = .ok (.if_icmp .ge 16, 3) := by decide +kernel
theorem dX2_init_85 : decode cX2_init 85 = .ok (.aload_n 0, 1) := by decide +kernel
theorem dX2_init_86 : decode cX2_init 86 = .ok (.getfield 37, 3) := by decide +kernel
theorem dX2_init_89 : decode cX2_init 89 = .ok (.iload_n 1, 1) := by decide +kernel
theorem dX2_init_90 : decode cX2_init 90 = .ok (.lconst 1, 1) := by decide +kernel
theorem dX2_init_91 : decode cX2_init 91 = .ok (.lastore, 1) := by decide +kernel
theorem dX2_init_92 : decode cX2_init 92 = .ok (.iinc 1 1, 3) := by decide +kernel
theorem dX2_init_95 : decode cX2_init 95 = .ok (.goto (-16), 3) := by decide +kernel
theorem dX2_init_98 : decode cX2_init 98 = .ok (.aload_n 0, 1) := by decide +kernel
theorem dX2_init_99 : decode cX2_init 99 = .ok (.lconst 1, 1) := by decide +kernel
theorem dX2_init_100 : decode cX2_init 100 = .ok (.putfield 40, 3) := by decide +kernel
theorem dX2_init_103 : decode cX2_init 103 = .ok (.aload_n 0, 1) := by decide +kernel
theorem dX2_init_104 : decode cX2_init 104 = .ok (.lconst 1, 1) := by decide +kernel
theorem dX2_init_105 : decode cX2_init 105 = .ok (.putfield 44, 3) := by decide +kernel
theorem dX2_init_108 : decode cX2_init 108 = .ok (.return_, 1) := by decide +kernel
theorem dX2_hasCell_0 : decode cX2_hasCell 0 = .ok (.iload_n 1, 1) := by decide +kernel
theorem dX2_hasCell_1 : decode cX2_hasCell 1 = .ok (.ifCond .lt 15, 3) := by decide +kernel
theorem dX2_hasCell_4 : decode cX2_hasCell 4 = .ok (.iload_n 1, 1) := by decide +kernel
theorem dX2_hasCell_5 : decode cX2_hasCell 5 = .ok (.aload_n 0, 1) := by decide +kernel
theorem dX2_hasCell_6 : decode cX2_hasCell 6 = .ok (.getfield 47, 3) := by decide +kernel
theorem dX2_hasCell_9 : decode cX2_hasCell 9 = .ok (.if_icmp .ge 7, 3) := by decide +kernel
theorem dX2_hasCell_12 : decode cX2_hasCell 12 = .ok (.iconst 1, 1) := by decide +kernel
theorem dX2_hasCell_13 : decode cX2_hasCell 13 = .ok (.goto 4, 3) := by decide +kernel
theorem dX2_hasCell_16 : decode cX2_hasCell 16 = .ok (.iconst 0, 1) := by decide +kernel
theorem dX2_hasCell_17 : decode cX2_hasCell 17 = .ok (.ireturn, 1) := by decide +kernel
theorem dX2_hasPair_0 : decode cX2_hasPair 0 = .ok (.aload_n 0, 1) := by decide +kernel
theorem dX2_hasPair_1 : decode cX2_hasPair 1 = .ok (.iload_n 1, 1) := by decide +kernel
theorem dX2_hasPair_2 : decode cX2_hasPair 2 = .ok (.invokevirtual 51, 3) := by decide +kernel
theorem dX2_hasPair_5 : decode cX2_hasPair 5 = .ok (.ifCond .eq 20, 3) := by decide +kernel
theorem dX2_hasPair_8 : decode cX2_hasPair 8 = .ok (.aload_n 0, 1) := by decide +kernel
theorem dX2_hasPair_9 : decode cX2_hasPair 9 = .ok (.iload_n 2, 1) := by decide +kernel
theorem dX2_hasPair_10 : decode cX2_hasPair 10 = .ok (.invokevirtual 51, 3) := by decide +kernel
theorem dX2_hasPair_13 : decode cX2_hasPair 13 = .ok (.ifCond .eq 12, 3) := by decide +kernel
theorem dX2_hasPair_16 : decode cX2_hasPair 16 = .ok (.iload_n 1, 1) := by decide +kernel
theorem dX2_hasPair_17 : decode cX2_hasPair 17 = .ok (.iload_n 2, 1) := by decide +kernel
theorem dX2_hasPair_18 : decode cX2_hasPair 18 = .ok (.if_icmp .eq 7, 3) := by decide +kernel
theorem dX2_hasPair_21 : decode cX2_hasPair 21 = .ok (.iconst 1, 1) := by decide +kernel
theorem dX2_hasPair_22 : decode cX2_hasPair 22 = .ok (.goto 4, 3) := by decide +kernel
theorem dX2_hasPair_25 : decode cX2_hasPair 25 = .ok (.iconst 0, 1) := by decide +kernel
theorem dX2_hasPair_26 : decode cX2_hasPair 26 = .ok (.ireturn, 1) := by decide +kernel
theorem dX2_putAmount_0 : decode cX2_putAmount 0 = .ok (.iload_n 1, 1) := by decide +kernel
theorem dX2_putAmount_1 : decode cX2_putAmount 1 = .ok (.bipush 8, 2) := by decide +kernel
theorem dX2_putAmount_3 : decode cX2_putAmount 3 = .ok (.imul, 1) := by decide +kernel
theorem dX2_putAmount_4 : decode cX2_putAmount 4 = .ok (.iload_n 2, 1) := by decide +kernel
theorem dX2_putAmount_5 : decode cX2_putAmount 5 = .ok (.iadd, 1) := by decide +kernel
theorem dX2_putAmount_6 : decode cX2_putAmount 6 = .ok (.istore 5, 2) := by decide +kernel
theorem dX2_putAmount_8 : decode cX2_putAmount 8 = .ok (.aload_n 0, 1) := by decide +kernel
theorem dX2_putAmount_9 : decode cX2_putAmount 9 = .ok (.getfield 28, 3) := by decide +kernel
theorem dX2_putAmount_12 : decode cX2_putAmount 12 = .ok (.iload_n 2, 1) := by decide +kernel
theorem dX2_putAmount_13 : decode cX2_putAmount 13 = .ok (.dup2, 1) := by decide +kernel
theorem dX2_putAmount_14 : decode cX2_putAmount 14 = .ok (.laload, 1) := by decide +kernel
theorem dX2_putAmount_15 : decode cX2_putAmount 15 = .ok (.lload_n 3, 1) := by decide +kernel
theorem dX2_putAmount_16 : decode cX2_putAmount 16 = .ok (.aload_n 0, 1) := by decide +kernel
theorem dX2_putAmount_17 : decode cX2_putAmount 17 = .ok (.getfield 15, 3) := by decide +kernel
theorem dX2_putAmount_20 : decode cX2_putAmount 20 = .ok (.iload 5, 2) := by decide +kernel
theorem dX2_putAmount_22 : decode cX2_putAmount 22 = .ok (.laload, 1) := by decide +kernel
theorem dX2_putAmount_23 : decode cX2_putAmount 23 = .ok (.lsub, 1) := by decide +kernel
theorem dX2_putAmount_24 : decode cX2_putAmount 24 = .ok (.ladd, 1) := by decide +kernel
theorem dX2_putAmount_25 : decode cX2_putAmount 25 = .ok (.lastore, 1) := by decide +kernel
theorem dX2_putAmount_26 : decode cX2_putAmount 26 = .ok (.aload_n 0, 1) := by decide +kernel
theorem dX2_putAmount_27 : decode cX2_putAmount 27 = .ok (.getfield 15, 3) := by decide +kernel
theorem dX2_putAmount_30 : decode cX2_putAmount 30 = .ok (.iload 5, 2) := by decide +kernel
theorem dX2_putAmount_32 : decode cX2_putAmount 32 = .ok (.lload_n 3, 1) := by decide +kernel
theorem dX2_putAmount_33 : decode cX2_putAmount 33 = .ok (.lastore, 1) := by decide +kernel
theorem dX2_putAmount_34 : decode cX2_putAmount 34 = .ok (.return_, 1) := by decide +kernel
theorem dX2_putHours_0 : decode cX2_putHours 0 = .ok (.iload_n 1, 1) := by decide +kernel
theorem dX2_putHours_1 : decode cX2_putHours 1 = .ok (.iconst 4, 1) := by decide +kernel
theorem dX2_putHours_2 : decode cX2_putHours 2 = .ok (.imul, 1) := by decide +kernel
theorem dX2_putHours_3 : decode cX2_putHours 3 = .ok (.iload_n 2, 1) := by decide +kernel
theorem dX2_putHours_4 : decode cX2_putHours 4 = .ok (.iadd, 1) := by decide +kernel
theorem dX2_putHours_5 : decode cX2_putHours 5 = .ok (.istore 5, 2) := by decide +kernel
theorem dX2_putHours_7 : decode cX2_putHours 7 = .ok (.aload_n 0, 1) := by decide +kernel
theorem dX2_putHours_8 : decode cX2_putHours 8 = .ok (.getfield 31, 3) := by decide +kernel
theorem dX2_putHours_11 : decode cX2_putHours 11 = .ok (.iload_n 2, 1) := by decide +kernel
theorem dX2_putHours_12 : decode cX2_putHours 12 = .ok (.dup2, 1) := by decide +kernel
theorem dX2_putHours_13 : decode cX2_putHours 13 = .ok (.laload, 1) := by decide +kernel
theorem dX2_putHours_14 : decode cX2_putHours 14 = .ok (.lload_n 3, 1) := by decide +kernel
theorem dX2_putHours_15 : decode cX2_putHours 15 = .ok (.aload_n 0, 1) := by decide +kernel
theorem dX2_putHours_16 : decode cX2_putHours 16 = .ok (.getfield 18, 3) := by decide +kernel
theorem dX2_putHours_19 : decode cX2_putHours 19 = .ok (.iload 5, 2) := by decide +kernel
theorem dX2_putHours_21 : decode cX2_putHours 21 = .ok (.laload, 1) := by decide +kernel
theorem dX2_putHours_22 : decode cX2_putHours 22 = .ok (.lsub, 1) := by decide +kernel
theorem dX2_putHours_23 : decode cX2_putHours 23 = .ok (.ladd, 1) := by decide +kernel
theorem dX2_putHours_24 : decode cX2_putHours 24 = .ok (.lastore, 1) := by decide +kernel
theorem dX2_putHours_25 : decode cX2_putHours 25 = .ok (.aload_n 0, 1) := by decide +kernel
theorem dX2_putHours_26 : decode cX2_putHours 26 = .ok (.getfield 18, 3) := by decide +kernel
theorem dX2_putHours_29 : decode cX2_putHours 29 = .ok (.iload 5, 2) := by decide +kernel
theorem dX2_putHours_31 : decode cX2_putHours 31 = .ok (.lload_n 3, 1) := by decide +kernel
theorem dX2_putHours_32 : decode cX2_putHours 32 = .ok (.lastore, 1) := by decide +kernel
theorem dX2_putHours_33 : decode cX2_putHours 33 = .ok (.return_, 1) := by decide +kernel
theorem dX2_openSet_0 : decode cX2_openSet 0 = .ok (.iconst 1, 1) := by decide +kernel
theorem dX2_openSet_1 : decode cX2_openSet 1 = .ok (.aload_n 0, 1) := by decide +kernel
theorem dX2_openSet_2 : decode cX2_openSet 2 = .ok (.getfield 47, 3) := by decide +kernel
theorem dX2_openSet_5 : decode cX2_openSet 5 = .ok (.ishl, 1) := by decide +kernel
theorem dX2_openSet_6 : decode cX2_openSet 6 = .ok (.iconst 1, 1) := by decide +kernel
theorem dX2_openSet_7 : decode cX2_openSet 7 = .ok (.isub, 1) := by decide +kernel
theorem dX2_openSet_8 : decode cX2_openSet 8 = .ok (.aload_n 0, 1) := by decide +kernel
theorem dX2_openSet_9 : decode cX2_openSet 9 = .ok (.getfield 55, 3) := by decide +kernel
theorem dX2_openSet_12 : decode cX2_openSet 12 = .ok (.iconst (-1), 1) := by decide +kernel
theorem dX2_openSet_13 : decode cX2_openSet 13 = .ok (.ixor, 1) := by decide +kernel
theorem dX2_openSet_14 : decode cX2_openSet 14 = .ok (.iand, 1) := by decide +kernel
theorem dX2_openSet_15 : decode cX2_openSet 15 = .ok (.ireturn, 1) := by decide +kernel
theorem dX2_freeSet_0 : decode cX2_freeSet 0 = .ok (.aload_n 0, 1) := by decide +kernel
theorem dX2_freeSet_1 : decode cX2_freeSet 1 = .ok (.invokevirtual 58, 3) := by decide +kernel
theorem dX2_freeSet_4 : decode cX2_freeSet 4 = .ok (.aload_n 0, 1) := by decide +kernel
theorem dX2_freeSet_5 : decode cX2_freeSet 5 = .ok (.getfield 62, 3) := by decide +kernel
theorem dX2_freeSet_8 : decode cX2_freeSet 8 = .ok (.iconst (-1), 1) := by decide +kernel
theorem dX2_freeSet_9 : decode cX2_freeSet 9 = .ok (.ixor, 1) := by decide +kernel
theorem dX2_freeSet_10 : decode cX2_freeSet 10 = .ok (.iand, 1) := by decide +kernel
theorem dX2_freeSet_11 : decode cX2_freeSet 11 = .ok (.ireturn, 1) := by decide +kernel
theorem dX2_costsOf_0 : decode cX2_costsOf 0 = .ok (.lconst 0, 1) := by decide +kernel
theorem dX2_costsOf_1 : decode cX2_costsOf 1 = .ok (.lstore_n 2, 1) := by decide +kernel
theorem dX2_costsOf_2 : decode cX2_costsOf 2 = .ok (.iconst 0, 1) := by decide +kernel
theorem dX2_costsOf_3 : decode cX2_costsOf 3 = .ok (.istore 4, 2) := by decide +kernel
theorem dX2_costsOf_5 : decode cX2_costsOf 5 = .ok (.iload 4, 2) := by decide +kernel
theorem dX2_costsOf_7 : decode cX2_costsOf 7 = .ok (.aload_n 0, 1) := by decide +kernel
theorem dX2_costsOf_8 : decode cX2_costsOf 8 = .ok (.getfield 47, 3) := by decide +kernel
theorem dX2_costsOf_11 : decode cX2_costsOf 11 = .ok (.if_icmp .ge 28, 3) := by decide +kernel
theorem dX2_costsOf_14 : decode cX2_costsOf 14 = .ok (.iload_n 1, 1) := by decide +kernel
theorem dX2_costsOf_15 : decode cX2_costsOf 15 = .ok (.iload 4, 2) := by decide +kernel
theorem dX2_costsOf_17 : decode cX2_costsOf 17 = .ok (.invokestatic 65, 3) := by decide +kernel
theorem dX2_costsOf_20 : decode cX2_costsOf 20 = .ok (.ifCond .eq 13, 3) := by decide +kernel
theorem dX2_costsOf_23 : decode cX2_costsOf 23 = .ok (.lload_n 2, 1) := by decide +kernel
theorem dX2_costsOf_24 : decode cX2_costsOf 24 = .ok (.aload_n 0, 1) := by decide +kernel
theorem dX2_costsOf_25 : decode cX2_costsOf 25 = .ok (.getfield 9, 3) := by decide +kernel
theorem dX2_costsOf_28 : decode cX2_costsOf 28 = .ok (.iload 4, 2) := by decide +kernel
theorem dX2_costsOf_30 : decode cX2_costsOf 30 = .ok (.laload, 1) := by decide +kernel
theorem dX2_costsOf_31 : decode cX2_costsOf 31 = .ok (.ladd, 1) := by decide +kernel
theorem dX2_costsOf_32 : decode cX2_costsOf 32 = .ok (.lstore_n 2, 1) := by decide +kernel
theorem dX2_costsOf_33 : decode cX2_costsOf 33 = .ok (.iinc 4 1, 3) := by decide +kernel
theorem dX2_costsOf_36 : decode cX2_costsOf 36 = .ok (.goto (-31), 3) := by decide +kernel
theorem dX2_costsOf_39 : decode cX2_costsOf 39 = .ok (.lload_n 2, 1) := by decide +kernel
theorem dX2_costsOf_40 : decode cX2_costsOf 40 = .ok (.lreturn, 1) := by decide +kernel
theorem dX2_comesBefore_0 : decode cX2_comesBefore 0 = .ok (.aload_n 0, 1) := by decide +kernel
theorem dX2_comesBefore_1 : decode cX2_comesBefore 1 = .ok (.getfield 9, 3) := by decide +kernel
theorem dX2_comesBefore_4 : decode cX2_comesBefore 4 = .ok (.iload_n 1, 1) := by decide +kernel
theorem dX2_comesBefore_5 : decode cX2_comesBefore 5 = .ok (.laload, 1) := by decide +kernel
theorem dX2_comesBefore_6 : decode cX2_comesBefore 6 = .ok (.aload_n 0, 1) := by decide +kernel
theorem dX2_comesBefore_7 : decode cX2_comesBefore 7 = .ok (.getfield 9, 3) := by decide +kernel
theorem dX2_comesBefore_10 : decode cX2_comesBefore 10 = .ok (.iload_n 2, 1) := by decide +kernel
theorem dX2_comesBefore_11 : decode cX2_comesBefore 11 = .ok (.laload, 1) := by decide +kernel
theorem dX2_comesBefore_12 : decode cX2_comesBefore 12 = .ok (.lcmp, 1) := by decide +kernel
theorem dX2_comesBefore_13 : decode cX2_comesBefore 13 = .ok (.ifCond .lt 24, 3) := by decide +kernel
theorem dX2_comesBefore_16 : decode cX2_comesBefore 16 = .ok (.aload_n 0, 1) := by decide +kernel
theorem dX2_comesBefore_17 : decode cX2_comesBefore 17 = .ok (.getfield 9, 3) := by decide +kernel
theorem dX2_comesBefore_20 : decode cX2_comesBefore 20 = .ok (.iload_n 1, 1) := by decide +kernel
theorem dX2_comesBefore_21 : decode cX2_comesBefore 21 = .ok (.laload, 1) := by decide +kernel
theorem dX2_comesBefore_22 : decode cX2_comesBefore 22 = .ok (.aload_n 0, 1) := by decide +kernel
theorem dX2_comesBefore_23 : decode cX2_comesBefore 23 = .ok (.getfield 9, 3) := by decide +kernel
theorem dX2_comesBefore_26 : decode cX2_comesBefore 26 = .ok (.iload_n 2, 1) := by decide +kernel
theorem dX2_comesBefore_27 : decode cX2_comesBefore 27 = .ok (.laload, 1) := by decide +kernel
theorem dX2_comesBefore_28 : decode cX2_comesBefore 28 = .ok (.lcmp, 1) := by decide +kernel
theorem dX2_comesBefore_29 : decode cX2_comesBefore 29 = .ok (.ifCond .ne 12, 3) := by decide +kernel
theorem dX2_comesBefore_32 : decode cX2_comesBefore 32 = .ok (.iload_n 1, 1) := by decide +kernel
theorem dX2_comesBefore_33 : decode cX2_comesBefore 33 = .ok (.iload_n 2, 1) := by decide +kernel
theorem dX2_comesBefore_34 : decode cX2_comesBefore 34 = .ok (.if_icmp .ge 7, 3) := by decide +kernel
theorem dX2_comesBefore_37 : decode cX2_comesBefore 37 = .ok (.iconst 1, 1) := by decide +kernel
theorem dX2_comesBefore_38 : decode cX2_comesBefore 38 = .ok (.goto 4, 3) := by decide +kernel
theorem dX2_comesBefore_41 : decode cX2_comesBefore 41 = .ok (.iconst 0, 1) := by decide +kernel
theorem dX2_comesBefore_42 : decode cX2_comesBefore 42 = .ok (.ireturn, 1) := by decide +kernel
theorem dX3_init_0 : decode cX3_init 0 = .ok (.aload_n 0, 1) := by decide +kernel
theorem dX3_init_1 : decode cX3_init 1 = .ok (.invokespecial 3, 3) := by decide +kernel
theorem dX3_init_4 : decode cX3_init 4 = .ok (.aload_n 0, 1) := by decide +kernel
theorem dX3_init_5 : decode cX3_init 5 = .ok (.aload_n 1, 1) := by decide +kernel
theorem dX3_init_6 : decode cX3_init 6 = .ok (.putfield 9, 3) := by decide +kernel
theorem dX3_init_9 : decode cX3_init 9 = .ok (.aload_n 0, 1) := by decide +kernel
theorem dX3_init_10 : decode cX3_init 10 = .ok (.bipush 8, 2) := by decide +kernel
theorem dX3_init_12 : decode cX3_init 12 = .ok (.newarray .long, 2) := by decide +kernel
theorem dX3_init_14 : decode cX3_init 14 = .ok (.putfield 15, 3) := by decide +kernel
theorem dX3_init_17 : decode cX3_init 17 = .ok (.aload_n 0, 1) := by decide +kernel
theorem dX3_init_18 : decode cX3_init 18 = .ok (.iconst 4, 1) := by decide +kernel
theorem dX3_init_19 : decode cX3_init 19 = .ok (.newarray .long, 2) := by decide +kernel
theorem dX3_init_21 : decode cX3_init 21 = .ok (.putfield 19, 3) := by decide +kernel
theorem dX3_init_24 : decode cX3_init 24 = .ok (.return_, 1) := by decide +kernel
theorem dX3_begin_0 : decode cX3_begin 0 = .ok (.aload_n 0, 1) := by decide +kernel
theorem dX3_begin_1 : decode cX3_begin 1 = .ok (.iconst 0, 1) := by decide +kernel
theorem dX3_begin_2 : decode cX3_begin 2 = .ok (.putfield 22, 3) := by decide +kernel
theorem dX3_begin_5 : decode cX3_begin 5 = .ok (.aload_n 0, 1) := by decide +kernel
theorem dX3_begin_6 : decode cX3_begin 6 = .ok (.iconst 0, 1) := by decide +kernel
theorem dX3_begin_7 : decode cX3_begin 7 = .ok (.putfield 26, 3) := by decide +kernel
theorem dX3_begin_10 : decode cX3_begin 10 = .ok (.aload_n 0, 1) := by decide +kernel
theorem dX3_begin_11 : decode cX3_begin 11 = .ok (.lconst 0, 1) := by decide +kernel
theorem dX3_begin_12 : decode cX3_begin 12 = .ok (.putfield 29, 3) := by decide +kernel
theorem dX3_begin_15 : decode cX3_begin 15 = .ok (.aload_n 0, 1) := by decide +kernel
theorem dX3_begin_16 : decode cX3_begin 16 = .ok (.lconst 0, 1) := by decide +kernel
theorem dX3_begin_17 : decode cX3_begin 17 = .ok (.putfield 33, 3) := by decide +kernel
theorem dX3_begin_20 : decode cX3_begin 20 = .ok (.iconst 0, 1) := by decide +kernel
theorem dX3_begin_21 : decode cX3_begin 21 = .ok (.istore_n 2, 1) := by decide +kernel
theorem dX3_begin_22 : decode cX3_begin 22 = .ok (.iload_n 2, 1) := by decide +kernel
theorem dX3_begin_23 : decode cX3_begin 23 = .ok (.bipush 8, 2) := by decide +kernel
theorem dX3_begin_25 : decode cX3_begin 25 = .ok (.if_icmp .ge 16, 3) := by decide +kernel
theorem dX3_begin_28 : decode cX3_begin 28 = .ok (.aload_n 0, 1) := by decide +kernel
theorem dX3_begin_29 : decode cX3_begin 29 = .ok (.getfield 15, 3) := by decide +kernel
theorem dX3_begin_32 : decode cX3_begin 32 = .ok (.iload_n 2, 1) := by decide +kernel
theorem dX3_begin_33 : decode cX3_begin 33 = .ok (.lconst 0, 1) := by decide +kernel
theorem dX3_begin_34 : decode cX3_begin 34 = .ok (.lastore, 1) := by decide +kernel
theorem dX3_begin_35 : decode cX3_begin 35 = .ok (.iinc 2 1, 3) := by decide +kernel
theorem dX3_begin_38 : decode cX3_begin 38 = .ok (.goto (-16), 3) := by decide +kernel
theorem dX3_begin_41 : decode cX3_begin 41 = .ok (.iconst 0, 1) := by decide +kernel
theorem dX3_begin_42 : decode cX3_begin 42 = .ok (.istore_n 2, 1) := by decide +kernel
theorem dX3_begin_43 : decode cX3_begin 43 = .ok (.iload_n 2, 1) := by decide +kernel
theorem dX3_begin_44 : decode cX3_begin 44 = .ok (.iconst 4, 1) := by decide +kernel
theorem dX3_begin_45 : decode cX3_begin 45 = .ok (.if_icmp .ge 16, 3) := by decide +kernel
theorem dX3_begin_48 : decode cX3_begin 48 = .ok (.aload_n 0, 1) := by decide +kernel
theorem dX3_begin_49 : decode cX3_begin 49 = .ok (.getfield 19, 3) := by decide +kernel
theorem dX3_begin_52 : decode cX3_begin 52 = .ok (.iload_n 2, 1) := by decide +kernel
theorem dX3_begin_53 : decode cX3_begin 53 = .ok (.lconst 0, 1) := by decide +kernel
theorem dX3_begin_54 : decode cX3_begin 54 = .ok (.lastore, 1) := by decide +kernel
theorem dX3_begin_55 : decode cX3_begin 55 = .ok (.iinc 2 1, 3) := by decide +kernel
theorem dX3_begin_58 : decode cX3_begin 58 = .ok (.goto (-15), 3) := by decide +kernel
theorem dX3_begin_61 : decode cX3_begin 61 = .ok (.iconst 0, 1) := by decide +kernel
theorem dX3_begin_62 : decode cX3_begin 62 = .ok (.istore_n 2, 1) := by decide +kernel
theorem dX3_begin_63 : decode cX3_begin 63 = .ok (.iload_n 2, 1) := by decide +kernel
theorem dX3_begin_64 : decode cX3_begin 64 = .ok (.aload_n 0, 1) := by decide +kernel
theorem dX3_begin_65 : decode cX3_begin 65 = .ok (.getfield 9, 3) := by decide +kernel
theorem dX3_begin_68 : decode cX3_begin 68 = .ok (.getfield 36, 3) := by decide +kernel
theorem dX3_begin_71 : decode cX3_begin 71 = .ok (.if_icmp .ge 22, 3) := by decide +kernel
theorem dX3_begin_74 : decode cX3_begin 74 = .ok (.iload_n 1, 1) := by decide +kernel
theorem dX3_begin_75 : decode cX3_begin 75 = .ok (.iload_n 2, 1) := by decide +kernel
theorem dX3_begin_76 : decode cX3_begin 76 = .ok (.invokestatic 39, 3) := by decide +kernel
theorem dX3_begin_79 : decode cX3_begin 79 = .ok (.ifCond .eq 8, 3) := by decide +kernel
theorem dX3_begin_82 : decode cX3_begin 82 = .ok (.aload_n 0, 1) := by decide +kernel
theorem dX3_begin_83 : decode cX3_begin 83 = .ok (.iload_n 2, 1) := by decide +kernel
theorem dX3_begin_84 : decode cX3_begin 84 = .ok (.invokevirtual 43, 3) := by decide +kernel
theorem dX3_begin_87 : decode cX3_begin 87 = .ok (.iinc 2 1, 3) := by decide +kernel
theorem dX3_begin_90 : decode cX3_begin 90 = .ok (.goto (-27), 3) := by decide +kernel
theorem dX3_begin_93 : decode cX3_begin 93 = .ok (.return_, 1) := by decide +kernel
theorem dX3_exchange_0 : decode cX3_exchange 0 = .ok (.aload_n 0, 1) := by decide +kernel
theorem dX3_exchange_1 : decode cX3_exchange 1 = .ok (.getfield 22, 3) := by decide +kernel
theorem dX3_exchange_4 : decode cX3_exchange 4 = .ok (.iload_n 1, 1) := by decide +kernel
theorem dX3_exchange_5 : decode cX3_exchange 5 = .ok (.invokestatic 39, 3) := by decide +kernel
theorem dX3_exchange_8 : decode cX3_exchange 8 = .ok (.ifCond .eq 7, 3) := by decide +kernel
theorem dX3_exchange_11 : decode cX3_exchange 11 = .ok (.iconst (-1), 1) := by decide +kernel
theorem dX3_exchange_12 : decode cX3_exchange 12 = .ok (.goto 4, 3) := by decide +kernel
theorem dX3_exchange_15 : decode cX3_exchange 15 = .ok (.iconst 1, 1) := by decide +kernel
theorem dX3_exchange_16 : decode cX3_exchange 16 = .ok (.istore_n 2, 1) := by decide +kernel
theorem dX3_exchange_17 : decode cX3_exchange 17 = .ok (.aload_n 0, 1) := by decide +kernel
theorem dX3_exchange_18 : decode cX3_exchange 18 = .ok (.getfield 22, 3) := by decide +kernel
theorem dX3_exchange_21 : decode cX3_exchange 21 = .ok (.iconst 1, 1) := by decide +kernel
theorem dX3_exchange_22 : decode cX3_exchange 22 = .ok (.iload_n 1, 1) := by decide +kernel
theorem dX3_exchange_23 : decode cX3_exchange 23 = .ok (.ishl, 1) := by decide +kernel
theorem dX3_exchange_24 : decode cX3_exchange 24 = .ok (.iconst (-1), 1) := by decide +kernel
theorem dX3_exchange_25 : decode cX3_exchange 25 = .ok (.ixor, 1) := by decide +kernel
theorem dX3_exchange_26 : decode cX3_exchange 26 = .ok (.iand, 1) := by decide +kernel
theorem dX3_exchange_27 : decode cX3_exchange 27 = .ok (.istore_n 3, 1) := by decide +kernel
theorem dX3_exchange_28 : decode cX3_exchange 28 = .ok (.aload_n 0, 1) := by decide +kernel
theorem dX3_exchange_29 : decode cX3_exchange 29 = .ok (.dup, 1) := by decide +kernel
theorem dX3_exchange_30 : decode cX3_exchange 30 = .ok (.getfield 26, 3) := by decide +kernel
theorem dX3_exchange_33 : decode cX3_exchange 33 = .ok (.iload_n 2, 1) := by decide +kernel
theorem dX3_exchange_34 : decode cX3_exchange 34 = .ok (.aload_n 0, 1) := by decide +kernel
theorem dX3_exchange_35 : decode cX3_exchange 35 = .ok (.getfield 9, 3) := by decide +kernel
theorem dX3_exchange_38 : decode cX3_exchange 38 = .ok (.getfield 47, 3) := by decide +kernel
theorem dX3_exchange_41 : decode cX3_exchange 41 = .ok (.iload_n 1, 1) := by decide +kernel
theorem dX3_exchange_42 : decode cX3_exchange 42 = .ok (.iaload, 1) := by decide +kernel
theorem dX3_exchange_43 : decode cX3_exchange 43 = .ok (.iload_n 3, 1) := by decide +kernel
theorem dX3_exchange_44 : decode cX3_exchange 44 = .ok (.iand, 1) := by decide +kernel
theorem dX3_exchange_45 : decode cX3_exchange 45 = .ok (.invokestatic 51, 3) := by decide +kernel
theorem dX3_exchange_48 : decode cX3_exchange 48 = .ok (.imul, 1) := by decide +kernel
theorem dX3_exchange_49 : decode cX3_exchange 49 = .ok (.iadd, 1) := by decide +kernel
theorem dX3_exchange_50 : decode cX3_exchange 50 = .ok (.putfield 26, 3) := by decide +kernel
theorem dX3_exchange_53 : decode cX3_exchange 53 = .ok (.aload_n 0, 1) := by decide +kernel
theorem dX3_exchange_54 : decode cX3_exchange 54 = .ok (.dup, 1) := by decide +kernel
theorem dX3_exchange_55 : decode cX3_exchange 55 = .ok (.getfield 29, 3) := by decide +kernel
theorem dX3_exchange_58 : decode cX3_exchange 58 = .ok (.iload_n 2, 1) := by decide +kernel
theorem dX3_exchange_59 : decode cX3_exchange 59 = .ok (.i2l, 1) := by decide +kernel
theorem dX3_exchange_60 : decode cX3_exchange 60 = .ok (.aload_n 0, 1) := by decide +kernel
theorem dX3_exchange_61 : decode cX3_exchange 61 = .ok (.getfield 9, 3) := by decide +kernel
theorem dX3_exchange_64 : decode cX3_exchange 64 = .ok (.getfield 57, 3) := by decide +kernel
theorem dX3_exchange_67 : decode cX3_exchange 67 = .ok (.iload_n 1, 1) := by decide +kernel
theorem dX3_exchange_68 : decode cX3_exchange 68 = .ok (.laload, 1) := by decide +kernel
theorem dX3_exchange_69 : decode cX3_exchange 69 = .ok (.lmul, 1) := by decide +kernel
theorem dX3_exchange_70 : decode cX3_exchange 70 = .ok (.ladd, 1) := by decide +kernel
theorem dX3_exchange_71 : decode cX3_exchange 71 = .ok (.putfield 29, 3) := by decide +kernel
theorem dX3_exchange_74 : decode cX3_exchange 74 = .ok (.aload_n 0, 1) := by decide +kernel
theorem dX3_exchange_75 : decode cX3_exchange 75 = .ok (.dup, 1) := by decide +kernel
theorem dX3_exchange_76 : decode cX3_exchange 76 = .ok (.getfield 33, 3) := by decide +kernel
theorem dX3_exchange_79 : decode cX3_exchange 79 = .ok (.iload_n 2, 1) := by decide +kernel
theorem dX3_exchange_80 : decode cX3_exchange 80 = .ok (.i2l, 1) := by decide +kernel
theorem dX3_exchange_81 : decode cX3_exchange 81 = .ok (.aload_n 0, 1) := by decide +kernel
theorem dX3_exchange_82 : decode cX3_exchange 82 = .ok (.iload_n 1, 1) := by decide +kernel
theorem dX3_exchange_83 : decode cX3_exchange 83 = .ok (.iload_n 3, 1) := by decide +kernel
theorem dX3_exchange_84 : decode cX3_exchange 84 = .ok (.invokevirtual 60, 3) := by decide +kernel
theorem dX3_exchange_87 : decode cX3_exchange 87 = .ok (.lmul, 1) := by decide +kernel
theorem dX3_exchange_88 : decode cX3_exchange 88 = .ok (.ladd, 1) := by decide +kernel
theorem dX3_exchange_89 : decode cX3_exchange 89 = .ok (.putfield 33, 3) := by decide +kernel
theorem dX3_exchange_92 : decode cX3_exchange 92 = .ok (.iconst 0, 1) := by decide +kernel
theorem dX3_exchange_93 : decode cX3_exchange 93 = .ok (.istore 4, 2) := by decide +kernel
theorem dX3_exchange_95 : decode cX3_exchange 95 = .ok (.iload 4, 2) := by decide +kernel
theorem dX3_exchange_97 : decode cX3_exchange 97 = .ok (.bipush 8, 2) := by decide +kernel
theorem dX3_exchange_99 : decode cX3_exchange 99 = .ok (.if_icmp .ge 37, 3) := by decide +kernel
theorem dX3_exchange_102 : decode cX3_exchange 102 = .ok (.aload_n 0, 1) := by decide +kernel
theorem dX3_exchange_103 : decode cX3_exchange 103 = .ok (.getfield 15, 3) := by decide +kernel
theorem dX3_exchange_106 : decode cX3_exchange 106 = .ok (.iload 4, 2) := by decide +kernel
theorem dX3_exchange_108 : decode cX3_exchange 108 = .ok (.dup2, 1) := by decide +kernel
theorem dX3_exchange_109 : decode cX3_exchange 109 = .ok (.laload, 1) := by decide +kernel
theorem dX3_exchange_110 : decode cX3_exchange 110 = .ok (.iload_n 2, 1) := by decide +kernel
theorem dX3_exchange_111 : decode cX3_exchange 111 = .ok (.i2l, 1) := by decide +kernel
theorem dX3_exchange_112 : decode cX3_exchange 112 = .ok (.aload_n 0, 1) := by decide +kernel
theorem dX3_exchange_113 : decode cX3_exchange 113 = .ok (.getfield 9, 3) := by decide +kernel
theorem dX3_exchange_116 : decode cX3_exchange 116 = .ok (.getfield 64, 3) := by decide +kernel
theorem dX3_exchange_119 : decode cX3_exchange 119 = .ok (.iload_n 1, 1) := by decide +kernel
theorem dX3_exchange_120 : decode cX3_exchange 120 = .ok (.bipush 8, 2) := by decide +kernel
theorem dX3_exchange_122 : decode cX3_exchange 122 = .ok (.imul, 1) := by decide +kernel
theorem dX3_exchange_123 : decode cX3_exchange 123 = .ok (.iload 4, 2) := by decide +kernel
theorem dX3_exchange_125 : decode cX3_exchange 125 = .ok (.iadd, 1) := by decide +kernel
theorem dX3_exchange_126 : decode cX3_exchange 126 = .ok (.laload, 1) := by decide +kernel
theorem dX3_exchange_127 : decode cX3_exchange 127 = .ok (.lmul, 1) := by decide +kernel
theorem dX3_exchange_128 : decode cX3_exchange 128 = .ok (.ladd, 1) := by decide +kernel
theorem dX3_exchange_129 : decode cX3_exchange 129 = .ok (.lastore, 1) := by decide +kernel
theorem dX3_exchange_130 : decode cX3_exchange 130 = .ok (.iinc 4 1, 3) := by decide +kernel
theorem dX3_exchange_133 : decode cX3_exchange 133 = .ok (.goto (-38), 3) := by decide +kernel
theorem dX3_exchange_136 : decode cX3_exchange 136 = .ok (.iconst 0, 1) := by decide +kernel
theorem dX3_exchange_137 : decode cX3_exchange 137 = .ok (.istore 4, 2) := by decide +kernel
theorem dX3_exchange_139 : decode cX3_exchange 139 = .ok (.iload 4, 2) := by decide +kernel
theorem dX3_exchange_141 : decode cX3_exchange 141 = .ok (.iconst 4, 1) := by decide +kernel
theorem dX3_exchange_142 : decode cX3_exchange 142 = .ok (.if_icmp .ge 36, 3) := by decide +kernel
theorem dX3_exchange_145 : decode cX3_exchange 145 = .ok (.aload_n 0, 1) := by decide +kernel
theorem dX3_exchange_146 : decode cX3_exchange 146 = .ok (.getfield 19, 3) := by decide +kernel
theorem dX3_exchange_149 : decode cX3_exchange 149 = .ok (.iload 4, 2) := by decide +kernel
theorem dX3_exchange_151 : decode cX3_exchange 151 = .ok (.dup2, 1) := by decide +kernel
theorem dX3_exchange_152 : decode cX3_exchange 152 = .ok (.laload, 1) := by decide +kernel
theorem dX3_exchange_153 : decode cX3_exchange 153 = .ok (.iload_n 2, 1) := by decide +kernel
theorem dX3_exchange_154 : decode cX3_exchange 154 = .ok (.i2l, 1) := by decide +kernel
theorem dX3_exchange_155 : decode cX3_exchange 155 = .ok (.aload_n 0, 1) := by decide +kernel
theorem dX3_exchange_156 : decode cX3_exchange 156 = .ok (.getfield 9, 3) := by decide +kernel
theorem dX3_exchange_159 : decode cX3_exchange 159 = .ok (.getfield 65, 3) := by decide +kernel
theorem dX3_exchange_162 : decode cX3_exchange 162 = .ok (.iload_n 1, 1) := by decide +kernel
theorem dX3_exchange_163 : decode cX3_exchange 163 = .ok (.iconst 4, 1) := by decide +kernel
theorem dX3_exchange_164 : decode cX3_exchange 164 = .ok (.imul, 1) := by decide +kernel
theorem dX3_exchange_165 : decode cX3_exchange 165 = .ok (.iload 4, 2) := by decide +kernel
theorem dX3_exchange_167 : decode cX3_exchange 167 = .ok (.iadd, 1) := by decide +kernel
theorem dX3_exchange_168 : decode cX3_exchange 168 = .ok (.laload, 1) := by decide +kernel
theorem dX3_exchange_169 : decode cX3_exchange 169 = .ok (.lmul, 1) := by decide +kernel
theorem dX3_exchange_170 : decode cX3_exchange 170 = .ok (.ladd, 1) := by decide +kernel
theorem dX3_exchange_171 : decode cX3_exchange 171 = .ok (.lastore, 1) := by decide +kernel
theorem dX3_exchange_172 : decode cX3_exchange 172 = .ok (.iinc 4 1, 3) := by decide +kernel
theorem dX3_exchange_175 : decode cX3_exchange 175 = .ok (.goto (-36), 3) := by decide +kernel
theorem dX3_exchange_178 : decode cX3_exchange 178 = .ok (.aload_n 0, 1) := by decide +kernel
theorem dX3_exchange_179 : decode cX3_exchange 179 = .ok (.dup, 1) := by decide +kernel
theorem dX3_exchange_180 : decode cX3_exchange 180 = .ok (.getfield 22, 3) := by decide +kernel
theorem dX3_exchange_183 : decode cX3_exchange 183 = .ok (.iconst 1, 1) := by decide +kernel
theorem dX3_exchange_184 : decode cX3_exchange 184 = .ok (.iload_n 1, 1) := by decide +kernel
theorem dX3_exchange_185 : decode cX3_exchange 185 = .ok (.ishl, 1) := by decide +kernel
theorem dX3_exchange_186 : decode cX3_exchange 186 = .ok (.ixor, 1) := by decide +kernel
theorem dX3_exchange_187 : decode cX3_exchange 187 = .ok (.putfield 22, 3) := by decide +kernel
theorem dX3_exchange_190 : decode cX3_exchange 190 = .ok (.return_, 1) := by decide +kernel
theorem dX3_borderGainedBy_0 : decode cX3_borderGainedBy 0 = .ok (.lconst 0, 1) := by decide +kernel
theorem dX3_borderGainedBy_1 : decode cX3_borderGainedBy 1 = .ok (.lstore_n 3, 1) := by decide +kernel
theorem dX3_borderGainedBy_2 : decode cX3_borderGainedBy 2 = .ok (.iconst 0, 1) := by decide +kernel
theorem dX3_borderGainedBy_3 : decode cX3_borderGainedBy 3 = .ok (.istore 5, 2) := by decide +kernel
theorem dX3_borderGainedBy_5 : decode cX3_borderGainedBy 5 = .ok (.iload 5, 2) := by decide +kernel
theorem dX3_borderGainedBy_7 : decode cX3_borderGainedBy 7 = .ok (.aload_n 0, 1) := by decide +kernel
theorem dX3_borderGainedBy_8 : decode cX3_borderGainedBy 8 = .ok (.getfield 9, 3) := by decide +kernel
theorem dX3_borderGainedBy_11 : decode cX3_borderGainedBy 11 = .ok (.getfield 36, 3) := by decide +kernel
theorem dX3_borderGainedBy_14 : decode cX3_borderGainedBy 14 = .ok (.if_icmp .ge 46, 3) := by decide +kernel
theorem dX3_borderGainedBy_17 : decode cX3_borderGainedBy 17 = .ok (.aload_n 0, 1) := by decide +kernel
theorem dX3_borderGainedBy_18 : decode cX3_borderGainedBy 18 = .ok (.getfield 9, 3) := by decide +kernel
theorem dX3_borderGainedBy_21 : decode cX3_borderGainedBy 21 = .ok (.getfield 66, 3) := by decide +kernel
theorem dX3_borderGainedBy_24 : decode cX3_borderGainedBy 24 = .ok (.iload_n 1, 1) := by decide +kernel
theorem dX3_borderGainedBy_25 : decode cX3_borderGainedBy 25 = .ok (.bipush 24, 2) := by decide +kernel
theorem dX3_borderGainedBy_27 : decode cX3_borderGainedBy 27 = .ok (.imul, 1) := by decide +kernel
theorem dX3_borderGainedBy_28 : decode cX3_borderGainedBy 28 = .ok (.iload 5, 2) := by decide +kernel
theorem dX3_borderGainedBy_30 : decode cX3_borderGainedBy 30 = .ok (.iadd, 1) := by decide +kernel
theorem dX3_borderGainedBy_31 : decode cX3_borderGainedBy 31 = .ok (.laload, 1) := by decide +kernel
theorem dX3_borderGainedBy_32 : decode cX3_borderGainedBy 32 = .ok (.lstore 6, 2) := by decide +kernel
theorem dX3_borderGainedBy_34 : decode cX3_borderGainedBy 34 = .ok (.lload_n 3, 1) := by decide +kernel
theorem dX3_borderGainedBy_35 : decode cX3_borderGainedBy 35 = .ok (.iload_n 2, 1) := by decide +kernel
theorem dX3_borderGainedBy_36 : decode cX3_borderGainedBy 36 = .ok (.iload 5, 2) := by decide +kernel
theorem dX3_borderGainedBy_38 : decode cX3_borderGainedBy 38 = .ok (.invokestatic 39, 3) := by decide +kernel
theorem dX3_borderGainedBy_41 : decode cX3_borderGainedBy 41 = .ok (.ifCond .eq 9, 3) := by decide +kernel
theorem dX3_borderGainedBy_44 : decode cX3_borderGainedBy 44 = .ok (.lload 6, 2) := by decide +kernel
theorem dX3_borderGainedBy_46 : decode cX3_borderGainedBy 46 = .ok (.lneg, 1) := by decide +kernel
theorem dX3_borderGainedBy_47 : decode cX3_borderGainedBy 47 = .ok (.goto 5, 3) := by decide +kernel
theorem dX3_borderGainedBy_50 : decode cX3_borderGainedBy 50 = .ok (.lload 6, 2) := by decide +kernel
theorem dX3_borderGainedBy_52 : decode cX3_borderGainedBy 52 = .ok (.ladd, 1) := by decide +kernel
theorem dX3_borderGainedBy_53 : decode cX3_borderGainedBy 53 = .ok (.lstore_n 3, 1) := by decide +kernel
theorem dX3_borderGainedBy_54 : decode cX3_borderGainedBy 54 = .ok (.iinc 5 1, 3) := by decide +kernel
theorem dX3_borderGainedBy_57 : decode cX3_borderGainedBy 57 = .ok (.goto (-52), 3) := by decide +kernel
theorem dX3_borderGainedBy_60 : decode cX3_borderGainedBy 60 = .ok (.lload_n 3, 1) := by decide +kernel
theorem dX3_borderGainedBy_61 : decode cX3_borderGainedBy 61 = .ok (.lreturn, 1) := by decide +kernel
theorem dX3_price_0 : decode cX3_price 0 = .ok (.aload_n 0, 1) := by decide +kernel
theorem dX3_price_1 : decode cX3_price 1 = .ok (.getfield 29, 3) := by decide +kernel
theorem dX3_price_4 : decode cX3_price 4 = .ok (.aload_n 0, 1) := by decide +kernel
theorem dX3_price_5 : decode cX3_price 5 = .ok (.getfield 9, 3) := by decide +kernel
theorem dX3_price_8 : decode cX3_price 8 = .ok (.getfield 69, 3) := by decide +kernel
theorem dX3_price_11 : decode cX3_price 11 = .ok (.aload_n 0, 1) := by decide +kernel
theorem dX3_price_12 : decode cX3_price 12 = .ok (.getfield 33, 3) := by decide +kernel
theorem dX3_price_15 : decode cX3_price 15 = .ok (.lmul, 1) := by decide +kernel
theorem dX3_price_16 : decode cX3_price 16 = .ok (.ladd, 1) := by decide +kernel
theorem dX3_price_17 : decode cX3_price 17 = .ok (.lreturn, 1) := by decide +kernel
theorem dX3_stands_0 : decode cX3_stands 0 = .ok (.aload_n 0, 1) := by decide +kernel
theorem dX3_stands_1 : decode cX3_stands 1 = .ok (.getfield 9, 3) := by decide +kernel
theorem dX3_stands_4 : decode cX3_stands 4 = .ok (.getfield 72, 3) := by decide +kernel
theorem dX3_stands_7 : decode cX3_stands 7 = .ok (.aload_n 0, 1) := by decide +kernel
theorem dX3_stands_8 : decode cX3_stands 8 = .ok (.getfield 22, 3) := by decide +kernel
theorem dX3_stands_11 : decode cX3_stands 11 = .ok (.iconst (-1), 1) := by decide +kernel
theorem dX3_stands_12 : decode cX3_stands 12 = .ok (.ixor, 1) := by decide +kernel
theorem dX3_stands_13 : decode cX3_stands 13 = .ok (.iand, 1) := by decide +kernel
theorem dX3_stands_14 : decode cX3_stands 14 = .ok (.ifCond .ne 60, 3) := by decide +kernel
theorem dX3_stands_17 : decode cX3_stands 17 = .ok (.aload_n 0, 1) := by decide +kernel
theorem dX3_stands_18 : decode cX3_stands 18 = .ok (.getfield 9, 3) := by decide +kernel
theorem dX3_stands_21 : decode cX3_stands 21 = .ok (.getfield 75, 3) := by decide +kernel
theorem dX3_stands_24 : decode cX3_stands 24 = .ok (.aload_n 0, 1) := by decide +kernel
theorem dX3_stands_25 : decode cX3_stands 25 = .ok (.getfield 22, 3) := by decide +kernel
theorem dX3_stands_28 : decode cX3_stands 28 = .ok (.iand, 1) := by decide +kernel
theorem dX3_stands_29 : decode cX3_stands 29 = .ok (.ifCond .ne 45, 3) := by decide +kernel
theorem dX3_stands_32 : decode cX3_stands 32 = .ok (.aload_n 0, 1) := by decide +kernel
theorem dX3_stands_33 : decode cX3_stands 33 = .ok (.getfield 22, 3) := by decide +kernel
theorem dX3_stands_36 : decode cX3_stands 36 = .ok (.invokestatic 51, 3) := by decide +kernel
theorem dX3_stands_39 : decode cX3_stands 39 = .ok (.aload_n 0, 1) := by decide +kernel
theorem dX3_stands_40 : decode cX3_stands 40 = .ok (.getfield 9, 3) := by decide +kernel
theorem dX3_stands_43 : decode cX3_stands 43 = .ok (.getfield 78, 3) := by decide +kernel
theorem dX3_stands_46 : decode cX3_stands 46 = .ok (.if_icmp .lt 28, 3) := by decide +kernel
theorem dX3_stands_49 : decode cX3_stands 49 = .ok (.aload_n 0, 1) := by decide +kernel
theorem dX3_stands_50 : decode cX3_stands 50 = .ok (.getfield 26, 3) := by decide +kernel
theorem dX3_stands_53 : decode cX3_stands 53 = .ok (.ifCond .ne 21, 3) := by decide +kernel
theorem dX3_stands_56 : decode cX3_stands 56 = .ok (.aload_n 0, 1) := by decide +kernel
theorem dX3_stands_57 : decode cX3_stands 57 = .ok (.invokevirtual 81, 3) := by decide +kernel
theorem dX3_stands_60 : decode cX3_stands 60 = .ok (.ifCond .eq 14, 3) := by decide +kernel
theorem dX3_stands_63 : decode cX3_stands 63 = .ok (.aload_n 0, 1) := by decide +kernel
theorem dX3_stands_64 : decode cX3_stands 64 = .ok (.invokevirtual 85, 3) := by decide +kernel
theorem dX3_stands_67 : decode cX3_stands 67 = .ok (.ifCond .eq 7, 3) := by decide +kernel
theorem dX3_stands_70 : decode cX3_stands 70 = .ok (.iconst 1, 1) := by decide +kernel
theorem dX3_stands_71 : decode cX3_stands 71 = .ok (.goto 4, 3) := by decide +kernel
theorem dX3_stands_74 : decode cX3_stands 74 = .ok (.iconst 0, 1) := by decide +kernel
theorem dX3_stands_75 : decode cX3_stands 75 = .ok (.ireturn, 1) := by decide +kernel
theorem dX3_meetsGoals_0 : decode cX3_meetsGoals 0 = .ok (.iconst 0, 1) := by decide +kernel
theorem dX3_meetsGoals_1 : decode cX3_meetsGoals 1 = .ok (.istore_n 1, 1) := by decide +kernel
theorem dX3_meetsGoals_2 : decode cX3_meetsGoals 2 = .ok (.iload_n 1, 1) := by decide +kernel
theorem dX3_meetsGoals_3 : decode cX3_meetsGoals 3 = .ok (.bipush 8, 2) := by decide +kernel
theorem dX3_meetsGoals_5 : decode cX3_meetsGoals 5 = .ok (.if_icmp .ge 19, 3) := by decide +kernel
theorem dX3_meetsGoals_8 : decode cX3_meetsGoals 8 = .ok (.aload_n 0, 1) := by decide +kernel
theorem dX3_meetsGoals_9 : decode cX3_meetsGoals 9 = .ok (.iload_n 1, 1) := by decide +kernel
theorem dX3_meetsGoals_10 : decode cX3_meetsGoals 10 = .ok (.invokevirtual 88, 3) := by decide +kernel
theorem dX3_meetsGoals_13 : decode cX3_meetsGoals 13 = .ok (.ifCond .ne 5, 3) := by decide +kernel
theorem dX3_meetsGoals_16 : decode cX3_meetsGoals 16 = .ok (.iconst 0, 1) := by decide +kernel
theorem dX3_meetsGoals_17 : decode cX3_meetsGoals 17 = .ok (.ireturn, 1) := by decide +kernel
theorem dX3_meetsGoals_18 : decode cX3_meetsGoals 18 = .ok (.iinc 1 1, 3) := by decide +kernel
theorem dX3_meetsGoals_21 : decode cX3_meetsGoals 21 = .ok (.goto (-19), 3) := by decide +kernel
theorem dX3_meetsGoals_24 : decode cX3_meetsGoals 24 = .ok (.iconst 1, 1) := by decide +kernel
theorem dX3_meetsGoals_25 : decode cX3_meetsGoals 25 = .ok (.ireturn, 1) := by decide +kernel
theorem dX3_meetsGoal_0 : decode cX3_meetsGoal 0 = .ok (.aload_n 0, 1) := by decide +kernel
theorem dX3_meetsGoal_1 : decode cX3_meetsGoal 1 = .ok (.getfield 15, 3) := by decide +kernel
theorem dX3_meetsGoal_4 : decode cX3_meetsGoal 4 = .ok (.iload_n 1, 1) := by decide +kernel
theorem dX3_meetsGoal_5 : decode cX3_meetsGoal 5 = .ok (.laload, 1) := by decide +kernel
theorem dX3_meetsGoal_6 : decode cX3_meetsGoal 6 = .ok (.aload_n 0, 1) := by decide +kernel
theorem dX3_meetsGoal_7 : decode cX3_meetsGoal 7 = .ok (.getfield 9, 3) := by decide +kernel
theorem dX3_meetsGoal_10 : decode cX3_meetsGoal 10 = .ok (.getfield 92, 3) := by decide +kernel
theorem dX3_meetsGoal_13 : decode cX3_meetsGoal 13 = .ok (.iload_n 1, 1) := by decide +kernel
theorem dX3_meetsGoal_14 : decode cX3_meetsGoal 14 = .ok (.laload, 1) := by decide +kernel
theorem dX3_meetsGoal_15 : decode cX3_meetsGoal 15 = .ok (.lmul, 1) := by decide +kernel
theorem dX3_meetsGoal_16 : decode cX3_meetsGoal 16 = .ok (.aload_n 0, 1) := by decide +kernel
theorem dX3_meetsGoal_17 : decode cX3_meetsGoal 17 = .ok (.getfield 9, 3) := by decide +kernel
theorem dX3_meetsGoal_20 : decode cX3_meetsGoal 20 = .ok (.getfield 95, 3) := by decide +kernel
theorem dX3_meetsGoal_23 : decode cX3_meetsGoal 23 = .ok (.iload_n 1, 1) := by decide +kernel
theorem dX3_meetsGoal_24 : decode cX3_meetsGoal 24 = .ok (.laload, 1) := by decide +kernel
theorem dX3_meetsGoal_25 : decode cX3_meetsGoal 25 = .ok (.aload_n 0, 1) := by decide +kernel
theorem dX3_meetsGoal_26 : decode cX3_meetsGoal 26 = .ok (.getfield 9, 3) := by decide +kernel
theorem dX3_meetsGoal_29 : decode cX3_meetsGoal 29 = .ok (.getfield 98, 3) := by decide +kernel
theorem dX3_meetsGoal_32 : decode cX3_meetsGoal 32 = .ok (.iload_n 1, 1) := by decide +kernel
theorem dX3_meetsGoal_33 : decode cX3_meetsGoal 33 = .ok (.laload, 1) := by decide +kernel
theorem dX3_meetsGoal_34 : decode cX3_meetsGoal 34 = .ok (.lmul, 1) := by decide +kernel
theorem dX3_meetsGoal_35 : decode cX3_meetsGoal 35 = .ok (.lcmp, 1) := by decide +kernel
theorem dX3_meetsGoal_36 : decode cX3_meetsGoal 36 = .ok (.ifCond .lt 7, 3) := by decide +kernel
theorem dX3_meetsGoal_39 : decode cX3_meetsGoal 39 = .ok (.iconst 1, 1) := by decide +kernel
theorem dX3_meetsGoal_40 : decode cX3_meetsGoal 40 = .ok (.goto 4, 3) := by decide +kernel
theorem dX3_meetsGoal_43 : decode cX3_meetsGoal 43 = .ok (.iconst 0, 1) := by decide +kernel
theorem dX3_meetsGoal_44 : decode cX3_meetsGoal 44 = .ok (.ireturn, 1) := by decide +kernel
theorem dX3_isFair_0 : decode cX3_isFair 0 = .ok (.iconst 0, 1) := by decide +kernel
theorem dX3_isFair_1 : decode cX3_isFair 1 = .ok (.istore_n 1, 1) := by decide +kernel
theorem dX3_isFair_2 : decode cX3_isFair 2 = .ok (.iload_n 1, 1) := by decide +kernel
theorem dX3_isFair_3 : decode cX3_isFair 3 = .ok (.iconst 4, 1) := by decide +kernel
theorem dX3_isFair_4 : decode cX3_isFair 4 = .ok (.if_icmp .ge 46, 3) := by decide +kernel
theorem dX3_isFair_7 : decode cX3_isFair 7 = .ok (.aload_n 0, 1) := by decide +kernel
theorem dX3_isFair_8 : decode cX3_isFair 8 = .ok (.getfield 19, 3) := by decide +kernel
theorem dX3_isFair_11 : decode cX3_isFair 11 = .ok (.iload_n 1, 1) := by decide +kernel
theorem dX3_isFair_12 : decode cX3_isFair 12 = .ok (.laload, 1) := by decide +kernel
theorem dX3_isFair_13 : decode cX3_isFair 13 = .ok (.aload_n 0, 1) := by decide +kernel
theorem dX3_isFair_14 : decode cX3_isFair 14 = .ok (.getfield 9, 3) := by decide +kernel
theorem dX3_isFair_17 : decode cX3_isFair 17 = .ok (.getfield 101, 3) := by decide +kernel
theorem dX3_isFair_20 : decode cX3_isFair 20 = .ok (.lmul, 1) := by decide +kernel
theorem dX3_isFair_21 : decode cX3_isFair 21 = .ok (.aload_n 0, 1) := by decide +kernel
theorem dX3_isFair_22 : decode cX3_isFair 22 = .ok (.getfield 9, 3) := by decide +kernel
theorem dX3_isFair_25 : decode cX3_isFair 25 = .ok (.getfield 104, 3) := by decide +kernel
theorem dX3_isFair_28 : decode cX3_isFair 28 = .ok (.iload_n 1, 1) := by decide +kernel
theorem dX3_isFair_29 : decode cX3_isFair 29 = .ok (.laload, 1) := by decide +kernel
theorem dX3_isFair_30 : decode cX3_isFair 30 = .ok (.aload_n 0, 1) := by decide +kernel
theorem dX3_isFair_31 : decode cX3_isFair 31 = .ok (.getfield 9, 3) := by decide +kernel
theorem dX3_isFair_34 : decode cX3_isFair 34 = .ok (.getfield 107, 3) := by decide +kernel
theorem dX3_isFair_37 : decode cX3_isFair 37 = .ok (.lmul, 1) := by decide +kernel
theorem dX3_isFair_38 : decode cX3_isFair 38 = .ok (.lcmp, 1) := by decide +kernel
theorem dX3_isFair_39 : decode cX3_isFair 39 = .ok (.ifCond .le 5, 3) := by decide +kernel
theorem dX3_isFair_42 : decode cX3_isFair 42 = .ok (.iconst 0, 1) := by decide +kernel
theorem dX3_isFair_43 : decode cX3_isFair 43 = .ok (.ireturn, 1) := by decide +kernel
theorem dX3_isFair_44 : decode cX3_isFair 44 = .ok (.iinc 1 1, 3) := by decide +kernel
theorem dX3_isFair_47 : decode cX3_isFair 47 = .ok (.goto (-45), 3) := by decide +kernel
theorem dX3_isFair_50 : decode cX3_isFair 50 = .ok (.iconst 1, 1) := by decide +kernel
theorem dX3_isFair_51 : decode cX3_isFair 51 = .ok (.ireturn, 1) := by decide +kernel
theorem dX4_init_0 : decode cX4_init 0 = .ok (.aload_n 0, 1) := by decide +kernel
theorem dX4_init_1 : decode cX4_init 1 = .ok (.invokespecial 1, 3) := by decide +kernel
theorem dX4_init_4 : decode cX4_init 4 = .ok (.aload_n 0, 1) := by decide +kernel
theorem dX4_init_5 : decode cX4_init 5 = .ok (.new 7, 3) := by decide +kernel
theorem dX4_init_8 : decode cX4_init 8 = .ok (.dup, 1) := by decide +kernel
theorem dX4_init_9 : decode cX4_init 9 = .ok (.invokespecial 9, 3) := by decide +kernel
theorem dX4_init_12 : decode cX4_init 12 = .ok (.putfield 10, 3) := by decide +kernel
theorem dX4_init_15 : decode cX4_init 15 = .ok (.aload_n 0, 1) := by decide +kernel
theorem dX4_init_16 : decode cX4_init 16 = .ok (.new 16, 3) := by decide +kernel
theorem dX4_init_19 : decode cX4_init 19 = .ok (.dup, 1) := by decide +kernel
theorem dX4_init_20 : decode cX4_init 20 = .ok (.aload_n 0, 1) := by decide +kernel
theorem dX4_init_21 : decode cX4_init 21 = .ok (.getfield 10, 3) := by decide +kernel
theorem dX4_init_24 : decode cX4_init 24 = .ok (.invokespecial 18, 3) := by decide +kernel
theorem dX4_init_27 : decode cX4_init 27 = .ok (.putfield 21, 3) := by decide +kernel
theorem dX4_init_30 : decode cX4_init 30 = .ok (.aload_n 0, 1) := by decide +kernel
theorem dX4_init_31 : decode cX4_init 31 = .ok (.new 25, 3) := by decide +kernel
theorem dX4_init_34 : decode cX4_init 34 = .ok (.dup, 1) := by decide +kernel
theorem dX4_init_35 : decode cX4_init 35 = .ok (.invokespecial 27, 3) := by decide +kernel
theorem dX4_init_38 : decode cX4_init 38 = .ok (.putfield 28, 3) := by decide +kernel
theorem dX4_init_41 : decode cX4_init 41 = .ok (.aload_n 0, 1) := by decide +kernel
theorem dX4_init_42 : decode cX4_init 42 = .ok (.getfield 28, 3) := by decide +kernel
theorem dX4_init_45 : decode cX4_init 45 = .ok (.lload_n 1, 1) := by decide +kernel
theorem dX4_init_46 : decode cX4_init 46 = .ok (.invokevirtual 32, 3) := by decide +kernel
theorem dX4_init_49 : decode cX4_init 49 = .ok (.aload_n 0, 1) := by decide +kernel
theorem dX4_init_50 : decode cX4_init 50 = .ok (.new 25, 3) := by decide +kernel
theorem dX4_init_53 : decode cX4_init 53 = .ok (.dup, 1) := by decide +kernel
theorem dX4_init_54 : decode cX4_init 54 = .ok (.invokespecial 27, 3) := by decide +kernel
theorem dX4_init_57 : decode cX4_init 57 = .ok (.putfield 36, 3) := by decide +kernel
theorem dX4_init_60 : decode cX4_init 60 = .ok (.aload_n 0, 1) := by decide +kernel
theorem dX4_init_61 : decode cX4_init 61 = .ok (.new 39, 3) := by decide +kernel
theorem dX4_init_64 : decode cX4_init 64 = .ok (.dup, 1) := by decide +kernel
theorem dX4_init_65 : decode cX4_init 65 = .ok (.invokespecial 41, 3) := by decide +kernel
theorem dX4_init_68 : decode cX4_init 68 = .ok (.putfield 42, 3) := by decide +kernel
theorem dX4_init_71 : decode cX4_init 71 = .ok (.aload_n 0, 1) := by decide +kernel
theorem dX4_init_72 : decode cX4_init 72 = .ok (.bipush 24, 2) := by decide +kernel
theorem dX4_init_74 : decode cX4_init 74 = .ok (.newarray .int, 2) := by decide +kernel
theorem dX4_init_76 : decode cX4_init 76 = .ok (.putfield 46, 3) := by decide +kernel
theorem dX4_init_79 : decode cX4_init 79 = .ok (.aload_n 0, 1) := by decide +kernel
theorem dX4_init_80 : decode cX4_init 80 = .ok (.iconst (-1), 1) := by decide +kernel
theorem dX4_init_81 : decode cX4_init 81 = .ok (.putfield 50, 3) := by decide +kernel
theorem dX4_init_84 : decode cX4_init 84 = .ok (.aload_n 0, 1) := by decide +kernel
theorem dX4_init_85 : decode cX4_init 85 = .ok (.ldc2_w 54, 3) := by decide +kernel
theorem dX4_init_88 : decode cX4_init 88 = .ok (.putfield 56, 3) := by decide +kernel
theorem dX4_init_91 : decode cX4_init 91 = .ok (.return_, 1) := by decide +kernel
theorem dX4_cell_0 : decode cX4_cell 0 = .ok (.aload_n 0, 1) := by decide +kernel
theorem dX4_cell_1 : decode cX4_cell 1 = .ok (.getfield 10, 3) := by decide +kernel
theorem dX4_cell_4 : decode cX4_cell 4 = .ok (.getfield 60, 3) := by decide +kernel
theorem dX4_cell_7 : decode cX4_cell 7 = .ok (.bipush 24, 2) := by decide +kernel
theorem dX4_cell_9 : decode cX4_cell 9 = .ok (.if_icmp .ge 13, 3) := by decide +kernel
theorem dX4_cell_12 : decode cX4_cell 12 = .ok (.lload_n 1, 1) := by decide +kernel
theorem dX4_cell_13 : decode cX4_cell 13 = .ok (.ldc2_w 63, 3) := by decide +kernel
theorem dX4_cell_16 : decode cX4_cell 16 = .ok (.invokestatic 65, 3) := by decide +kernel
theorem dX4_cell_19 : decode cX4_cell 19 = .ok (.ifCond .ne 5, 3) := by decide +kernel
theorem dX4_cell_22 : decode cX4_cell 22 = .ok (.iconst (-1), 1) := by decide +kernel
theorem dX4_cell_23 : decode cX4_cell 23 = .ok (.ireturn, 1) := by decide +kernel
theorem dX4_cell_24 : decode cX4_cell 24 = .ok (.aload_n 0, 1) := by decide +kernel
theorem dX4_cell_25 : decode cX4_cell 25 = .ok (.getfield 10, 3) := by decide +kernel
theorem dX4_cell_28 : decode cX4_cell 28 = .ok (.getfield 69, 3) := by decide +kernel
theorem dX4_cell_31 : decode cX4_cell 31 = .ok (.aload_n 0, 1) := by decide +kernel
theorem dX4_cell_32 : decode cX4_cell 32 = .ok (.getfield 10, 3) := by decide +kernel
theorem dX4_cell_35 : decode cX4_cell 35 = .ok (.getfield 60, 3) := by decide +kernel
theorem dX4_cell_38 : decode cX4_cell 38 = .ok (.lload_n 1, 1) := by decide +kernel
theorem dX4_cell_39 : decode cX4_cell 39 = .ok (.lastore, 1) := by decide +kernel
theorem dX4_cell_40 : decode cX4_cell 40 = .ok (.aload_n 0, 1) := by decide +kernel
theorem dX4_cell_41 : decode cX4_cell 41 = .ok (.getfield 10, 3) := by decide +kernel
theorem dX4_cell_44 : decode cX4_cell 44 = .ok (.dup, 1) := by decide +kernel
theorem dX4_cell_45 : decode cX4_cell 45 = .ok (.getfield 60, 3) := by decide +kernel
theorem dX4_cell_48 : decode cX4_cell 48 = .ok (.iconst 1, 1) := by decide +kernel
theorem dX4_cell_49 : decode cX4_cell 49 = .ok (.iadd, 1) := by decide +kernel
theorem dX4_cell_50 : decode cX4_cell 50 = .ok (.putfield 60, 3) := by decide +kernel
theorem dX4_cell_53 : decode cX4_cell 53 = .ok (.aload_n 0, 1) := by decide +kernel
theorem dX4_cell_54 : decode cX4_cell 54 = .ok (.getfield 10, 3) := by decide +kernel
theorem dX4_cell_57 : decode cX4_cell 57 = .ok (.getfield 60, 3) := by decide +kernel
theorem dX4_cell_60 : decode cX4_cell 60 = .ok (.iconst 1, 1) := by decide +kernel
theorem dX4_cell_61 : decode cX4_cell 61 = .ok (.isub, 1) := by decide +kernel
theorem dX4_cell_62 : decode cX4_cell 62 = .ok (.ireturn, 1) := by decide +kernel
theorem dX4_holds_0 : decode cX4_holds 0 = .ok (.aload_n 0, 1) := by decide +kernel
theorem dX4_holds_1 : decode cX4_holds 1 = .ok (.getfield 10, 3) := by decide +kernel
theorem dX4_holds_4 : decode cX4_holds 4 = .ok (.iload_n 1, 1) := by decide +kernel
theorem dX4_holds_5 : decode cX4_holds 5 = .ok (.invokevirtual 73, 3) := by decide +kernel
theorem dX4_holds_8 : decode cX4_holds 8 = .ok (.ifCond .eq 10, 3) := by decide +kernel
theorem dX4_holds_11 : decode cX4_holds 11 = .ok (.iload_n 2, 1) := by decide +kernel
theorem dX4_holds_12 : decode cX4_holds 12 = .ok (.invokestatic 77, 3) := by decide +kernel
theorem dX4_holds_15 : decode cX4_holds 15 = .ok (.ifCond .ne 5, 3) := by decide +kernel
theorem dX4_holds_18 : decode cX4_holds 18 = .ok (.iconst 0, 1) := by decide +kernel
theorem dX4_holds_19 : decode cX4_holds 19 = .ok (.ireturn, 1) := by decide +kernel
theorem dX4_holds_20 : decode cX4_holds 20 = .ok (.lload_n 3, 1) := by decide +kernel
theorem dX4_holds_21 : decode cX4_holds 21 = .ok (.ldc2_w 80, 3) := by decide +kernel
theorem dX4_holds_24 : decode cX4_holds 24 = .ok (.invokestatic 65, 3) := by decide +kernel
theorem dX4_holds_27 : decode cX4_holds 27 = .ok (.ifCond .eq 19, 3) := by decide +kernel
theorem dX4_holds_30 : decode cX4_holds 30 = .ok (.lload 5, 2) := by decide +kernel
theorem dX4_holds_32 : decode cX4_holds 32 = .ok (.lconst 1, 1) := by decide +kernel
theorem dX4_holds_33 : decode cX4_holds 33 = .ok (.lcmp, 1) := by decide +kernel
theorem dX4_holds_34 : decode cX4_holds 34 = .ok (.ifCond .lt 12, 3) := by decide +kernel
theorem dX4_holds_37 : decode cX4_holds 37 = .ok (.lload 5, 2) := by decide +kernel
theorem dX4_holds_39 : decode cX4_holds 39 = .ok (.ldc2_w 82, 3) := by decide +kernel
theorem dX4_holds_42 : decode cX4_holds 42 = .ok (.lcmp, 1) := by decide +kernel
theorem dX4_holds_43 : decode cX4_holds 43 = .ok (.ifCond .le 5, 3) := by decide +kernel
theorem dX4_holds_46 : decode cX4_holds 46 = .ok (.iconst 0, 1) := by decide +kernel
theorem dX4_holds_47 : decode cX4_holds 47 = .ok (.ireturn, 1) := by decide +kernel
theorem dX4_holds_48 : decode cX4_holds 48 = .ok (.aload_n 0, 1) := by decide +kernel
theorem dX4_holds_49 : decode cX4_holds 49 = .ok (.getfield 10, 3) := by decide +kernel
theorem dX4_holds_52 : decode cX4_holds 52 = .ok (.iload_n 1, 1) := by decide +kernel
theorem dX4_holds_53 : decode cX4_holds 53 = .ok (.iload_n 2, 1) := by decide +kernel
theorem dX4_holds_54 : decode cX4_holds 54 = .ok (.ldc2_w 84, 3) := by decide +kernel
theorem dX4_holds_57 : decode cX4_holds 57 = .ok (.lload 5, 2) := by decide +kernel
theorem dX4_holds_59 : decode cX4_holds 59 = .ok (.ldiv, 1) := by decide +kernel
theorem dX4_holds_60 : decode cX4_holds 60 = .ok (.lload_n 3, 1) := by decide +kernel
theorem dX4_holds_61 : decode cX4_holds 61 = .ok (.lmul, 1) := by decide +kernel
theorem dX4_holds_62 : decode cX4_holds 62 = .ok (.invokevirtual 86, 3) := by decide +kernel
theorem dX4_holds_65 : decode cX4_holds 65 = .ok (.iconst 1, 1) := by decide +kernel
theorem dX4_holds_66 : decode cX4_holds 66 = .ok (.ireturn, 1) := by decide +kernel
theorem dX4_goal_0 : decode cX4_goal 0 = .ok (.iload_n 1, 1) := by decide +kernel
theorem dX4_goal_1 : decode cX4_goal 1 = .ok (.invokestatic 77, 3) := by decide +kernel
theorem dX4_goal_4 : decode cX4_goal 4 = .ok (.ifCond .eq 12, 3) := by decide +kernel
theorem dX4_goal_7 : decode cX4_goal 7 = .ok (.lload_n 2, 1) := by decide +kernel
theorem dX4_goal_8 : decode cX4_goal 8 = .ok (.lload 4, 2) := by decide +kernel
theorem dX4_goal_10 : decode cX4_goal 10 = .ok (.invokestatic 90, 3) := by decide +kernel
theorem dX4_goal_13 : decode cX4_goal 13 = .ok (.ifCond .ne 5, 3) := by decide +kernel
theorem dX4_goal_16 : decode cX4_goal 16 = .ok (.iconst 0, 1) := by decide +kernel
theorem dX4_goal_17 : decode cX4_goal 17 = .ok (.ireturn, 1) := by decide +kernel
theorem dX4_goal_18 : decode cX4_goal 18 = .ok (.aload_n 0, 1) := by decide +kernel
theorem dX4_goal_19 : decode cX4_goal 19 = .ok (.getfield 10, 3) := by decide +kernel
theorem dX4_goal_22 : decode cX4_goal 22 = .ok (.getfield 93, 3) := by decide +kernel
theorem dX4_goal_25 : decode cX4_goal 25 = .ok (.iload_n 1, 1) := by decide +kernel
theorem dX4_goal_26 : decode cX4_goal 26 = .ok (.lload_n 2, 1) := by decide +kernel
theorem dX4_goal_27 : decode cX4_goal 27 = .ok (.lastore, 1) := by decide +kernel
theorem dX4_goal_28 : decode cX4_goal 28 = .ok (.aload_n 0, 1) := by decide +kernel
theorem dX4_goal_29 : decode cX4_goal 29 = .ok (.getfield 10, 3) := by decide +kernel
theorem dX4_goal_32 : decode cX4_goal 32 = .ok (.getfield 96, 3) := by decide +kernel
theorem dX4_goal_35 : decode cX4_goal 35 = .ok (.iload_n 1, 1) := by decide +kernel
theorem dX4_goal_36 : decode cX4_goal 36 = .ok (.lload 4, 2) := by decide +kernel
theorem dX4_goal_38 : decode cX4_goal 38 = .ok (.lastore, 1) := by decide +kernel
theorem dX4_goal_39 : decode cX4_goal 39 = .ok (.iconst 1, 1) := by decide +kernel
theorem dX4_goal_40 : decode cX4_goal 40 = .ok (.ireturn, 1) := by decide +kernel
theorem dX4_near_0 : decode cX4_near 0 = .ok (.aload_n 0, 1) := by decide +kernel
theorem dX4_near_1 : decode cX4_near 1 = .ok (.getfield 10, 3) := by decide +kernel
theorem dX4_near_4 : decode cX4_near 4 = .ok (.iload_n 1, 1) := by decide +kernel
theorem dX4_near_5 : decode cX4_near 5 = .ok (.iload_n 2, 1) := by decide +kernel
theorem dX4_near_6 : decode cX4_near 6 = .ok (.invokevirtual 99, 3) := by decide +kernel
theorem dX4_near_9 : decode cX4_near 9 = .ok (.ifCond .eq 13, 3) := by decide +kernel
theorem dX4_near_12 : decode cX4_near 12 = .ok (.lload_n 3, 1) := by decide +kernel
theorem dX4_near_13 : decode cX4_near 13 = .ok (.ldc2_w 80, 3) := by decide +kernel
theorem dX4_near_16 : decode cX4_near 16 = .ok (.invokestatic 65, 3) := by decide +kernel
theorem dX4_near_19 : decode cX4_near 19 = .ok (.ifCond .ne 5, 3) := by decide +kernel
theorem dX4_near_22 : decode cX4_near 22 = .ok (.iconst 0, 1) := by decide +kernel
theorem dX4_near_23 : decode cX4_near 23 = .ok (.ireturn, 1) := by decide +kernel
theorem dX4_near_24 : decode cX4_near 24 = .ok (.aload_n 0, 1) := by decide +kernel
theorem dX4_near_25 : decode cX4_near 25 = .ok (.getfield 10, 3) := by decide +kernel
theorem dX4_near_28 : decode cX4_near 28 = .ok (.getfield 103, 3) := by decide +kernel
theorem dX4_near_31 : decode cX4_near 31 = .ok (.iload_n 1, 1) := by decide +kernel
theorem dX4_near_32 : decode cX4_near 32 = .ok (.bipush 24, 2) := by decide +kernel
theorem dX4_near_34 : decode cX4_near 34 = .ok (.imul, 1) := by decide +kernel
theorem dX4_near_35 : decode cX4_near 35 = .ok (.iload_n 2, 1) := by decide +kernel
theorem dX4_near_36 : decode cX4_near 36 = .ok (.iadd, 1) := by decide +kernel
theorem dX4_near_37 : decode cX4_near 37 = .ok (.lload_n 3, 1) := by decide +kernel
theorem dX4_near_38 : decode cX4_near 38 = .ok (.lastore, 1) := by decide +kernel
theorem dX4_near_39 : decode cX4_near 39 = .ok (.aload_n 0, 1) := by decide +kernel
theorem dX4_near_40 : decode cX4_near 40 = .ok (.getfield 10, 3) := by decide +kernel
theorem dX4_near_43 : decode cX4_near 43 = .ok (.getfield 103, 3) := by decide +kernel
theorem dX4_near_46 : decode cX4_near 46 = .ok (.iload_n 2, 1) := by decide +kernel
theorem dX4_near_47 : decode cX4_near 47 = .ok (.bipush 24, 2) := by decide +kernel
theorem dX4_near_49 : decode cX4_near 49 = .ok (.imul, 1) := by decide +kernel
theorem dX4_near_50 : decode cX4_near 50 = .ok (.iload_n 1, 1) := by decide +kernel
theorem dX4_near_51 : decode cX4_near 51 = .ok (.iadd, 1) := by decide +kernel
theorem dX4_near_52 : decode cX4_near 52 = .ok (.lload_n 3, 1) := by decide +kernel
theorem dX4_near_53 : decode cX4_near 53 = .ok (.lastore, 1) := by decide +kernel
theorem dX4_near_54 : decode cX4_near 54 = .ok (.iconst 1, 1) := by decide +kernel
theorem dX4_near_55 : decode cX4_near 55 = .ok (.ireturn, 1) := by decide +kernel
theorem dX4_weight_0 : decode cX4_weight 0 = .ok (.lload_n 1, 1) := by decide +kernel
theorem dX4_weight_1 : decode cX4_weight 1 = .ok (.ldc2_w 80, 3) := by decide +kernel
theorem dX4_weight_4 : decode cX4_weight 4 = .ok (.invokestatic 65, 3) := by decide +kernel
theorem dX4_weight_7 : decode cX4_weight 7 = .ok (.ifCond .ne 5, 3) := by decide +kernel
theorem dX4_weight_10 : decode cX4_weight 10 = .ok (.iconst 0, 1) := by decide +kernel
theorem dX4_weight_11 : decode cX4_weight 11 = .ok (.ireturn, 1) := by decide +kernel
theorem dX4_weight_12 : decode cX4_weight 12 = .ok (.aload_n 0, 1) := by decide +kernel
theorem dX4_weight_13 : decode cX4_weight 13 = .ok (.getfield 10, 3) := by decide +kernel
theorem dX4_weight_16 : decode cX4_weight 16 = .ok (.lload_n 1, 1) := by decide +kernel
theorem dX4_weight_17 : decode cX4_weight 17 = .ok (.putfield 106, 3) := by decide +kernel
theorem dX4_weight_20 : decode cX4_weight 20 = .ok (.iconst 1, 1) := by decide +kernel
theorem dX4_weight_21 : decode cX4_weight 21 = .ok (.ireturn, 1) := by decide +kernel
theorem dX4_must_0 : decode cX4_must 0 = .ok (.aload_n 0, 1) := by decide +kernel
theorem dX4_must_1 : decode cX4_must 1 = .ok (.getfield 10, 3) := by decide +kernel
theorem dX4_must_4 : decode cX4_must 4 = .ok (.iload_n 1, 1) := by decide +kernel
theorem dX4_must_5 : decode cX4_must 5 = .ok (.invokevirtual 73, 3) := by decide +kernel
theorem dX4_must_8 : decode cX4_must 8 = .ok (.ifCond .ne 5, 3) := by decide +kernel
theorem dX4_must_11 : decode cX4_must 11 = .ok (.iconst 0, 1) := by decide +kernel
theorem dX4_must_12 : decode cX4_must 12 = .ok (.ireturn, 1) := by decide +kernel
theorem dX4_must_13 : decode cX4_must 13 = .ok (.aload_n 0, 1) := by decide +kernel
theorem dX4_must_14 : decode cX4_must 14 = .ok (.getfield 10, 3) := by decide +kernel
theorem dX4_must_17 : decode cX4_must 17 = .ok (.dup, 1) := by decide +kernel
theorem dX4_must_18 : decode cX4_must 18 = .ok (.getfield 109, 3) := by decide +kernel
theorem dX4_must_21 : decode cX4_must 21 = .ok (.iconst 1, 1) := by decide +kernel
theorem dX4_must_22 : decode cX4_must 22 = .ok (.iload_n 1, 1) := by decide +kernel
theorem dX4_must_23 : decode cX4_must 23 = .ok (.ishl, 1) := by decide +kernel
theorem dX4_must_24 : decode cX4_must 24 = .ok (.ior, 1) := by decide +kernel
theorem dX4_must_25 : decode cX4_must 25 = .ok (.putfield 109, 3) := by decide +kernel
theorem dX4_must_28 : decode cX4_must 28 = .ok (.aload_n 0, 1) := by decide +kernel
theorem dX4_must_29 : decode cX4_must 29 = .ok (.getfield 10, 3) := by decide +kernel
theorem dX4_must_32 : decode cX4_must 32 = .ok (.dup, 1) := by decide +kernel
theorem dX4_must_33 : decode cX4_must 33 = .ok (.getfield 112, 3) := by decide +kernel
theorem dX4_must_36 : decode cX4_must 36 = .ok (.iconst 1, 1) := by decide +kernel
theorem dX4_must_37 : decode cX4_must 37 = .ok (.iload_n 1, 1) := by decide +kernel
theorem dX4_must_38 : decode cX4_must 38 = .ok (.ishl, 1) := by decide +kernel
theorem dX4_must_39 : decode cX4_must 39 = .ok (.iconst (-1), 1) := by decide +kernel
theorem dX4_must_40 : decode cX4_must 40 = .ok (.ixor, 1) := by decide +kernel
theorem dX4_must_41 : decode cX4_must 41 = .ok (.iand, 1) := by decide +kernel
theorem dX4_must_42 : decode cX4_must 42 = .ok (.putfield 112, 3) := by decide +kernel
theorem dX4_must_45 : decode cX4_must 45 = .ok (.iconst 1, 1) := by decide +kernel
theorem dX4_must_46 : decode cX4_must 46 = .ok (.ireturn, 1) := by decide +kernel
theorem dX4_bar_0 : decode cX4_bar 0 = .ok (.aload_n 0, 1) := by decide +kernel
theorem dX4_bar_1 : decode cX4_bar 1 = .ok (.getfield 10, 3) := by decide +kernel
theorem dX4_bar_4 : decode cX4_bar 4 = .ok (.iload_n 1, 1) := by decide +kernel
theorem dX4_bar_5 : decode cX4_bar 5 = .ok (.invokevirtual 73, 3) := by decide +kernel
theorem dX4_bar_8 : decode cX4_bar 8 = .ok (.ifCond .ne 5, 3) := by decide +kernel
theorem dX4_bar_11 : decode cX4_bar 11 = .ok (.iconst 0, 1) := by decide +kernel
theorem dX4_bar_12 : decode cX4_bar 12 = .ok (.ireturn, 1) := by decide +kernel
theorem dX4_bar_13 : decode cX4_bar 13 = .ok (.aload_n 0, 1) := by decide +kernel
theorem dX4_bar_14 : decode cX4_bar 14 = .ok (.getfield 10, 3) := by decide +kernel
theorem dX4_bar_17 : decode cX4_bar 17 = .ok (.dup, 1) := by decide +kernel
theorem dX4_bar_18 : decode cX4_bar 18 = .ok (.getfield 112, 3) := by decide +kernel
theorem dX4_bar_21 : decode cX4_bar 21 = .ok (.iconst 1, 1) := by decide +kernel
theorem dX4_bar_22 : decode cX4_bar 22 = .ok (.iload_n 1, 1) := by decide +kernel
theorem dX4_bar_23 : decode cX4_bar 23 = .ok (.ishl, 1) := by decide +kernel
theorem dX4_bar_24 : decode cX4_bar 24 = .ok (.ior, 1) := by decide +kernel
theorem dX4_bar_25 : decode cX4_bar 25 = .ok (.putfield 112, 3) := by decide +kernel
theorem dX4_bar_28 : decode cX4_bar 28 = .ok (.aload_n 0, 1) := by decide +kernel
theorem dX4_bar_29 : decode cX4_bar 29 = .ok (.getfield 10, 3) := by decide +kernel
theorem dX4_bar_32 : decode cX4_bar 32 = .ok (.dup, 1) := by decide +kernel
theorem dX4_bar_33 : decode cX4_bar 33 = .ok (.getfield 109, 3) := by decide +kernel
theorem dX4_bar_36 : decode cX4_bar 36 = .ok (.iconst 1, 1) := by decide +kernel
theorem dX4_bar_37 : decode cX4_bar 37 = .ok (.iload_n 1, 1) := by decide +kernel
theorem dX4_bar_38 : decode cX4_bar 38 = .ok (.ishl, 1) := by decide +kernel
theorem dX4_bar_39 : decode cX4_bar 39 = .ok (.iconst (-1), 1) := by decide +kernel
theorem dX4_bar_40 : decode cX4_bar 40 = .ok (.ixor, 1) := by decide +kernel
theorem dX4_bar_41 : decode cX4_bar 41 = .ok (.iand, 1) := by decide +kernel
theorem dX4_bar_42 : decode cX4_bar 42 = .ok (.putfield 109, 3) := by decide +kernel
theorem dX4_bar_45 : decode cX4_bar 45 = .ok (.iconst 1, 1) := by decide +kernel
theorem dX4_bar_46 : decode cX4_bar 46 = .ok (.ireturn, 1) := by decide +kernel
theorem dX4_zone_0 : decode cX4_zone 0 = .ok (.iload_n 1, 1) := by decide +kernel
theorem dX4_zone_1 : decode cX4_zone 1 = .ok (.ifCond .lt 25, 3) := by decide +kernel
theorem dX4_zone_4 : decode cX4_zone 4 = .ok (.iload_n 1, 1) := by decide +kernel
theorem dX4_zone_5 : decode cX4_zone 5 = .ok (.iconst 4, 1) := by decide +kernel
theorem dX4_zone_6 : decode cX4_zone 6 = .ok (.if_icmp .ge 20, 3) := by decide +kernel
theorem dX4_zone_9 : decode cX4_zone 9 = .ok (.iload_n 2, 1) := by decide +kernel
theorem dX4_zone_10 : decode cX4_zone 10 = .ok (.invokestatic 77, 3) := by decide +kernel
theorem dX4_zone_13 : decode cX4_zone 13 = .ok (.ifCond .eq 13, 3) := by decide +kernel
theorem dX4_zone_16 : decode cX4_zone 16 = .ok (.aload_n 0, 1) := by decide +kernel
theorem dX4_zone_17 : decode cX4_zone 17 = .ok (.getfield 42, 3) := by decide +kernel
theorem dX4_zone_20 : decode cX4_zone 20 = .ok (.getfield 115, 3) := by decide +kernel
theorem dX4_zone_23 : decode cX4_zone 23 = .ok (.ifCond .ne 5, 3) := by decide +kernel
theorem dX4_zone_26 : decode cX4_zone 26 = .ok (.iconst (-1), 1) := by decide +kernel
theorem dX4_zone_27 : decode cX4_zone 27 = .ok (.ireturn, 1) := by decide +kernel
theorem dX4_zone_28 : decode cX4_zone 28 = .ok (.iconst 0, 1) := by decide +kernel
theorem dX4_zone_29 : decode cX4_zone 29 = .ok (.istore_n 3, 1) := by decide +kernel
theorem dX4_zone_30 : decode cX4_zone 30 = .ok (.iload_n 1, 1) := by decide +kernel
theorem dX4_zone_31 : decode cX4_zone 31 = .ok (.istore 4, 2) := by decide +kernel
theorem dX4_zone_33 : decode cX4_zone 33 = .ok (.iload 4, 2) := by decide +kernel
theorem dX4_zone_35 : decode cX4_zone 35 = .ok (.aload_n 0, 1) := by decide +kernel
theorem dX4_zone_36 : decode cX4_zone 36 = .ok (.getfield 10, 3) := by decide +kernel
theorem dX4_zone_39 : decode cX4_zone 39 = .ok (.getfield 60, 3) := by decide +kernel
theorem dX4_zone_42 : decode cX4_zone 42 = .ok (.if_icmp .ge 47, 3) := by decide +kernel
theorem dX4_zone_45 : decode cX4_zone 45 = .ok (.aload_n 0, 1) := by decide +kernel
theorem dX4_zone_46 : decode cX4_zone 46 = .ok (.getfield 42, 3) := by decide +kernel
theorem dX4_zone_49 : decode cX4_zone 49 = .ok (.getfield 119, 3) := by decide +kernel
theorem dX4_zone_52 : decode cX4_zone 52 = .ok (.iload 4, 2) := by decide +kernel
theorem dX4_zone_54 : decode cX4_zone 54 = .ok (.invokestatic 120, 3) := by decide +kernel
theorem dX4_zone_57 : decode cX4_zone 57 = .ok (.ifCond .eq 26, 3) := by decide +kernel
theorem dX4_zone_60 : decode cX4_zone 60 = .ok (.aload_n 0, 1) := by decide +kernel
theorem dX4_zone_61 : decode cX4_zone 61 = .ok (.getfield 10, 3) := by decide +kernel
theorem dX4_zone_64 : decode cX4_zone 64 = .ok (.getfield 123, 3) := by decide +kernel
theorem dX4_zone_67 : decode cX4_zone 67 = .ok (.iload 4, 2) := by decide +kernel
theorem dX4_zone_69 : decode cX4_zone 69 = .ok (.bipush 8, 2) := by decide +kernel
theorem dX4_zone_71 : decode cX4_zone 71 = .ok (.imul, 1) := by decide +kernel
theorem dX4_zone_72 : decode cX4_zone 72 = .ok (.iload_n 2, 1) := by decide +kernel
theorem dX4_zone_73 : decode cX4_zone 73 = .ok (.iadd, 1) := by decide +kernel
theorem dX4_zone_74 : decode cX4_zone 74 = .ok (.laload, 1) := by decide +kernel
theorem dX4_zone_75 : decode cX4_zone 75 = .ok (.lconst 0, 1) := by decide +kernel
theorem dX4_zone_76 : decode cX4_zone 76 = .ok (.lcmp, 1) := by decide +kernel
theorem dX4_zone_77 : decode cX4_zone 77 = .ok (.ifCond .le 6, 3) := by decide +kernel
theorem dX4_zone_80 : decode cX4_zone 80 = .ok (.iinc 3 1, 3) := by decide +kernel
theorem dX4_zone_83 : decode cX4_zone 83 = .ok (.iinc 4 4, 3) := by decide +kernel
theorem dX4_zone_86 : decode cX4_zone 86 = .ok (.goto (-53), 3) := by decide +kernel
theorem dX4_zone_89 : decode cX4_zone 89 = .ok (.iload_n 3, 1) := by decide +kernel
theorem dX4_zone_90 : decode cX4_zone 90 = .ok (.ireturn, 1) := by decide +kernel
theorem dX4_run_0 : decode cX4_run 0 = .ok (.aload_n 0, 1) := by decide +kernel
theorem dX4_run_1 : decode cX4_run 1 = .ok (.aload_n 0, 1) := by decide +kernel
theorem dX4_run_2 : decode cX4_run 2 = .ok (.invokevirtual 126, 3) := by decide +kernel
theorem dX4_run_5 : decode cX4_run 5 = .ok (.putfield 130, 3) := by decide +kernel
theorem dX4_run_8 : decode cX4_run 8 = .ok (.aload_n 0, 1) := by decide +kernel
theorem dX4_run_9 : decode cX4_run 9 = .ok (.aload_n 0, 1) := by decide +kernel
theorem dX4_run_10 : decode cX4_run 10 = .ok (.getfield 42, 3) := by decide +kernel
theorem dX4_run_13 : decode cX4_run 13 = .ok (.getfield 119, 3) := by decide +kernel
theorem dX4_run_16 : decode cX4_run 16 = .ok (.putfield 133, 3) := by decide +kernel
theorem dX4_run_19 : decode cX4_run 19 = .ok (.aload_n 0, 1) := by decide +kernel
theorem dX4_run_20 : decode cX4_run 20 = .ok (.getfield 42, 3) := by decide +kernel
theorem dX4_run_23 : decode cX4_run 23 = .ok (.invokevirtual 136, 3) := by decide +kernel
theorem dX4_run_26 : decode cX4_run 26 = .ok (.lconst 1, 1) := by decide +kernel
theorem dX4_run_27 : decode cX4_run 27 = .ok (.aload_n 0, 1) := by decide +kernel
theorem dX4_run_28 : decode cX4_run 28 = .ok (.getfield 10, 3) := by decide +kernel
theorem dX4_run_31 : decode cX4_run 31 = .ok (.invokevirtual 139, 3) := by decide +kernel
theorem dX4_run_34 : decode cX4_run 34 = .ok (.invokestatic 142, 3) := by decide +kernel
theorem dX4_run_37 : decode cX4_run 37 = .ok (.lshl, 1) := by decide +kernel
theorem dX4_run_38 : decode cX4_run 38 = .ok (.lstore_n 3, 1) := by decide +kernel
theorem dX4_run_39 : decode cX4_run 39 = .ok (.lload_n 3, 1) := by decide +kernel
theorem dX4_run_40 : decode cX4_run 40 = .ok (.lload_n 1, 1) := by decide +kernel
theorem dX4_run_41 : decode cX4_run 41 = .ok (.lcmp, 1) := by decide +kernel
theorem dX4_run_42 : decode cX4_run 42 = .ok (.ifCond .gt 11, 3) := by decide +kernel
theorem dX4_run_45 : decode cX4_run 45 = .ok (.lload_n 3, 1) := by decide +kernel
theorem dX4_run_46 : decode cX4_run 46 = .ok (.ldc2_w 148, 3) := by decide +kernel
theorem dX4_run_49 : decode cX4_run 49 = .ok (.lcmp, 1) := by decide +kernel
theorem dX4_run_50 : decode cX4_run 50 = .ok (.ifCond .le 29, 3) := by decide +kernel
theorem dX4_run_53 : decode cX4_run 53 = .ok (.aload_n 0, 1) := by decide +kernel
theorem dX4_run_54 : decode cX4_run 54 = .ok (.iconst 2, 1) := by decide +kernel
theorem dX4_run_55 : decode cX4_run 55 = .ok (.putfield 50, 3) := by decide +kernel
theorem dX4_run_58 : decode cX4_run 58 = .ok (.aload_n 0, 1) := by decide +kernel
theorem dX4_run_59 : decode cX4_run 59 = .ok (.aload_n 0, 1) := by decide +kernel
theorem dX4_run_60 : decode cX4_run 60 = .ok (.getfield 10, 3) := by decide +kernel
theorem dX4_run_63 : decode cX4_run 63 = .ok (.aload_n 0, 1) := by decide +kernel
theorem dX4_run_64 : decode cX4_run 64 = .ok (.getfield 10, 3) := by decide +kernel
theorem dX4_run_67 : decode cX4_run 67 = .ok (.getfield 109, 3) := by decide +kernel
theorem dX4_run_70 : decode cX4_run 70 = .ok (.invokevirtual 150, 3) := by decide +kernel
theorem dX4_run_73 : decode cX4_run 73 = .ok (.putfield 56, 3) := by decide +kernel
theorem dX4_run_76 : decode cX4_run 76 = .ok (.goto 37, 3) := by decide +kernel
theorem dX4_run_79 : decode cX4_run 79 = .ok (.aload_n 0, 1) := by decide +kernel
theorem dX4_run_80 : decode cX4_run 80 = .ok (.invokevirtual 154, 3) := by decide +kernel
theorem dX4_run_83 : decode cX4_run 83 = .ok (.aload_n 0, 1) := by decide +kernel
theorem dX4_run_84 : decode cX4_run 84 = .ok (.aload_n 0, 1) := by decide +kernel
theorem dX4_run_85 : decode cX4_run 85 = .ok (.getfield 42, 3) := by decide +kernel
theorem dX4_run_88 : decode cX4_run 88 = .ok (.getfield 115, 3) := by decide +kernel
theorem dX4_run_91 : decode cX4_run 91 = .ok (.ifCond .eq 7, 3) := by decide +kernel
theorem dX4_run_94 : decode cX4_run 94 = .ok (.iconst 0, 1) := by decide +kernel
theorem dX4_run_95 : decode cX4_run 95 = .ok (.goto 4, 3) := by decide +kernel
theorem dX4_run_98 : decode cX4_run 98 = .ok (.iconst 1, 1) := by decide +kernel
theorem dX4_run_99 : decode cX4_run 99 = .ok (.putfield 50, 3) := by decide +kernel
theorem dX4_run_102 : decode cX4_run 102 = .ok (.aload_n 0, 1) := by decide +kernel
theorem dX4_run_103 : decode cX4_run 103 = .ok (.aload_n 0, 1) := by decide +kernel
theorem dX4_run_104 : decode cX4_run 104 = .ok (.getfield 42, 3) := by decide +kernel
theorem dX4_run_107 : decode cX4_run 107 = .ok (.getfield 157, 3) := by decide +kernel
theorem dX4_run_110 : decode cX4_run 110 = .ok (.putfield 56, 3) := by decide +kernel
theorem dX4_run_113 : decode cX4_run 113 = .ok (.aload_n 0, 1) := by decide +kernel
theorem dX4_run_114 : decode cX4_run 114 = .ok (.getfield 50, 3) := by decide +kernel
theorem dX4_run_117 : decode cX4_run 117 = .ok (.ireturn, 1) := by decide +kernel
theorem dX4_chosen_0 : decode cX4_chosen 0 = .ok (.aload_n 0, 1) := by decide +kernel
theorem dX4_chosen_1 : decode cX4_chosen 1 = .ok (.getfield 10, 3) := by decide +kernel
theorem dX4_chosen_4 : decode cX4_chosen 4 = .ok (.iload_n 1, 1) := by decide +kernel
theorem dX4_chosen_5 : decode cX4_chosen 5 = .ok (.invokevirtual 73, 3) := by decide +kernel
theorem dX4_chosen_8 : decode cX4_chosen 8 = .ok (.ifCond .eq 21, 3) := by decide +kernel
theorem dX4_chosen_11 : decode cX4_chosen 11 = .ok (.aload_n 0, 1) := by decide +kernel
theorem dX4_chosen_12 : decode cX4_chosen 12 = .ok (.getfield 42, 3) := by decide +kernel
theorem dX4_chosen_15 : decode cX4_chosen 15 = .ok (.getfield 119, 3) := by decide +kernel
theorem dX4_chosen_18 : decode cX4_chosen 18 = .ok (.iload_n 1, 1) := by decide +kernel
theorem dX4_chosen_19 : decode cX4_chosen 19 = .ok (.invokestatic 120, 3) := by decide +kernel
theorem dX4_chosen_22 : decode cX4_chosen 22 = .ok (.ifCond .eq 7, 3) := by decide +kernel
theorem dX4_chosen_25 : decode cX4_chosen 25 = .ok (.iconst 1, 1) := by decide +kernel
theorem dX4_chosen_26 : decode cX4_chosen 26 = .ok (.goto 4, 3) := by decide +kernel
theorem dX4_chosen_29 : decode cX4_chosen 29 = .ok (.iconst 0, 1) := by decide +kernel
theorem dX4_chosen_30 : decode cX4_chosen 30 = .ok (.ireturn, 1) := by decide +kernel
theorem dX4_cost_0 : decode cX4_cost 0 = .ok (.aload_n 0, 1) := by decide +kernel
theorem dX4_cost_1 : decode cX4_cost 1 = .ok (.getfield 42, 3) := by decide +kernel
theorem dX4_cost_4 : decode cX4_cost 4 = .ok (.getfield 157, 3) := by decide +kernel
theorem dX4_cost_7 : decode cX4_cost 7 = .ok (.lreturn, 1) := by decide +kernel
theorem dX4_bound_0 : decode cX4_bound 0 = .ok (.aload_n 0, 1) := by decide +kernel
theorem dX4_bound_1 : decode cX4_bound 1 = .ok (.getfield 56, 3) := by decide +kernel
theorem dX4_bound_4 : decode cX4_bound 4 = .ok (.lreturn, 1) := by decide +kernel
theorem dX4_met_0 : decode cX4_met 0 = .ok (.iload_n 1, 1) := by decide +kernel
theorem dX4_met_1 : decode cX4_met 1 = .ok (.invokestatic 77, 3) := by decide +kernel
theorem dX4_met_4 : decode cX4_met 4 = .ok (.ifCond .eq 13, 3) := by decide +kernel
theorem dX4_met_7 : decode cX4_met 7 = .ok (.aload_n 0, 1) := by decide +kernel
theorem dX4_met_8 : decode cX4_met 8 = .ok (.getfield 42, 3) := by decide +kernel
theorem dX4_met_11 : decode cX4_met 11 = .ok (.getfield 115, 3) := by decide +kernel
theorem dX4_met_14 : decode cX4_met 14 = .ok (.ifCond .ne 7, 3) := by decide +kernel
theorem dX4_met_17 : decode cX4_met 17 = .ok (.ldc2_w 54, 3) := by decide +kernel
theorem dX4_met_20 : decode cX4_met 20 = .ok (.lreturn, 1) := by decide +kernel
theorem dX4_met_21 : decode cX4_met 21 = .ok (.aload_n 0, 1) := by decide +kernel
theorem dX4_met_22 : decode cX4_met 22 = .ok (.getfield 21, 3) := by decide +kernel
theorem dX4_met_25 : decode cX4_met 25 = .ok (.aload_n 0, 1) := by decide +kernel
theorem dX4_met_26 : decode cX4_met 26 = .ok (.getfield 42, 3) := by decide +kernel
theorem dX4_met_29 : decode cX4_met 29 = .ok (.getfield 119, 3) := by decide +kernel
theorem dX4_met_32 : decode cX4_met 32 = .ok (.invokevirtual 160, 3) := by decide +kernel
theorem dX4_met_35 : decode cX4_met 35 = .ok (.aload_n 0, 1) := by decide +kernel
theorem dX4_met_36 : decode cX4_met 36 = .ok (.getfield 21, 3) := by decide +kernel
theorem dX4_met_39 : decode cX4_met 39 = .ok (.getfield 164, 3) := by decide +kernel
theorem dX4_met_42 : decode cX4_met 42 = .ok (.iload_n 1, 1) := by decide +kernel
theorem dX4_met_43 : decode cX4_met 43 = .ok (.laload, 1) := by decide +kernel
theorem dX4_met_44 : decode cX4_met 44 = .ok (.aload_n 0, 1) := by decide +kernel
theorem dX4_met_45 : decode cX4_met 45 = .ok (.getfield 10, 3) := by decide +kernel
theorem dX4_met_48 : decode cX4_met 48 = .ok (.getfield 165, 3) := by decide +kernel
theorem dX4_met_51 : decode cX4_met 51 = .ok (.iload_n 1, 1) := by decide +kernel
theorem dX4_met_52 : decode cX4_met 52 = .ok (.laload, 1) := by decide +kernel
theorem dX4_met_53 : decode cX4_met 53 = .ok (.iload_n 2, 1) := by decide +kernel
theorem dX4_met_54 : decode cX4_met 54 = .ok (.invokestatic 168, 3) := by decide +kernel
theorem dX4_met_57 : decode cX4_met 57 = .ok (.lreturn, 1) := by decide +kernel
theorem dX4_clash_0 : decode cX4_clash 0 = .ok (.aload_n 0, 1) := by decide +kernel
theorem dX4_clash_1 : decode cX4_clash 1 = .ok (.getfield 130, 3) := by decide +kernel
theorem dX4_clash_4 : decode cX4_clash 4 = .ok (.iload_n 1, 1) := by decide +kernel
theorem dX4_clash_5 : decode cX4_clash 5 = .ok (.invokestatic 172, 3) := by decide +kernel
theorem dX4_clash_8 : decode cX4_clash 8 = .ok (.ireturn, 1) := by decide +kernel
theorem dX4_proved_0 : decode cX4_proved 0 = .ok (.aload_n 0, 1) := by decide +kernel
theorem dX4_proved_1 : decode cX4_proved 1 = .ok (.getfield 50, 3) := by decide +kernel
theorem dX4_proved_4 : decode cX4_proved 4 = .ok (.ifCond .eq 11, 3) := by decide +kernel
theorem dX4_proved_7 : decode cX4_proved 7 = .ok (.aload_n 0, 1) := by decide +kernel
theorem dX4_proved_8 : decode cX4_proved 8 = .ok (.getfield 50, 3) := by decide +kernel
theorem dX4_proved_11 : decode cX4_proved 11 = .ok (.iconst 1, 1) := by decide +kernel
theorem dX4_proved_12 : decode cX4_proved 12 = .ok (.if_icmp .ne 7, 3) := by decide +kernel
theorem dX4_proved_15 : decode cX4_proved 15 = .ok (.iconst 1, 1) := by decide +kernel
theorem dX4_proved_16 : decode cX4_proved 16 = .ok (.goto 4, 3) := by decide +kernel
theorem dX4_proved_19 : decode cX4_proved 19 = .ok (.iconst 0, 1) := by decide +kernel
theorem dX4_proved_20 : decode cX4_proved 20 = .ok (.ireturn, 1) := by decide +kernel
theorem dX4_improve_0 : decode cX4_improve 0 = .ok (.iload_n 1, 1) := by decide +kernel
theorem dX4_improve_1 : decode cX4_improve 1 = .ok (.iconst 1, 1) := by decide +kernel
theorem dX4_improve_2 : decode cX4_improve 2 = .ok (.if_icmp .lt 20, 3) := by decide +kernel
theorem dX4_improve_5 : decode cX4_improve 5 = .ok (.iload_n 1, 1) := by decide +kernel
theorem dX4_improve_6 : decode cX4_improve 6 = .ok (.sipush 1000, 3) := by decide +kernel
theorem dX4_improve_9 : decode cX4_improve 9 = .ok (.if_icmp .gt 13, 3) := by decide +kernel
theorem dX4_improve_12 : decode cX4_improve 12 = .ok (.aload_n 0, 1) := by decide +kernel
theorem dX4_improve_13 : decode cX4_improve 13 = .ok (.getfield 10, 3) := by decide +kernel
theorem dX4_improve_16 : decode cX4_improve 16 = .ok (.getfield 60, 3) := by decide +kernel
theorem dX4_improve_19 : decode cX4_improve 19 = .ok (.ifCond .ne 5, 3) := by decide +kernel
theorem dX4_improve_22 : decode cX4_improve 22 = .ok (.iconst (-1), 1) := by decide +kernel
theorem dX4_improve_23 : decode cX4_improve 23 = .ok (.ireturn, 1) := by decide +kernel
theorem dX4_improve_24 : decode cX4_improve 24 = .ok (.aload_n 0, 1) := by decide +kernel
theorem dX4_improve_25 : decode cX4_improve 25 = .ok (.aload_n 0, 1) := by decide +kernel
theorem dX4_improve_26 : decode cX4_improve 26 = .ok (.getfield 42, 3) := by decide +kernel
theorem dX4_improve_29 : decode cX4_improve 29 = .ok (.getfield 119, 3) := by decide +kernel
theorem dX4_improve_32 : decode cX4_improve 32 = .ok (.putfield 133, 3) := by decide +kernel
theorem dX4_improve_35 : decode cX4_improve 35 = .ok (.aload_n 0, 1) := by decide +kernel
theorem dX4_improve_36 : decode cX4_improve 36 = .ok (.getfield 42, 3) := by decide +kernel
theorem dX4_improve_39 : decode cX4_improve 39 = .ok (.invokevirtual 136, 3) := by decide +kernel
theorem dX4_improve_42 : decode cX4_improve 42 = .ok (.aload_n 0, 1) := by decide +kernel
theorem dX4_improve_43 : decode cX4_improve 43 = .ok (.aload_n 0, 1) := by decide +kernel
theorem dX4_improve_44 : decode cX4_improve 44 = .ok (.getfield 28, 3) := by decide +kernel
theorem dX4_improve_47 : decode cX4_improve 47 = .ok (.iload_n 1, 1) := by decide +kernel
theorem dX4_improve_48 : decode cX4_improve 48 = .ok (.invokevirtual 176, 3) := by decide +kernel
theorem dX4_improve_51 : decode cX4_improve 51 = .ok (.istore_n 2, 1) := by decide +kernel
theorem dX4_improve_52 : decode cX4_improve 52 = .ok (.iload_n 2, 1) := by decide +kernel
theorem dX4_improve_53 : decode cX4_improve 53 = .ok (.iconst (-1), 1) := by decide +kernel
theorem dX4_improve_54 : decode cX4_improve 54 = .ok (.if_icmp .eq 24, 3) := by decide +kernel
theorem dX4_improve_57 : decode cX4_improve 57 = .ok (.aload_n 0, 1) := by decide +kernel
theorem dX4_improve_58 : decode cX4_improve 58 = .ok (.getfield 42, 3) := by decide +kernel
theorem dX4_improve_61 : decode cX4_improve 61 = .ok (.aload_n 0, 1) := by decide +kernel
theorem dX4_improve_62 : decode cX4_improve 62 = .ok (.getfield 21, 3) := by decide +kernel
theorem dX4_improve_65 : decode cX4_improve 65 = .ok (.getfield 180, 3) := by decide +kernel
theorem dX4_improve_68 : decode cX4_improve 68 = .ok (.aload_n 0, 1) := by decide +kernel
theorem dX4_improve_69 : decode cX4_improve 69 = .ok (.getfield 21, 3) := by decide +kernel
theorem dX4_improve_72 : decode cX4_improve 72 = .ok (.invokevirtual 181, 3) := by decide +kernel
theorem dX4_improve_75 : decode cX4_improve 75 = .ok (.invokevirtual 184, 3) := by decide +kernel
theorem dX4_improve_78 : decode cX4_improve 78 = .ok (.iload_n 2, 1) := by decide +kernel
theorem dX4_improve_79 : decode cX4_improve 79 = .ok (.ireturn, 1) := by decide +kernel
theorem dX4_often_0 : decode cX4_often 0 = .ok (.aload_n 0, 1) := by decide +kernel
theorem dX4_often_1 : decode cX4_often 1 = .ok (.getfield 10, 3) := by decide +kernel
theorem dX4_often_4 : decode cX4_often 4 = .ok (.iload_n 1, 1) := by decide +kernel
theorem dX4_often_5 : decode cX4_often 5 = .ok (.invokevirtual 73, 3) := by decide +kernel
theorem dX4_often_8 : decode cX4_often 8 = .ok (.ifCond .eq 14, 3) := by decide +kernel
theorem dX4_often_11 : decode cX4_often 11 = .ok (.iload_n 2, 1) := by decide +kernel
theorem dX4_often_12 : decode cX4_often 12 = .ok (.iconst 1, 1) := by decide +kernel
theorem dX4_often_13 : decode cX4_often 13 = .ok (.if_icmp .lt 9, 3) := by decide +kernel
theorem dX4_often_16 : decode cX4_often 16 = .ok (.iload_n 2, 1) := by decide +kernel
theorem dX4_often_17 : decode cX4_often 17 = .ok (.bipush 20, 2) := by decide +kernel
theorem dX4_often_19 : decode cX4_often 19 = .ok (.if_icmp .le 7, 3) := by decide +kernel
theorem dX4_often_22 : decode cX4_often 22 = .ok (.ldc2_w 54, 3) := by decide +kernel
theorem dX4_often_25 : decode cX4_often 25 = .ok (.lreturn, 1) := by decide +kernel
theorem dX4_often_26 : decode cX4_often 26 = .ok (.lconst 0, 1) := by decide +kernel
theorem dX4_often_27 : decode cX4_often 27 = .ok (.lstore_n 3, 1) := by decide +kernel
theorem dX4_often_28 : decode cX4_often 28 = .ok (.iconst 1, 1) := by decide +kernel
theorem dX4_often_29 : decode cX4_often 29 = .ok (.istore 5, 2) := by decide +kernel
theorem dX4_often_31 : decode cX4_often 31 = .ok (.iload 5, 2) := by decide +kernel
theorem dX4_often_33 : decode cX4_often 33 = .ok (.iload_n 2, 1) := by decide +kernel
theorem dX4_often_34 : decode cX4_often 34 = .ok (.if_icmp .gt 55, 3) := by decide +kernel
theorem dX4_often_37 : decode cX4_often 37 = .ok (.aload_n 0, 1) := by decide +kernel
theorem dX4_often_38 : decode cX4_often 38 = .ok (.getfield 36, 3) := by decide +kernel
theorem dX4_often_41 : decode cX4_often 41 = .ok (.iload 5, 2) := by decide +kernel
theorem dX4_often_43 : decode cX4_often 43 = .ok (.i2l, 1) := by decide +kernel
theorem dX4_often_44 : decode cX4_often 44 = .ok (.invokevirtual 32, 3) := by decide +kernel
theorem dX4_often_47 : decode cX4_often 47 = .ok (.aload_n 0, 1) := by decide +kernel
theorem dX4_often_48 : decode cX4_often 48 = .ok (.aload_n 0, 1) := by decide +kernel
theorem dX4_often_49 : decode cX4_often 49 = .ok (.getfield 36, 3) := by decide +kernel
theorem dX4_often_52 : decode cX4_often 52 = .ok (.bipush 40, 2) := by decide +kernel
theorem dX4_often_54 : decode cX4_often 54 = .ok (.invokevirtual 176, 3) := by decide +kernel
theorem dX4_often_57 : decode cX4_often 57 = .ok (.iconst (-1), 1) := by decide +kernel
theorem dX4_often_58 : decode cX4_often 58 = .ok (.if_icmp .ne 7, 3) := by decide +kernel
theorem dX4_often_61 : decode cX4_often 61 = .ok (.ldc2_w 54, 3) := by decide +kernel
theorem dX4_often_64 : decode cX4_often 64 = .ok (.lreturn, 1) := by decide +kernel
theorem dX4_often_65 : decode cX4_often 65 = .ok (.aload_n 0, 1) := by decide +kernel
theorem dX4_often_66 : decode cX4_often 66 = .ok (.getfield 21, 3) := by decide +kernel
theorem dX4_often_69 : decode cX4_often 69 = .ok (.getfield 180, 3) := by decide +kernel
theorem dX4_often_72 : decode cX4_often 72 = .ok (.iload_n 1, 1) := by decide +kernel
theorem dX4_often_73 : decode cX4_often 73 = .ok (.invokestatic 120, 3) := by decide +kernel
theorem dX4_often_76 : decode cX4_often 76 = .ok (.ifCond .eq 7, 3) := by decide +kernel
theorem dX4_often_79 : decode cX4_often 79 = .ok (.lload_n 3, 1) := by decide +kernel
theorem dX4_often_80 : decode cX4_often 80 = .ok (.lconst 1, 1) := by decide +kernel
theorem dX4_often_81 : decode cX4_often 81 = .ok (.ladd, 1) := by decide +kernel
theorem dX4_often_82 : decode cX4_often 82 = .ok (.lstore_n 3, 1) := by decide +kernel
theorem dX4_often_83 : decode cX4_often 83 = .ok (.iinc 5 1, 3) := by decide +kernel
theorem dX4_often_86 : decode cX4_often 86 = .ok (.goto (-55), 3) := by decide +kernel
theorem dX4_often_89 : decode cX4_often 89 = .ok (.lload_n 3, 1) := by decide +kernel
theorem dX4_often_90 : decode cX4_often 90 = .ok (.lreturn, 1) := by decide +kernel
theorem dX4_port_0 : decode cX4_port 0 = .ok (.aload_n 0, 1) := by decide +kernel
theorem dX4_port_1 : decode cX4_port 1 = .ok (.getfield 10, 3) := by decide +kernel
theorem dX4_port_4 : decode cX4_port 4 = .ok (.iload_n 1, 1) := by decide +kernel
theorem dX4_port_5 : decode cX4_port 5 = .ok (.invokevirtual 73, 3) := by decide +kernel
theorem dX4_port_8 : decode cX4_port 8 = .ok (.ifCond .eq 20, 3) := by decide +kernel
theorem dX4_port_11 : decode cX4_port 11 = .ok (.iload_n 2, 1) := by decide +kernel
theorem dX4_port_12 : decode cX4_port 12 = .ok (.invokestatic 188, 3) := by decide +kernel
theorem dX4_port_15 : decode cX4_port 15 = .ok (.ifCond .eq 13, 3) := by decide +kernel
theorem dX4_port_18 : decode cX4_port 18 = .ok (.lload_n 3, 1) := by decide +kernel
theorem dX4_port_19 : decode cX4_port 19 = .ok (.ldc2_w 63, 3) := by decide +kernel
theorem dX4_port_22 : decode cX4_port 22 = .ok (.invokestatic 65, 3) := by decide +kernel
theorem dX4_port_25 : decode cX4_port 25 = .ok (.ifCond .ne 5, 3) := by decide +kernel
theorem dX4_port_28 : decode cX4_port 28 = .ok (.iconst 0, 1) := by decide +kernel
theorem dX4_port_29 : decode cX4_port 29 = .ok (.ireturn, 1) := by decide +kernel
theorem dX4_port_30 : decode cX4_port 30 = .ok (.aload_n 0, 1) := by decide +kernel
theorem dX4_port_31 : decode cX4_port 31 = .ok (.getfield 10, 3) := by decide +kernel
theorem dX4_port_34 : decode cX4_port 34 = .ok (.iload_n 1, 1) := by decide +kernel
theorem dX4_port_35 : decode cX4_port 35 = .ok (.iload_n 2, 1) := by decide +kernel
theorem dX4_port_36 : decode cX4_port 36 = .ok (.lload_n 3, 1) := by decide +kernel
theorem dX4_port_37 : decode cX4_port 37 = .ok (.invokevirtual 191, 3) := by decide +kernel
theorem dX4_port_40 : decode cX4_port 40 = .ok (.iconst 1, 1) := by decide +kernel
theorem dX4_port_41 : decode cX4_port 41 = .ok (.ireturn, 1) := by decide +kernel
theorem dX4_loss_0 : decode cX4_loss 0 = .ok (.iload_n 1, 1) := by decide +kernel
theorem dX4_loss_1 : decode cX4_loss 1 = .ok (.invokestatic 188, 3) := by decide +kernel
theorem dX4_loss_4 : decode cX4_loss 4 = .ok (.ifCond .eq 13, 3) := by decide +kernel
theorem dX4_loss_7 : decode cX4_loss 7 = .ok (.aload_n 0, 1) := by decide +kernel
theorem dX4_loss_8 : decode cX4_loss 8 = .ok (.getfield 42, 3) := by decide +kernel
theorem dX4_loss_11 : decode cX4_loss 11 = .ok (.getfield 115, 3) := by decide +kernel
theorem dX4_loss_14 : decode cX4_loss 14 = .ok (.ifCond .ne 7, 3) := by decide +kernel
theorem dX4_loss_17 : decode cX4_loss 17 = .ok (.ldc2_w 54, 3) := by decide +kernel
theorem dX4_loss_20 : decode cX4_loss 20 = .ok (.lreturn, 1) := by decide +kernel
theorem dX4_loss_21 : decode cX4_loss 21 = .ok (.aload_n 0, 1) := by decide +kernel
theorem dX4_loss_22 : decode cX4_loss 22 = .ok (.getfield 21, 3) := by decide +kernel
theorem dX4_loss_25 : decode cX4_loss 25 = .ok (.aload_n 0, 1) := by decide +kernel
theorem dX4_loss_26 : decode cX4_loss 26 = .ok (.getfield 42, 3) := by decide +kernel
theorem dX4_loss_29 : decode cX4_loss 29 = .ok (.getfield 119, 3) := by decide +kernel
theorem dX4_loss_32 : decode cX4_loss 32 = .ok (.invokevirtual 160, 3) := by decide +kernel
theorem dX4_loss_35 : decode cX4_loss 35 = .ok (.aload_n 0, 1) := by decide +kernel
theorem dX4_loss_36 : decode cX4_loss 36 = .ok (.getfield 21, 3) := by decide +kernel
theorem dX4_loss_39 : decode cX4_loss 39 = .ok (.getfield 194, 3) := by decide +kernel
theorem dX4_loss_42 : decode cX4_loss 42 = .ok (.iload_n 1, 1) := by decide +kernel
theorem dX4_loss_43 : decode cX4_loss 43 = .ok (.laload, 1) := by decide +kernel
theorem dX4_loss_44 : decode cX4_loss 44 = .ok (.aload_n 0, 1) := by decide +kernel
theorem dX4_loss_45 : decode cX4_loss 45 = .ok (.getfield 10, 3) := by decide +kernel
theorem dX4_loss_48 : decode cX4_loss 48 = .ok (.getfield 197, 3) := by decide +kernel
theorem dX4_loss_51 : decode cX4_loss 51 = .ok (.iload_n 1, 1) := by decide +kernel
theorem dX4_loss_52 : decode cX4_loss 52 = .ok (.laload, 1) := by decide +kernel
theorem dX4_loss_53 : decode cX4_loss 53 = .ok (.iload_n 2, 1) := by decide +kernel
theorem dX4_loss_54 : decode cX4_loss 54 = .ok (.invokestatic 168, 3) := by decide +kernel
theorem dX4_loss_57 : decode cX4_loss 57 = .ok (.lreturn, 1) := by decide +kernel
theorem dX4_fair_0 : decode cX4_fair 0 = .ok (.lload_n 1, 1) := by decide +kernel
theorem dX4_fair_1 : decode cX4_fair 1 = .ok (.lload_n 3, 1) := by decide +kernel
theorem dX4_fair_2 : decode cX4_fair 2 = .ok (.invokestatic 90, 3) := by decide +kernel
theorem dX4_fair_5 : decode cX4_fair 5 = .ok (.ifCond .ne 5, 3) := by decide +kernel
theorem dX4_fair_8 : decode cX4_fair 8 = .ok (.iconst 0, 1) := by decide +kernel
theorem dX4_fair_9 : decode cX4_fair 9 = .ok (.ireturn, 1) := by decide +kernel
theorem dX4_fair_10 : decode cX4_fair 10 = .ok (.aload_n 0, 1) := by decide +kernel
theorem dX4_fair_11 : decode cX4_fair 11 = .ok (.getfield 10, 3) := by decide +kernel
theorem dX4_fair_14 : decode cX4_fair 14 = .ok (.lload_n 1, 1) := by decide +kernel
theorem dX4_fair_15 : decode cX4_fair 15 = .ok (.putfield 200, 3) := by decide +kernel
theorem dX4_fair_18 : decode cX4_fair 18 = .ok (.aload_n 0, 1) := by decide +kernel
theorem dX4_fair_19 : decode cX4_fair 19 = .ok (.getfield 10, 3) := by decide +kernel
theorem dX4_fair_22 : decode cX4_fair 22 = .ok (.lload_n 3, 1) := by decide +kernel
theorem dX4_fair_23 : decode cX4_fair 23 = .ok (.putfield 203, 3) := by decide +kernel
theorem dX4_fair_26 : decode cX4_fair 26 = .ok (.iconst 1, 1) := by decide +kernel
theorem dX4_fair_27 : decode cX4_fair 27 = .ok (.ireturn, 1) := by decide +kernel
theorem dX4_border_0 : decode cX4_border 0 = .ok (.aload_n 0, 1) := by decide +kernel
theorem dX4_border_1 : decode cX4_border 1 = .ok (.getfield 42, 3) := by decide +kernel
theorem dX4_border_4 : decode cX4_border 4 = .ok (.getfield 115, 3) := by decide +kernel
theorem dX4_border_7 : decode cX4_border 7 = .ok (.ifCond .ne 7, 3) := by decide +kernel
theorem dX4_border_10 : decode cX4_border 10 = .ok (.ldc2_w 54, 3) := by decide +kernel
theorem dX4_border_13 : decode cX4_border 13 = .ok (.lreturn, 1) := by decide +kernel
theorem dX4_border_14 : decode cX4_border 14 = .ok (.aload_n 0, 1) := by decide +kernel
theorem dX4_border_15 : decode cX4_border 15 = .ok (.getfield 21, 3) := by decide +kernel
theorem dX4_border_18 : decode cX4_border 18 = .ok (.aload_n 0, 1) := by decide +kernel
theorem dX4_border_19 : decode cX4_border 19 = .ok (.getfield 42, 3) := by decide +kernel
theorem dX4_border_22 : decode cX4_border 22 = .ok (.getfield 119, 3) := by decide +kernel
theorem dX4_border_25 : decode cX4_border 25 = .ok (.invokevirtual 160, 3) := by decide +kernel
theorem dX4_border_28 : decode cX4_border 28 = .ok (.aload_n 0, 1) := by decide +kernel
theorem dX4_border_29 : decode cX4_border 29 = .ok (.getfield 21, 3) := by decide +kernel
theorem dX4_border_32 : decode cX4_border 32 = .ok (.getfield 206, 3) := by decide +kernel
theorem dX4_border_35 : decode cX4_border 35 = .ok (.lreturn, 1) := by decide +kernel
theorem dX4_size_0 : decode cX4_size 0 = .ok (.iload_n 1, 1) := by decide +kernel
theorem dX4_size_1 : decode cX4_size 1 = .ok (.ifCond .lt 9, 3) := by decide +kernel
theorem dX4_size_4 : decode cX4_size 4 = .ok (.iload_n 1, 1) := by decide +kernel
theorem dX4_size_5 : decode cX4_size 5 = .ok (.bipush 24, 2) := by decide +kernel
theorem dX4_size_7 : decode cX4_size 7 = .ok (.if_icmp .le 5, 3) := by decide +kernel
theorem dX4_size_10 : decode cX4_size 10 = .ok (.iconst (-1), 1) := by decide +kernel
theorem dX4_size_11 : decode cX4_size 11 = .ok (.ireturn, 1) := by decide +kernel
theorem dX4_size_12 : decode cX4_size 12 = .ok (.aload_n 0, 1) := by decide +kernel
theorem dX4_size_13 : decode cX4_size 13 = .ok (.getfield 10, 3) := by decide +kernel
theorem dX4_size_16 : decode cX4_size 16 = .ok (.iload_n 1, 1) := by decide +kernel
theorem dX4_size_17 : decode cX4_size 17 = .ok (.putfield 209, 3) := by decide +kernel
theorem dX4_size_20 : decode cX4_size 20 = .ok (.aload_n 0, 1) := by decide +kernel
theorem dX4_size_21 : decode cX4_size 21 = .ok (.getfield 10, 3) := by decide +kernel
theorem dX4_size_24 : decode cX4_size 24 = .ok (.getfield 60, 3) := by decide +kernel
theorem dX4_size_27 : decode cX4_size 27 = .ok (.ireturn, 1) := by decide +kernel
theorem dX4_year_0 : decode cX4_year 0 = .ok (.aload_n 0, 1) := by decide +kernel
theorem dX4_year_1 : decode cX4_year 1 = .ok (.getfield 10, 3) := by decide +kernel
theorem dX4_year_4 : decode cX4_year 4 = .ok (.iload_n 1, 1) := by decide +kernel
theorem dX4_year_5 : decode cX4_year 5 = .ok (.invokevirtual 73, 3) := by decide +kernel
theorem dX4_year_8 : decode cX4_year 8 = .ok (.ifCond .eq 17, 3) := by decide +kernel
theorem dX4_year_11 : decode cX4_year 11 = .ok (.aload_n 0, 1) := by decide +kernel
theorem dX4_year_12 : decode cX4_year 12 = .ok (.getfield 42, 3) := by decide +kernel
theorem dX4_year_15 : decode cX4_year 15 = .ok (.getfield 119, 3) := by decide +kernel
theorem dX4_year_18 : decode cX4_year 18 = .ok (.iload_n 1, 1) := by decide +kernel
theorem dX4_year_19 : decode cX4_year 19 = .ok (.invokestatic 120, 3) := by decide +kernel
theorem dX4_year_22 : decode cX4_year 22 = .ok (.ifCond .ne 5, 3) := by decide +kernel
theorem dX4_year_25 : decode cX4_year 25 = .ok (.iconst (-1), 1) := by decide +kernel
theorem dX4_year_26 : decode cX4_year 26 = .ok (.ireturn, 1) := by decide +kernel
theorem dX4_year_27 : decode cX4_year 27 = .ok (.iconst 0, 1) := by decide +kernel
theorem dX4_year_28 : decode cX4_year 28 = .ok (.istore_n 2, 1) := by decide +kernel
theorem dX4_year_29 : decode cX4_year 29 = .ok (.iconst 0, 1) := by decide +kernel
theorem dX4_year_30 : decode cX4_year 30 = .ok (.istore_n 3, 1) := by decide +kernel
theorem dX4_year_31 : decode cX4_year 31 = .ok (.iload_n 3, 1) := by decide +kernel
theorem dX4_year_32 : decode cX4_year 32 = .ok (.aload_n 0, 1) := by decide +kernel
theorem dX4_year_33 : decode cX4_year 33 = .ok (.getfield 10, 3) := by decide +kernel
theorem dX4_year_36 : decode cX4_year 36 = .ok (.getfield 60, 3) := by decide +kernel
theorem dX4_year_39 : decode cX4_year 39 = .ok (.if_icmp .ge 38, 3) := by decide +kernel
theorem dX4_year_42 : decode cX4_year 42 = .ok (.aload_n 0, 1) := by decide +kernel
theorem dX4_year_43 : decode cX4_year 43 = .ok (.getfield 42, 3) := by decide +kernel
theorem dX4_year_46 : decode cX4_year 46 = .ok (.getfield 119, 3) := by decide +kernel
theorem dX4_year_49 : decode cX4_year 49 = .ok (.iload_n 3, 1) := by decide +kernel
theorem dX4_year_50 : decode cX4_year 50 = .ok (.invokestatic 120, 3) := by decide +kernel
theorem dX4_year_53 : decode cX4_year 53 = .ok (.ifCond .eq 18, 3) := by decide +kernel
theorem dX4_year_56 : decode cX4_year 56 = .ok (.aload_n 0, 1) := by decide +kernel
theorem dX4_year_57 : decode cX4_year 57 = .ok (.getfield 10, 3) := by decide +kernel
theorem dX4_year_60 : decode cX4_year 60 = .ok (.iload_n 3, 1) := by decide +kernel
theorem dX4_year_61 : decode cX4_year 61 = .ok (.iload_n 1, 1) := by decide +kernel
theorem dX4_year_62 : decode cX4_year 62 = .ok (.invokevirtual 212, 3) := by decide +kernel
theorem dX4_year_65 : decode cX4_year 65 = .ok (.ifCond .eq 6, 3) := by decide +kernel
theorem dX4_year_68 : decode cX4_year 68 = .ok (.iinc 2 1, 3) := by decide +kernel
theorem dX4_year_71 : decode cX4_year 71 = .ok (.iinc 3 1, 3) := by decide +kernel
theorem dX4_year_74 : decode cX4_year 74 = .ok (.goto (-43), 3) := by decide +kernel
theorem dX4_year_77 : decode cX4_year 77 = .ok (.iload_n 2, 1) := by decide +kernel
theorem dX4_year_78 : decode cX4_year 78 = .ok (.iconst 2, 1) := by decide +kernel
theorem dX4_year_79 : decode cX4_year 79 = .ok (.idiv, 1) := by decide +kernel
theorem dX4_year_80 : decode cX4_year 80 = .ok (.ireturn, 1) := by decide +kernel
theorem dX4_wind_0 : decode cX4_wind 0 = .ok (.aload_n 0, 1) := by decide +kernel
theorem dX4_wind_1 : decode cX4_wind 1 = .ok (.getfield 10, 3) := by decide +kernel
theorem dX4_wind_4 : decode cX4_wind 4 = .ok (.iload_n 1, 1) := by decide +kernel
theorem dX4_wind_5 : decode cX4_wind 5 = .ok (.invokevirtual 73, 3) := by decide +kernel
theorem dX4_wind_8 : decode cX4_wind 8 = .ok (.ifCond .eq 13, 3) := by decide +kernel
theorem dX4_wind_11 : decode cX4_wind 11 = .ok (.lload_n 2, 1) := by decide +kernel
theorem dX4_wind_12 : decode cX4_wind 12 = .ok (.ldc2_w 63, 3) := by decide +kernel
theorem dX4_wind_15 : decode cX4_wind 15 = .ok (.invokestatic 65, 3) := by decide +kernel
theorem dX4_wind_18 : decode cX4_wind 18 = .ok (.ifCond .ne 5, 3) := by decide +kernel
theorem dX4_wind_21 : decode cX4_wind 21 = .ok (.iconst 0, 1) := by decide +kernel
theorem dX4_wind_22 : decode cX4_wind 22 = .ok (.ireturn, 1) := by decide +kernel
theorem dX4_wind_23 : decode cX4_wind 23 = .ok (.aload_n 0, 1) := by decide +kernel
theorem dX4_wind_24 : decode cX4_wind 24 = .ok (.getfield 10, 3) := by decide +kernel
theorem dX4_wind_27 : decode cX4_wind 27 = .ok (.getfield 69, 3) := by decide +kernel
theorem dX4_wind_30 : decode cX4_wind 30 = .ok (.iload_n 1, 1) := by decide +kernel
theorem dX4_wind_31 : decode cX4_wind 31 = .ok (.laload, 1) := by decide +kernel
theorem dX4_wind_32 : decode cX4_wind 32 = .ok (.lload_n 2, 1) := by decide +kernel
theorem dX4_wind_33 : decode cX4_wind 33 = .ok (.ladd, 1) := by decide +kernel
theorem dX4_wind_34 : decode cX4_wind 34 = .ok (.ldc2_w 215, 3) := by decide +kernel
theorem dX4_wind_37 : decode cX4_wind 37 = .ok (.lcmp, 1) := by decide +kernel
theorem dX4_wind_38 : decode cX4_wind 38 = .ok (.ifCond .le 5, 3) := by decide +kernel
theorem dX4_wind_41 : decode cX4_wind 41 = .ok (.iconst 0, 1) := by decide +kernel
theorem dX4_wind_42 : decode cX4_wind 42 = .ok (.ireturn, 1) := by decide +kernel
theorem dX4_wind_43 : decode cX4_wind 43 = .ok (.aload_n 0, 1) := by decide +kernel
theorem dX4_wind_44 : decode cX4_wind 44 = .ok (.getfield 10, 3) := by decide +kernel
theorem dX4_wind_47 : decode cX4_wind 47 = .ok (.getfield 69, 3) := by decide +kernel
theorem dX4_wind_50 : decode cX4_wind 50 = .ok (.iload_n 1, 1) := by decide +kernel
theorem dX4_wind_51 : decode cX4_wind 51 = .ok (.dup2, 1) := by decide +kernel
theorem dX4_wind_52 : decode cX4_wind 52 = .ok (.laload, 1) := by decide +kernel
theorem dX4_wind_53 : decode cX4_wind 53 = .ok (.lload_n 2, 1) := by decide +kernel
theorem dX4_wind_54 : decode cX4_wind 54 = .ok (.ladd, 1) := by decide +kernel
theorem dX4_wind_55 : decode cX4_wind 55 = .ok (.lastore, 1) := by decide +kernel
theorem dX4_wind_56 : decode cX4_wind 56 = .ok (.iconst 1, 1) := by decide +kernel
theorem dX4_wind_57 : decode cX4_wind 57 = .ok (.ireturn, 1) := by decide +kernel
theorem dX4_unlike_0 : decode cX4_unlike 0 = .ok (.iload_n 1, 1) := by decide +kernel
theorem dX4_unlike_1 : decode cX4_unlike 1 = .ok (.ifCond .lt 9, 3) := by decide +kernel
theorem dX4_unlike_4 : decode cX4_unlike 4 = .ok (.iload_n 1, 1) := by decide +kernel
theorem dX4_unlike_5 : decode cX4_unlike 5 = .ok (.bipush 24, 2) := by decide +kernel
theorem dX4_unlike_7 : decode cX4_unlike 7 = .ok (.if_icmp .le 5, 3) := by decide +kernel
theorem dX4_unlike_10 : decode cX4_unlike 10 = .ok (.iconst (-1), 1) := by decide +kernel
theorem dX4_unlike_11 : decode cX4_unlike 11 = .ok (.ireturn, 1) := by decide +kernel
theorem dX4_unlike_12 : decode cX4_unlike 12 = .ok (.iconst 1, 1) := by decide +kernel
theorem dX4_unlike_13 : decode cX4_unlike 13 = .ok (.iload_n 1, 1) := by decide +kernel
theorem dX4_unlike_14 : decode cX4_unlike 14 = .ok (.ishl, 1) := by decide +kernel
theorem dX4_unlike_15 : decode cX4_unlike 15 = .ok (.iconst 1, 1) := by decide +kernel
theorem dX4_unlike_16 : decode cX4_unlike 16 = .ok (.isub, 1) := by decide +kernel
theorem dX4_unlike_17 : decode cX4_unlike 17 = .ok (.istore_n 2, 1) := by decide +kernel
theorem dX4_unlike_18 : decode cX4_unlike 18 = .ok (.aload_n 0, 1) := by decide +kernel
theorem dX4_unlike_19 : decode cX4_unlike 19 = .ok (.getfield 42, 3) := by decide +kernel
theorem dX4_unlike_22 : decode cX4_unlike 22 = .ok (.getfield 119, 3) := by decide +kernel
theorem dX4_unlike_25 : decode cX4_unlike 25 = .ok (.aload_n 0, 1) := by decide +kernel
theorem dX4_unlike_26 : decode cX4_unlike 26 = .ok (.getfield 133, 3) := by decide +kernel
theorem dX4_unlike_29 : decode cX4_unlike 29 = .ok (.ixor, 1) := by decide +kernel
theorem dX4_unlike_30 : decode cX4_unlike 30 = .ok (.iload_n 2, 1) := by decide +kernel
theorem dX4_unlike_31 : decode cX4_unlike 31 = .ok (.iand, 1) := by decide +kernel
theorem dX4_unlike_32 : decode cX4_unlike 32 = .ok (.invokestatic 142, 3) := by decide +kernel
theorem dX4_unlike_35 : decode cX4_unlike 35 = .ok (.ireturn, 1) := by decide +kernel
theorem dX4_far_0 : decode cX4_far 0 = .ok (.aload_n 0, 1) := by decide +kernel
theorem dX4_far_1 : decode cX4_far 1 = .ok (.getfield 10, 3) := by decide +kernel
theorem dX4_far_4 : decode cX4_far 4 = .ok (.iload_n 1, 1) := by decide +kernel
theorem dX4_far_5 : decode cX4_far 5 = .ok (.iload_n 2, 1) := by decide +kernel
theorem dX4_far_6 : decode cX4_far 6 = .ok (.invokevirtual 99, 3) := by decide +kernel
theorem dX4_far_9 : decode cX4_far 9 = .ok (.ifCond .ne 5, 3) := by decide +kernel
theorem dX4_far_12 : decode cX4_far 12 = .ok (.iconst 0, 1) := by decide +kernel
theorem dX4_far_13 : decode cX4_far 13 = .ok (.ireturn, 1) := by decide +kernel
theorem dX4_far_14 : decode cX4_far 14 = .ok (.iload_n 3, 1) := by decide +kernel
theorem dX4_far_15 : decode cX4_far 15 = .ok (.ifCond .ge 36, 3) := by decide +kernel
theorem dX4_far_18 : decode cX4_far 18 = .ok (.aload_n 0, 1) := by decide +kernel
theorem dX4_far_19 : decode cX4_far 19 = .ok (.getfield 10, 3) := by decide +kernel
theorem dX4_far_22 : decode cX4_far 22 = .ok (.getfield 217, 3) := by decide +kernel
theorem dX4_far_25 : decode cX4_far 25 = .ok (.iload_n 1, 1) := by decide +kernel
theorem dX4_far_26 : decode cX4_far 26 = .ok (.dup2, 1) := by decide +kernel
theorem dX4_far_27 : decode cX4_far 27 = .ok (.iaload, 1) := by decide +kernel
theorem dX4_far_28 : decode cX4_far 28 = .ok (.iconst 1, 1) := by decide +kernel
theorem dX4_far_29 : decode cX4_far 29 = .ok (.iload_n 2, 1) := by decide +kernel
theorem dX4_far_30 : decode cX4_far 30 = .ok (.ishl, 1) := by decide +kernel
theorem dX4_far_31 : decode cX4_far 31 = .ok (.ior, 1) := by decide +kernel
theorem dX4_far_32 : decode cX4_far 32 = .ok (.iastore, 1) := by decide +kernel
theorem dX4_far_33 : decode cX4_far 33 = .ok (.aload_n 0, 1) := by decide +kernel
theorem dX4_far_34 : decode cX4_far 34 = .ok (.getfield 10, 3) := by decide +kernel
theorem dX4_far_37 : decode cX4_far 37 = .ok (.getfield 217, 3) := by decide +kernel
theorem dX4_far_40 : decode cX4_far 40 = .ok (.iload_n 2, 1) := by decide +kernel
theorem dX4_far_41 : decode cX4_far 41 = .ok (.dup2, 1) := by decide +kernel
theorem dX4_far_42 : decode cX4_far 42 = .ok (.iaload, 1) := by decide +kernel
theorem dX4_far_43 : decode cX4_far 43 = .ok (.iconst 1, 1) := by decide +kernel
theorem dX4_far_44 : decode cX4_far 44 = .ok (.iload_n 1, 1) := by decide +kernel
theorem dX4_far_45 : decode cX4_far 45 = .ok (.ishl, 1) := by decide +kernel
theorem dX4_far_46 : decode cX4_far 46 = .ok (.ior, 1) := by decide +kernel
theorem dX4_far_47 : decode cX4_far 47 = .ok (.iastore, 1) := by decide +kernel
theorem dX4_far_48 : decode cX4_far 48 = .ok (.goto 37, 3) := by decide +kernel
theorem dX4_far_51 : decode cX4_far 51 = .ok (.aload_n 0, 1) := by decide +kernel
theorem dX4_far_52 : decode cX4_far 52 = .ok (.getfield 10, 3) := by decide +kernel
theorem dX4_far_55 : decode cX4_far 55 = .ok (.getfield 217, 3) := by decide +kernel
theorem dX4_far_58 : decode cX4_far 58 = .ok (.iload_n 1, 1) := by decide +kernel
theorem dX4_far_59 : decode cX4_far 59 = .ok (.dup2, 1) := by decide +kernel
theorem dX4_far_60 : decode cX4_far 60 = .ok (.iaload, 1) := by decide +kernel
theorem dX4_far_61 : decode cX4_far 61 = .ok (.iconst 1, 1) := by decide +kernel
theorem dX4_far_62 : decode cX4_far 62 = .ok (.iload_n 2, 1) := by decide +kernel
theorem dX4_far_63 : decode cX4_far 63 = .ok (.ishl, 1) := by decide +kernel
theorem dX4_far_64 : decode cX4_far 64 = .ok (.iconst (-1), 1) := by decide +kernel
theorem dX4_far_65 : decode cX4_far 65 = .ok (.ixor, 1) := by decide +kernel
theorem dX4_far_66 : decode cX4_far 66 = .ok (.iand, 1) := by decide +kernel
theorem dX4_far_67 : decode cX4_far 67 = .ok (.iastore, 1) := by decide +kernel
theorem dX4_far_68 : decode cX4_far 68 = .ok (.aload_n 0, 1) := by decide +kernel
theorem dX4_far_69 : decode cX4_far 69 = .ok (.getfield 10, 3) := by decide +kernel
theorem dX4_far_72 : decode cX4_far 72 = .ok (.getfield 217, 3) := by decide +kernel
theorem dX4_far_75 : decode cX4_far 75 = .ok (.iload_n 2, 1) := by decide +kernel
theorem dX4_far_76 : decode cX4_far 76 = .ok (.dup2, 1) := by decide +kernel
theorem dX4_far_77 : decode cX4_far 77 = .ok (.iaload, 1) := by decide +kernel
theorem dX4_far_78 : decode cX4_far 78 = .ok (.iconst 1, 1) := by decide +kernel
theorem dX4_far_79 : decode cX4_far 79 = .ok (.iload_n 1, 1) := by decide +kernel
theorem dX4_far_80 : decode cX4_far 80 = .ok (.ishl, 1) := by decide +kernel
theorem dX4_far_81 : decode cX4_far 81 = .ok (.iconst (-1), 1) := by decide +kernel
theorem dX4_far_82 : decode cX4_far 82 = .ok (.ixor, 1) := by decide +kernel
theorem dX4_far_83 : decode cX4_far 83 = .ok (.iand, 1) := by decide +kernel
theorem dX4_far_84 : decode cX4_far 84 = .ok (.iastore, 1) := by decide +kernel
theorem dX4_far_85 : decode cX4_far 85 = .ok (.iconst 1, 1) := by decide +kernel
theorem dX4_far_86 : decode cX4_far 86 = .ok (.ireturn, 1) := by decide +kernel
theorem dX4_tie_0 : decode cX4_tie 0 = .ok (.aload_n 0, 1) := by decide +kernel
theorem dX4_tie_1 : decode cX4_tie 1 = .ok (.getfield 42, 3) := by decide +kernel
theorem dX4_tie_4 : decode cX4_tie 4 = .ok (.getfield 115, 3) := by decide +kernel
theorem dX4_tie_7 : decode cX4_tie 7 = .ok (.ifCond .eq 14, 3) := by decide +kernel
theorem dX4_tie_10 : decode cX4_tie 10 = .ok (.aload_n 0, 1) := by decide +kernel
theorem dX4_tie_11 : decode cX4_tie 11 = .ok (.invokevirtual 220, 3) := by decide +kernel
theorem dX4_tie_14 : decode cX4_tie 14 = .ok (.iload_n 1, 1) := by decide +kernel
theorem dX4_tie_15 : decode cX4_tie 15 = .ok (.invokestatic 172, 3) := by decide +kernel
theorem dX4_tie_18 : decode cX4_tie 18 = .ok (.goto 4, 3) := by decide +kernel
theorem dX4_tie_21 : decode cX4_tie 21 = .ok (.iconst (-1), 1) := by decide +kernel
theorem dX4_tie_22 : decode cX4_tie 22 = .ok (.ireturn, 1) := by decide +kernel
theorem dX4_within_0 : decode cX4_within 0 = .ok (.lload_n 0, 1) := by decide +kernel
theorem dX4_within_1 : decode cX4_within 1 = .ok (.lconst 0, 1) := by decide +kernel
theorem dX4_within_2 : decode cX4_within 2 = .ok (.lcmp, 1) := by decide +kernel
theorem dX4_within_3 : decode cX4_within 3 = .ok (.ifCond .lt 13, 3) := by decide +kernel
theorem dX4_within_6 : decode cX4_within 6 = .ok (.lload_n 0, 1) := by decide +kernel
theorem dX4_within_7 : decode cX4_within 7 = .ok (.lload_n 2, 1) := by decide +kernel
theorem dX4_within_8 : decode cX4_within 8 = .ok (.lcmp, 1) := by decide +kernel
theorem dX4_within_9 : decode cX4_within 9 = .ok (.ifCond .gt 7, 3) := by decide +kernel
theorem dX4_within_12 : decode cX4_within 12 = .ok (.iconst 1, 1) := by decide +kernel
theorem dX4_within_13 : decode cX4_within 13 = .ok (.goto 4, 3) := by decide +kernel
theorem dX4_within_16 : decode cX4_within 16 = .ok (.iconst 0, 1) := by decide +kernel
theorem dX4_within_17 : decode cX4_within 17 = .ok (.ireturn, 1) := by decide +kernel
theorem dX4_isShare_0 : decode cX4_isShare 0 = .ok (.lload_n 0, 1) := by decide +kernel
theorem dX4_isShare_1 : decode cX4_isShare 1 = .ok (.lconst 0, 1) := by decide +kernel
theorem dX4_isShare_2 : decode cX4_isShare 2 = .ok (.lcmp, 1) := by decide +kernel
theorem dX4_isShare_3 : decode cX4_isShare 3 = .ok (.ifCond .lt 27, 3) := by decide +kernel
theorem dX4_isShare_6 : decode cX4_isShare 6 = .ok (.lload_n 0, 1) := by decide +kernel
theorem dX4_isShare_7 : decode cX4_isShare 7 = .ok (.lload_n 2, 1) := by decide +kernel
theorem dX4_isShare_8 : decode cX4_isShare 8 = .ok (.lcmp, 1) := by decide +kernel
theorem dX4_isShare_9 : decode cX4_isShare 9 = .ok (.ifCond .gt 21, 3) := by decide +kernel
theorem dX4_isShare_12 : decode cX4_isShare 12 = .ok (.lload_n 2, 1) := by decide +kernel
theorem dX4_isShare_13 : decode cX4_isShare 13 = .ok (.lconst 1, 1) := by decide +kernel
theorem dX4_isShare_14 : decode cX4_isShare 14 = .ok (.lcmp, 1) := by decide +kernel
theorem dX4_isShare_15 : decode cX4_isShare 15 = .ok (.ifCond .lt 15, 3) := by decide +kernel
theorem dX4_isShare_18 : decode cX4_isShare 18 = .ok (.lload_n 2, 1) := by decide +kernel
theorem dX4_isShare_19 : decode cX4_isShare 19 = .ok (.ldc2_w 223, 3) := by decide +kernel
theorem dX4_isShare_22 : decode cX4_isShare 22 = .ok (.lcmp, 1) := by decide +kernel
theorem dX4_isShare_23 : decode cX4_isShare 23 = .ok (.ifCond .gt 7, 3) := by decide +kernel
theorem dX4_isShare_26 : decode cX4_isShare 26 = .ok (.iconst 1, 1) := by decide +kernel
theorem dX4_isShare_27 : decode cX4_isShare 27 = .ok (.goto 4, 3) := by decide +kernel
theorem dX4_isShare_30 : decode cX4_isShare 30 = .ok (.iconst 0, 1) := by decide +kernel
theorem dX4_isShare_31 : decode cX4_isShare 31 = .ok (.ireturn, 1) := by decide +kernel
theorem dX4_isKind_0 : decode cX4_isKind 0 = .ok (.iload_n 0, 1) := by decide +kernel
theorem dX4_isKind_1 : decode cX4_isKind 1 = .ok (.ifCond .lt 13, 3) := by decide +kernel
theorem dX4_isKind_4 : decode cX4_isKind 4 = .ok (.iload_n 0, 1) := by decide +kernel
theorem dX4_isKind_5 : decode cX4_isKind 5 = .ok (.bipush 8, 2) := by decide +kernel
theorem dX4_isKind_7 : decode cX4_isKind 7 = .ok (.if_icmp .ge 7, 3) := by decide +kernel
theorem dX4_isKind_10 : decode cX4_isKind 10 = .ok (.iconst 1, 1) := by decide +kernel
theorem dX4_isKind_11 : decode cX4_isKind 11 = .ok (.goto 4, 3) := by decide +kernel
theorem dX4_isKind_14 : decode cX4_isKind 14 = .ok (.iconst 0, 1) := by decide +kernel
theorem dX4_isKind_15 : decode cX4_isKind 15 = .ok (.ireturn, 1) := by decide +kernel
theorem dX4_isPort_0 : decode cX4_isPort 0 = .ok (.iload_n 0, 1) := by decide +kernel
theorem dX4_isPort_1 : decode cX4_isPort 1 = .ok (.ifCond .lt 12, 3) := by decide +kernel
theorem dX4_isPort_4 : decode cX4_isPort 4 = .ok (.iload_n 0, 1) := by decide +kernel
theorem dX4_isPort_5 : decode cX4_isPort 5 = .ok (.iconst 4, 1) := by decide +kernel
theorem dX4_isPort_6 : decode cX4_isPort 6 = .ok (.if_icmp .ge 7, 3) := by decide +kernel
theorem dX4_isPort_9 : decode cX4_isPort 9 = .ok (.iconst 1, 1) := by decide +kernel
theorem dX4_isPort_10 : decode cX4_isPort 10 = .ok (.goto 4, 3) := by decide +kernel
theorem dX4_isPort_13 : decode cX4_isPort 13 = .ok (.iconst 0, 1) := by decide +kernel
theorem dX4_isPort_14 : decode cX4_isPort 14 = .ok (.ireturn, 1) := by decide +kernel
theorem dX4_hasBit_0 : decode cX4_hasBit 0 = .ok (.iload_n 0, 1) := by decide +kernel
theorem dX4_hasBit_1 : decode cX4_hasBit 1 = .ok (.iload_n 1, 1) := by decide +kernel
theorem dX4_hasBit_2 : decode cX4_hasBit 2 = .ok (.iushr, 1) := by decide +kernel
theorem dX4_hasBit_3 : decode cX4_hasBit 3 = .ok (.iconst 1, 1) := by decide +kernel
theorem dX4_hasBit_4 : decode cX4_hasBit 4 = .ok (.iand, 1) := by decide +kernel
theorem dX4_hasBit_5 : decode cX4_hasBit 5 = .ok (.ifCond .eq 7, 3) := by decide +kernel
theorem dX4_hasBit_8 : decode cX4_hasBit 8 = .ok (.iconst 1, 1) := by decide +kernel
theorem dX4_hasBit_9 : decode cX4_hasBit 9 = .ok (.goto 4, 3) := by decide +kernel
theorem dX4_hasBit_12 : decode cX4_hasBit 12 = .ok (.iconst 0, 1) := by decide +kernel
theorem dX4_hasBit_13 : decode cX4_hasBit 13 = .ok (.ireturn, 1) := by decide +kernel
theorem dX4_placeOfBit_0 : decode cX4_placeOfBit 0 = .ok (.iconst 0, 1) := by decide +kernel
theorem dX4_placeOfBit_1 : decode cX4_placeOfBit 1 = .ok (.istore_n 2, 1) := by decide +kernel
theorem dX4_placeOfBit_2 : decode cX4_placeOfBit 2 = .ok (.iconst 0, 1) := by decide +kernel
theorem dX4_placeOfBit_3 : decode cX4_placeOfBit 3 = .ok (.istore_n 3, 1) := by decide +kernel
theorem dX4_placeOfBit_4 : decode cX4_placeOfBit 4 = .ok (.iload_n 3, 1) := by decide +kernel
theorem dX4_placeOfBit_5 : decode cX4_placeOfBit 5 = .ok (.bipush 24, 2) := by decide +kernel
theorem dX4_placeOfBit_7 : decode cX4_placeOfBit 7 = .ok (.if_icmp .ge 27, 3) := by decide +kernel
theorem dX4_placeOfBit_10 : decode cX4_placeOfBit 10 = .ok (.iload_n 0, 1) := by decide +kernel
theorem dX4_placeOfBit_11 : decode cX4_placeOfBit 11 = .ok (.iload_n 3, 1) := by decide +kernel
theorem dX4_placeOfBit_12 : decode cX4_placeOfBit 12 = .ok (.invokestatic 120, 3) := by decide +kernel
theorem dX4_placeOfBit_15 : decode cX4_placeOfBit 15 = .ok (.ifCond .eq 13, 3) := by decide +kernel
theorem dX4_placeOfBit_18 : decode cX4_placeOfBit 18 = .ok (.iload_n 2, 1) := by decide +kernel
theorem dX4_placeOfBit_19 : decode cX4_placeOfBit 19 = .ok (.iload_n 1, 1) := by decide +kernel
theorem dX4_placeOfBit_20 : decode cX4_placeOfBit 20 = .ok (.if_icmp .ne 5, 3) := by decide +kernel
theorem dX4_placeOfBit_23 : decode cX4_placeOfBit 23 = .ok (.iload_n 3, 1) := by decide +kernel
theorem dX4_placeOfBit_24 : decode cX4_placeOfBit 24 = .ok (.ireturn, 1) := by decide +kernel
theorem dX4_placeOfBit_25 : decode cX4_placeOfBit 25 = .ok (.iinc 2 1, 3) := by decide +kernel
theorem dX4_placeOfBit_28 : decode cX4_placeOfBit 28 = .ok (.iinc 3 1, 3) := by decide +kernel
theorem dX4_placeOfBit_31 : decode cX4_placeOfBit 31 = .ok (.goto (-27), 3) := by decide +kernel
theorem dX4_placeOfBit_34 : decode cX4_placeOfBit 34 = .ok (.iconst (-1), 1) := by decide +kernel
theorem dX4_placeOfBit_35 : decode cX4_placeOfBit 35 = .ok (.ireturn, 1) := by decide +kernel
theorem dX4_partOf_0 : decode cX4_partOf 0 = .ok (.iload 4, 2) := by decide +kernel
theorem dX4_partOf_2 : decode cX4_partOf 2 = .ok (.ifCond .eq 13, 3) := by decide +kernel
theorem dX4_partOf_5 : decode cX4_partOf 5 = .ok (.iload 4, 2) := by decide +kernel
theorem dX4_partOf_7 : decode cX4_partOf 7 = .ok (.iconst 1, 1) := by decide +kernel
theorem dX4_partOf_8 : decode cX4_partOf 8 = .ok (.if_icmp .eq 7, 3) := by decide +kernel
theorem dX4_partOf_11 : decode cX4_partOf 11 = .ok (.ldc2_w 54, 3) := by decide +kernel
theorem dX4_partOf_14 : decode cX4_partOf 14 = .ok (.lreturn, 1) := by decide +kernel
theorem dX4_partOf_15 : decode cX4_partOf 15 = .ok (.lload_n 0, 1) := by decide +kernel
theorem dX4_partOf_16 : decode cX4_partOf 16 = .ok (.lconst 0, 1) := by decide +kernel
theorem dX4_partOf_17 : decode cX4_partOf 17 = .ok (.lcmp, 1) := by decide +kernel
theorem dX4_partOf_18 : decode cX4_partOf 18 = .ok (.ifCond .eq 9, 3) := by decide +kernel
theorem dX4_partOf_21 : decode cX4_partOf 21 = .ok (.lload_n 2, 1) := by decide +kernel
theorem dX4_partOf_22 : decode cX4_partOf 22 = .ok (.lconst 0, 1) := by decide +kernel
theorem dX4_partOf_23 : decode cX4_partOf 23 = .ok (.lcmp, 1) := by decide +kernel
theorem dX4_partOf_24 : decode cX4_partOf 24 = .ok (.ifCond .ne 7, 3) := by decide +kernel
theorem dX4_partOf_27 : decode cX4_partOf 27 = .ok (.iload 4, 2) := by decide +kernel
theorem dX4_partOf_29 : decode cX4_partOf 29 = .ok (.i2l, 1) := by decide +kernel
theorem dX4_partOf_30 : decode cX4_partOf 30 = .ok (.lreturn, 1) := by decide +kernel
theorem dX4_partOf_31 : decode cX4_partOf 31 = .ok (.lload_n 0, 1) := by decide +kernel
theorem dX4_partOf_32 : decode cX4_partOf 32 = .ok (.lload_n 2, 1) := by decide +kernel
theorem dX4_partOf_33 : decode cX4_partOf 33 = .ok (.invokestatic 225, 3) := by decide +kernel
theorem dX4_partOf_36 : decode cX4_partOf 36 = .ok (.lstore 5, 2) := by decide +kernel
theorem dX4_partOf_38 : decode cX4_partOf 38 = .ok (.iload 4, 2) := by decide +kernel
theorem dX4_partOf_40 : decode cX4_partOf 40 = .ok (.ifCond .ne 7, 3) := by decide +kernel
theorem dX4_partOf_43 : decode cX4_partOf 43 = .ok (.lload_n 0, 1) := by decide +kernel
theorem dX4_partOf_44 : decode cX4_partOf 44 = .ok (.goto 4, 3) := by decide +kernel
theorem dX4_partOf_47 : decode cX4_partOf 47 = .ok (.lload_n 2, 1) := by decide +kernel
theorem dX4_partOf_48 : decode cX4_partOf 48 = .ok (.lload 5, 2) := by decide +kernel
theorem dX4_partOf_50 : decode cX4_partOf 50 = .ok (.ldiv, 1) := by decide +kernel
theorem dX4_partOf_51 : decode cX4_partOf 51 = .ok (.lreturn, 1) := by decide +kernel
theorem dX4_commonDivisor_0 : decode cX4_commonDivisor 0 = .ok (.lload_n 0, 1) := by decide +kernel
theorem dX4_commonDivisor_1 : decode cX4_commonDivisor 1 = .ok (.lstore 4, 2) := by decide +kernel
theorem dX4_commonDivisor_3 : decode cX4_commonDivisor 3 = .ok (.lload_n 2, 1) := by decide +kernel
theorem dX4_commonDivisor_4 : decode cX4_commonDivisor 4 = .ok (.lstore 6, 2) := by decide +kernel
theorem dX4_commonDivisor_6 : decode cX4_commonDivisor 6 = .ok (.iconst 0, 1) := by decide +kernel
theorem dX4_commonDivisor_7 : decode cX4_commonDivisor 7 = .ok (.istore 8, 2) := by decide +kernel
theorem dX4_commonDivisor_9 : decode cX4_commonDivisor 9 = .ok (.iload 8, 2) := by decide +kernel
theorem dX4_commonDivisor_11 : decode cX4_commonDivisor 11 = .ok (.bipush 100, 2) := by decide +kernel
theorem dX4_commonDivisor_13 : decode cX4_commonDivisor 13 = .ok (.if_icmp .ge 31, 3) := by decide +kernel
theorem dX4_commonDivisor_16 : decode cX4_commonDivisor 16 = .ok (.lload 6, 2) := by decide +kernel
theorem dX4_commonDivisor_18 : decode cX4_commonDivisor 18 = .ok (.lconst 0, 1) := by decide +kernel
theorem dX4_commonDivisor_19 : decode cX4_commonDivisor 19 = .ok (.lcmp, 1) := by decide +kernel
theorem dX4_commonDivisor_20 : decode cX4_commonDivisor 20 = .ok (.ifCond .eq 24, 3) := by decide +kernel
theorem dX4_commonDivisor_23 : decode cX4_commonDivisor 23 = .ok (.lload 4, 2) := by decide +kernel
theorem dX4_commonDivisor_25 : decode cX4_commonDivisor 25 = .ok (.lload 6, 2) := by decide +kernel
theorem dX4_commonDivisor_27 : decode cX4_commonDivisor 27 = .ok (.lrem, 1) := by decide +kernel
theorem dX4_commonDivisor_28 : decode cX4_commonDivisor 28 = .ok (.lstore 9, 2) := by decide +kernel
theorem dX4_commonDivisor_30 : decode cX4_commonDivisor 30 = .ok (.lload 6, 2) := by decide +kernel
theorem dX4_commonDivisor_32 : decode cX4_commonDivisor 32 = .ok (.lstore 4, 2) := by decide +kernel
theorem dX4_commonDivisor_34 : decode cX4_commonDivisor 34 = .ok (.lload 9, 2) := by decide +kernel
theorem dX4_commonDivisor_36 : decode cX4_commonDivisor 36 = .ok (.lstore 6, 2) := by decide +kernel
theorem dX4_commonDivisor_38 : decode cX4_commonDivisor 38 = .ok (.iinc 8 1, 3) := by decide +kernel
theorem dX4_commonDivisor_41 : decode cX4_commonDivisor 41 = .ok (.goto (-32), 3) := by decide +kernel
theorem dX4_commonDivisor_44 : decode cX4_commonDivisor 44 = .ok (.lload 4, 2) := by decide +kernel
theorem dX4_commonDivisor_46 : decode cX4_commonDivisor 46 = .ok (.lconst 0, 1) := by decide +kernel
theorem dX4_commonDivisor_47 : decode cX4_commonDivisor 47 = .ok (.lcmp, 1) := by decide +kernel
theorem dX4_commonDivisor_48 : decode cX4_commonDivisor 48 = .ok (.ifCond .ne 7, 3) := by decide +kernel
theorem dX4_commonDivisor_51 : decode cX4_commonDivisor 51 = .ok (.lconst 1, 1) := by decide +kernel
theorem dX4_commonDivisor_52 : decode cX4_commonDivisor 52 = .ok (.goto 5, 3) := by decide +kernel
theorem dX4_commonDivisor_55 : decode cX4_commonDivisor 55 = .ok (.lload 4, 2) := by decide +kernel
theorem dX4_commonDivisor_57 : decode cX4_commonDivisor 57 = .ok (.lreturn, 1) := by decide +kernel
theorem dX4_findClashes_0 : decode cX4_findClashes 0 = .ok (.aload_n 0, 1) := by decide +kernel
theorem dX4_findClashes_1 : decode cX4_findClashes 1 = .ok (.getfield 21, 3) := by decide +kernel
theorem dX4_findClashes_4 : decode cX4_findClashes 4 = .ok (.aload_n 0, 1) := by decide +kernel
theorem dX4_findClashes_5 : decode cX4_findClashes 5 = .ok (.getfield 10, 3) := by decide +kernel
theorem dX4_findClashes_8 : decode cX4_findClashes 8 = .ok (.invokevirtual 229, 3) := by decide +kernel
theorem dX4_findClashes_11 : decode cX4_findClashes 11 = .ok (.invokevirtual 160, 3) := by decide +kernel
theorem dX4_findClashes_14 : decode cX4_findClashes 14 = .ok (.iconst 0, 1) := by decide +kernel
theorem dX4_findClashes_15 : decode cX4_findClashes 15 = .ok (.istore_n 1, 1) := by decide +kernel
theorem dX4_findClashes_16 : decode cX4_findClashes 16 = .ok (.iconst 0, 1) := by decide +kernel
theorem dX4_findClashes_17 : decode cX4_findClashes 17 = .ok (.istore_n 2, 1) := by decide +kernel
theorem dX4_findClashes_18 : decode cX4_findClashes 18 = .ok (.iload_n 2, 1) := by decide +kernel
theorem dX4_findClashes_19 : decode cX4_findClashes 19 = .ok (.bipush 8, 2) := by decide +kernel
theorem dX4_findClashes_21 : decode cX4_findClashes 21 = .ok (.if_icmp .ge 26, 3) := by decide +kernel
theorem dX4_findClashes_24 : decode cX4_findClashes 24 = .ok (.aload_n 0, 1) := by decide +kernel
theorem dX4_findClashes_25 : decode cX4_findClashes 25 = .ok (.getfield 21, 3) := by decide +kernel
theorem dX4_findClashes_28 : decode cX4_findClashes 28 = .ok (.iload_n 2, 1) := by decide +kernel
theorem dX4_findClashes_29 : decode cX4_findClashes 29 = .ok (.invokevirtual 232, 3) := by decide +kernel
theorem dX4_findClashes_32 : decode cX4_findClashes 32 = .ok (.ifCond .ne 9, 3) := by decide +kernel
theorem dX4_findClashes_35 : decode cX4_findClashes 35 = .ok (.iload_n 1, 1) := by decide +kernel
theorem dX4_findClashes_36 : decode cX4_findClashes 36 = .ok (.iconst 1, 1) := by decide +kernel
theorem dX4_findClashes_37 : decode cX4_findClashes 37 = .ok (.iload_n 2, 1) := by decide +kernel
theorem dX4_findClashes_38 : decode cX4_findClashes 38 = .ok (.ishl, 1) := by decide +kernel
theorem dX4_findClashes_39 : decode cX4_findClashes 39 = .ok (.ior, 1) := by decide +kernel
theorem dX4_findClashes_40 : decode cX4_findClashes 40 = .ok (.istore_n 1, 1) := by decide +kernel
theorem dX4_findClashes_41 : decode cX4_findClashes 41 = .ok (.iinc 2 1, 3) := by decide +kernel
theorem dX4_findClashes_44 : decode cX4_findClashes 44 = .ok (.goto (-26), 3) := by decide +kernel
theorem dX4_findClashes_47 : decode cX4_findClashes 47 = .ok (.iload_n 1, 1) := by decide +kernel
theorem dX4_findClashes_48 : decode cX4_findClashes 48 = .ok (.ireturn, 1) := by decide +kernel
theorem dX4_search_0 : decode cX4_search 0 = .ok (.aload_n 0, 1) := by decide +kernel
theorem dX4_search_1 : decode cX4_search 1 = .ok (.invokevirtual 235, 3) := by decide +kernel
theorem dX4_search_4 : decode cX4_search 4 = .ok (.istore_n 1, 1) := by decide +kernel
theorem dX4_search_5 : decode cX4_search 5 = .ok (.iconst 1, 1) := by decide +kernel
theorem dX4_search_6 : decode cX4_search 6 = .ok (.iload_n 1, 1) := by decide +kernel
theorem dX4_search_7 : decode cX4_search 7 = .ok (.ishl, 1) := by decide +kernel
theorem dX4_search_8 : decode cX4_search 8 = .ok (.istore_n 2, 1) := by decide +kernel
theorem dX4_search_9 : decode cX4_search 9 = .ok (.aload_n 0, 1) := by decide +kernel
theorem dX4_search_10 : decode cX4_search 10 = .ok (.getfield 21, 3) := by decide +kernel
theorem dX4_search_13 : decode cX4_search 13 = .ok (.aload_n 0, 1) := by decide +kernel
theorem dX4_search_14 : decode cX4_search 14 = .ok (.getfield 10, 3) := by decide +kernel
theorem dX4_search_17 : decode cX4_search 17 = .ok (.getfield 109, 3) := by decide +kernel
theorem dX4_search_20 : decode cX4_search 20 = .ok (.invokevirtual 160, 3) := by decide +kernel
theorem dX4_search_23 : decode cX4_search 23 = .ok (.aload_n 0, 1) := by decide +kernel
theorem dX4_search_24 : decode cX4_search 24 = .ok (.invokevirtual 238, 3) := by decide +kernel
theorem dX4_search_27 : decode cX4_search 27 = .ok (.iconst 1, 1) := by decide +kernel
theorem dX4_search_28 : decode cX4_search 28 = .ok (.istore_n 3, 1) := by decide +kernel
theorem dX4_search_29 : decode cX4_search 29 = .ok (.iload_n 3, 1) := by decide +kernel
theorem dX4_search_30 : decode cX4_search 30 = .ok (.iload_n 2, 1) := by decide +kernel
theorem dX4_search_31 : decode cX4_search 31 = .ok (.if_icmp .ge 44, 3) := by decide +kernel
theorem dX4_search_34 : decode cX4_search 34 = .ok (.iload_n 3, 1) := by decide +kernel
theorem dX4_search_35 : decode cX4_search 35 = .ok (.iload_n 3, 1) := by decide +kernel
theorem dX4_search_36 : decode cX4_search 36 = .ok (.ineg, 1) := by decide +kernel
theorem dX4_search_37 : decode cX4_search 37 = .ok (.iand, 1) := by decide +kernel
theorem dX4_search_38 : decode cX4_search 38 = .ok (.iconst 1, 1) := by decide +kernel
theorem dX4_search_39 : decode cX4_search 39 = .ok (.isub, 1) := by decide +kernel
theorem dX4_search_40 : decode cX4_search 40 = .ok (.invokestatic 142, 3) := by decide +kernel
theorem dX4_search_43 : decode cX4_search 43 = .ok (.istore 4, 2) := by decide +kernel
theorem dX4_search_45 : decode cX4_search 45 = .ok (.iload 4, 2) := by decide +kernel
theorem dX4_search_47 : decode cX4_search 47 = .ok (.iload_n 1, 1) := by decide +kernel
theorem dX4_search_48 : decode cX4_search 48 = .ok (.if_icmp .ge 21, 3) := by decide +kernel
theorem dX4_search_51 : decode cX4_search 51 = .ok (.aload_n 0, 1) := by decide +kernel
theorem dX4_search_52 : decode cX4_search 52 = .ok (.getfield 21, 3) := by decide +kernel
theorem dX4_search_55 : decode cX4_search 55 = .ok (.aload_n 0, 1) := by decide +kernel
theorem dX4_search_56 : decode cX4_search 56 = .ok (.getfield 46, 3) := by decide +kernel
theorem dX4_search_59 : decode cX4_search 59 = .ok (.iload 4, 2) := by decide +kernel
theorem dX4_search_61 : decode cX4_search 61 = .ok (.iaload, 1) := by decide +kernel
theorem dX4_search_62 : decode cX4_search 62 = .ok (.invokevirtual 241, 3) := by decide +kernel
theorem dX4_search_65 : decode cX4_search 65 = .ok (.aload_n 0, 1) := by decide +kernel
theorem dX4_search_66 : decode cX4_search 66 = .ok (.invokevirtual 238, 3) := by decide +kernel
theorem dX4_search_69 : decode cX4_search 69 = .ok (.iinc 3 1, 3) := by decide +kernel
theorem dX4_search_72 : decode cX4_search 72 = .ok (.goto (-43), 3) := by decide +kernel
theorem dX4_search_75 : decode cX4_search 75 = .ok (.return_, 1) := by decide +kernel
theorem dX4_considerTally_0 : decode cX4_considerTally 0 = .ok (.aload_n 0, 1) := by decide +kernel
theorem dX4_considerTally_1 : decode cX4_considerTally 1 = .ok (.getfield 21, 3) := by decide +kernel
theorem dX4_considerTally_4 : decode cX4_considerTally 4 = .ok (.invokevirtual 181, 3) := by decide +kernel
theorem dX4_considerTally_7 : decode cX4_considerTally 7 = .ok (.lstore_n 1, 1) := by decide +kernel
theorem dX4_considerTally_8 : decode cX4_considerTally 8 = .ok (.aload_n 0, 1) := by decide +kernel
theorem dX4_considerTally_9 : decode cX4_considerTally 9 = .ok (.getfield 42, 3) := by decide +kernel
theorem dX4_considerTally_12 : decode cX4_considerTally 12 = .ok (.aload_n 0, 1) := by decide +kernel
theorem dX4_considerTally_13 : decode cX4_considerTally 13 = .ok (.getfield 21, 3) := by decide +kernel
theorem dX4_considerTally_16 : decode cX4_considerTally 16 = .ok (.getfield 180, 3) := by decide +kernel
theorem dX4_considerTally_19 : decode cX4_considerTally 19 = .ok (.lload_n 1, 1) := by decide +kernel
theorem dX4_considerTally_20 : decode cX4_considerTally 20 = .ok (.invokevirtual 244, 3) := by decide +kernel
theorem dX4_considerTally_23 : decode cX4_considerTally 23 = .ok (.ifCond .eq 28, 3) := by decide +kernel
theorem dX4_considerTally_26 : decode cX4_considerTally 26 = .ok (.aload_n 0, 1) := by decide +kernel
theorem dX4_considerTally_27 : decode cX4_considerTally 27 = .ok (.getfield 21, 3) := by decide +kernel
theorem dX4_considerTally_30 : decode cX4_considerTally 30 = .ok (.invokevirtual 248, 3) := by decide +kernel
theorem dX4_considerTally_33 : decode cX4_considerTally 33 = .ok (.ifCond .eq 18, 3) := by decide +kernel
theorem dX4_considerTally_36 : decode cX4_considerTally 36 = .ok (.aload_n 0, 1) := by decide +kernel
theorem dX4_considerTally_37 : decode cX4_considerTally 37 = .ok (.getfield 42, 3) := by decide +kernel
theorem dX4_considerTally_40 : decode cX4_considerTally 40 = .ok (.aload_n 0, 1) := by decide +kernel
theorem dX4_considerTally_41 : decode cX4_considerTally 41 = .ok (.getfield 21, 3) := by decide +kernel
theorem dX4_considerTally_44 : decode cX4_considerTally 44 = .ok (.getfield 180, 3) := by decide +kernel
theorem dX4_considerTally_47 : decode cX4_considerTally 47 = .ok (.lload_n 1, 1) := by decide +kernel
theorem dX4_considerTally_48 : decode cX4_considerTally 48 = .ok (.invokevirtual 184, 3) := by decide +kernel
theorem dX4_considerTally_51 : decode cX4_considerTally 51 = .ok (.return_, 1) := by decide +kernel
theorem dX4_listFreeCells_0 : decode cX4_listFreeCells 0 = .ok (.aload_n 0, 1) := by decide +kernel
theorem dX4_listFreeCells_1 : decode cX4_listFreeCells 1 = .ok (.getfield 10, 3) := by decide +kernel
theorem dX4_listFreeCells_4 : decode cX4_listFreeCells 4 = .ok (.invokevirtual 139, 3) := by decide +kernel
theorem dX4_listFreeCells_7 : decode cX4_listFreeCells 7 = .ok (.istore_n 1, 1) := by decide +kernel
theorem dX4_listFreeCells_8 : decode cX4_listFreeCells 8 = .ok (.iconst 0, 1) := by decide +kernel
theorem dX4_listFreeCells_9 : decode cX4_listFreeCells 9 = .ok (.istore_n 2, 1) := by decide +kernel
theorem dX4_listFreeCells_10 : decode cX4_listFreeCells 10 = .ok (.iconst 0, 1) := by decide +kernel
theorem dX4_listFreeCells_11 : decode cX4_listFreeCells 11 = .ok (.istore_n 3, 1) := by decide +kernel
theorem dX4_listFreeCells_12 : decode cX4_listFreeCells 12 = .ok (.iload_n 3, 1) := by decide +kernel
theorem dX4_listFreeCells_13 : decode cX4_listFreeCells 13 = .ok (.aload_n 0, 1) := by decide +kernel
theorem dX4_listFreeCells_14 : decode cX4_listFreeCells 14 = .ok (.getfield 10, 3) := by decide +kernel
theorem dX4_listFreeCells_17 : decode cX4_listFreeCells 17 = .ok (.getfield 60, 3) := by decide +kernel
theorem dX4_listFreeCells_20 : decode cX4_listFreeCells 20 = .ok (.if_icmp .ge 27, 3) := by decide +kernel
theorem dX4_listFreeCells_23 : decode cX4_listFreeCells 23 = .ok (.iload_n 1, 1) := by decide +kernel
theorem dX4_listFreeCells_24 : decode cX4_listFreeCells 24 = .ok (.iload_n 3, 1) := by decide +kernel
theorem dX4_listFreeCells_25 : decode cX4_listFreeCells 25 = .ok (.invokestatic 120, 3) := by decide +kernel
theorem dX4_listFreeCells_28 : decode cX4_listFreeCells 28 = .ok (.ifCond .eq 13, 3) := by decide +kernel
theorem dX4_listFreeCells_31 : decode cX4_listFreeCells 31 = .ok (.aload_n 0, 1) := by decide +kernel
theorem dX4_listFreeCells_32 : decode cX4_listFreeCells 32 = .ok (.getfield 46, 3) := by decide +kernel
theorem dX4_listFreeCells_35 : decode cX4_listFreeCells 35 = .ok (.iload_n 2, 1) := by decide +kernel
theorem dX4_listFreeCells_36 : decode cX4_listFreeCells 36 = .ok (.iload_n 3, 1) := by decide +kernel
theorem dX4_listFreeCells_37 : decode cX4_listFreeCells 37 = .ok (.iastore, 1) := by decide +kernel
theorem dX4_listFreeCells_38 : decode cX4_listFreeCells 38 = .ok (.iinc 2 1, 3) := by decide +kernel
theorem dX4_listFreeCells_41 : decode cX4_listFreeCells 41 = .ok (.iinc 3 1, 3) := by decide +kernel
theorem dX4_listFreeCells_44 : decode cX4_listFreeCells 44 = .ok (.goto (-32), 3) := by decide +kernel
theorem dX4_listFreeCells_47 : decode cX4_listFreeCells 47 = .ok (.iload_n 2, 1) := by decide +kernel
theorem dX4_listFreeCells_48 : decode cX4_listFreeCells 48 = .ok (.ireturn, 1) := by decide +kernel
theorem dX4_drawnMoves_0 : decode cX4_drawnMoves 0 = .ok (.aload_n 0, 1) := by decide +kernel
theorem dX4_drawnMoves_1 : decode cX4_drawnMoves 1 = .ok (.getfield 21, 3) := by decide +kernel
theorem dX4_drawnMoves_4 : decode cX4_drawnMoves 4 = .ok (.aload_n 0, 1) := by decide +kernel
theorem dX4_drawnMoves_5 : decode cX4_drawnMoves 5 = .ok (.getfield 10, 3) := by decide +kernel
theorem dX4_drawnMoves_8 : decode cX4_drawnMoves 8 = .ok (.invokevirtual 229, 3) := by decide +kernel
theorem dX4_drawnMoves_11 : decode cX4_drawnMoves 11 = .ok (.invokevirtual 160, 3) := by decide +kernel
theorem dX4_drawnMoves_14 : decode cX4_drawnMoves 14 = .ok (.aload_n 0, 1) := by decide +kernel
theorem dX4_drawnMoves_15 : decode cX4_drawnMoves 15 = .ok (.getfield 10, 3) := by decide +kernel
theorem dX4_drawnMoves_18 : decode cX4_drawnMoves 18 = .ok (.getfield 60, 3) := by decide +kernel
theorem dX4_drawnMoves_21 : decode cX4_drawnMoves 21 = .ok (.ifCond .eq 13, 3) := by decide +kernel
theorem dX4_drawnMoves_24 : decode cX4_drawnMoves 24 = .ok (.aload_n 0, 1) := by decide +kernel
theorem dX4_drawnMoves_25 : decode cX4_drawnMoves 25 = .ok (.getfield 21, 3) := by decide +kernel
theorem dX4_drawnMoves_28 : decode cX4_drawnMoves 28 = .ok (.invokevirtual 248, 3) := by decide +kernel
theorem dX4_drawnMoves_31 : decode cX4_drawnMoves 31 = .ok (.ifCond .ne 5, 3) := by decide +kernel
theorem dX4_drawnMoves_34 : decode cX4_drawnMoves 34 = .ok (.iconst (-1), 1) := by decide +kernel
theorem dX4_drawnMoves_35 : decode cX4_drawnMoves 35 = .ok (.ireturn, 1) := by decide +kernel
theorem dX4_drawnMoves_36 : decode cX4_drawnMoves 36 = .ok (.iconst 0, 1) := by decide +kernel
theorem dX4_drawnMoves_37 : decode cX4_drawnMoves 37 = .ok (.istore_n 3, 1) := by decide +kernel
theorem dX4_drawnMoves_38 : decode cX4_drawnMoves 38 = .ok (.aload_n 0, 1) := by decide +kernel
theorem dX4_drawnMoves_39 : decode cX4_drawnMoves 39 = .ok (.getfield 21, 3) := by decide +kernel
theorem dX4_drawnMoves_42 : decode cX4_drawnMoves 42 = .ok (.invokevirtual 181, 3) := by decide +kernel
theorem dX4_drawnMoves_45 : decode cX4_drawnMoves 45 = .ok (.lstore 4, 2) := by decide +kernel
theorem dX4_drawnMoves_47 : decode cX4_drawnMoves 47 = .ok (.iconst 0, 1) := by decide +kernel
theorem dX4_drawnMoves_48 : decode cX4_drawnMoves 48 = .ok (.istore 6, 2) := by decide +kernel
theorem dX4_drawnMoves_50 : decode cX4_drawnMoves 50 = .ok (.iload 6, 2) := by decide +kernel
theorem dX4_drawnMoves_52 : decode cX4_drawnMoves 52 = .ok (.iload_n 2, 1) := by decide +kernel
theorem dX4_drawnMoves_53 : decode cX4_drawnMoves 53 = .ok (.if_icmp .ge 81, 3) := by decide +kernel
theorem dX4_drawnMoves_56 : decode cX4_drawnMoves 56 = .ok (.aload_n 1, 1) := by decide +kernel
theorem dX4_drawnMoves_57 : decode cX4_drawnMoves 57 = .ok (.invokevirtual 252, 3) := by decide +kernel
theorem dX4_drawnMoves_60 : decode cX4_drawnMoves 60 = .ok (.aload_n 0, 1) := by decide +kernel
theorem dX4_drawnMoves_61 : decode cX4_drawnMoves 61 = .ok (.getfield 10, 3) := by decide +kernel
theorem dX4_drawnMoves_64 : decode cX4_drawnMoves 64 = .ok (.getfield 60, 3) := by decide +kernel
theorem dX4_drawnMoves_67 : decode cX4_drawnMoves 67 = .ok (.i2l, 1) := by decide +kernel
theorem dX4_drawnMoves_68 : decode cX4_drawnMoves 68 = .ok (.lrem, 1) := by decide +kernel
theorem dX4_drawnMoves_69 : decode cX4_drawnMoves 69 = .ok (.l2i, 1) := by decide +kernel
theorem dX4_drawnMoves_70 : decode cX4_drawnMoves 70 = .ok (.istore 7, 2) := by decide +kernel
theorem dX4_drawnMoves_72 : decode cX4_drawnMoves 72 = .ok (.aload_n 0, 1) := by decide +kernel
theorem dX4_drawnMoves_73 : decode cX4_drawnMoves 73 = .ok (.getfield 21, 3) := by decide +kernel
theorem dX4_drawnMoves_76 : decode cX4_drawnMoves 76 = .ok (.iload 7, 2) := by decide +kernel
theorem dX4_drawnMoves_78 : decode cX4_drawnMoves 78 = .ok (.invokevirtual 241, 3) := by decide +kernel
theorem dX4_drawnMoves_81 : decode cX4_drawnMoves 81 = .ok (.aload_n 0, 1) := by decide +kernel
theorem dX4_drawnMoves_82 : decode cX4_drawnMoves 82 = .ok (.getfield 21, 3) := by decide +kernel
theorem dX4_drawnMoves_85 : decode cX4_drawnMoves 85 = .ok (.invokevirtual 181, 3) := by decide +kernel
theorem dX4_drawnMoves_88 : decode cX4_drawnMoves 88 = .ok (.lload 4, 2) := by decide +kernel
theorem dX4_drawnMoves_90 : decode cX4_drawnMoves 90 = .ok (.lcmp, 1) := by decide +kernel
theorem dX4_drawnMoves_91 : decode cX4_drawnMoves 91 = .ok (.ifCond .ge 28, 3) := by decide +kernel
theorem dX4_drawnMoves_94 : decode cX4_drawnMoves 94 = .ok (.aload_n 0, 1) := by decide +kernel
theorem dX4_drawnMoves_95 : decode cX4_drawnMoves 95 = .ok (.getfield 21, 3) := by decide +kernel
theorem dX4_drawnMoves_98 : decode cX4_drawnMoves 98 = .ok (.invokevirtual 248, 3) := by decide +kernel
theorem dX4_drawnMoves_101 : decode cX4_drawnMoves 101 = .ok (.ifCond .eq 18, 3) := by decide +kernel
theorem dX4_drawnMoves_104 : decode cX4_drawnMoves 104 = .ok (.aload_n 0, 1) := by decide +kernel
theorem dX4_drawnMoves_105 : decode cX4_drawnMoves 105 = .ok (.getfield 21, 3) := by decide +kernel
theorem dX4_drawnMoves_108 : decode cX4_drawnMoves 108 = .ok (.invokevirtual 181, 3) := by decide +kernel
theorem dX4_drawnMoves_111 : decode cX4_drawnMoves 111 = .ok (.lstore 4, 2) := by decide +kernel
theorem dX4_drawnMoves_113 : decode cX4_drawnMoves 113 = .ok (.iinc 3 1, 3) := by decide +kernel
theorem dX4_drawnMoves_116 : decode cX4_drawnMoves 116 = .ok (.goto 12, 3) := by decide +kernel
theorem dX4_drawnMoves_119 : decode cX4_drawnMoves 119 = .ok (.aload_n 0, 1) := by decide +kernel
theorem dX4_drawnMoves_120 : decode cX4_drawnMoves 120 = .ok (.getfield 21, 3) := by decide +kernel
theorem dX4_drawnMoves_123 : decode cX4_drawnMoves 123 = .ok (.iload 7, 2) := by decide +kernel
theorem dX4_drawnMoves_125 : decode cX4_drawnMoves 125 = .ok (.invokevirtual 241, 3) := by decide +kernel
theorem dX4_drawnMoves_128 : decode cX4_drawnMoves 128 = .ok (.iinc 6 1, 3) := by decide +kernel
theorem dX4_drawnMoves_131 : decode cX4_drawnMoves 131 = .ok (.goto (-81), 3) := by decide +kernel
theorem dX4_drawnMoves_134 : decode cX4_drawnMoves 134 = .ok (.iload_n 3, 1) := by decide +kernel
theorem dX4_drawnMoves_135 : decode cX4_drawnMoves 135 = .ok (.ireturn, 1) := by decide +kernel
theorem dX4_findExchangeable_0 : decode cX4_findExchangeable 0 = .ok (.aload_n 0, 1) := by decide +kernel
theorem dX4_findExchangeable_1 : decode cX4_findExchangeable 1 = .ok (.getfield 10, 3) := by decide +kernel
theorem dX4_findExchangeable_4 : decode cX4_findExchangeable 4 = .ok (.invokevirtual 139, 3) := by decide +kernel
theorem dX4_findExchangeable_7 : decode cX4_findExchangeable 7 = .ok (.istore_n 1, 1) := by decide +kernel
theorem dX4_findExchangeable_8 : decode cX4_findExchangeable 8 = .ok (.iconst 0, 1) := by decide +kernel
theorem dX4_findExchangeable_9 : decode cX4_findExchangeable 9 = .ok (.istore_n 2, 1) := by decide +kernel
theorem dX4_findExchangeable_10 : decode cX4_findExchangeable 10 = .ok (.aload_n 0, 1) := by decide +kernel
theorem dX4_findExchangeable_11 : decode cX4_findExchangeable 11 = .ok (.getfield 21, 3) := by decide +kernel
theorem dX4_findExchangeable_14 : decode cX4_findExchangeable 14 = .ok (.aload_n 0, 1) := by decide +kernel
theorem dX4_findExchangeable_15 : decode cX4_findExchangeable 15 = .ok (.getfield 42, 3) := by decide +kernel
theorem dX4_findExchangeable_18 : decode cX4_findExchangeable 18 = .ok (.getfield 119, 3) := by decide +kernel
theorem dX4_findExchangeable_21 : decode cX4_findExchangeable 21 = .ok (.invokevirtual 160, 3) := by decide +kernel
theorem dX4_findExchangeable_24 : decode cX4_findExchangeable 24 = .ok (.aload_n 0, 1) := by decide +kernel
theorem dX4_findExchangeable_25 : decode cX4_findExchangeable 25 = .ok (.getfield 21, 3) := by decide +kernel
theorem dX4_findExchangeable_28 : decode cX4_findExchangeable 28 = .ok (.invokevirtual 181, 3) := by decide +kernel
theorem dX4_findExchangeable_31 : decode cX4_findExchangeable 31 = .ok (.lstore_n 3, 1) := by decide +kernel
theorem dX4_findExchangeable_32 : decode cX4_findExchangeable 32 = .ok (.iconst 0, 1) := by decide +kernel
theorem dX4_findExchangeable_33 : decode cX4_findExchangeable 33 = .ok (.istore 5, 2) := by decide +kernel
theorem dX4_findExchangeable_35 : decode cX4_findExchangeable 35 = .ok (.iload 5, 2) := by decide +kernel
theorem dX4_findExchangeable_37 : decode cX4_findExchangeable 37 = .ok (.aload_n 0, 1) := by decide +kernel
theorem dX4_findExchangeable_38 : decode cX4_findExchangeable 38 = .ok (.getfield 10, 3) := by decide +kernel
theorem dX4_findExchangeable_41 : decode cX4_findExchangeable 41 = .ok (.getfield 60, 3) := by decide +kernel
theorem dX4_findExchangeable_44 : decode cX4_findExchangeable 44 = .ok (.if_icmp .ge 65, 3) := by decide +kernel
theorem dX4_findExchangeable_47 : decode cX4_findExchangeable 47 = .ok (.iload_n 1, 1) := by decide +kernel
theorem dX4_findExchangeable_48 : decode cX4_findExchangeable 48 = .ok (.iload 5, 2) := by decide +kernel
theorem dX4_findExchangeable_50 : decode cX4_findExchangeable 50 = .ok (.invokestatic 120, 3) := by decide +kernel
theorem dX4_findExchangeable_53 : decode cX4_findExchangeable 53 = .ok (.ifCond .eq 50, 3) := by decide +kernel
theorem dX4_findExchangeable_56 : decode cX4_findExchangeable 56 = .ok (.aload_n 0, 1) := by decide +kernel
theorem dX4_findExchangeable_57 : decode cX4_findExchangeable 57 = .ok (.getfield 21, 3) := by decide +kernel
theorem dX4_findExchangeable_60 : decode cX4_findExchangeable 60 = .ok (.iload 5, 2) := by decide +kernel
theorem dX4_findExchangeable_62 : decode cX4_findExchangeable 62 = .ok (.invokevirtual 241, 3) := by decide +kernel
theorem dX4_findExchangeable_65 : decode cX4_findExchangeable 65 = .ok (.aload_n 0, 1) := by decide +kernel
theorem dX4_findExchangeable_66 : decode cX4_findExchangeable 66 = .ok (.getfield 21, 3) := by decide +kernel
theorem dX4_findExchangeable_69 : decode cX4_findExchangeable 69 = .ok (.invokevirtual 181, 3) := by decide +kernel
theorem dX4_findExchangeable_72 : decode cX4_findExchangeable 72 = .ok (.lload_n 3, 1) := by decide +kernel
theorem dX4_findExchangeable_73 : decode cX4_findExchangeable 73 = .ok (.lcmp, 1) := by decide +kernel
theorem dX4_findExchangeable_74 : decode cX4_findExchangeable 74 = .ok (.ifCond .ne 20, 3) := by decide +kernel
theorem dX4_findExchangeable_77 : decode cX4_findExchangeable 77 = .ok (.aload_n 0, 1) := by decide +kernel
theorem dX4_findExchangeable_78 : decode cX4_findExchangeable 78 = .ok (.getfield 21, 3) := by decide +kernel
theorem dX4_findExchangeable_81 : decode cX4_findExchangeable 81 = .ok (.invokevirtual 248, 3) := by decide +kernel
theorem dX4_findExchangeable_84 : decode cX4_findExchangeable 84 = .ok (.ifCond .eq 10, 3) := by decide +kernel
theorem dX4_findExchangeable_87 : decode cX4_findExchangeable 87 = .ok (.iload_n 2, 1) := by decide +kernel
theorem dX4_findExchangeable_88 : decode cX4_findExchangeable 88 = .ok (.iconst 1, 1) := by decide +kernel
theorem dX4_findExchangeable_89 : decode cX4_findExchangeable 89 = .ok (.iload 5, 2) := by decide +kernel
theorem dX4_findExchangeable_91 : decode cX4_findExchangeable 91 = .ok (.ishl, 1) := by decide +kernel
theorem dX4_findExchangeable_92 : decode cX4_findExchangeable 92 = .ok (.ior, 1) := by decide +kernel
theorem dX4_findExchangeable_93 : decode cX4_findExchangeable 93 = .ok (.istore_n 2, 1) := by decide +kernel
theorem dX4_findExchangeable_94 : decode cX4_findExchangeable 94 = .ok (.aload_n 0, 1) := by decide +kernel
theorem dX4_findExchangeable_95 : decode cX4_findExchangeable 95 = .ok (.getfield 21, 3) := by decide +kernel
theorem dX4_findExchangeable_98 : decode cX4_findExchangeable 98 = .ok (.iload 5, 2) := by decide +kernel
theorem dX4_findExchangeable_100 : decode cX4_findExchangeable 100 = .ok (.invokevirtual 241, 3) := by decide +kernel
theorem dX4_findExchangeable_103 : decode cX4_findExchangeable 103 = .ok (.iinc 5 1, 3) := by decide +kernel
theorem dX4_findExchangeable_106 : decode cX4_findExchangeable 106 = .ok (.goto (-71), 3) := by decide +kernel
theorem dX4_findExchangeable_109 : decode cX4_findExchangeable 109 = .ok (.iload_n 2, 1) := by decide +kernel
theorem dX4_findExchangeable_110 : decode cX4_findExchangeable 110 = .ok (.ireturn, 1) := by decide +kernel
theorem dJ6_bitCount_0f7a4_0 : decode cJ6_bitCount_0f7a4 0 = .ok (.iload_n 0, 1) := by decide +kernel
theorem dJ6_bitCount_0f7a4_1 : decode cJ6_bitCount_0f7a4 1 = .ok (.iload_n 0, 1) := by decide +kernel
theorem dJ6_bitCount_0f7a4_2 : decode cJ6_bitCount_0f7a4 2 = .ok (.iconst 1, 1) := by decide +kernel
theorem dJ6_bitCount_0f7a4_3 : decode cJ6_bitCount_0f7a4 3 = .ok (.iushr, 1) := by decide +kernel
theorem dJ6_bitCount_0f7a4_4 : decode cJ6_bitCount_0f7a4 4 = .ok (.ldc_w 265, 3) := by decide +kernel
theorem dJ6_bitCount_0f7a4_7 : decode cJ6_bitCount_0f7a4 7 = .ok (.iand, 1) := by decide +kernel
theorem dJ6_bitCount_0f7a4_8 : decode cJ6_bitCount_0f7a4 8 = .ok (.isub, 1) := by decide +kernel
theorem dJ6_bitCount_0f7a4_9 : decode cJ6_bitCount_0f7a4 9 = .ok (.istore_n 0, 1) := by decide +kernel
theorem dJ6_bitCount_0f7a4_10 : decode cJ6_bitCount_0f7a4 10 = .ok (.iload_n 0, 1) := by decide +kernel
theorem dJ6_bitCount_0f7a4_11 : decode cJ6_bitCount_0f7a4 11 = .ok (.ldc_w 266, 3) := by decide +kernel
theorem dJ6_bitCount_0f7a4_14 : decode cJ6_bitCount_0f7a4 14 = .ok (.iand, 1) := by decide +kernel
theorem dJ6_bitCount_0f7a4_15 : decode cJ6_bitCount_0f7a4 15 = .ok (.iload_n 0, 1) := by decide +kernel
theorem dJ6_bitCount_0f7a4_16 : decode cJ6_bitCount_0f7a4 16 = .ok (.iconst 2, 1) := by decide +kernel
theorem dJ6_bitCount_0f7a4_17 : decode cJ6_bitCount_0f7a4 17 = .ok (.iushr, 1) := by decide +kernel
theorem dJ6_bitCount_0f7a4_18 : decode cJ6_bitCount_0f7a4 18 = .ok (.ldc_w 266, 3) := by decide +kernel
theorem dJ6_bitCount_0f7a4_21 : decode cJ6_bitCount_0f7a4 21 = .ok (.iand, 1) := by decide +kernel
theorem dJ6_bitCount_0f7a4_22 : decode cJ6_bitCount_0f7a4 22 = .ok (.iadd, 1) := by decide +kernel
theorem dJ6_bitCount_0f7a4_23 : decode cJ6_bitCount_0f7a4 23 = .ok (.istore_n 0, 1) := by decide +kernel
theorem dJ6_bitCount_0f7a4_24 : decode cJ6_bitCount_0f7a4 24 = .ok (.iload_n 0, 1) := by decide +kernel
theorem dJ6_bitCount_0f7a4_25 : decode cJ6_bitCount_0f7a4 25 = .ok (.iload_n 0, 1) := by decide +kernel
theorem dJ6_bitCount_0f7a4_26 : decode cJ6_bitCount_0f7a4 26 = .ok (.iconst 4, 1) := by decide +kernel
theorem dJ6_bitCount_0f7a4_27 : decode cJ6_bitCount_0f7a4 27 = .ok (.iushr, 1) := by decide +kernel
theorem dJ6_bitCount_0f7a4_28 : decode cJ6_bitCount_0f7a4 28 = .ok (.iadd, 1) := by decide +kernel
theorem dJ6_bitCount_0f7a4_29 : decode cJ6_bitCount_0f7a4 29 = .ok (.ldc_w 267, 3) := by decide +kernel
theorem dJ6_bitCount_0f7a4_32 : decode cJ6_bitCount_0f7a4 32 = .ok (.iand, 1) := by decide +kernel
theorem dJ6_bitCount_0f7a4_33 : decode cJ6_bitCount_0f7a4 33 = .ok (.istore_n 0, 1) := by decide +kernel
theorem dJ6_bitCount_0f7a4_34 : decode cJ6_bitCount_0f7a4 34 = .ok (.iload_n 0, 1) := by decide +kernel
theorem dJ6_bitCount_0f7a4_35 : decode cJ6_bitCount_0f7a4 35 = .ok (.iload_n 0, 1) := by decide +kernel
theorem dJ6_bitCount_0f7a4_36 : decode cJ6_bitCount_0f7a4 36 = .ok (.bipush 8, 2) := by decide +kernel
theorem dJ6_bitCount_0f7a4_38 : decode cJ6_bitCount_0f7a4 38 = .ok (.iushr, 1) := by decide +kernel
theorem dJ6_bitCount_0f7a4_39 : decode cJ6_bitCount_0f7a4 39 = .ok (.iadd, 1) := by decide +kernel
theorem dJ6_bitCount_0f7a4_40 : decode cJ6_bitCount_0f7a4 40 = .ok (.istore_n 0, 1) := by decide +kernel
theorem dJ6_bitCount_0f7a4_41 : decode cJ6_bitCount_0f7a4 41 = .ok (.iload_n 0, 1) := by decide +kernel
theorem dJ6_bitCount_0f7a4_42 : decode cJ6_bitCount_0f7a4 42 = .ok (.iload_n 0, 1) := by decide +kernel
theorem dJ6_bitCount_0f7a4_43 : decode cJ6_bitCount_0f7a4 43 = .ok (.bipush 16, 2) := by decide +kernel
theorem dJ6_bitCount_0f7a4_45 : decode cJ6_bitCount_0f7a4 45 = .ok (.iushr, 1) := by decide +kernel
theorem dJ6_bitCount_0f7a4_46 : decode cJ6_bitCount_0f7a4 46 = .ok (.iadd, 1) := by decide +kernel
theorem dJ6_bitCount_0f7a4_47 : decode cJ6_bitCount_0f7a4 47 = .ok (.istore_n 0, 1) := by decide +kernel
theorem dJ6_bitCount_0f7a4_48 : decode cJ6_bitCount_0f7a4 48 = .ok (.iload_n 0, 1) := by decide +kernel
theorem dJ6_bitCount_0f7a4_49 : decode cJ6_bitCount_0f7a4 49 = .ok (.bipush 63, 2) := by decide +kernel
theorem dJ6_bitCount_0f7a4_51 : decode cJ6_bitCount_0f7a4 51 = .ok (.iand, 1) := by decide +kernel
theorem dJ6_bitCount_0f7a4_52 : decode cJ6_bitCount_0f7a4 52 = .ok (.ireturn, 1) := by decide +kernel
