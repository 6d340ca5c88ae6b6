theorem dX0_init_0 : decode cX0_init 0 = .ok (.aload_n 0, 1) := by decide +kernel
theorem dX0_init_1 : decode cX0_init 1 = .ok (.invokespecial 3, 3) := by decide +kernel
theorem dX0_init_4 : decode cX0_init 4 = .ok (.aload_n 0, 1) := by decide +kernel
theorem dX0_init_5 : decode cX0_init 5 = .ok (.iconst 3, 1) := by decide +kernel
theorem dX0_init_6 : decode cX0_init 6 = .ok (.newarray .int, 2) := by decide +kernel
theorem dX0_init_8 : decode cX0_init 8 = .ok (.putfield 9, 3) := by decide +kernel
theorem dX0_init_11 : decode cX0_init 11 = .ok (.aload_n 0, 1) := by decide +kernel
theorem dX0_init_12 : decode cX0_init 12 = .ok (.iconst 3, 1) := by decide +kernel
theorem dX0_init_13 : decode cX0_init 13 = .ok (.newarray .int, 2) := by decide +kernel
theorem dX0_init_15 : decode cX0_init 15 = .ok (.putfield 15, 3) := by decide +kernel
theorem dX0_init_18 : decode cX0_init 18 = .ok (.return_, 1) := by decide +kernel
theorem dX0_clear_0 : decode cX0_clear 0 = .ok (.aload_n 0, 1) := by decide +kernel
theorem dX0_clear_1 : decode cX0_clear 1 = .ok (.iconst 0, 1) := by decide +kernel
theorem dX0_clear_2 : decode cX0_clear 2 = .ok (.putfield 18, 3) := by decide +kernel
theorem dX0_clear_5 : decode cX0_clear 5 = .ok (.aload_n 0, 1) := by decide +kernel
theorem dX0_clear_6 : decode cX0_clear 6 = .ok (.iconst 0, 1) := by decide +kernel
theorem dX0_clear_7 : decode cX0_clear 7 = .ok (.putfield 22, 3) := by decide +kernel
theorem dX0_clear_10 : decode cX0_clear 10 = .ok (.aload_n 0, 1) := by decide +kernel
theorem dX0_clear_11 : decode cX0_clear 11 = .ok (.iconst 0, 1) := by decide +kernel
theorem dX0_clear_12 : decode cX0_clear 12 = .ok (.putfield 25, 3) := by decide +kernel
theorem dX0_clear_15 : decode cX0_clear 15 = .ok (.return_, 1) := by decide +kernel
theorem dX0_lastEnd_0 : decode cX0_lastEnd 0 = .ok (.aload_n 0, 1) := by decide +kernel
theorem dX0_lastEnd_1 : decode cX0_lastEnd 1 = .ok (.getfield 22, 3) := by decide +kernel
theorem dX0_lastEnd_4 : decode cX0_lastEnd 4 = .ok (.iconst 1, 1) := by decide +kernel
theorem dX0_lastEnd_5 : decode cX0_lastEnd 5 = .ok (.if_icmp .lt 11, 3) := by decide +kernel
theorem dX0_lastEnd_8 : decode cX0_lastEnd 8 = .ok (.aload_n 0, 1) := by decide +kernel
theorem dX0_lastEnd_9 : decode cX0_lastEnd 9 = .ok (.getfield 22, 3) := by decide +kernel
theorem dX0_lastEnd_12 : decode cX0_lastEnd 12 = .ok (.iconst 3, 1) := by decide +kernel
theorem dX0_lastEnd_13 : decode cX0_lastEnd 13 = .ok (.if_icmp .le 7, 3) := by decide +kernel
theorem dX0_lastEnd_16 : decode cX0_lastEnd 16 = .ok (.iconst 0, 1) := by decide +kernel
theorem dX0_lastEnd_17 : decode cX0_lastEnd 17 = .ok (.goto 14, 3) := by decide +kernel
theorem dX0_lastEnd_20 : decode cX0_lastEnd 20 = .ok (.aload_n 0, 1) := by decide +kernel
theorem dX0_lastEnd_21 : decode cX0_lastEnd 21 = .ok (.getfield 9, 3) := by decide +kernel
theorem dX0_lastEnd_24 : decode cX0_lastEnd 24 = .ok (.aload_n 0, 1) := by decide +kernel
theorem dX0_lastEnd_25 : decode cX0_lastEnd 25 = .ok (.getfield 22, 3) := by decide +kernel
theorem dX0_lastEnd_28 : decode cX0_lastEnd 28 = .ok (.iconst 1, 1) := by decide +kernel
theorem dX0_lastEnd_29 : decode cX0_lastEnd 29 = .ok (.isub, 1) := by decide +kernel
theorem dX0_lastEnd_30 : decode cX0_lastEnd 30 = .ok (.iaload, 1) := by decide +kernel
theorem dX0_lastEnd_31 : decode cX0_lastEnd 31 = .ok (.ireturn, 1) := by decide +kernel
theorem dX0_addStep_0 : decode cX0_addStep 0 = .ok (.aload_n 0, 1) := by decide +kernel
theorem dX0_addStep_1 : decode cX0_addStep 1 = .ok (.getfield 22, 3) := by decide +kernel
theorem dX0_addStep_4 : decode cX0_addStep 4 = .ok (.ifCond .lt 41, 3) := by decide +kernel
theorem dX0_addStep_7 : decode cX0_addStep 7 = .ok (.aload_n 0, 1) := by decide +kernel
theorem dX0_addStep_8 : decode cX0_addStep 8 = .ok (.getfield 22, 3) := by decide +kernel
theorem dX0_addStep_11 : decode cX0_addStep 11 = .ok (.iconst 3, 1) := by decide +kernel
theorem dX0_addStep_12 : decode cX0_addStep 12 = .ok (.if_icmp .ge 33, 3) := by decide +kernel
theorem dX0_addStep_15 : decode cX0_addStep 15 = .ok (.aload_n 0, 1) := by decide +kernel
theorem dX0_addStep_16 : decode cX0_addStep 16 = .ok (.getfield 9, 3) := by decide +kernel
theorem dX0_addStep_19 : decode cX0_addStep 19 = .ok (.aload_n 0, 1) := by decide +kernel
theorem dX0_addStep_20 : decode cX0_addStep 20 = .ok (.getfield 22, 3) := by decide +kernel
theorem dX0_addStep_23 : decode cX0_addStep 23 = .ok (.iload_n 1, 1) := by decide +kernel
theorem dX0_addStep_24 : decode cX0_addStep 24 = .ok (.iastore, 1) := by decide +kernel
theorem dX0_addStep_25 : decode cX0_addStep 25 = .ok (.aload_n 0, 1) := by decide +kernel
theorem dX0_addStep_26 : decode cX0_addStep 26 = .ok (.getfield 15, 3) := by decide +kernel
theorem dX0_addStep_29 : decode cX0_addStep 29 = .ok (.aload_n 0, 1) := by decide +kernel
theorem dX0_addStep_30 : decode cX0_addStep 30 = .ok (.getfield 22, 3) := by decide +kernel
theorem dX0_addStep_33 : decode cX0_addStep 33 = .ok (.iconst 0, 1) := by decide +kernel
theorem dX0_addStep_34 : decode cX0_addStep 34 = .ok (.iastore, 1) := by decide +kernel
theorem dX0_addStep_35 : decode cX0_addStep 35 = .ok (.aload_n 0, 1) := by decide +kernel
theorem dX0_addStep_36 : decode cX0_addStep 36 = .ok (.dup, 1) := by decide +kernel
theorem dX0_addStep_37 : decode cX0_addStep 37 = .ok (.getfield 22, 3) := by decide +kernel
theorem dX0_addStep_40 : decode cX0_addStep 40 = .ok (.iconst 1, 1) := by decide +kernel
theorem dX0_addStep_41 : decode cX0_addStep 41 = .ok (.iadd, 1) := by decide +kernel
theorem dX0_addStep_42 : decode cX0_addStep 42 = .ok (.putfield 22, 3) := by decide +kernel
theorem dX0_addStep_45 : decode cX0_addStep 45 = .ok (.return_, 1) := by decide +kernel
theorem dX0_priceLastStep_0 : decode cX0_priceLastStep 0 = .ok (.aload_n 0, 1) := by decide +kernel
theorem dX0_priceLastStep_1 : decode cX0_priceLastStep 1 = .ok (.getfield 22, 3) := by decide +kernel
theorem dX0_priceLastStep_4 : decode cX0_priceLastStep 4 = .ok (.iconst 1, 1) := by decide +kernel
theorem dX0_priceLastStep_5 : decode cX0_priceLastStep 5 = .ok (.if_icmp .lt 23, 3) := by decide +kernel
theorem dX0_priceLastStep_8 : decode cX0_priceLastStep 8 = .ok (.aload_n 0, 1) := by decide +kernel
theorem dX0_priceLastStep_9 : decode cX0_priceLastStep 9 = .ok (.getfield 22, 3) := by decide +kernel
theorem dX0_priceLastStep_12 : decode cX0_priceLastStep 12 = .ok (.iconst 3, 1) := by decide +kernel
theorem dX0_priceLastStep_13 : decode cX0_priceLastStep 13 = .ok (.if_icmp .gt 15, 3) := by decide +kernel
theorem dX0_priceLastStep_16 : decode cX0_priceLastStep 16 = .ok (.aload_n 0, 1) := by decide +kernel
theorem dX0_priceLastStep_17 : decode cX0_priceLastStep 17 = .ok (.getfield 15, 3) := by decide +kernel
theorem dX0_priceLastStep_20 : decode cX0_priceLastStep 20 = .ok (.aload_n 0, 1) := by decide +kernel
theorem dX0_priceLastStep_21 : decode cX0_priceLastStep 21 = .ok (.getfield 22, 3) := by decide +kernel
theorem dX0_priceLastStep_24 : decode cX0_priceLastStep 24 = .ok (.iconst 1, 1) := by decide +kernel
theorem dX0_priceLastStep_25 : decode cX0_priceLastStep 25 = .ok (.isub, 1) := by decide +kernel
theorem dX0_priceLastStep_26 : decode cX0_priceLastStep 26 = .ok (.iload_n 1, 1) := by decide +kernel
theorem dX0_priceLastStep_27 : decode cX0_priceLastStep 27 = .ok (.iastore, 1) := by decide +kernel
theorem dX0_priceLastStep_28 : decode cX0_priceLastStep 28 = .ok (.return_, 1) := by decide +kernel
theorem dX0_centsFor_0 : decode cX0_centsFor 0 = .ok (.iconst 0, 1) := by decide +kernel
theorem dX0_centsFor_1 : decode cX0_centsFor 1 = .ok (.iload_n 1, 1) := by decide +kernel
theorem dX0_centsFor_2 : decode cX0_centsFor 2 = .ok (.aload_n 0, 1) := by decide +kernel
theorem dX0_centsFor_3 : decode cX0_centsFor 3 = .ok (.getfield 18, 3) := by decide +kernel
theorem dX0_centsFor_6 : decode cX0_centsFor 6 = .ok (.isub, 1) := by decide +kernel
theorem dX0_centsFor_7 : decode cX0_centsFor 7 = .ok (.invokestatic 28, 3) := by decide +kernel
theorem dX0_centsFor_10 : decode cX0_centsFor 10 = .ok (.istore_n 2, 1) := by decide +kernel
theorem dX0_centsFor_11 : decode cX0_centsFor 11 = .ok (.iconst 0, 1) := by decide +kernel
theorem dX0_centsFor_12 : decode cX0_centsFor 12 = .ok (.istore_n 3, 1) := by decide +kernel
theorem dX0_centsFor_13 : decode cX0_centsFor 13 = .ok (.lconst 0, 1) := by decide +kernel
theorem dX0_centsFor_14 : decode cX0_centsFor 14 = .ok (.lstore 4, 2) := by decide +kernel
theorem dX0_centsFor_16 : decode cX0_centsFor 16 = .ok (.iconst 0, 1) := by decide +kernel
theorem dX0_centsFor_17 : decode cX0_centsFor 17 = .ok (.istore 6, 2) := by decide +kernel
theorem dX0_centsFor_19 : decode cX0_centsFor 19 = .ok (.iload 6, 2) := by decide +kernel
theorem dX0_centsFor_21 : decode cX0_centsFor 21 = .ok (.aload_n 0, 1) := by decide +kernel
theorem dX0_centsFor_22 : decode cX0_centsFor 22 = .ok (.getfield 22, 3) := by decide +kernel
theorem dX0_centsFor_25 : decode cX0_centsFor 25 = .ok (.if_icmp .ge 50, 3) := by decide +kernel
theorem dX0_centsFor_28 : decode cX0_centsFor 28 = .ok (.iload 6, 2) := by decide +kernel
theorem dX0_centsFor_30 : decode cX0_centsFor 30 = .ok (.iconst 3, 1) := by decide +kernel
theorem dX0_centsFor_31 : decode cX0_centsFor 31 = .ok (.if_icmp .ge 44, 3) := by decide +kernel
theorem dX0_centsFor_34 : decode cX0_centsFor 34 = .ok (.iload_n 2, 1) := by decide +kernel
theorem dX0_centsFor_35 : decode cX0_centsFor 35 = .ok (.aload_n 0, 1) := by decide +kernel
theorem dX0_centsFor_36 : decode cX0_centsFor 36 = .ok (.getfield 9, 3) := by decide +kernel
theorem dX0_centsFor_39 : decode cX0_centsFor 39 = .ok (.iload 6, 2) := by decide +kernel
theorem dX0_centsFor_41 : decode cX0_centsFor 41 = .ok (.iaload, 1) := by decide +kernel
theorem dX0_centsFor_42 : decode cX0_centsFor 42 = .ok (.invokestatic 34, 3) := by decide +kernel
theorem dX0_centsFor_45 : decode cX0_centsFor 45 = .ok (.istore 7, 2) := by decide +kernel
theorem dX0_centsFor_47 : decode cX0_centsFor 47 = .ok (.lload 4, 2) := by decide +kernel
theorem dX0_centsFor_49 : decode cX0_centsFor 49 = .ok (.iload 7, 2) := by decide +kernel
theorem dX0_centsFor_51 : decode cX0_centsFor 51 = .ok (.iload_n 3, 1) := by decide +kernel
theorem dX0_centsFor_52 : decode cX0_centsFor 52 = .ok (.isub, 1) := by decide +kernel
theorem dX0_centsFor_53 : decode cX0_centsFor 53 = .ok (.i2l, 1) := by decide +kernel
theorem dX0_centsFor_54 : decode cX0_centsFor 54 = .ok (.aload_n 0, 1) := by decide +kernel
theorem dX0_centsFor_55 : decode cX0_centsFor 55 = .ok (.getfield 15, 3) := by decide +kernel
theorem dX0_centsFor_58 : decode cX0_centsFor 58 = .ok (.iload 6, 2) := by decide +kernel
theorem dX0_centsFor_60 : decode cX0_centsFor 60 = .ok (.iaload, 1) := by decide +kernel
theorem dX0_centsFor_61 : decode cX0_centsFor 61 = .ok (.i2l, 1) := by decide +kernel
theorem dX0_centsFor_62 : decode cX0_centsFor 62 = .ok (.lmul, 1) := by decide +kernel
theorem dX0_centsFor_63 : decode cX0_centsFor 63 = .ok (.ladd, 1) := by decide +kernel
theorem dX0_centsFor_64 : decode cX0_centsFor 64 = .ok (.lstore 4, 2) := by decide +kernel
theorem dX0_centsFor_66 : decode cX0_centsFor 66 = .ok (.iload 7, 2) := by decide +kernel
theorem dX0_centsFor_68 : decode cX0_centsFor 68 = .ok (.istore_n 3, 1) := by decide +kernel
theorem dX0_centsFor_69 : decode cX0_centsFor 69 = .ok (.iinc 6 1, 3) := by decide +kernel
theorem dX0_centsFor_72 : decode cX0_centsFor 72 = .ok (.goto (-53), 3) := by decide +kernel
theorem dX0_centsFor_75 : decode cX0_centsFor 75 = .ok (.lload 4, 2) := by decide +kernel
theorem dX0_centsFor_77 : decode cX0_centsFor 77 = .ok (.iload_n 2, 1) := by decide +kernel
theorem dX0_centsFor_78 : decode cX0_centsFor 78 = .ok (.iload_n 3, 1) := by decide +kernel
theorem dX0_centsFor_79 : decode cX0_centsFor 79 = .ok (.isub, 1) := by decide +kernel
theorem dX0_centsFor_80 : decode cX0_centsFor 80 = .ok (.i2l, 1) := by decide +kernel
theorem dX0_centsFor_81 : decode cX0_centsFor 81 = .ok (.aload_n 0, 1) := by decide +kernel
theorem dX0_centsFor_82 : decode cX0_centsFor 82 = .ok (.getfield 25, 3) := by decide +kernel
theorem dX0_centsFor_85 : decode cX0_centsFor 85 = .ok (.i2l, 1) := by decide +kernel
theorem dX0_centsFor_86 : decode cX0_centsFor 86 = .ok (.lmul, 1) := by decide +kernel
theorem dX0_centsFor_87 : decode cX0_centsFor 87 = .ok (.ladd, 1) := by decide +kernel
theorem dX0_centsFor_88 : decode cX0_centsFor 88 = .ok (.lreturn, 1) := by decide +kernel
theorem dX0_corner_0 : decode cX0_corner 0 = .ok (.iload_n 1, 1) := by decide +kernel
theorem dX0_corner_1 : decode cX0_corner 1 = .ok (.ifCond .ne 8, 3) := by decide +kernel
theorem dX0_corner_4 : decode cX0_corner 4 = .ok (.aload_n 0, 1) := by decide +kernel
theorem dX0_corner_5 : decode cX0_corner 5 = .ok (.getfield 18, 3) := by decide +kernel
theorem dX0_corner_8 : decode cX0_corner 8 = .ok (.ireturn, 1) := by decide +kernel
theorem dX0_corner_9 : decode cX0_corner 9 = .ok (.iload_n 1, 1) := by decide +kernel
theorem dX0_corner_10 : decode cX0_corner 10 = .ok (.ifCond .lt 16, 3) := by decide +kernel
theorem dX0_corner_13 : decode cX0_corner 13 = .ok (.iload_n 1, 1) := by decide +kernel
theorem dX0_corner_14 : decode cX0_corner 14 = .ok (.aload_n 0, 1) := by decide +kernel
theorem dX0_corner_15 : decode cX0_corner 15 = .ok (.getfield 22, 3) := by decide +kernel
theorem dX0_corner_18 : decode cX0_corner 18 = .ok (.if_icmp .gt 8, 3) := by decide +kernel
theorem dX0_corner_21 : decode cX0_corner 21 = .ok (.iload_n 1, 1) := by decide +kernel
theorem dX0_corner_22 : decode cX0_corner 22 = .ok (.iconst 3, 1) := by decide +kernel
theorem dX0_corner_23 : decode cX0_corner 23 = .ok (.if_icmp .le 7, 3) := by decide +kernel
theorem dX0_corner_26 : decode cX0_corner 26 = .ok (.iconst (-1), 1) := by decide +kernel
theorem dX0_corner_27 : decode cX0_corner 27 = .ok (.goto 16, 3) := by decide +kernel
theorem dX0_corner_30 : decode cX0_corner 30 = .ok (.aload_n 0, 1) := by decide +kernel
theorem dX0_corner_31 : decode cX0_corner 31 = .ok (.getfield 18, 3) := by decide +kernel
theorem dX0_corner_34 : decode cX0_corner 34 = .ok (.aload_n 0, 1) := by decide +kernel
theorem dX0_corner_35 : decode cX0_corner 35 = .ok (.getfield 9, 3) := by decide +kernel
theorem dX0_corner_38 : decode cX0_corner 38 = .ok (.iload_n 1, 1) := by decide +kernel
theorem dX0_corner_39 : decode cX0_corner 39 = .ok (.iconst 1, 1) := by decide +kernel
theorem dX0_corner_40 : decode cX0_corner 40 = .ok (.isub, 1) := by decide +kernel
theorem dX0_corner_41 : decode cX0_corner 41 = .ok (.iaload, 1) := by decide +kernel
theorem dX0_corner_42 : decode cX0_corner 42 = .ok (.iadd, 1) := by decide +kernel
theorem dX0_corner_43 : decode cX0_corner 43 = .ok (.ireturn, 1) := by decide +kernel
theorem dX1_init_0 : decode cX1_init 0 = .ok (.aload_n 0, 1) := by decide +kernel
theorem dX1_init_1 : decode cX1_init 1 = .ok (.invokespecial 3, 3) := by decide +kernel
theorem dX1_init_4 : decode cX1_init 4 = .ok (.aload_n 0, 1) := by decide +kernel
theorem dX1_init_5 : decode cX1_init 5 = .ok (.bipush 16, 2) := by decide +kernel
theorem dX1_init_7 : decode cX1_init 7 = .ok (.newarray .long, 2) := by decide +kernel
theorem dX1_init_9 : decode cX1_init 9 = .ok (.putfield 9, 3) := by decide +kernel
theorem dX1_init_12 : decode cX1_init 12 = .ok (.aload_n 0, 1) := by decide +kernel
theorem dX1_init_13 : decode cX1_init 13 = .ok (.bipush 16, 2) := by decide +kernel
theorem dX1_init_15 : decode cX1_init 15 = .ok (.newarray .long, 2) := by decide +kernel
theorem dX1_init_17 : decode cX1_init 17 = .ok (.putfield 15, 3) := by decide +kernel
theorem dX1_init_20 : decode cX1_init 20 = .ok (.aload_n 0, 1) := by decide +kernel
theorem dX1_init_21 : decode cX1_init 21 = .ok (.bipush 16, 2) := by decide +kernel
theorem dX1_init_23 : decode cX1_init 23 = .ok (.newarray .int, 2) := by decide +kernel
theorem dX1_init_25 : decode cX1_init 25 = .ok (.putfield 18, 3) := by decide +kernel
theorem dX1_init_28 : decode cX1_init 28 = .ok (.aload_n 0, 1) := by decide +kernel
theorem dX1_init_29 : decode cX1_init 29 = .ok (.iconst 4, 1) := by decide +kernel
theorem dX1_init_30 : decode cX1_init 30 = .ok (.newarray .int, 2) := by decide +kernel
theorem dX1_init_32 : decode cX1_init 32 = .ok (.putfield 22, 3) := by decide +kernel
theorem dX1_init_35 : decode cX1_init 35 = .ok (.aload_n 0, 1) := by decide +kernel
theorem dX1_init_36 : decode cX1_init 36 = .ok (.invokevirtual 25, 3) := by decide +kernel
theorem dX1_init_39 : decode cX1_init 39 = .ok (.return_, 1) := by decide +kernel
theorem dX1_forget_0 : decode cX1_forget 0 = .ok (.iconst 0, 1) := by decide +kernel
theorem dX1_forget_1 : decode cX1_forget 1 = .ok (.istore_n 1, 1) := by decide +kernel
theorem dX1_forget_2 : decode cX1_forget 2 = .ok (.iload_n 1, 1) := by decide +kernel
theorem dX1_forget_3 : decode cX1_forget 3 = .ok (.iconst 4, 1) := by decide +kernel
theorem dX1_forget_4 : decode cX1_forget 4 = .ok (.if_icmp .ge 16, 3) := by decide +kernel
theorem dX1_forget_7 : decode cX1_forget 7 = .ok (.aload_n 0, 1) := by decide +kernel
theorem dX1_forget_8 : decode cX1_forget 8 = .ok (.getfield 22, 3) := by decide +kernel
theorem dX1_forget_11 : decode cX1_forget 11 = .ok (.iload_n 1, 1) := by decide +kernel
theorem dX1_forget_12 : decode cX1_forget 12 = .ok (.iconst (-1), 1) := by decide +kernel
theorem dX1_forget_13 : decode cX1_forget 13 = .ok (.iastore, 1) := by decide +kernel
theorem dX1_forget_14 : decode cX1_forget 14 = .ok (.iinc 1 1, 3) := by decide +kernel
theorem dX1_forget_17 : decode cX1_forget 17 = .ok (.goto (-15), 3) := by decide +kernel
theorem dX1_forget_20 : decode cX1_forget 20 = .ok (.return_, 1) := by decide +kernel
theorem dX1_tellBest_0 : decode cX1_tellBest 0 = .ok (.iload_n 1, 1) := by decide +kernel
theorem dX1_tellBest_1 : decode cX1_tellBest 1 = .ok (.iconst 1, 1) := by decide +kernel
theorem dX1_tellBest_2 : decode cX1_tellBest 2 = .ok (.bipush 15, 2) := by decide +kernel
theorem dX1_tellBest_4 : decode cX1_tellBest 4 = .ok (.invokestatic 28, 3) := by decide +kernel
theorem dX1_tellBest_7 : decode cX1_tellBest 7 = .ok (.ifCond .eq 10, 3) := by decide +kernel
theorem dX1_tellBest_10 : decode cX1_tellBest 10 = .ok (.aload_n 0, 1) := by decide +kernel
theorem dX1_tellBest_11 : decode cX1_tellBest 11 = .ok (.getfield 9, 3) := by decide +kernel
theorem dX1_tellBest_14 : decode cX1_tellBest 14 = .ok (.iload_n 1, 1) := by decide +kernel
theorem dX1_tellBest_15 : decode cX1_tellBest 15 = .ok (.lload_n 2, 1) := by decide +kernel
theorem dX1_tellBest_16 : decode cX1_tellBest 16 = .ok (.lastore, 1) := by decide +kernel
theorem dX1_tellBest_17 : decode cX1_tellBest 17 = .ok (.return_, 1) := by decide +kernel
theorem dX1_part_0 : decode cX1_part 0 = .ok (.aload_n 0, 1) := by decide +kernel
theorem dX1_part_1 : decode cX1_part 1 = .ok (.getfield 15, 3) := by decide +kernel
theorem dX1_part_4 : decode cX1_part 4 = .ok (.iconst 0, 1) := by decide +kernel
theorem dX1_part_5 : decode cX1_part 5 = .ok (.lconst 0, 1) := by decide +kernel
theorem dX1_part_6 : decode cX1_part 6 = .ok (.lastore, 1) := by decide +kernel
theorem dX1_part_7 : decode cX1_part 7 = .ok (.iconst 1, 1) := by decide +kernel
theorem dX1_part_8 : decode cX1_part 8 = .ok (.istore_n 1, 1) := by decide +kernel
theorem dX1_part_9 : decode cX1_part 9 = .ok (.iload_n 1, 1) := by decide +kernel
theorem dX1_part_10 : decode cX1_part 10 = .ok (.bipush 15, 2) := by decide +kernel
theorem dX1_part_12 : decode cX1_part 12 = .ok (.if_icmp .gt 14, 3) := by decide +kernel
theorem dX1_part_15 : decode cX1_part 15 = .ok (.aload_n 0, 1) := by decide +kernel
theorem dX1_part_16 : decode cX1_part 16 = .ok (.iload_n 1, 1) := by decide +kernel
theorem dX1_part_17 : decode cX1_part 17 = .ok (.invokevirtual 32, 3) := by decide +kernel
theorem dX1_part_20 : decode cX1_part 20 = .ok (.iinc 1 1, 3) := by decide +kernel
theorem dX1_part_23 : decode cX1_part 23 = .ok (.goto (-14), 3) := by decide +kernel
theorem dX1_part_26 : decode cX1_part 26 = .ok (.aload_n 0, 1) := by decide +kernel
theorem dX1_part_27 : decode cX1_part 27 = .ok (.getfield 15, 3) := by decide +kernel
theorem dX1_part_30 : decode cX1_part 30 = .ok (.bipush 15, 2) := by decide +kernel
theorem dX1_part_32 : decode cX1_part 32 = .ok (.laload, 1) := by decide +kernel
theorem dX1_part_33 : decode cX1_part 33 = .ok (.ldc2_w 36, 3) := by decide +kernel
theorem dX1_part_36 : decode cX1_part 36 = .ok (.lcmp, 1) := by decide +kernel
theorem dX1_part_37 : decode cX1_part 37 = .ok (.ifCond .eq 7, 3) := by decide +kernel
theorem dX1_part_40 : decode cX1_part 40 = .ok (.aload_n 0, 1) := by decide +kernel
theorem dX1_part_41 : decode cX1_part 41 = .ok (.invokevirtual 38, 3) := by decide +kernel
theorem dX1_part_44 : decode cX1_part 44 = .ok (.aload_n 0, 1) := by decide +kernel
theorem dX1_part_45 : decode cX1_part 45 = .ok (.getfield 15, 3) := by decide +kernel
theorem dX1_part_48 : decode cX1_part 48 = .ok (.bipush 15, 2) := by decide +kernel
theorem dX1_part_50 : decode cX1_part 50 = .ok (.laload, 1) := by decide +kernel
theorem dX1_part_51 : decode cX1_part 51 = .ok (.lreturn, 1) := by decide +kernel
theorem dX1_fillLeast_0 : decode cX1_fillLeast 0 = .ok (.iload_n 1, 1) := by decide +kernel
theorem dX1_fillLeast_1 : decode cX1_fillLeast 1 = .ok (.iload_n 1, 1) := by decide +kernel
theorem dX1_fillLeast_2 : decode cX1_fillLeast 2 = .ok (.ineg, 1) := by decide +kernel
theorem dX1_fillLeast_3 : decode cX1_fillLeast 3 = .ok (.iand, 1) := by decide +kernel
theorem dX1_fillLeast_4 : decode cX1_fillLeast 4 = .ok (.istore_n 2, 1) := by decide +kernel
theorem dX1_fillLeast_5 : decode cX1_fillLeast 5 = .ok (.ldc2_w 36, 3) := by decide +kernel
theorem dX1_fillLeast_8 : decode cX1_fillLeast 8 = .ok (.lstore_n 3, 1) := by decide +kernel
theorem dX1_fillLeast_9 : decode cX1_fillLeast 9 = .ok (.iconst 1, 1) := by decide +kernel
theorem dX1_fillLeast_10 : decode cX1_fillLeast 10 = .ok (.istore 5, 2) := by decide +kernel
theorem dX1_fillLeast_12 : decode cX1_fillLeast 12 = .ok (.iload 5, 2) := by decide +kernel
theorem dX1_fillLeast_14 : decode cX1_fillLeast 14 = .ok (.iload_n 1, 1) := by decide +kernel
theorem dX1_fillLeast_15 : decode cX1_fillLeast 15 = .ok (.if_icmp .gt 73, 3) := by decide +kernel
theorem dX1_fillLeast_18 : decode cX1_fillLeast 18 = .ok (.iload 5, 2) := by decide +kernel
theorem dX1_fillLeast_20 : decode cX1_fillLeast 20 = .ok (.bipush 15, 2) := by decide +kernel
theorem dX1_fillLeast_22 : decode cX1_fillLeast 22 = .ok (.if_icmp .gt 66, 3) := by decide +kernel
theorem dX1_fillLeast_25 : decode cX1_fillLeast 25 = .ok (.iload 5, 2) := by decide +kernel
theorem dX1_fillLeast_27 : decode cX1_fillLeast 27 = .ok (.iload_n 1, 1) := by decide +kernel
theorem dX1_fillLeast_28 : decode cX1_fillLeast 28 = .ok (.iand, 1) := by decide +kernel
theorem dX1_fillLeast_29 : decode cX1_fillLeast 29 = .ok (.iload 5, 2) := by decide +kernel
theorem dX1_fillLeast_31 : decode cX1_fillLeast 31 = .ok (.if_icmp .ne 51, 3) := by decide +kernel
theorem dX1_fillLeast_34 : decode cX1_fillLeast 34 = .ok (.iload 5, 2) := by decide +kernel
theorem dX1_fillLeast_36 : decode cX1_fillLeast 36 = .ok (.iload_n 2, 1) := by decide +kernel
theorem dX1_fillLeast_37 : decode cX1_fillLeast 37 = .ok (.iand, 1) := by decide +kernel
theorem dX1_fillLeast_38 : decode cX1_fillLeast 38 = .ok (.ifCond .eq 44, 3) := by decide +kernel
theorem dX1_fillLeast_41 : decode cX1_fillLeast 41 = .ok (.aload_n 0, 1) := by decide +kernel
theorem dX1_fillLeast_42 : decode cX1_fillLeast 42 = .ok (.getfield 9, 3) := by decide +kernel
theorem dX1_fillLeast_45 : decode cX1_fillLeast 45 = .ok (.iload 5, 2) := by decide +kernel
theorem dX1_fillLeast_47 : decode cX1_fillLeast 47 = .ok (.laload, 1) := by decide +kernel
theorem dX1_fillLeast_48 : decode cX1_fillLeast 48 = .ok (.aload_n 0, 1) := by decide +kernel
theorem dX1_fillLeast_49 : decode cX1_fillLeast 49 = .ok (.getfield 15, 3) := by decide +kernel
theorem dX1_fillLeast_52 : decode cX1_fillLeast 52 = .ok (.iload_n 1, 1) := by decide +kernel
theorem dX1_fillLeast_53 : decode cX1_fillLeast 53 = .ok (.iload 5, 2) := by decide +kernel
theorem dX1_fillLeast_55 : decode cX1_fillLeast 55 = .ok (.ixor, 1) := by decide +kernel
theorem dX1_fillLeast_56 : decode cX1_fillLeast 56 = .ok (.laload, 1) := by decide +kernel
theorem dX1_fillLeast_57 : decode cX1_fillLeast 57 = .ok (.invokestatic 41, 3) := by decide +kernel
theorem dX1_fillLeast_60 : decode cX1_fillLeast 60 = .ok (.lstore 6, 2) := by decide +kernel
theorem dX1_fillLeast_62 : decode cX1_fillLeast 62 = .ok (.lload 6, 2) := by decide +kernel
theorem dX1_fillLeast_64 : decode cX1_fillLeast 64 = .ok (.lload_n 3, 1) := by decide +kernel
theorem dX1_fillLeast_65 : decode cX1_fillLeast 65 = .ok (.invokestatic 45, 3) := by decide +kernel
theorem dX1_fillLeast_68 : decode cX1_fillLeast 68 = .ok (.ifCond .eq 14, 3) := by decide +kernel
theorem dX1_fillLeast_71 : decode cX1_fillLeast 71 = .ok (.lload 6, 2) := by decide +kernel
theorem dX1_fillLeast_73 : decode cX1_fillLeast 73 = .ok (.lstore_n 3, 1) := by decide +kernel
theorem dX1_fillLeast_74 : decode cX1_fillLeast 74 = .ok (.aload_n 0, 1) := by decide +kernel
theorem dX1_fillLeast_75 : decode cX1_fillLeast 75 = .ok (.getfield 18, 3) := by decide +kernel
theorem dX1_fillLeast_78 : decode cX1_fillLeast 78 = .ok (.iload_n 1, 1) := by decide +kernel
theorem dX1_fillLeast_79 : decode cX1_fillLeast 79 = .ok (.iload 5, 2) := by decide +kernel
theorem dX1_fillLeast_81 : decode cX1_fillLeast 81 = .ok (.iastore, 1) := by decide +kernel
theorem dX1_fillLeast_82 : decode cX1_fillLeast 82 = .ok (.iinc 5 1, 3) := by decide +kernel
theorem dX1_fillLeast_85 : decode cX1_fillLeast 85 = .ok (.goto (-73), 3) := by decide +kernel
theorem dX1_fillLeast_88 : decode cX1_fillLeast 88 = .ok (.aload_n 0, 1) := by decide +kernel
theorem dX1_fillLeast_89 : decode cX1_fillLeast 89 = .ok (.getfield 15, 3) := by decide +kernel
theorem dX1_fillLeast_92 : decode cX1_fillLeast 92 = .ok (.iload_n 1, 1) := by decide +kernel
theorem dX1_fillLeast_93 : decode cX1_fillLeast 93 = .ok (.lload_n 3, 1) := by decide +kernel
theorem dX1_fillLeast_94 : decode cX1_fillLeast 94 = .ok (.lastore, 1) := by decide +kernel
theorem dX1_fillLeast_95 : decode cX1_fillLeast 95 = .ok (.return_, 1) := by decide +kernel
theorem dX1_writeGroups_0 : decode cX1_writeGroups 0 = .ok (.bipush 15, 2) := by decide +kernel
theorem dX1_writeGroups_2 : decode cX1_writeGroups 2 = .ok (.istore_n 1, 1) := by decide +kernel
theorem dX1_writeGroups_3 : decode cX1_writeGroups 3 = .ok (.iconst 0, 1) := by decide +kernel
theorem dX1_writeGroups_4 : decode cX1_writeGroups 4 = .ok (.istore_n 2, 1) := by decide +kernel
theorem dX1_writeGroups_5 : decode cX1_writeGroups 5 = .ok (.iload_n 2, 1) := by decide +kernel
theorem dX1_writeGroups_6 : decode cX1_writeGroups 6 = .ok (.iconst 4, 1) := by decide +kernel
theorem dX1_writeGroups_7 : decode cX1_writeGroups 7 = .ok (.if_icmp .ge 64, 3) := by decide +kernel
theorem dX1_writeGroups_10 : decode cX1_writeGroups 10 = .ok (.iload_n 1, 1) := by decide +kernel
theorem dX1_writeGroups_11 : decode cX1_writeGroups 11 = .ok (.ifCond .le 60, 3) := by decide +kernel
theorem dX1_writeGroups_14 : decode cX1_writeGroups 14 = .ok (.iload_n 1, 1) := by decide +kernel
theorem dX1_writeGroups_15 : decode cX1_writeGroups 15 = .ok (.bipush 15, 2) := by decide +kernel
theorem dX1_writeGroups_17 : decode cX1_writeGroups 17 = .ok (.if_icmp .gt 54, 3) := by decide +kernel
theorem dX1_writeGroups_20 : decode cX1_writeGroups 20 = .ok (.aload_n 0, 1) := by decide +kernel
theorem dX1_writeGroups_21 : decode cX1_writeGroups 21 = .ok (.getfield 18, 3) := by decide +kernel
theorem dX1_writeGroups_24 : decode cX1_writeGroups 24 = .ok (.iload_n 1, 1) := by decide +kernel
theorem dX1_writeGroups_25 : decode cX1_writeGroups 25 = .ok (.iaload, 1) := by decide +kernel
theorem dX1_writeGroups_26 : decode cX1_writeGroups 26 = .ok (.istore_n 3, 1) := by decide +kernel
theorem dX1_writeGroups_27 : decode cX1_writeGroups 27 = .ok (.iconst 0, 1) := by decide +kernel
theorem dX1_writeGroups_28 : decode cX1_writeGroups 28 = .ok (.istore 4, 2) := by decide +kernel
theorem dX1_writeGroups_30 : decode cX1_writeGroups 30 = .ok (.iload 4, 2) := by decide +kernel
theorem dX1_writeGroups_32 : decode cX1_writeGroups 32 = .ok (.iconst 4, 1) := by decide +kernel
theorem dX1_writeGroups_33 : decode cX1_writeGroups 33 = .ok (.if_icmp .ge 26, 3) := by decide +kernel
theorem dX1_writeGroups_36 : decode cX1_writeGroups 36 = .ok (.iload_n 3, 1) := by decide +kernel
theorem dX1_writeGroups_37 : decode cX1_writeGroups 37 = .ok (.iload 4, 2) := by decide +kernel
theorem dX1_writeGroups_39 : decode cX1_writeGroups 39 = .ok (.ishr, 1) := by decide +kernel
theorem dX1_writeGroups_40 : decode cX1_writeGroups 40 = .ok (.iconst 1, 1) := by decide +kernel
theorem dX1_writeGroups_41 : decode cX1_writeGroups 41 = .ok (.iand, 1) := by decide +kernel
theorem dX1_writeGroups_42 : decode cX1_writeGroups 42 = .ok (.ifCond .eq 11, 3) := by decide +kernel
theorem dX1_writeGroups_45 : decode cX1_writeGroups 45 = .ok (.aload_n 0, 1) := by decide +kernel
theorem dX1_writeGroups_46 : decode cX1_writeGroups 46 = .ok (.getfield 22, 3) := by decide +kernel
theorem dX1_writeGroups_49 : decode cX1_writeGroups 49 = .ok (.iload 4, 2) := by decide +kernel
theorem dX1_writeGroups_51 : decode cX1_writeGroups 51 = .ok (.iload_n 3, 1) := by decide +kernel
theorem dX1_writeGroups_52 : decode cX1_writeGroups 52 = .ok (.iastore, 1) := by decide +kernel
theorem dX1_writeGroups_53 : decode cX1_writeGroups 53 = .ok (.iinc 4 1, 3) := by decide +kernel
theorem dX1_writeGroups_56 : decode cX1_writeGroups 56 = .ok (.goto (-26), 3) := by decide +kernel
theorem dX1_writeGroups_59 : decode cX1_writeGroups 59 = .ok (.iload_n 1, 1) := by decide +kernel
theorem dX1_writeGroups_60 : decode cX1_writeGroups 60 = .ok (.iload_n 3, 1) := by decide +kernel
theorem dX1_writeGroups_61 : decode cX1_writeGroups 61 = .ok (.iconst (-1), 1) := by decide +kernel
theorem dX1_writeGroups_62 : decode cX1_writeGroups 62 = .ok (.ixor, 1) := by decide +kernel
theorem dX1_writeGroups_63 : decode cX1_writeGroups 63 = .ok (.iand, 1) := by decide +kernel
theorem dX1_writeGroups_64 : decode cX1_writeGroups 64 = .ok (.istore_n 1, 1) := by decide +kernel
theorem dX1_writeGroups_65 : decode cX1_writeGroups 65 = .ok (.iinc 2 1, 3) := by decide +kernel
theorem dX1_writeGroups_68 : decode cX1_writeGroups 68 = .ok (.goto (-63), 3) := by decide +kernel
theorem dX1_writeGroups_71 : decode cX1_writeGroups 71 = .ok (.return_, 1) := by decide +kernel
theorem dX2_init_0 : decode cX2_init 0 = .ok (.aload_n 0, 1) := by decide +kernel
theorem dX2_init_1 : decode cX2_init 1 = .ok (.invokespecial 3, 3) := by decide +kernel
theorem dX2_init_4 : decode cX2_init 4 = .ok (.aload_n 0, 1) := by decide +kernel
theorem dX2_init_5 : decode cX2_init 5 = .ok (.iconst 4, 1) := by decide +kernel
theorem dX2_init_6 : decode cX2_init 6 = .ok (.anewarray 9, 3) := by decide +kernel
theorem dX2_init_9 : decode cX2_init 9 = .ok (.putfield 11, 3) := by decide +kernel
theorem dX2_init_12 : decode cX2_init 12 = .ok (.iconst 0, 1) := by decide +kernel
theorem dX2_init_13 : decode cX2_init 13 = .ok (.istore_n 1, 1) := by decide +kernel
theorem dX2_init_14 : decode cX2_init 14 = .ok (.iload_n 1, 1) := by decide +kernel
theorem dX2_init_15 : decode cX2_init 15 = .ok (.iconst 4, 1) := by decide +kernel
theorem dX2_init_16 : decode cX2_init 16 = .ok (.if_icmp .ge 22, 3) := by decide +kernel
theorem dX2_init_19 : decode cX2_init 19 = .ok (.aload_n 0, 1) := by decide +kernel
theorem dX2_init_20 : decode cX2_init 20 = .ok (.getfield 11, 3) := by decide +kernel
theorem dX2_init_23 : decode cX2_init 23 = .ok (.iload_n 1, 1) := by decide +kernel
theorem dX2_init_24 : decode cX2_init 24 = .ok (.new 9, 3) := by decide +kernel
theorem dX2_init_27 : decode cX2_init 27 = .ok (.dup, 1) := by decide +kernel
theorem dX2_init_28 : decode cX2_init 28 = .ok (.invokespecial 17, 3) := by decide +kernel
theorem dX2_init_31 : decode cX2_init 31 = .ok (.aastore, 1) := by decide +kernel
theorem dX2_init_32 : decode cX2_init 32 = .ok (.iinc 1 1, 3) := by decide +kernel
theorem dX2_init_35 : decode cX2_init 35 = .ok (.goto (-21), 3) := by decide +kernel
theorem dX2_init_38 : decode cX2_init 38 = .ok (.aload_n 0, 1) := by decide +kernel
theorem dX2_init_39 : decode cX2_init 39 = .ok (.invokevirtual 18, 3) := by decide +kernel
theorem dX2_init_42 : decode cX2_init 42 = .ok (.return_, 1) := by decide +kernel
theorem dX2_clear_0 : decode cX2_clear 0 = .ok (.aload_n 0, 1) := by decide +kernel
theorem dX2_clear_1 : decode cX2_clear 1 = .ok (.lconst 0, 1) := by decide +kernel
theorem dX2_clear_2 : decode cX2_clear 2 = .ok (.putfield 21, 3) := by decide +kernel
theorem dX2_clear_5 : decode cX2_clear 5 = .ok (.aload_n 0, 1) := by decide +kernel
theorem dX2_clear_6 : decode cX2_clear 6 = .ok (.iconst 0, 1) := by decide +kernel
theorem dX2_clear_7 : decode cX2_clear 7 = .ok (.putfield 25, 3) := by decide +kernel
theorem dX2_clear_10 : decode cX2_clear 10 = .ok (.aload_n 0, 1) := by decide +kernel
theorem dX2_clear_11 : decode cX2_clear 11 = .ok (.iconst 0, 1) := by decide +kernel
theorem dX2_clear_12 : decode cX2_clear 12 = .ok (.putfield 29, 3) := by decide +kernel
theorem dX2_clear_15 : decode cX2_clear 15 = .ok (.aload_n 0, 1) := by decide +kernel
theorem dX2_clear_16 : decode cX2_clear 16 = .ok (.iconst 1, 1) := by decide +kernel
theorem dX2_clear_17 : decode cX2_clear 17 = .ok (.putfield 32, 3) := by decide +kernel
theorem dX2_clear_20 : decode cX2_clear 20 = .ok (.aload_n 0, 1) := by decide +kernel
theorem dX2_clear_21 : decode cX2_clear 21 = .ok (.iconst 0, 1) := by decide +kernel
theorem dX2_clear_22 : decode cX2_clear 22 = .ok (.putfield 35, 3) := by decide +kernel
theorem dX2_clear_25 : decode cX2_clear 25 = .ok (.aload_n 0, 1) := by decide +kernel
theorem dX2_clear_26 : decode cX2_clear 26 = .ok (.bipush 23, 2) := by decide +kernel
theorem dX2_clear_28 : decode cX2_clear 28 = .ok (.putfield 38, 3) := by decide +kernel
theorem dX2_clear_31 : decode cX2_clear 31 = .ok (.aload_n 0, 1) := by decide +kernel
theorem dX2_clear_32 : decode cX2_clear 32 = .ok (.iconst 0, 1) := by decide +kernel
theorem dX2_clear_33 : decode cX2_clear 33 = .ok (.putfield 41, 3) := by decide +kernel
theorem dX2_clear_36 : decode cX2_clear 36 = .ok (.return_, 1) := by decide +kernel
theorem dX2_addPart_0 : decode cX2_addPart 0 = .ok (.iload_n 1, 1) := by decide +kernel
theorem dX2_addPart_1 : decode cX2_addPart 1 = .ok (.iconst 0, 1) := by decide +kernel
theorem dX2_addPart_2 : decode cX2_addPart 2 = .ok (.iconst 3, 1) := by decide +kernel
theorem dX2_addPart_3 : decode cX2_addPart 3 = .ok (.invokestatic 44, 3) := by decide +kernel
theorem dX2_addPart_6 : decode cX2_addPart 6 = .ok (.ifCond .ne 5, 3) := by decide +kernel
theorem dX2_addPart_9 : decode cX2_addPart 9 = .ok (.aconst_null, 1) := by decide +kernel
theorem dX2_addPart_10 : decode cX2_addPart 10 = .ok (.areturn, 1) := by decide +kernel
theorem dX2_addPart_11 : decode cX2_addPart 11 = .ok (.aload_n 0, 1) := by decide +kernel
theorem dX2_addPart_12 : decode cX2_addPart 12 = .ok (.getfield 11, 3) := by decide +kernel
theorem dX2_addPart_15 : decode cX2_addPart 15 = .ok (.iload_n 1, 1) := by decide +kernel
theorem dX2_addPart_16 : decode cX2_addPart 16 = .ok (.aaload, 1) := by decide +kernel
theorem dX2_addPart_17 : decode cX2_addPart 17 = .ok (.astore_n 2, 1) := by decide +kernel
theorem dX2_addPart_18 : decode cX2_addPart 18 = .ok (.aload_n 2, 1) := by decide +kernel
theorem dX2_addPart_19 : decode cX2_addPart 19 = .ok (.ifnull 19, 3) := by decide +kernel
theorem dX2_addPart_22 : decode cX2_addPart 22 = .ok (.aload_n 2, 1) := by decide +kernel
theorem dX2_addPart_23 : decode cX2_addPart 23 = .ok (.invokevirtual 48, 3) := by decide +kernel
theorem dX2_addPart_26 : decode cX2_addPart 26 = .ok (.aload_n 0, 1) := by decide +kernel
theorem dX2_addPart_27 : decode cX2_addPart 27 = .ok (.dup, 1) := by decide +kernel
theorem dX2_addPart_28 : decode cX2_addPart 28 = .ok (.getfield 41, 3) := by decide +kernel
theorem dX2_addPart_31 : decode cX2_addPart 31 = .ok (.iconst 1, 1) := by decide +kernel
theorem dX2_addPart_32 : decode cX2_addPart 32 = .ok (.iload_n 1, 1) := by decide +kernel
theorem dX2_addPart_33 : decode cX2_addPart 33 = .ok (.ishl, 1) := by decide +kernel
theorem dX2_addPart_34 : decode cX2_addPart 34 = .ok (.ior, 1) := by decide +kernel
theorem dX2_addPart_35 : decode cX2_addPart 35 = .ok (.putfield 41, 3) := by decide +kernel
theorem dX2_addPart_38 : decode cX2_addPart 38 = .ok (.aload_n 2, 1) := by decide +kernel
theorem dX2_addPart_39 : decode cX2_addPart 39 = .ok (.areturn, 1) := by decide +kernel
theorem dX2_partFor_0 : decode cX2_partFor 0 = .ok (.iload_n 1, 1) := by decide +kernel
theorem dX2_partFor_1 : decode cX2_partFor 1 = .ok (.iconst 0, 1) := by decide +kernel
theorem dX2_partFor_2 : decode cX2_partFor 2 = .ok (.iconst 3, 1) := by decide +kernel
theorem dX2_partFor_3 : decode cX2_partFor 3 = .ok (.invokestatic 44, 3) := by decide +kernel
theorem dX2_partFor_6 : decode cX2_partFor 6 = .ok (.ifCond .eq 14, 3) := by decide +kernel
theorem dX2_partFor_9 : decode cX2_partFor 9 = .ok (.aload_n 0, 1) := by decide +kernel
theorem dX2_partFor_10 : decode cX2_partFor 10 = .ok (.getfield 41, 3) := by decide +kernel
theorem dX2_partFor_13 : decode cX2_partFor 13 = .ok (.iload_n 1, 1) := by decide +kernel
theorem dX2_partFor_14 : decode cX2_partFor 14 = .ok (.ishr, 1) := by decide +kernel
theorem dX2_partFor_15 : decode cX2_partFor 15 = .ok (.iconst 1, 1) := by decide +kernel
theorem dX2_partFor_16 : decode cX2_partFor 16 = .ok (.iand, 1) := by decide +kernel
theorem dX2_partFor_17 : decode cX2_partFor 17 = .ok (.ifCond .ne 5, 3) := by decide +kernel
theorem dX2_partFor_20 : decode cX2_partFor 20 = .ok (.aconst_null, 1) := by decide +kernel
theorem dX2_partFor_21 : decode cX2_partFor 21 = .ok (.areturn, 1) := by decide +kernel
theorem dX2_partFor_22 : decode cX2_partFor 22 = .ok (.aload_n 0, 1) := by decide +kernel
theorem dX2_partFor_23 : decode cX2_partFor 23 = .ok (.getfield 11, 3) := by decide +kernel
theorem dX2_partFor_26 : decode cX2_partFor 26 = .ok (.iload_n 1, 1) := by decide +kernel
theorem dX2_partFor_27 : decode cX2_partFor 27 = .ok (.aaload, 1) := by decide +kernel
theorem dX2_partFor_28 : decode cX2_partFor 28 = .ok (.areturn, 1) := by decide +kernel
theorem dX2_mayBeginIn_0 : decode cX2_mayBeginIn 0 = .ok (.iload_n 1, 1) := by decide +kernel
theorem dX2_mayBeginIn_1 : decode cX2_mayBeginIn 1 = .ok (.aload_n 0, 1) := by decide +kernel
theorem dX2_mayBeginIn_2 : decode cX2_mayBeginIn 2 = .ok (.getfield 35, 3) := by decide +kernel
theorem dX2_mayBeginIn_5 : decode cX2_mayBeginIn 5 = .ok (.aload_n 0, 1) := by decide +kernel
theorem dX2_mayBeginIn_6 : decode cX2_mayBeginIn 6 = .ok (.getfield 38, 3) := by decide +kernel
theorem dX2_mayBeginIn_9 : decode cX2_mayBeginIn 9 = .ok (.invokestatic 44, 3) := by decide +kernel
theorem dX2_mayBeginIn_12 : decode cX2_mayBeginIn 12 = .ok (.ireturn, 1) := by decide +kernel
theorem dX2_partCents_0 : decode cX2_partCents 0 = .ok (.aload_n 0, 1) := by decide +kernel
theorem dX2_partCents_1 : decode cX2_partCents 1 = .ok (.iload_n 2, 1) := by decide +kernel
theorem dX2_partCents_2 : decode cX2_partCents 2 = .ok (.invokevirtual 49, 3) := by decide +kernel
theorem dX2_partCents_5 : decode cX2_partCents 5 = .ok (.astore_n 3, 1) := by decide +kernel
theorem dX2_partCents_6 : decode cX2_partCents 6 = .ok (.aload_n 3, 1) := by decide +kernel
theorem dX2_partCents_7 : decode cX2_partCents 7 = .ok (.ifnull 9, 3) := by decide +kernel
theorem dX2_partCents_10 : decode cX2_partCents 10 = .ok (.iload_n 2, 1) := by decide +kernel
theorem dX2_partCents_11 : decode cX2_partCents 11 = .ok (.aload_n 1, 1) := by decide +kernel
theorem dX2_partCents_12 : decode cX2_partCents 12 = .ok (.arraylength, 1) := by decide +kernel
theorem dX2_partCents_13 : decode cX2_partCents 13 = .ok (.if_icmp .lt 7, 3) := by decide +kernel
theorem dX2_partCents_16 : decode cX2_partCents 16 = .ok (.lconst 0, 1) := by decide +kernel
theorem dX2_partCents_17 : decode cX2_partCents 17 = .ok (.goto 10, 3) := by decide +kernel
theorem dX2_partCents_20 : decode cX2_partCents 20 = .ok (.aload_n 3, 1) := by decide +kernel
theorem dX2_partCents_21 : decode cX2_partCents 21 = .ok (.aload_n 1, 1) := by decide +kernel
theorem dX2_partCents_22 : decode cX2_partCents 22 = .ok (.iload_n 2, 1) := by decide +kernel
theorem dX2_partCents_23 : decode cX2_partCents 23 = .ok (.iaload, 1) := by decide +kernel
theorem dX2_partCents_24 : decode cX2_partCents 24 = .ok (.invokevirtual 53, 3) := by decide +kernel
theorem dX2_partCents_27 : decode cX2_partCents 27 = .ok (.lreturn, 1) := by decide +kernel
theorem dX2_monthCents_0 : decode cX2_monthCents 0 = .ok (.aload_n 0, 1) := by decide +kernel
theorem dX2_monthCents_1 : decode cX2_monthCents 1 = .ok (.getfield 29, 3) := by decide +kernel
theorem dX2_monthCents_4 : decode cX2_monthCents 4 = .ok (.i2l, 1) := by decide +kernel
theorem dX2_monthCents_5 : decode cX2_monthCents 5 = .ok (.lstore_n 2, 1) := by decide +kernel
theorem dX2_monthCents_6 : decode cX2_monthCents 6 = .ok (.iconst 0, 1) := by decide +kernel
theorem dX2_monthCents_7 : decode cX2_monthCents 7 = .ok (.istore 4, 2) := by decide +kernel
theorem dX2_monthCents_9 : decode cX2_monthCents 9 = .ok (.iload 4, 2) := by decide +kernel
theorem dX2_monthCents_11 : decode cX2_monthCents 11 = .ok (.iconst 4, 1) := by decide +kernel
theorem dX2_monthCents_12 : decode cX2_monthCents 12 = .ok (.if_icmp .ge 46, 3) := by decide +kernel
theorem dX2_monthCents_15 : decode cX2_monthCents 15 = .ok (.iload 4, 2) := by decide +kernel
theorem dX2_monthCents_17 : decode cX2_monthCents 17 = .ok (.aload_n 1, 1) := by decide +kernel
theorem dX2_monthCents_18 : decode cX2_monthCents 18 = .ok (.arraylength, 1) := by decide +kernel
theorem dX2_monthCents_19 : decode cX2_monthCents 19 = .ok (.if_icmp .ge 39, 3) := by decide +kernel
theorem dX2_monthCents_22 : decode cX2_monthCents 22 = .ok (.aload_n 1, 1) := by decide +kernel
theorem dX2_monthCents_23 : decode cX2_monthCents 23 = .ok (.iload 4, 2) := by decide +kernel
theorem dX2_monthCents_25 : decode cX2_monthCents 25 = .ok (.iaload, 1) := by decide +kernel
theorem dX2_monthCents_26 : decode cX2_monthCents 26 = .ok (.ifCond .le 16, 3) := by decide +kernel
theorem dX2_monthCents_29 : decode cX2_monthCents 29 = .ok (.aload_n 0, 1) := by decide +kernel
theorem dX2_monthCents_30 : decode cX2_monthCents 30 = .ok (.iload 4, 2) := by decide +kernel
theorem dX2_monthCents_32 : decode cX2_monthCents 32 = .ok (.invokevirtual 49, 3) := by decide +kernel
theorem dX2_monthCents_35 : decode cX2_monthCents 35 = .ok (.ifnonnull 7, 3) := by decide +kernel
theorem dX2_monthCents_38 : decode cX2_monthCents 38 = .ok (.ldc2_w 57, 3) := by decide +kernel
theorem dX2_monthCents_41 : decode cX2_monthCents 41 = .ok (.lreturn, 1) := by decide +kernel
theorem dX2_monthCents_42 : decode cX2_monthCents 42 = .ok (.lload_n 2, 1) := by decide +kernel
theorem dX2_monthCents_43 : decode cX2_monthCents 43 = .ok (.aload_n 0, 1) := by decide +kernel
theorem dX2_monthCents_44 : decode cX2_monthCents 44 = .ok (.aload_n 1, 1) := by decide +kernel
theorem dX2_monthCents_45 : decode cX2_monthCents 45 = .ok (.iload 4, 2) := by decide +kernel
theorem dX2_monthCents_47 : decode cX2_monthCents 47 = .ok (.invokevirtual 59, 3) := by decide +kernel
theorem dX2_monthCents_50 : decode cX2_monthCents 50 = .ok (.ladd, 1) := by decide +kernel
theorem dX2_monthCents_51 : decode cX2_monthCents 51 = .ok (.lstore_n 2, 1) := by decide +kernel
theorem dX2_monthCents_52 : decode cX2_monthCents 52 = .ok (.iinc 4 1, 3) := by decide +kernel
theorem dX2_monthCents_55 : decode cX2_monthCents 55 = .ok (.goto (-46), 3) := by decide +kernel
theorem dX2_monthCents_58 : decode cX2_monthCents 58 = .ok (.lload_n 2, 1) := by decide +kernel
theorem dX2_monthCents_59 : decode cX2_monthCents 59 = .ok (.lreturn, 1) := by decide +kernel
theorem dX3_init_0 : decode cX3_init 0 = .ok (.aload_n 0, 1) := by decide +kernel
theorem dX3_init_1 : decode cX3_init 1 = .ok (.invokespecial 3, 3) := by decide +kernel
theorem dX3_init_4 : decode cX3_init 4 = .ok (.aload_n 0, 1) := by decide +kernel
theorem dX3_init_5 : decode cX3_init 5 = .ok (.bipush 10, 2) := by decide +kernel
theorem dX3_init_7 : decode cX3_init 7 = .ok (.anewarray 9, 3) := by decide +kernel
theorem dX3_init_10 : decode cX3_init 10 = .ok (.putfield 11, 3) := by decide +kernel
theorem dX3_init_13 : decode cX3_init 13 = .ok (.iconst 0, 1) := by decide +kernel
theorem dX3_init_14 : decode cX3_init 14 = .ok (.istore_n 1, 1) := by decide +kernel
theorem dX3_init_15 : decode cX3_init 15 = .ok (.iload_n 1, 1) := by decide +kernel
theorem dX3_init_16 : decode cX3_init 16 = .ok (.bipush 10, 2) := by decide +kernel
theorem dX3_init_18 : decode cX3_init 18 = .ok (.if_icmp .ge 22, 3) := by decide +kernel
theorem dX3_init_21 : decode cX3_init 21 = .ok (.aload_n 0, 1) := by decide +kernel
theorem dX3_init_22 : decode cX3_init 22 = .ok (.getfield 11, 3) := by decide +kernel
theorem dX3_init_25 : decode cX3_init 25 = .ok (.iload_n 1, 1) := by decide +kernel
theorem dX3_init_26 : decode cX3_init 26 = .ok (.new 9, 3) := by decide +kernel
theorem dX3_init_29 : decode cX3_init 29 = .ok (.dup, 1) := by decide +kernel
theorem dX3_init_30 : decode cX3_init 30 = .ok (.invokespecial 17, 3) := by decide +kernel
theorem dX3_init_33 : decode cX3_init 33 = .ok (.aastore, 1) := by decide +kernel
theorem dX3_init_34 : decode cX3_init 34 = .ok (.iinc 1 1, 3) := by decide +kernel
theorem dX3_init_37 : decode cX3_init 37 = .ok (.goto (-22), 3) := by decide +kernel
theorem dX3_init_40 : decode cX3_init 40 = .ok (.return_, 1) := by decide +kernel
theorem dX3_at_0 : decode cX3_at 0 = .ok (.iload_n 1, 1) := by decide +kernel
theorem dX3_at_1 : decode cX3_at 1 = .ok (.ifCond .lt 17, 3) := by decide +kernel
theorem dX3_at_4 : decode cX3_at 4 = .ok (.iload_n 1, 1) := by decide +kernel
theorem dX3_at_5 : decode cX3_at 5 = .ok (.aload_n 0, 1) := by decide +kernel
theorem dX3_at_6 : decode cX3_at 6 = .ok (.getfield 18, 3) := by decide +kernel
theorem dX3_at_9 : decode cX3_at 9 = .ok (.if_icmp .ge 9, 3) := by decide +kernel
theorem dX3_at_12 : decode cX3_at 12 = .ok (.iload_n 1, 1) := by decide +kernel
theorem dX3_at_13 : decode cX3_at 13 = .ok (.bipush 10, 2) := by decide +kernel
theorem dX3_at_15 : decode cX3_at 15 = .ok (.if_icmp .lt 7, 3) := by decide +kernel
theorem dX3_at_18 : decode cX3_at 18 = .ok (.aconst_null, 1) := by decide +kernel
theorem dX3_at_19 : decode cX3_at 19 = .ok (.goto 9, 3) := by decide +kernel
theorem dX3_at_22 : decode cX3_at 22 = .ok (.aload_n 0, 1) := by decide +kernel
theorem dX3_at_23 : decode cX3_at 23 = .ok (.getfield 11, 3) := by decide +kernel
theorem dX3_at_26 : decode cX3_at 26 = .ok (.iload_n 1, 1) := by decide +kernel
theorem dX3_at_27 : decode cX3_at 27 = .ok (.aaload, 1) := by decide +kernel
theorem dX3_at_28 : decode cX3_at 28 = .ok (.areturn, 1) := by decide +kernel
theorem dX3_hasName_0 : decode cX3_hasName 0 = .ok (.iconst 0, 1) := by decide +kernel
theorem dX3_hasName_1 : decode cX3_hasName 1 = .ok (.istore_n 3, 1) := by decide +kernel
theorem dX3_hasName_2 : decode cX3_hasName 2 = .ok (.iload_n 3, 1) := by decide +kernel
theorem dX3_hasName_3 : decode cX3_hasName 3 = .ok (.aload_n 0, 1) := by decide +kernel
theorem dX3_hasName_4 : decode cX3_hasName 4 = .ok (.getfield 18, 3) := by decide +kernel
theorem dX3_hasName_7 : decode cX3_hasName 7 = .ok (.if_icmp .ge 33, 3) := by decide +kernel
theorem dX3_hasName_10 : decode cX3_hasName 10 = .ok (.aload_n 0, 1) := by decide +kernel
theorem dX3_hasName_11 : decode cX3_hasName 11 = .ok (.iload_n 3, 1) := by decide +kernel
theorem dX3_hasName_12 : decode cX3_hasName 12 = .ok (.invokevirtual 22, 3) := by decide +kernel
theorem dX3_hasName_15 : decode cX3_hasName 15 = .ok (.astore 4, 2) := by decide +kernel
theorem dX3_hasName_17 : decode cX3_hasName 17 = .ok (.aload 4, 2) := by decide +kernel
theorem dX3_hasName_19 : decode cX3_hasName 19 = .ok (.ifnull 15, 3) := by decide +kernel
theorem dX3_hasName_22 : decode cX3_hasName 22 = .ok (.aload 4, 2) := by decide +kernel
theorem dX3_hasName_24 : decode cX3_hasName 24 = .ok (.getfield 26, 3) := by decide +kernel
theorem dX3_hasName_27 : decode cX3_hasName 27 = .ok (.lload_n 1, 1) := by decide +kernel
theorem dX3_hasName_28 : decode cX3_hasName 28 = .ok (.lcmp, 1) := by decide +kernel
theorem dX3_hasName_29 : decode cX3_hasName 29 = .ok (.ifCond .ne 5, 3) := by decide +kernel
theorem dX3_hasName_32 : decode cX3_hasName 32 = .ok (.iconst 1, 1) := by decide +kernel
theorem dX3_hasName_33 : decode cX3_hasName 33 = .ok (.ireturn, 1) := by decide +kernel
theorem dX3_hasName_34 : decode cX3_hasName 34 = .ok (.iinc 3 1, 3) := by decide +kernel
theorem dX3_hasName_37 : decode cX3_hasName 37 = .ok (.goto (-35), 3) := by decide +kernel
theorem dX3_hasName_40 : decode cX3_hasName 40 = .ok (.iconst 0, 1) := by decide +kernel
theorem dX3_hasName_41 : decode cX3_hasName 41 = .ok (.ireturn, 1) := by decide +kernel
theorem dX3_nextPlan_0 : decode cX3_nextPlan 0 = .ok (.aload_n 0, 1) := by decide +kernel
theorem dX3_nextPlan_1 : decode cX3_nextPlan 1 = .ok (.getfield 18, 3) := by decide +kernel
theorem dX3_nextPlan_4 : decode cX3_nextPlan 4 = .ok (.ifCond .lt 12, 3) := by decide +kernel
theorem dX3_nextPlan_7 : decode cX3_nextPlan 7 = .ok (.aload_n 0, 1) := by decide +kernel
theorem dX3_nextPlan_8 : decode cX3_nextPlan 8 = .ok (.getfield 18, 3) := by decide +kernel
theorem dX3_nextPlan_11 : decode cX3_nextPlan 11 = .ok (.bipush 10, 2) := by decide +kernel
theorem dX3_nextPlan_13 : decode cX3_nextPlan 13 = .ok (.if_icmp .lt 5, 3) := by decide +kernel
theorem dX3_nextPlan_16 : decode cX3_nextPlan 16 = .ok (.aconst_null, 1) := by decide +kernel
theorem dX3_nextPlan_17 : decode cX3_nextPlan 17 = .ok (.areturn, 1) := by decide +kernel
theorem dX3_nextPlan_18 : decode cX3_nextPlan 18 = .ok (.aload_n 0, 1) := by decide +kernel
theorem dX3_nextPlan_19 : decode cX3_nextPlan 19 = .ok (.getfield 11, 3) := by decide +kernel
theorem dX3_nextPlan_22 : decode cX3_nextPlan 22 = .ok (.aload_n 0, 1) := by decide +kernel
theorem dX3_nextPlan_23 : decode cX3_nextPlan 23 = .ok (.getfield 18, 3) := by decide +kernel
theorem dX3_nextPlan_26 : decode cX3_nextPlan 26 = .ok (.aaload, 1) := by decide +kernel
theorem dX3_nextPlan_27 : decode cX3_nextPlan 27 = .ok (.astore_n 1, 1) := by decide +kernel
theorem dX3_nextPlan_28 : decode cX3_nextPlan 28 = .ok (.aload_n 1, 1) := by decide +kernel
theorem dX3_nextPlan_29 : decode cX3_nextPlan 29 = .ok (.ifnull 7, 3) := by decide +kernel
theorem dX3_nextPlan_32 : decode cX3_nextPlan 32 = .ok (.aload_n 1, 1) := by decide +kernel
theorem dX3_nextPlan_33 : decode cX3_nextPlan 33 = .ok (.invokevirtual 30, 3) := by decide +kernel
theorem dX3_nextPlan_36 : decode cX3_nextPlan 36 = .ok (.aload_n 1, 1) := by decide +kernel
theorem dX3_nextPlan_37 : decode cX3_nextPlan 37 = .ok (.areturn, 1) := by decide +kernel
theorem dX4_init_0 : decode cX4_init 0 = .ok (.aload_n 0, 1) := by decide +kernel
theorem dX4_init_1 : decode cX4_init 1 = .ok (.invokespecial 3, 3) := by decide +kernel
theorem dX4_init_4 : decode cX4_init 4 = .ok (.aload_n 0, 1) := by decide +kernel
theorem dX4_init_5 : decode cX4_init 5 = .ok (.aload_n 1, 1) := by decide +kernel
theorem dX4_init_6 : decode cX4_init 6 = .ok (.putfield 9, 3) := by decide +kernel
theorem dX4_init_9 : decode cX4_init 9 = .ok (.aload_n 0, 1) := by decide +kernel
theorem dX4_init_10 : decode cX4_init 10 = .ok (.new 15, 3) := by decide +kernel
theorem dX4_init_13 : decode cX4_init 13 = .ok (.dup, 1) := by decide +kernel
theorem dX4_init_14 : decode cX4_init 14 = .ok (.invokespecial 17, 3) := by decide +kernel
theorem dX4_init_17 : decode cX4_init 17 = .ok (.putfield 18, 3) := by decide +kernel
theorem dX4_init_20 : decode cX4_init 20 = .ok (.return_, 1) := by decide +kernel
theorem dX4_exchange_0 : decode cX4_exchange 0 = .ok (.aload_n 0, 1) := by decide +kernel
theorem dX4_exchange_1 : decode cX4_exchange 1 = .ok (.getfield 18, 3) := by decide +kernel
theorem dX4_exchange_4 : decode cX4_exchange 4 = .ok (.astore_n 2, 1) := by decide +kernel
theorem dX4_exchange_5 : decode cX4_exchange 5 = .ok (.aload_n 0, 1) := by decide +kernel
theorem dX4_exchange_6 : decode cX4_exchange 6 = .ok (.aload_n 1, 1) := by decide +kernel
theorem dX4_exchange_7 : decode cX4_exchange 7 = .ok (.putfield 18, 3) := by decide +kernel
theorem dX4_exchange_10 : decode cX4_exchange 10 = .ok (.aload_n 2, 1) := by decide +kernel
theorem dX4_exchange_11 : decode cX4_exchange 11 = .ok (.areturn, 1) := by decide +kernel
theorem dX4_readText_0 : decode cX4_readText 0 = .ok (.aload_n 0, 1) := by decide +kernel
theorem dX4_readText_1 : decode cX4_readText 1 = .ok (.getfield 18, 3) := by decide +kernel
theorem dX4_readText_4 : decode cX4_readText 4 = .ok (.iconst 0, 1) := by decide +kernel
theorem dX4_readText_5 : decode cX4_readText 5 = .ok (.putfield 22, 3) := by decide +kernel
theorem dX4_readText_8 : decode cX4_readText 8 = .ok (.aload_n 0, 1) := by decide +kernel
theorem dX4_readText_9 : decode cX4_readText 9 = .ok (.iconst 0, 1) := by decide +kernel
theorem dX4_readText_10 : decode cX4_readText 10 = .ok (.putfield 26, 3) := by decide +kernel
theorem dX4_readText_13 : decode cX4_readText 13 = .ok (.aload_n 0, 1) := by decide +kernel
theorem dX4_readText_14 : decode cX4_readText 14 = .ok (.iconst 0, 1) := by decide +kernel
theorem dX4_readText_15 : decode cX4_readText 15 = .ok (.putfield 29, 3) := by decide +kernel
theorem dX4_readText_18 : decode cX4_readText 18 = .ok (.aload_n 0, 1) := by decide +kernel
theorem dX4_readText_19 : decode cX4_readText 19 = .ok (.iconst 0, 1) := by decide +kernel
theorem dX4_readText_20 : decode cX4_readText 20 = .ok (.putfield 32, 3) := by decide +kernel
theorem dX4_readText_23 : decode cX4_readText 23 = .ok (.iconst (-1), 1) := by decide +kernel
theorem dX4_readText_24 : decode cX4_readText 24 = .ok (.istore_n 1, 1) := by decide +kernel
theorem dX4_readText_25 : decode cX4_readText 25 = .ok (.iconst 0, 1) := by decide +kernel
theorem dX4_readText_26 : decode cX4_readText 26 = .ok (.istore_n 2, 1) := by decide +kernel
theorem dX4_readText_27 : decode cX4_readText 27 = .ok (.iload_n 2, 1) := by decide +kernel
theorem dX4_readText_28 : decode cX4_readText 28 = .ok (.sipush 800, 3) := by decide +kernel
theorem dX4_readText_31 : decode cX4_readText 31 = .ok (.if_icmp .gt 52, 3) := by decide +kernel
theorem dX4_readText_34 : decode cX4_readText 34 = .ok (.aload_n 0, 1) := by decide +kernel
theorem dX4_readText_35 : decode cX4_readText 35 = .ok (.invokevirtual 35, 3) := by decide +kernel
theorem dX4_readText_38 : decode cX4_readText 38 = .ok (.aload_n 0, 1) := by decide +kernel
theorem dX4_readText_39 : decode cX4_readText 39 = .ok (.iload_n 1, 1) := by decide +kernel
theorem dX4_readText_40 : decode cX4_readText 40 = .ok (.invokevirtual 38, 3) := by decide +kernel
theorem dX4_readText_43 : decode cX4_readText 43 = .ok (.ifCond .ne 9, 3) := by decide +kernel
theorem dX4_readText_46 : decode cX4_readText 46 = .ok (.aload_n 0, 1) := by decide +kernel
theorem dX4_readText_47 : decode cX4_readText 47 = .ok (.iconst 1, 1) := by decide +kernel
theorem dX4_readText_48 : decode cX4_readText 48 = .ok (.invokevirtual 42, 3) := by decide +kernel
theorem dX4_readText_51 : decode cX4_readText 51 = .ok (.ireturn, 1) := by decide +kernel
theorem dX4_readText_52 : decode cX4_readText 52 = .ok (.aload_n 0, 1) := by decide +kernel
theorem dX4_readText_53 : decode cX4_readText 53 = .ok (.getfield 45, 3) := by decide +kernel
theorem dX4_readText_56 : decode cX4_readText 56 = .ok (.bipush 11, 2) := by decide +kernel
theorem dX4_readText_58 : decode cX4_readText 58 = .ok (.if_icmp .ne 5, 3) := by decide +kernel
theorem dX4_readText_61 : decode cX4_readText 61 = .ok (.iconst 1, 1) := by decide +kernel
theorem dX4_readText_62 : decode cX4_readText 62 = .ok (.ireturn, 1) := by decide +kernel
theorem dX4_readText_63 : decode cX4_readText 63 = .ok (.aload_n 0, 1) := by decide +kernel
theorem dX4_readText_64 : decode cX4_readText 64 = .ok (.getfield 45, 3) := by decide +kernel
theorem dX4_readText_67 : decode cX4_readText 67 = .ok (.istore_n 1, 1) := by decide +kernel
theorem dX4_readText_68 : decode cX4_readText 68 = .ok (.aload_n 0, 1) := by decide +kernel
theorem dX4_readText_69 : decode cX4_readText 69 = .ok (.invokevirtual 48, 3) := by decide +kernel
theorem dX4_readText_72 : decode cX4_readText 72 = .ok (.ifCond .ne 5, 3) := by decide +kernel
theorem dX4_readText_75 : decode cX4_readText 75 = .ok (.iconst 0, 1) := by decide +kernel
theorem dX4_readText_76 : decode cX4_readText 76 = .ok (.ireturn, 1) := by decide +kernel
theorem dX4_readText_77 : decode cX4_readText 77 = .ok (.iinc 2 1, 3) := by decide +kernel
theorem dX4_readText_80 : decode cX4_readText 80 = .ok (.goto (-53), 3) := by decide +kernel
theorem dX4_readText_83 : decode cX4_readText 83 = .ok (.aload_n 0, 1) := by decide +kernel
theorem dX4_readText_84 : decode cX4_readText 84 = .ok (.iconst 1, 1) := by decide +kernel
theorem dX4_readText_85 : decode cX4_readText 85 = .ok (.invokevirtual 42, 3) := by decide +kernel
theorem dX4_readText_88 : decode cX4_readText 88 = .ok (.ireturn, 1) := by decide +kernel
theorem dX4_mayFollow_0 : decode cX4_mayFollow 0 = .ok (.iload_n 1, 1) := by decide +kernel
theorem dX4_mayFollow_1 : decode cX4_mayFollow 1 = .ok (.tableswitch 274 0 10 #[59, 73, 112, 143, 157, 180, 213, 237, 213, 157, 252], 59) := by decide +kernel
theorem dX4_mayFollow_60 : decode cX4_mayFollow 60 = .ok (.aload_n 0, 1) := by decide +kernel
theorem dX4_mayFollow_61 : decode cX4_mayFollow 61 = .ok (.getfield 45, 3) := by decide +kernel
theorem dX4_mayFollow_64 : decode cX4_mayFollow 64 = .ok (.iconst 1, 1) := by decide +kernel
theorem dX4_mayFollow_65 : decode cX4_mayFollow 65 = .ok (.if_icmp .ne 7, 3) := by decide +kernel
theorem dX4_mayFollow_68 : decode cX4_mayFollow 68 = .ok (.iconst 1, 1) := by decide +kernel
theorem dX4_mayFollow_69 : decode cX4_mayFollow 69 = .ok (.goto 4, 3) := by decide +kernel
theorem dX4_mayFollow_72 : decode cX4_mayFollow 72 = .ok (.iconst 0, 1) := by decide +kernel
theorem dX4_mayFollow_73 : decode cX4_mayFollow 73 = .ok (.ireturn, 1) := by decide +kernel
theorem dX4_mayFollow_74 : decode cX4_mayFollow 74 = .ok (.aload_n 0, 1) := by decide +kernel
theorem dX4_mayFollow_75 : decode cX4_mayFollow 75 = .ok (.getfield 45, 3) := by decide +kernel
theorem dX4_mayFollow_78 : decode cX4_mayFollow 78 = .ok (.iconst 2, 1) := by decide +kernel
theorem dX4_mayFollow_79 : decode cX4_mayFollow 79 = .ok (.if_icmp .eq 28, 3) := by decide +kernel
theorem dX4_mayFollow_82 : decode cX4_mayFollow 82 = .ok (.aload_n 0, 1) := by decide +kernel
theorem dX4_mayFollow_83 : decode cX4_mayFollow 83 = .ok (.getfield 45, 3) := by decide +kernel
theorem dX4_mayFollow_86 : decode cX4_mayFollow 86 = .ok (.iconst 3, 1) := by decide +kernel
theorem dX4_mayFollow_87 : decode cX4_mayFollow 87 = .ok (.if_icmp .eq 20, 3) := by decide +kernel
theorem dX4_mayFollow_90 : decode cX4_mayFollow 90 = .ok (.aload_n 0, 1) := by decide +kernel
theorem dX4_mayFollow_91 : decode cX4_mayFollow 91 = .ok (.getfield 45, 3) := by decide +kernel
theorem dX4_mayFollow_94 : decode cX4_mayFollow 94 = .ok (.iconst 5, 1) := by decide +kernel
theorem dX4_mayFollow_95 : decode cX4_mayFollow 95 = .ok (.if_icmp .eq 12, 3) := by decide +kernel
theorem dX4_mayFollow_98 : decode cX4_mayFollow 98 = .ok (.aload_n 0, 1) := by decide +kernel
theorem dX4_mayFollow_99 : decode cX4_mayFollow 99 = .ok (.getfield 45, 3) := by decide +kernel
theorem dX4_mayFollow_102 : decode cX4_mayFollow 102 = .ok (.bipush 10, 2) := by decide +kernel
theorem dX4_mayFollow_104 : decode cX4_mayFollow 104 = .ok (.if_icmp .ne 7, 3) := by decide +kernel
theorem dX4_mayFollow_107 : decode cX4_mayFollow 107 = .ok (.iconst 1, 1) := by decide +kernel
theorem dX4_mayFollow_108 : decode cX4_mayFollow 108 = .ok (.goto 4, 3) := by decide +kernel
theorem dX4_mayFollow_111 : decode cX4_mayFollow 111 = .ok (.iconst 0, 1) := by decide +kernel
theorem dX4_mayFollow_112 : decode cX4_mayFollow 112 = .ok (.ireturn, 1) := by decide +kernel
theorem dX4_mayFollow_113 : decode cX4_mayFollow 113 = .ok (.aload_n 0, 1) := by decide +kernel
theorem dX4_mayFollow_114 : decode cX4_mayFollow 114 = .ok (.getfield 45, 3) := by decide +kernel
theorem dX4_mayFollow_117 : decode cX4_mayFollow 117 = .ok (.iconst 3, 1) := by decide +kernel
theorem dX4_mayFollow_118 : decode cX4_mayFollow 118 = .ok (.if_icmp .eq 20, 3) := by decide +kernel
theorem dX4_mayFollow_121 : decode cX4_mayFollow 121 = .ok (.aload_n 0, 1) := by decide +kernel
theorem dX4_mayFollow_122 : decode cX4_mayFollow 122 = .ok (.getfield 45, 3) := by decide +kernel
theorem dX4_mayFollow_125 : decode cX4_mayFollow 125 = .ok (.iconst 5, 1) := by decide +kernel
theorem dX4_mayFollow_126 : decode cX4_mayFollow 126 = .ok (.if_icmp .eq 12, 3) := by decide +kernel
theorem dX4_mayFollow_129 : decode cX4_mayFollow 129 = .ok (.aload_n 0, 1) := by decide +kernel
theorem dX4_mayFollow_130 : decode cX4_mayFollow 130 = .ok (.getfield 45, 3) := by decide +kernel
theorem dX4_mayFollow_133 : decode cX4_mayFollow 133 = .ok (.bipush 10, 2) := by decide +kernel
theorem dX4_mayFollow_135 : decode cX4_mayFollow 135 = .ok (.if_icmp .ne 7, 3) := by decide +kernel
theorem dX4_mayFollow_138 : decode cX4_mayFollow 138 = .ok (.iconst 1, 1) := by decide +kernel
theorem dX4_mayFollow_139 : decode cX4_mayFollow 139 = .ok (.goto 4, 3) := by decide +kernel
theorem dX4_mayFollow_142 : decode cX4_mayFollow 142 = .ok (.iconst 0, 1) := by decide +kernel
theorem dX4_mayFollow_143 : decode cX4_mayFollow 143 = .ok (.ireturn, 1) := by decide +kernel
theorem dX4_mayFollow_144 : decode cX4_mayFollow 144 = .ok (.aload_n 0, 1) := by decide +kernel
theorem dX4_mayFollow_145 : decode cX4_mayFollow 145 = .ok (.getfield 45, 3) := by decide +kernel
theorem dX4_mayFollow_148 : decode cX4_mayFollow 148 = .ok (.iconst 4, 1) := by decide +kernel
theorem dX4_mayFollow_149 : decode cX4_mayFollow 149 = .ok (.if_icmp .ne 7, 3) := by decide +kernel
theorem dX4_mayFollow_152 : decode cX4_mayFollow 152 = .ok (.iconst 1, 1) := by decide +kernel
theorem dX4_mayFollow_153 : decode cX4_mayFollow 153 = .ok (.goto 4, 3) := by decide +kernel
theorem dX4_mayFollow_156 : decode cX4_mayFollow 156 = .ok (.iconst 0, 1) := by decide +kernel
theorem dX4_mayFollow_157 : decode cX4_mayFollow 157 = .ok (.ireturn, 1) := by decide +kernel
theorem dX4_mayFollow_158 : decode cX4_mayFollow 158 = .ok (.aload_n 0, 1) := by decide +kernel
theorem dX4_mayFollow_159 : decode cX4_mayFollow 159 = .ok (.getfield 45, 3) := by decide +kernel
theorem dX4_mayFollow_162 : decode cX4_mayFollow 162 = .ok (.iconst 5, 1) := by decide +kernel
theorem dX4_mayFollow_163 : decode cX4_mayFollow 163 = .ok (.if_icmp .eq 12, 3) := by decide +kernel
theorem dX4_mayFollow_166 : decode cX4_mayFollow 166 = .ok (.aload_n 0, 1) := by decide +kernel
theorem dX4_mayFollow_167 : decode cX4_mayFollow 167 = .ok (.getfield 45, 3) := by decide +kernel
theorem dX4_mayFollow_170 : decode cX4_mayFollow 170 = .ok (.bipush 10, 2) := by decide +kernel
theorem dX4_mayFollow_172 : decode cX4_mayFollow 172 = .ok (.if_icmp .ne 7, 3) := by decide +kernel
theorem dX4_mayFollow_175 : decode cX4_mayFollow 175 = .ok (.iconst 1, 1) := by decide +kernel
theorem dX4_mayFollow_176 : decode cX4_mayFollow 176 = .ok (.goto 4, 3) := by decide +kernel
theorem dX4_mayFollow_179 : decode cX4_mayFollow 179 = .ok (.iconst 0, 1) := by decide +kernel
theorem dX4_mayFollow_180 : decode cX4_mayFollow 180 = .ok (.ireturn, 1) := by decide +kernel
theorem dX4_mayFollow_181 : decode cX4_mayFollow 181 = .ok (.aload_n 0, 1) := by decide +kernel
theorem dX4_mayFollow_182 : decode cX4_mayFollow 182 = .ok (.getfield 45, 3) := by decide +kernel
theorem dX4_mayFollow_185 : decode cX4_mayFollow 185 = .ok (.bipush 6, 2) := by decide +kernel
theorem dX4_mayFollow_187 : decode cX4_mayFollow 187 = .ok (.if_icmp .eq 21, 3) := by decide +kernel
theorem dX4_mayFollow_190 : decode cX4_mayFollow 190 = .ok (.aload_n 0, 1) := by decide +kernel
theorem dX4_mayFollow_191 : decode cX4_mayFollow 191 = .ok (.getfield 45, 3) := by decide +kernel
theorem dX4_mayFollow_194 : decode cX4_mayFollow 194 = .ok (.bipush 7, 2) := by decide +kernel
theorem dX4_mayFollow_196 : decode cX4_mayFollow 196 = .ok (.if_icmp .eq 12, 3) := by decide +kernel
theorem dX4_mayFollow_199 : decode cX4_mayFollow 199 = .ok (.aload_n 0, 1) := by decide +kernel
theorem dX4_mayFollow_200 : decode cX4_mayFollow 200 = .ok (.getfield 45, 3) := by decide +kernel
theorem dX4_mayFollow_203 : decode cX4_mayFollow 203 = .ok (.bipush 9, 2) := by decide +kernel
theorem dX4_mayFollow_205 : decode cX4_mayFollow 205 = .ok (.if_icmp .ne 7, 3) := by decide +kernel
theorem dX4_mayFollow_208 : decode cX4_mayFollow 208 = .ok (.iconst 1, 1) := by decide +kernel
theorem dX4_mayFollow_209 : decode cX4_mayFollow 209 = .ok (.goto 4, 3) := by decide +kernel
theorem dX4_mayFollow_212 : decode cX4_mayFollow 212 = .ok (.iconst 0, 1) := by decide +kernel
theorem dX4_mayFollow_213 : decode cX4_mayFollow 213 = .ok (.ireturn, 1) := by decide +kernel
theorem dX4_mayFollow_214 : decode cX4_mayFollow 214 = .ok (.aload_n 0, 1) := by decide +kernel
theorem dX4_mayFollow_215 : decode cX4_mayFollow 215 = .ok (.getfield 45, 3) := by decide +kernel
theorem dX4_mayFollow_218 : decode cX4_mayFollow 218 = .ok (.bipush 7, 2) := by decide +kernel
theorem dX4_mayFollow_220 : decode cX4_mayFollow 220 = .ok (.if_icmp .eq 12, 3) := by decide +kernel
theorem dX4_mayFollow_223 : decode cX4_mayFollow 223 = .ok (.aload_n 0, 1) := by decide +kernel
theorem dX4_mayFollow_224 : decode cX4_mayFollow 224 = .ok (.getfield 45, 3) := by decide +kernel
theorem dX4_mayFollow_227 : decode cX4_mayFollow 227 = .ok (.bipush 9, 2) := by decide +kernel
theorem dX4_mayFollow_229 : decode cX4_mayFollow 229 = .ok (.if_icmp .ne 7, 3) := by decide +kernel
theorem dX4_mayFollow_232 : decode cX4_mayFollow 232 = .ok (.iconst 1, 1) := by decide +kernel
theorem dX4_mayFollow_233 : decode cX4_mayFollow 233 = .ok (.goto 4, 3) := by decide +kernel
theorem dX4_mayFollow_236 : decode cX4_mayFollow 236 = .ok (.iconst 0, 1) := by decide +kernel
theorem dX4_mayFollow_237 : decode cX4_mayFollow 237 = .ok (.ireturn, 1) := by decide +kernel
theorem dX4_mayFollow_238 : decode cX4_mayFollow 238 = .ok (.aload_n 0, 1) := by decide +kernel
theorem dX4_mayFollow_239 : decode cX4_mayFollow 239 = .ok (.getfield 45, 3) := by decide +kernel
theorem dX4_mayFollow_242 : decode cX4_mayFollow 242 = .ok (.bipush 8, 2) := by decide +kernel
theorem dX4_mayFollow_244 : decode cX4_mayFollow 244 = .ok (.if_icmp .ne 7, 3) := by decide +kernel
theorem dX4_mayFollow_247 : decode cX4_mayFollow 247 = .ok (.iconst 1, 1) := by decide +kernel
theorem dX4_mayFollow_248 : decode cX4_mayFollow 248 = .ok (.goto 4, 3) := by decide +kernel
theorem dX4_mayFollow_251 : decode cX4_mayFollow 251 = .ok (.iconst 0, 1) := by decide +kernel
theorem dX4_mayFollow_252 : decode cX4_mayFollow 252 = .ok (.ireturn, 1) := by decide +kernel
theorem dX4_mayFollow_253 : decode cX4_mayFollow 253 = .ok (.aload_n 0, 1) := by decide +kernel
theorem dX4_mayFollow_254 : decode cX4_mayFollow 254 = .ok (.getfield 45, 3) := by decide +kernel
theorem dX4_mayFollow_257 : decode cX4_mayFollow 257 = .ok (.ifCond .eq 12, 3) := by decide +kernel
theorem dX4_mayFollow_260 : decode cX4_mayFollow 260 = .ok (.aload_n 0, 1) := by decide +kernel
theorem dX4_mayFollow_261 : decode cX4_mayFollow 261 = .ok (.getfield 45, 3) := by decide +kernel
theorem dX4_mayFollow_264 : decode cX4_mayFollow 264 = .ok (.bipush 11, 2) := by decide +kernel
theorem dX4_mayFollow_266 : decode cX4_mayFollow 266 = .ok (.if_icmp .ne 7, 3) := by decide +kernel
theorem dX4_mayFollow_269 : decode cX4_mayFollow 269 = .ok (.iconst 1, 1) := by decide +kernel
theorem dX4_mayFollow_270 : decode cX4_mayFollow 270 = .ok (.goto 4, 3) := by decide +kernel
theorem dX4_mayFollow_273 : decode cX4_mayFollow 273 = .ok (.iconst 0, 1) := by decide +kernel
theorem dX4_mayFollow_274 : decode cX4_mayFollow 274 = .ok (.ireturn, 1) := by decide +kernel
theorem dX4_mayFollow_275 : decode cX4_mayFollow 275 = .ok (.aload_n 0, 1) := by decide +kernel
theorem dX4_mayFollow_276 : decode cX4_mayFollow 276 = .ok (.getfield 45, 3) := by decide +kernel
theorem dX4_mayFollow_279 : decode cX4_mayFollow 279 = .ok (.ifCond .ne 7, 3) := by decide +kernel
theorem dX4_mayFollow_282 : decode cX4_mayFollow 282 = .ok (.iconst 1, 1) := by decide +kernel
theorem dX4_mayFollow_283 : decode cX4_mayFollow 283 = .ok (.goto 4, 3) := by decide +kernel
theorem dX4_mayFollow_286 : decode cX4_mayFollow 286 = .ok (.iconst 0, 1) := by decide +kernel
theorem dX4_mayFollow_287 : decode cX4_mayFollow 287 = .ok (.ireturn, 1) := by decide +kernel
theorem dX4_readPair_0 : decode cX4_readPair 0 = .ok (.aload_n 0, 1) := by decide +kernel
theorem dX4_readPair_1 : decode cX4_readPair 1 = .ok (.getfield 45, 3) := by decide +kernel
theorem dX4_readPair_4 : decode cX4_readPair 4 = .ok (.bipush 10, 2) := by decide +kernel
theorem dX4_readPair_6 : decode cX4_readPair 6 = .ok (.if_icmp .ne 18, 3) := by decide +kernel
theorem dX4_readPair_9 : decode cX4_readPair 9 = .ok (.aload_n 0, 1) := by decide +kernel
theorem dX4_readPair_10 : decode cX4_readPair 10 = .ok (.getfield 18, 3) := by decide +kernel
theorem dX4_readPair_13 : decode cX4_readPair 13 = .ok (.dup, 1) := by decide +kernel
theorem dX4_readPair_14 : decode cX4_readPair 14 = .ok (.getfield 22, 3) := by decide +kernel
theorem dX4_readPair_17 : decode cX4_readPair 17 = .ok (.iconst 1, 1) := by decide +kernel
theorem dX4_readPair_18 : decode cX4_readPair 18 = .ok (.iadd, 1) := by decide +kernel
theorem dX4_readPair_19 : decode cX4_readPair 19 = .ok (.putfield 22, 3) := by decide +kernel
theorem dX4_readPair_22 : decode cX4_readPair 22 = .ok (.iconst 1, 1) := by decide +kernel
theorem dX4_readPair_23 : decode cX4_readPair 23 = .ok (.ireturn, 1) := by decide +kernel
theorem dX4_readPair_24 : decode cX4_readPair 24 = .ok (.aload_n 0, 1) := by decide +kernel
theorem dX4_readPair_25 : decode cX4_readPair 25 = .ok (.getfield 45, 3) := by decide +kernel
theorem dX4_readPair_28 : decode cX4_readPair 28 = .ok (.ifCond .ne 34, 3) := by decide +kernel
theorem dX4_readPair_31 : decode cX4_readPair 31 = .ok (.aload_n 0, 1) := by decide +kernel
theorem dX4_readPair_32 : decode cX4_readPair 32 = .ok (.aload_n 0, 1) := by decide +kernel
theorem dX4_readPair_33 : decode cX4_readPair 33 = .ok (.getfield 18, 3) := by decide +kernel
theorem dX4_readPair_36 : decode cX4_readPair 36 = .ok (.invokevirtual 52, 3) := by decide +kernel
theorem dX4_readPair_39 : decode cX4_readPair 39 = .ok (.putfield 56, 3) := by decide +kernel
theorem dX4_readPair_42 : decode cX4_readPair 42 = .ok (.aload_n 0, 1) := by decide +kernel
theorem dX4_readPair_43 : decode cX4_readPair 43 = .ok (.getfield 56, 3) := by decide +kernel
theorem dX4_readPair_46 : decode cX4_readPair 46 = .ok (.ifnonnull 11, 3) := by decide +kernel
theorem dX4_readPair_49 : decode cX4_readPair 49 = .ok (.aload_n 0, 1) := by decide +kernel
theorem dX4_readPair_50 : decode cX4_readPair 50 = .ok (.iconst 4, 1) := by decide +kernel
theorem dX4_readPair_51 : decode cX4_readPair 51 = .ok (.invokevirtual 42, 3) := by decide +kernel
theorem dX4_readPair_54 : decode cX4_readPair 54 = .ok (.goto 7, 3) := by decide +kernel
theorem dX4_readPair_57 : decode cX4_readPair 57 = .ok (.aload_n 0, 1) := by decide +kernel
theorem dX4_readPair_58 : decode cX4_readPair 58 = .ok (.invokevirtual 60, 3) := by decide +kernel
theorem dX4_readPair_61 : decode cX4_readPair 61 = .ok (.ireturn, 1) := by decide +kernel
theorem dX4_readPair_62 : decode cX4_readPair 62 = .ok (.aload_n 0, 1) := by decide +kernel
theorem dX4_readPair_63 : decode cX4_readPair 63 = .ok (.getfield 45, 3) := by decide +kernel
theorem dX4_readPair_66 : decode cX4_readPair 66 = .ok (.bipush 7, 2) := by decide +kernel
theorem dX4_readPair_68 : decode cX4_readPair 68 = .ok (.if_icmp .ne 27, 3) := by decide +kernel
theorem dX4_readPair_71 : decode cX4_readPair 71 = .ok (.aload_n 0, 1) := by decide +kernel
theorem dX4_readPair_72 : decode cX4_readPair 72 = .ok (.getfield 63, 3) := by decide +kernel
theorem dX4_readPair_75 : decode cX4_readPair 75 = .ok (.ifnull 20, 3) := by decide +kernel
theorem dX4_readPair_78 : decode cX4_readPair 78 = .ok (.aload_n 0, 1) := by decide +kernel
theorem dX4_readPair_79 : decode cX4_readPair 79 = .ok (.getfield 63, 3) := by decide +kernel
theorem dX4_readPair_82 : decode cX4_readPair 82 = .ok (.getfield 67, 3) := by decide +kernel
theorem dX4_readPair_85 : decode cX4_readPair 85 = .ok (.iconst 3, 1) := by decide +kernel
theorem dX4_readPair_86 : decode cX4_readPair 86 = .ok (.if_icmp .lt 9, 3) := by decide +kernel
theorem dX4_readPair_89 : decode cX4_readPair 89 = .ok (.aload_n 0, 1) := by decide +kernel
theorem dX4_readPair_90 : decode cX4_readPair 90 = .ok (.iconst 4, 1) := by decide +kernel
theorem dX4_readPair_91 : decode cX4_readPair 91 = .ok (.invokevirtual 42, 3) := by decide +kernel
theorem dX4_readPair_94 : decode cX4_readPair 94 = .ok (.ireturn, 1) := by decide +kernel
theorem dX4_readPair_95 : decode cX4_readPair 95 = .ok (.aload_n 0, 1) := by decide +kernel
theorem dX4_readPair_96 : decode cX4_readPair 96 = .ok (.aload_n 0, 1) := by decide +kernel
theorem dX4_readPair_97 : decode cX4_readPair 97 = .ok (.getfield 45, 3) := by decide +kernel
theorem dX4_readPair_100 : decode cX4_readPair 100 = .ok (.invokevirtual 72, 3) := by decide +kernel
theorem dX4_readPair_103 : decode cX4_readPair 103 = .ok (.ireturn, 1) := by decide +kernel
theorem dX4_readName_0 : decode cX4_readName 0 = .ok (.aload_n 0, 1) := by decide +kernel
theorem dX4_readName_1 : decode cX4_readName 1 = .ok (.invokevirtual 35, 3) := by decide +kernel
theorem dX4_readName_4 : decode cX4_readName 4 = .ok (.aload_n 0, 1) := by decide +kernel
theorem dX4_readName_5 : decode cX4_readName 5 = .ok (.getfield 75, 3) := by decide +kernel
theorem dX4_readName_8 : decode cX4_readName 8 = .ok (.iconst 1, 1) := by decide +kernel
theorem dX4_readName_9 : decode cX4_readName 9 = .ok (.if_icmp .ne 11, 3) := by decide +kernel
theorem dX4_readName_12 : decode cX4_readName 12 = .ok (.aload_n 0, 1) := by decide +kernel
theorem dX4_readName_13 : decode cX4_readName 13 = .ok (.getfield 45, 3) := by decide +kernel
theorem dX4_readName_16 : decode cX4_readName 16 = .ok (.iconst (-1), 1) := by decide +kernel
theorem dX4_readName_17 : decode cX4_readName 17 = .ok (.if_icmp .eq 9, 3) := by decide +kernel
theorem dX4_readName_20 : decode cX4_readName 20 = .ok (.aload_n 0, 1) := by decide +kernel
theorem dX4_readName_21 : decode cX4_readName 21 = .ok (.iconst 1, 1) := by decide +kernel
theorem dX4_readName_22 : decode cX4_readName 22 = .ok (.invokevirtual 42, 3) := by decide +kernel
theorem dX4_readName_25 : decode cX4_readName 25 = .ok (.ireturn, 1) := by decide +kernel
theorem dX4_readName_26 : decode cX4_readName 26 = .ok (.aload_n 0, 1) := by decide +kernel
theorem dX4_readName_27 : decode cX4_readName 27 = .ok (.getfield 18, 3) := by decide +kernel
theorem dX4_readName_30 : decode cX4_readName 30 = .ok (.aload_n 0, 1) := by decide +kernel
theorem dX4_readName_31 : decode cX4_readName 31 = .ok (.getfield 78, 3) := by decide +kernel
theorem dX4_readName_34 : decode cX4_readName 34 = .ok (.invokevirtual 82, 3) := by decide +kernel
theorem dX4_readName_37 : decode cX4_readName 37 = .ok (.ifCond .eq 9, 3) := by decide +kernel
theorem dX4_readName_40 : decode cX4_readName 40 = .ok (.aload_n 0, 1) := by decide +kernel
theorem dX4_readName_41 : decode cX4_readName 41 = .ok (.iconst 3, 1) := by decide +kernel
theorem dX4_readName_42 : decode cX4_readName 42 = .ok (.invokevirtual 42, 3) := by decide +kernel
theorem dX4_readName_45 : decode cX4_readName 45 = .ok (.ireturn, 1) := by decide +kernel
theorem dX4_readName_46 : decode cX4_readName 46 = .ok (.aload_n 0, 1) := by decide +kernel
theorem dX4_readName_47 : decode cX4_readName 47 = .ok (.getfield 56, 3) := by decide +kernel
theorem dX4_readName_50 : decode cX4_readName 50 = .ok (.ifnull 25, 3) := by decide +kernel
theorem dX4_readName_53 : decode cX4_readName 53 = .ok (.aload_n 0, 1) := by decide +kernel
theorem dX4_readName_54 : decode cX4_readName 54 = .ok (.getfield 56, 3) := by decide +kernel
theorem dX4_readName_57 : decode cX4_readName 57 = .ok (.aload_n 0, 1) := by decide +kernel
theorem dX4_readName_58 : decode cX4_readName 58 = .ok (.getfield 78, 3) := by decide +kernel
theorem dX4_readName_61 : decode cX4_readName 61 = .ok (.putfield 86, 3) := by decide +kernel
theorem dX4_readName_64 : decode cX4_readName 64 = .ok (.aload_n 0, 1) := by decide +kernel
theorem dX4_readName_65 : decode cX4_readName 65 = .ok (.getfield 56, 3) := by decide +kernel
theorem dX4_readName_68 : decode cX4_readName 68 = .ok (.aload_n 0, 1) := by decide +kernel
theorem dX4_readName_69 : decode cX4_readName 69 = .ok (.getfield 32, 3) := by decide +kernel
theorem dX4_readName_72 : decode cX4_readName 72 = .ok (.putfield 91, 3) := by decide +kernel
theorem dX4_readName_75 : decode cX4_readName 75 = .ok (.iconst 1, 1) := by decide +kernel
theorem dX4_readName_76 : decode cX4_readName 76 = .ok (.ireturn, 1) := by decide +kernel
theorem dX4_readNumber_0 : decode cX4_readNumber 0 = .ok (.aload_n 0, 1) := by decide +kernel
theorem dX4_readNumber_1 : decode cX4_readNumber 1 = .ok (.invokevirtual 35, 3) := by decide +kernel
theorem dX4_readNumber_4 : decode cX4_readNumber 4 = .ok (.aload_n 0, 1) := by decide +kernel
theorem dX4_readNumber_5 : decode cX4_readNumber 5 = .ok (.getfield 75, 3) := by decide +kernel
theorem dX4_readNumber_8 : decode cX4_readNumber 8 = .ok (.iconst 2, 1) := by decide +kernel
theorem dX4_readNumber_9 : decode cX4_readNumber 9 = .ok (.if_icmp .eq 9, 3) := by decide +kernel
theorem dX4_readNumber_12 : decode cX4_readNumber 12 = .ok (.aload_n 0, 1) := by decide +kernel
theorem dX4_readNumber_13 : decode cX4_readNumber 13 = .ok (.iconst 1, 1) := by decide +kernel
theorem dX4_readNumber_14 : decode cX4_readNumber 14 = .ok (.invokevirtual 42, 3) := by decide +kernel
theorem dX4_readNumber_17 : decode cX4_readNumber 17 = .ok (.ireturn, 1) := by decide +kernel
theorem dX4_readNumber_18 : decode cX4_readNumber 18 = .ok (.aload_n 0, 1) := by decide +kernel
theorem dX4_readNumber_19 : decode cX4_readNumber 19 = .ok (.getfield 94, 3) := by decide +kernel
theorem dX4_readNumber_22 : decode cX4_readNumber 22 = .ok (.aload_n 0, 1) := by decide +kernel
theorem dX4_readNumber_23 : decode cX4_readNumber 23 = .ok (.iload_n 1, 1) := by decide +kernel
theorem dX4_readNumber_24 : decode cX4_readNumber 24 = .ok (.invokevirtual 97, 3) := by decide +kernel
theorem dX4_readNumber_27 : decode cX4_readNumber 27 = .ok (.iload_n 1, 1) := by decide +kernel
theorem dX4_readNumber_28 : decode cX4_readNumber 28 = .ok (.invokestatic 101, 3) := by decide +kernel
theorem dX4_readNumber_31 : decode cX4_readNumber 31 = .ok (.invokestatic 104, 3) := by decide +kernel
theorem dX4_readNumber_34 : decode cX4_readNumber 34 = .ok (.ifCond .ne 9, 3) := by decide +kernel
theorem dX4_readNumber_37 : decode cX4_readNumber 37 = .ok (.aload_n 0, 1) := by decide +kernel
theorem dX4_readNumber_38 : decode cX4_readNumber 38 = .ok (.iconst 2, 1) := by decide +kernel
theorem dX4_readNumber_39 : decode cX4_readNumber 39 = .ok (.invokevirtual 42, 3) := by decide +kernel
theorem dX4_readNumber_42 : decode cX4_readNumber 42 = .ok (.ireturn, 1) := by decide +kernel
theorem dX4_readNumber_43 : decode cX4_readNumber 43 = .ok (.iload_n 1, 1) := by decide +kernel
theorem dX4_readNumber_44 : decode cX4_readNumber 44 = .ok (.iconst 5, 1) := by decide +kernel
theorem dX4_readNumber_45 : decode cX4_readNumber 45 = .ok (.if_icmp .ne 30, 3) := by decide +kernel
theorem dX4_readNumber_48 : decode cX4_readNumber 48 = .ok (.aload_n 0, 1) := by decide +kernel
theorem dX4_readNumber_49 : decode cX4_readNumber 49 = .ok (.getfield 56, 3) := by decide +kernel
theorem dX4_readNumber_52 : decode cX4_readNumber 52 = .ok (.ifnull 23, 3) := by decide +kernel
theorem dX4_readNumber_55 : decode cX4_readNumber 55 = .ok (.aload_n 0, 1) := by decide +kernel
theorem dX4_readNumber_56 : decode cX4_readNumber 56 = .ok (.getfield 56, 3) := by decide +kernel
theorem dX4_readNumber_59 : decode cX4_readNumber 59 = .ok (.aload_n 0, 1) := by decide +kernel
theorem dX4_readNumber_60 : decode cX4_readNumber 60 = .ok (.getfield 94, 3) := by decide +kernel
theorem dX4_readNumber_63 : decode cX4_readNumber 63 = .ok (.invokevirtual 108, 3) := by decide +kernel
theorem dX4_readNumber_66 : decode cX4_readNumber 66 = .ok (.ifnull 9, 3) := by decide +kernel
theorem dX4_readNumber_69 : decode cX4_readNumber 69 = .ok (.aload_n 0, 1) := by decide +kernel
theorem dX4_readNumber_70 : decode cX4_readNumber 70 = .ok (.iconst 3, 1) := by decide +kernel
theorem dX4_readNumber_71 : decode cX4_readNumber 71 = .ok (.invokevirtual 42, 3) := by decide +kernel
theorem dX4_readNumber_74 : decode cX4_readNumber 74 = .ok (.ireturn, 1) := by decide +kernel
theorem dX4_readNumber_75 : decode cX4_readNumber 75 = .ok (.aload_n 0, 1) := by decide +kernel
theorem dX4_readNumber_76 : decode cX4_readNumber 76 = .ok (.iload_n 1, 1) := by decide +kernel
theorem dX4_readNumber_77 : decode cX4_readNumber 77 = .ok (.invokevirtual 112, 3) := by decide +kernel
theorem dX4_readNumber_80 : decode cX4_readNumber 80 = .ok (.aload_n 0, 1) := by decide +kernel
theorem dX4_readNumber_81 : decode cX4_readNumber 81 = .ok (.iload_n 1, 1) := by decide +kernel
theorem dX4_readNumber_82 : decode cX4_readNumber 82 = .ok (.invokevirtual 116, 3) := by decide +kernel
theorem dX4_readNumber_85 : decode cX4_readNumber 85 = .ok (.iconst 1, 1) := by decide +kernel
theorem dX4_readNumber_86 : decode cX4_readNumber 86 = .ok (.ireturn, 1) := by decide +kernel
theorem dX4_leastBehind_0 : decode cX4_leastBehind 0 = .ok (.iload_n 1, 1) := by decide +kernel
theorem dX4_leastBehind_1 : decode cX4_leastBehind 1 = .ok (.lookupswitch 77 #[(2, 35), (4, 37), (7, 56)], 35) := by decide +kernel
theorem dX4_leastBehind_36 : decode cX4_leastBehind 36 = .ok (.iconst 1, 1) := by decide +kernel
theorem dX4_leastBehind_37 : decode cX4_leastBehind 37 = .ok (.ireturn, 1) := by decide +kernel
theorem dX4_leastBehind_38 : decode cX4_leastBehind 38 = .ok (.aload_n 0, 1) := by decide +kernel
theorem dX4_leastBehind_39 : decode cX4_leastBehind 39 = .ok (.getfield 56, 3) := by decide +kernel
theorem dX4_leastBehind_42 : decode cX4_leastBehind 42 = .ok (.ifnonnull 7, 3) := by decide +kernel
theorem dX4_leastBehind_45 : decode cX4_leastBehind 45 = .ok (.iconst 0, 1) := by decide +kernel
theorem dX4_leastBehind_46 : decode cX4_leastBehind 46 = .ok (.goto 10, 3) := by decide +kernel
theorem dX4_leastBehind_49 : decode cX4_leastBehind 49 = .ok (.aload_n 0, 1) := by decide +kernel
theorem dX4_leastBehind_50 : decode cX4_leastBehind 50 = .ok (.getfield 56, 3) := by decide +kernel
theorem dX4_leastBehind_53 : decode cX4_leastBehind 53 = .ok (.getfield 119, 3) := by decide +kernel
theorem dX4_leastBehind_56 : decode cX4_leastBehind 56 = .ok (.ireturn, 1) := by decide +kernel
theorem dX4_leastBehind_57 : decode cX4_leastBehind 57 = .ok (.aload_n 0, 1) := by decide +kernel
theorem dX4_leastBehind_58 : decode cX4_leastBehind 58 = .ok (.getfield 63, 3) := by decide +kernel
theorem dX4_leastBehind_61 : decode cX4_leastBehind 61 = .ok (.ifnonnull 7, 3) := by decide +kernel
theorem dX4_leastBehind_64 : decode cX4_leastBehind 64 = .ok (.iconst 1, 1) := by decide +kernel
theorem dX4_leastBehind_65 : decode cX4_leastBehind 65 = .ok (.goto 12, 3) := by decide +kernel
theorem dX4_leastBehind_68 : decode cX4_leastBehind 68 = .ok (.aload_n 0, 1) := by decide +kernel
theorem dX4_leastBehind_69 : decode cX4_leastBehind 69 = .ok (.getfield 63, 3) := by decide +kernel
theorem dX4_leastBehind_72 : decode cX4_leastBehind 72 = .ok (.invokevirtual 122, 3) := by decide +kernel
theorem dX4_leastBehind_75 : decode cX4_leastBehind 75 = .ok (.iconst 1, 1) := by decide +kernel
theorem dX4_leastBehind_76 : decode cX4_leastBehind 76 = .ok (.iadd, 1) := by decide +kernel
theorem dX4_leastBehind_77 : decode cX4_leastBehind 77 = .ok (.ireturn, 1) := by decide +kernel
theorem dX4_leastBehind_78 : decode cX4_leastBehind 78 = .ok (.iconst 0, 1) := by decide +kernel
theorem dX4_leastBehind_79 : decode cX4_leastBehind 79 = .ok (.ireturn, 1) := by decide +kernel
theorem dX4_greatestBehind_0 : decode cX4_greatestBehind 0 = .ok (.iload_n 0, 1) := by decide +kernel
theorem dX4_greatestBehind_1 : decode cX4_greatestBehind 1 = .ok (.tableswitch 58 1 7 #[43, 46, 49, 49, 52, 54, 54], 43) := by decide +kernel
theorem dX4_greatestBehind_44 : decode cX4_greatestBehind 44 = .ok (.ldc 126, 2) := by decide +kernel
theorem dX4_greatestBehind_46 : decode cX4_greatestBehind 46 = .ok (.ireturn, 1) := by decide +kernel
theorem dX4_greatestBehind_47 : decode cX4_greatestBehind 47 = .ok (.bipush 24, 2) := by decide +kernel
theorem dX4_greatestBehind_49 : decode cX4_greatestBehind 49 = .ok (.ireturn, 1) := by decide +kernel
theorem dX4_greatestBehind_50 : decode cX4_greatestBehind 50 = .ok (.bipush 23, 2) := by decide +kernel
theorem dX4_greatestBehind_52 : decode cX4_greatestBehind 52 = .ok (.ireturn, 1) := by decide +kernel
theorem dX4_greatestBehind_53 : decode cX4_greatestBehind 53 = .ok (.iconst 3, 1) := by decide +kernel
theorem dX4_greatestBehind_54 : decode cX4_greatestBehind 54 = .ok (.ireturn, 1) := by decide +kernel
theorem dX4_greatestBehind_55 : decode cX4_greatestBehind 55 = .ok (.sipush 20000, 3) := by decide +kernel
theorem dX4_greatestBehind_58 : decode cX4_greatestBehind 58 = .ok (.ireturn, 1) := by decide +kernel
theorem dX4_greatestBehind_59 : decode cX4_greatestBehind 59 = .ok (.sipush 9999, 3) := by decide +kernel
theorem dX4_greatestBehind_62 : decode cX4_greatestBehind 62 = .ok (.ireturn, 1) := by decide +kernel
theorem dX4_putInPlan_0 : decode cX4_putInPlan 0 = .ok (.aload_n 0, 1) := by decide +kernel
theorem dX4_putInPlan_1 : decode cX4_putInPlan 1 = .ok (.getfield 56, 3) := by decide +kernel
theorem dX4_putInPlan_4 : decode cX4_putInPlan 4 = .ok (.ifnonnull 4, 3) := by decide +kernel
theorem dX4_putInPlan_7 : decode cX4_putInPlan 7 = .ok (.return_, 1) := by decide +kernel
theorem dX4_putInPlan_8 : decode cX4_putInPlan 8 = .ok (.iload_n 1, 1) := by decide +kernel
theorem dX4_putInPlan_9 : decode cX4_putInPlan 9 = .ok (.tableswitch 109 1 5 #[35, 49, 63, 77, 91], 35) := by decide +kernel
theorem dX4_putInPlan_44 : decode cX4_putInPlan 44 = .ok (.aload_n 0, 1) := by decide +kernel
theorem dX4_putInPlan_45 : decode cX4_putInPlan 45 = .ok (.getfield 56, 3) := by decide +kernel
theorem dX4_putInPlan_48 : decode cX4_putInPlan 48 = .ok (.aload_n 0, 1) := by decide +kernel
theorem dX4_putInPlan_49 : decode cX4_putInPlan 49 = .ok (.getfield 94, 3) := by decide +kernel
theorem dX4_putInPlan_52 : decode cX4_putInPlan 52 = .ok (.putfield 127, 3) := by decide +kernel
theorem dX4_putInPlan_55 : decode cX4_putInPlan 55 = .ok (.goto 63, 3) := by decide +kernel
theorem dX4_putInPlan_58 : decode cX4_putInPlan 58 = .ok (.aload_n 0, 1) := by decide +kernel
theorem dX4_putInPlan_59 : decode cX4_putInPlan 59 = .ok (.getfield 56, 3) := by decide +kernel
theorem dX4_putInPlan_62 : decode cX4_putInPlan 62 = .ok (.aload_n 0, 1) := by decide +kernel
theorem dX4_putInPlan_63 : decode cX4_putInPlan 63 = .ok (.getfield 94, 3) := by decide +kernel
theorem dX4_putInPlan_66 : decode cX4_putInPlan 66 = .ok (.putfield 130, 3) := by decide +kernel
theorem dX4_putInPlan_69 : decode cX4_putInPlan 69 = .ok (.goto 49, 3) := by decide +kernel
theorem dX4_putInPlan_72 : decode cX4_putInPlan 72 = .ok (.aload_n 0, 1) := by decide +kernel
theorem dX4_putInPlan_73 : decode cX4_putInPlan 73 = .ok (.getfield 56, 3) := by decide +kernel
theorem dX4_putInPlan_76 : decode cX4_putInPlan 76 = .ok (.aload_n 0, 1) := by decide +kernel
theorem dX4_putInPlan_77 : decode cX4_putInPlan 77 = .ok (.getfield 94, 3) := by decide +kernel
theorem dX4_putInPlan_80 : decode cX4_putInPlan 80 = .ok (.putfield 119, 3) := by decide +kernel
theorem dX4_putInPlan_83 : decode cX4_putInPlan 83 = .ok (.goto 35, 3) := by decide +kernel
theorem dX4_putInPlan_86 : decode cX4_putInPlan 86 = .ok (.aload_n 0, 1) := by decide +kernel
theorem dX4_putInPlan_87 : decode cX4_putInPlan 87 = .ok (.getfield 56, 3) := by decide +kernel
theorem dX4_putInPlan_90 : decode cX4_putInPlan 90 = .ok (.aload_n 0, 1) := by decide +kernel
theorem dX4_putInPlan_91 : decode cX4_putInPlan 91 = .ok (.getfield 94, 3) := by decide +kernel
theorem dX4_putInPlan_94 : decode cX4_putInPlan 94 = .ok (.putfield 133, 3) := by decide +kernel
theorem dX4_putInPlan_97 : decode cX4_putInPlan 97 = .ok (.goto 21, 3) := by decide +kernel
theorem dX4_putInPlan_100 : decode cX4_putInPlan 100 = .ok (.aload_n 0, 1) := by decide +kernel
theorem dX4_putInPlan_101 : decode cX4_putInPlan 101 = .ok (.aload_n 0, 1) := by decide +kernel
theorem dX4_putInPlan_102 : decode cX4_putInPlan 102 = .ok (.getfield 56, 3) := by decide +kernel
theorem dX4_putInPlan_105 : decode cX4_putInPlan 105 = .ok (.aload_n 0, 1) := by decide +kernel
theorem dX4_putInPlan_106 : decode cX4_putInPlan 106 = .ok (.getfield 94, 3) := by decide +kernel
theorem dX4_putInPlan_109 : decode cX4_putInPlan 109 = .ok (.invokevirtual 136, 3) := by decide +kernel
theorem dX4_putInPlan_112 : decode cX4_putInPlan 112 = .ok (.putfield 63, 3) := by decide +kernel
theorem dX4_putInPlan_115 : decode cX4_putInPlan 115 = .ok (.goto 3, 3) := by decide +kernel
theorem dX4_putInPlan_118 : decode cX4_putInPlan 118 = .ok (.return_, 1) := by decide +kernel
theorem dX4_putInPart_0 : decode cX4_putInPart 0 = .ok (.aload_n 0, 1) := by decide +kernel
theorem dX4_putInPart_1 : decode cX4_putInPart 1 = .ok (.getfield 63, 3) := by decide +kernel
theorem dX4_putInPart_4 : decode cX4_putInPart 4 = .ok (.ifnonnull 4, 3) := by decide +kernel
theorem dX4_putInPart_7 : decode cX4_putInPart 7 = .ok (.return_, 1) := by decide +kernel
theorem dX4_putInPart_8 : decode cX4_putInPart 8 = .ok (.iload_n 1, 1) := by decide +kernel
theorem dX4_putInPart_9 : decode cX4_putInPart 9 = .ok (.tableswitch 87 6 9 #[31, 45, 59, 73], 31) := by decide +kernel
theorem dX4_putInPart_40 : decode cX4_putInPart 40 = .ok (.aload_n 0, 1) := by decide +kernel
theorem dX4_putInPart_41 : decode cX4_putInPart 41 = .ok (.getfield 63, 3) := by decide +kernel
theorem dX4_putInPart_44 : decode cX4_putInPart 44 = .ok (.aload_n 0, 1) := by decide +kernel
theorem dX4_putInPart_45 : decode cX4_putInPart 45 = .ok (.getfield 94, 3) := by decide +kernel
theorem dX4_putInPart_48 : decode cX4_putInPart 48 = .ok (.putfield 139, 3) := by decide +kernel
theorem dX4_putInPart_51 : decode cX4_putInPart 51 = .ok (.goto 45, 3) := by decide +kernel
theorem dX4_putInPart_54 : decode cX4_putInPart 54 = .ok (.aload_n 0, 1) := by decide +kernel
theorem dX4_putInPart_55 : decode cX4_putInPart 55 = .ok (.getfield 63, 3) := by decide +kernel
theorem dX4_putInPart_58 : decode cX4_putInPart 58 = .ok (.aload_n 0, 1) := by decide +kernel
theorem dX4_putInPart_59 : decode cX4_putInPart 59 = .ok (.getfield 94, 3) := by decide +kernel
theorem dX4_putInPart_62 : decode cX4_putInPart 62 = .ok (.invokevirtual 142, 3) := by decide +kernel
theorem dX4_putInPart_65 : decode cX4_putInPart 65 = .ok (.goto 31, 3) := by decide +kernel
theorem dX4_putInPart_68 : decode cX4_putInPart 68 = .ok (.aload_n 0, 1) := by decide +kernel
theorem dX4_putInPart_69 : decode cX4_putInPart 69 = .ok (.getfield 63, 3) := by decide +kernel
theorem dX4_putInPart_72 : decode cX4_putInPart 72 = .ok (.aload_n 0, 1) := by decide +kernel
theorem dX4_putInPart_73 : decode cX4_putInPart 73 = .ok (.getfield 94, 3) := by decide +kernel
theorem dX4_putInPart_76 : decode cX4_putInPart 76 = .ok (.invokevirtual 145, 3) := by decide +kernel
theorem dX4_putInPart_79 : decode cX4_putInPart 79 = .ok (.goto 17, 3) := by decide +kernel
theorem dX4_putInPart_82 : decode cX4_putInPart 82 = .ok (.aload_n 0, 1) := by decide +kernel
theorem dX4_putInPart_83 : decode cX4_putInPart 83 = .ok (.getfield 63, 3) := by decide +kernel
theorem dX4_putInPart_86 : decode cX4_putInPart 86 = .ok (.aload_n 0, 1) := by decide +kernel
theorem dX4_putInPart_87 : decode cX4_putInPart 87 = .ok (.getfield 94, 3) := by decide +kernel
theorem dX4_putInPart_90 : decode cX4_putInPart 90 = .ok (.putfield 148, 3) := by decide +kernel
theorem dX4_putInPart_93 : decode cX4_putInPart 93 = .ok (.goto 3, 3) := by decide +kernel
theorem dX4_putInPart_96 : decode cX4_putInPart 96 = .ok (.return_, 1) := by decide +kernel
theorem dX4_refuse_0 : decode cX4_refuse 0 = .ok (.aload_n 0, 1) := by decide +kernel
theorem dX4_refuse_1 : decode cX4_refuse 1 = .ok (.iload_n 1, 1) := by decide +kernel
theorem dX4_refuse_2 : decode cX4_refuse 2 = .ok (.putfield 26, 3) := by decide +kernel
theorem dX4_refuse_5 : decode cX4_refuse 5 = .ok (.aload_n 0, 1) := by decide +kernel
theorem dX4_refuse_6 : decode cX4_refuse 6 = .ok (.aload_n 0, 1) := by decide +kernel
theorem dX4_refuse_7 : decode cX4_refuse 7 = .ok (.getfield 29, 3) := by decide +kernel
theorem dX4_refuse_10 : decode cX4_refuse 10 = .ok (.putfield 151, 3) := by decide +kernel
theorem dX4_refuse_13 : decode cX4_refuse 13 = .ok (.iconst 0, 1) := by decide +kernel
theorem dX4_refuse_14 : decode cX4_refuse 14 = .ok (.ireturn, 1) := by decide +kernel
theorem dX4_scan_0 : decode cX4_scan 0 = .ok (.aload_n 0, 1) := by decide +kernel
theorem dX4_scan_1 : decode cX4_scan 1 = .ok (.getfield 29, 3) := by decide +kernel
theorem dX4_scan_4 : decode cX4_scan 4 = .ok (.aload_n 0, 1) := by decide +kernel
theorem dX4_scan_5 : decode cX4_scan 5 = .ok (.getfield 32, 3) := by decide +kernel
theorem dX4_scan_8 : decode cX4_scan 8 = .ok (.iadd, 1) := by decide +kernel
theorem dX4_scan_9 : decode cX4_scan 9 = .ok (.istore_n 1, 1) := by decide +kernel
theorem dX4_scan_10 : decode cX4_scan 10 = .ok (.iload_n 1, 1) := by decide +kernel
theorem dX4_scan_11 : decode cX4_scan 11 = .ok (.aload_n 0, 1) := by decide +kernel
theorem dX4_scan_12 : decode cX4_scan 12 = .ok (.getfield 9, 3) := by decide +kernel
theorem dX4_scan_15 : decode cX4_scan 15 = .ok (.getfield 154, 3) := by decide +kernel
theorem dX4_scan_18 : decode cX4_scan 18 = .ok (.if_icmp .ge 23, 3) := by decide +kernel
theorem dX4_scan_21 : decode cX4_scan 21 = .ok (.aload_n 0, 1) := by decide +kernel
theorem dX4_scan_22 : decode cX4_scan 22 = .ok (.getfield 9, 3) := by decide +kernel
theorem dX4_scan_25 : decode cX4_scan 25 = .ok (.iload_n 1, 1) := by decide +kernel
theorem dX4_scan_26 : decode cX4_scan 26 = .ok (.invokevirtual 159, 3) := by decide +kernel
theorem dX4_scan_29 : decode cX4_scan 29 = .ok (.invokestatic 162, 3) := by decide +kernel
theorem dX4_scan_32 : decode cX4_scan 32 = .ok (.ifCond .eq 9, 3) := by decide +kernel
theorem dX4_scan_35 : decode cX4_scan 35 = .ok (.iinc 1 1, 3) := by decide +kernel
theorem dX4_scan_38 : decode cX4_scan 38 = .ok (.goto (-28), 3) := by decide +kernel
theorem dX4_scan_41 : decode cX4_scan 41 = .ok (.aload_n 0, 1) := by decide +kernel
theorem dX4_scan_42 : decode cX4_scan 42 = .ok (.iload_n 1, 1) := by decide +kernel
theorem dX4_scan_43 : decode cX4_scan 43 = .ok (.sipush 800, 3) := by decide +kernel
theorem dX4_scan_46 : decode cX4_scan 46 = .ok (.invokestatic 165, 3) := by decide +kernel
theorem dX4_scan_49 : decode cX4_scan 49 = .ok (.putfield 29, 3) := by decide +kernel
theorem dX4_scan_52 : decode cX4_scan 52 = .ok (.aload_n 0, 1) := by decide +kernel
theorem dX4_scan_53 : decode cX4_scan 53 = .ok (.iconst 0, 1) := by decide +kernel
theorem dX4_scan_54 : decode cX4_scan 54 = .ok (.putfield 32, 3) := by decide +kernel
theorem dX4_scan_57 : decode cX4_scan 57 = .ok (.aload_n 0, 1) := by decide +kernel
theorem dX4_scan_58 : decode cX4_scan 58 = .ok (.iconst (-1), 1) := by decide +kernel
theorem dX4_scan_59 : decode cX4_scan 59 = .ok (.putfield 75, 3) := by decide +kernel
theorem dX4_scan_62 : decode cX4_scan 62 = .ok (.aload_n 0, 1) := by decide +kernel
theorem dX4_scan_63 : decode cX4_scan 63 = .ok (.iconst (-1), 1) := by decide +kernel
theorem dX4_scan_64 : decode cX4_scan 64 = .ok (.putfield 45, 3) := by decide +kernel
theorem dX4_scan_67 : decode cX4_scan 67 = .ok (.iload_n 1, 1) := by decide +kernel
theorem dX4_scan_68 : decode cX4_scan 68 = .ok (.sipush 800, 3) := by decide +kernel
theorem dX4_scan_71 : decode cX4_scan 71 = .ok (.if_icmp .lt 17, 3) := by decide +kernel
theorem dX4_scan_74 : decode cX4_scan 74 = .ok (.aload_n 0, 1) := by decide +kernel
theorem dX4_scan_75 : decode cX4_scan 75 = .ok (.getfield 9, 3) := by decide +kernel
theorem dX4_scan_78 : decode cX4_scan 78 = .ok (.getfield 154, 3) := by decide +kernel
theorem dX4_scan_81 : decode cX4_scan 81 = .ok (.sipush 800, 3) := by decide +kernel
theorem dX4_scan_84 : decode cX4_scan 84 = .ok (.if_icmp .le 4, 3) := by decide +kernel
theorem dX4_scan_87 : decode cX4_scan 87 = .ok (.return_, 1) := by decide +kernel
theorem dX4_scan_88 : decode cX4_scan 88 = .ok (.iload_n 1, 1) := by decide +kernel
theorem dX4_scan_89 : decode cX4_scan 89 = .ok (.aload_n 0, 1) := by decide +kernel
theorem dX4_scan_90 : decode cX4_scan 90 = .ok (.getfield 9, 3) := by decide +kernel
theorem dX4_scan_93 : decode cX4_scan 93 = .ok (.getfield 154, 3) := by decide +kernel
theorem dX4_scan_96 : decode cX4_scan 96 = .ok (.if_icmp .lt 12, 3) := by decide +kernel
theorem dX4_scan_99 : decode cX4_scan 99 = .ok (.aload_n 0, 1) := by decide +kernel
theorem dX4_scan_100 : decode cX4_scan 100 = .ok (.bipush 11, 2) := by decide +kernel
theorem dX4_scan_102 : decode cX4_scan 102 = .ok (.putfield 45, 3) := by decide +kernel
theorem dX4_scan_105 : decode cX4_scan 105 = .ok (.goto 34, 3) := by decide +kernel
theorem dX4_scan_108 : decode cX4_scan 108 = .ok (.aload_n 0, 1) := by decide +kernel
theorem dX4_scan_109 : decode cX4_scan 109 = .ok (.getfield 9, 3) := by decide +kernel
theorem dX4_scan_112 : decode cX4_scan 112 = .ok (.iload_n 1, 1) := by decide +kernel
theorem dX4_scan_113 : decode cX4_scan 113 = .ok (.invokevirtual 159, 3) := by decide +kernel
theorem dX4_scan_116 : decode cX4_scan 116 = .ok (.bipush 59, 2) := by decide +kernel
theorem dX4_scan_118 : decode cX4_scan 118 = .ok (.if_icmp .ne 17, 3) := by decide +kernel
theorem dX4_scan_121 : decode cX4_scan 121 = .ok (.aload_n 0, 1) := by decide +kernel
theorem dX4_scan_122 : decode cX4_scan 122 = .ok (.bipush 10, 2) := by decide +kernel
theorem dX4_scan_124 : decode cX4_scan 124 = .ok (.putfield 45, 3) := by decide +kernel
theorem dX4_scan_127 : decode cX4_scan 127 = .ok (.aload_n 0, 1) := by decide +kernel
theorem dX4_scan_128 : decode cX4_scan 128 = .ok (.iconst 1, 1) := by decide +kernel
theorem dX4_scan_129 : decode cX4_scan 129 = .ok (.putfield 32, 3) := by decide +kernel
theorem dX4_scan_132 : decode cX4_scan 132 = .ok (.goto 7, 3) := by decide +kernel
theorem dX4_scan_135 : decode cX4_scan 135 = .ok (.aload_n 0, 1) := by decide +kernel
theorem dX4_scan_136 : decode cX4_scan 136 = .ok (.invokevirtual 171, 3) := by decide +kernel
theorem dX4_scan_139 : decode cX4_scan 139 = .ok (.return_, 1) := by decide +kernel
theorem dX4_scanRun_0 : decode cX4_scanRun 0 = .ok (.iconst 0, 1) := by decide +kernel
theorem dX4_scanRun_1 : decode cX4_scanRun 1 = .ok (.istore_n 1, 1) := by decide +kernel
theorem dX4_scanRun_2 : decode cX4_scanRun 2 = .ok (.aload_n 0, 1) := by decide +kernel
theorem dX4_scanRun_3 : decode cX4_scanRun 3 = .ok (.lconst 0, 1) := by decide +kernel
theorem dX4_scanRun_4 : decode cX4_scanRun 4 = .ok (.putfield 78, 3) := by decide +kernel
theorem dX4_scanRun_7 : decode cX4_scanRun 7 = .ok (.aload_n 0, 1) := by decide +kernel
theorem dX4_scanRun_8 : decode cX4_scanRun 8 = .ok (.iconst 0, 1) := by decide +kernel
theorem dX4_scanRun_9 : decode cX4_scanRun 9 = .ok (.putfield 94, 3) := by decide +kernel
theorem dX4_scanRun_12 : decode cX4_scanRun 12 = .ok (.aload_n 0, 1) := by decide +kernel
theorem dX4_scanRun_13 : decode cX4_scanRun 13 = .ok (.getfield 29, 3) := by decide +kernel
theorem dX4_scanRun_16 : decode cX4_scanRun 16 = .ok (.istore_n 2, 1) := by decide +kernel
theorem dX4_scanRun_17 : decode cX4_scanRun 17 = .ok (.iload_n 2, 1) := by decide +kernel
theorem dX4_scanRun_18 : decode cX4_scanRun 18 = .ok (.aload_n 0, 1) := by decide +kernel
theorem dX4_scanRun_19 : decode cX4_scanRun 19 = .ok (.getfield 9, 3) := by decide +kernel
theorem dX4_scanRun_22 : decode cX4_scanRun 22 = .ok (.getfield 154, 3) := by decide +kernel
theorem dX4_scanRun_25 : decode cX4_scanRun 25 = .ok (.if_icmp .ge 95, 3) := by decide +kernel
theorem dX4_scanRun_28 : decode cX4_scanRun 28 = .ok (.aload_n 0, 1) := by decide +kernel
theorem dX4_scanRun_29 : decode cX4_scanRun 29 = .ok (.getfield 9, 3) := by decide +kernel
theorem dX4_scanRun_32 : decode cX4_scanRun 32 = .ok (.iload_n 2, 1) := by decide +kernel
theorem dX4_scanRun_33 : decode cX4_scanRun 33 = .ok (.invokevirtual 159, 3) := by decide +kernel
theorem dX4_scanRun_36 : decode cX4_scanRun 36 = .ok (.istore_n 3, 1) := by decide +kernel
theorem dX4_scanRun_37 : decode cX4_scanRun 37 = .ok (.iload_n 3, 1) := by decide +kernel
theorem dX4_scanRun_38 : decode cX4_scanRun 38 = .ok (.bipush 48, 2) := by decide +kernel
theorem dX4_scanRun_40 : decode cX4_scanRun 40 = .ok (.bipush 57, 2) := by decide +kernel
theorem dX4_scanRun_42 : decode cX4_scanRun 42 = .ok (.invokestatic 104, 3) := by decide +kernel
theorem dX4_scanRun_45 : decode cX4_scanRun 45 = .ok (.istore 4, 2) := by decide +kernel
theorem dX4_scanRun_47 : decode cX4_scanRun 47 = .ok (.iload 4, 2) := by decide +kernel
theorem dX4_scanRun_49 : decode cX4_scanRun 49 = .ok (.ifCond .ne 17, 3) := by decide +kernel
theorem dX4_scanRun_52 : decode cX4_scanRun 52 = .ok (.iload_n 3, 1) := by decide +kernel
theorem dX4_scanRun_53 : decode cX4_scanRun 53 = .ok (.bipush 97, 2) := by decide +kernel
theorem dX4_scanRun_55 : decode cX4_scanRun 55 = .ok (.bipush 122, 2) := by decide +kernel
theorem dX4_scanRun_57 : decode cX4_scanRun 57 = .ok (.invokestatic 104, 3) := by decide +kernel
theorem dX4_scanRun_60 : decode cX4_scanRun 60 = .ok (.ifCond .ne 6, 3) := by decide +kernel
theorem dX4_scanRun_63 : decode cX4_scanRun 63 = .ok (.goto 57, 3) := by decide +kernel
theorem dX4_scanRun_66 : decode cX4_scanRun 66 = .ok (.iload 4, 2) := by decide +kernel
theorem dX4_scanRun_68 : decode cX4_scanRun 68 = .ok (.ifCond .eq 22, 3) := by decide +kernel
theorem dX4_scanRun_71 : decode cX4_scanRun 71 = .ok (.iinc 1 1, 3) := by decide +kernel
theorem dX4_scanRun_74 : decode cX4_scanRun 74 = .ok (.aload_n 0, 1) := by decide +kernel
theorem dX4_scanRun_75 : decode cX4_scanRun 75 = .ok (.aload_n 0, 1) := by decide +kernel
theorem dX4_scanRun_76 : decode cX4_scanRun 76 = .ok (.getfield 94, 3) := by decide +kernel
theorem dX4_scanRun_79 : decode cX4_scanRun 79 = .ok (.bipush 10, 2) := by decide +kernel
theorem dX4_scanRun_81 : decode cX4_scanRun 81 = .ok (.imul, 1) := by decide +kernel
theorem dX4_scanRun_82 : decode cX4_scanRun 82 = .ok (.iload_n 3, 1) := by decide +kernel
theorem dX4_scanRun_83 : decode cX4_scanRun 83 = .ok (.bipush 48, 2) := by decide +kernel
theorem dX4_scanRun_85 : decode cX4_scanRun 85 = .ok (.isub, 1) := by decide +kernel
theorem dX4_scanRun_86 : decode cX4_scanRun 86 = .ok (.iadd, 1) := by decide +kernel
theorem dX4_scanRun_87 : decode cX4_scanRun 87 = .ok (.putfield 94, 3) := by decide +kernel
theorem dX4_scanRun_90 : decode cX4_scanRun 90 = .ok (.aload_n 0, 1) := by decide +kernel
theorem dX4_scanRun_91 : decode cX4_scanRun 91 = .ok (.aload_n 0, 1) := by decide +kernel
theorem dX4_scanRun_92 : decode cX4_scanRun 92 = .ok (.getfield 78, 3) := by decide +kernel
theorem dX4_scanRun_95 : decode cX4_scanRun 95 = .ok (.bipush 8, 2) := by decide +kernel
theorem dX4_scanRun_97 : decode cX4_scanRun 97 = .ok (.lshl, 1) := by decide +kernel
theorem dX4_scanRun_98 : decode cX4_scanRun 98 = .ok (.iload_n 3, 1) := by decide +kernel
theorem dX4_scanRun_99 : decode cX4_scanRun 99 = .ok (.i2l, 1) := by decide +kernel
theorem dX4_scanRun_100 : decode cX4_scanRun 100 = .ok (.lor, 1) := by decide +kernel
theorem dX4_scanRun_101 : decode cX4_scanRun 101 = .ok (.putfield 78, 3) := by decide +kernel
theorem dX4_scanRun_104 : decode cX4_scanRun 104 = .ok (.aload_n 0, 1) := by decide +kernel
theorem dX4_scanRun_105 : decode cX4_scanRun 105 = .ok (.dup, 1) := by decide +kernel
theorem dX4_scanRun_106 : decode cX4_scanRun 106 = .ok (.getfield 32, 3) := by decide +kernel
theorem dX4_scanRun_109 : decode cX4_scanRun 109 = .ok (.iconst 1, 1) := by decide +kernel
theorem dX4_scanRun_110 : decode cX4_scanRun 110 = .ok (.iadd, 1) := by decide +kernel
theorem dX4_scanRun_111 : decode cX4_scanRun 111 = .ok (.putfield 32, 3) := by decide +kernel
theorem dX4_scanRun_114 : decode cX4_scanRun 114 = .ok (.iinc 2 1, 3) := by decide +kernel
theorem dX4_scanRun_117 : decode cX4_scanRun 117 = .ok (.goto (-100), 3) := by decide +kernel
theorem dX4_scanRun_120 : decode cX4_scanRun 120 = .ok (.iload_n 1, 1) := by decide +kernel
theorem dX4_scanRun_121 : decode cX4_scanRun 121 = .ok (.ifCond .ne 35, 3) := by decide +kernel
theorem dX4_scanRun_124 : decode cX4_scanRun 124 = .ok (.aload_n 0, 1) := by decide +kernel
theorem dX4_scanRun_125 : decode cX4_scanRun 125 = .ok (.getfield 32, 3) := by decide +kernel
theorem dX4_scanRun_128 : decode cX4_scanRun 128 = .ok (.iconst 1, 1) := by decide +kernel
theorem dX4_scanRun_129 : decode cX4_scanRun 129 = .ok (.bipush 8, 2) := by decide +kernel
theorem dX4_scanRun_131 : decode cX4_scanRun 131 = .ok (.invokestatic 104, 3) := by decide +kernel
theorem dX4_scanRun_134 : decode cX4_scanRun 134 = .ok (.ifCond .eq 22, 3) := by decide +kernel
theorem dX4_scanRun_137 : decode cX4_scanRun 137 = .ok (.aload_n 0, 1) := by decide +kernel
theorem dX4_scanRun_138 : decode cX4_scanRun 138 = .ok (.iconst 1, 1) := by decide +kernel
theorem dX4_scanRun_139 : decode cX4_scanRun 139 = .ok (.putfield 75, 3) := by decide +kernel
theorem dX4_scanRun_142 : decode cX4_scanRun 142 = .ok (.aload_n 0, 1) := by decide +kernel
theorem dX4_scanRun_143 : decode cX4_scanRun 143 = .ok (.aload_n 0, 1) := by decide +kernel
theorem dX4_scanRun_144 : decode cX4_scanRun 144 = .ok (.getfield 78, 3) := by decide +kernel
theorem dX4_scanRun_147 : decode cX4_scanRun 147 = .ok (.invokestatic 174, 3) := by decide +kernel
theorem dX4_scanRun_150 : decode cX4_scanRun 150 = .ok (.putfield 45, 3) := by decide +kernel
theorem dX4_scanRun_153 : decode cX4_scanRun 153 = .ok (.goto 29, 3) := by decide +kernel
theorem dX4_scanRun_156 : decode cX4_scanRun 156 = .ok (.iload_n 1, 1) := by decide +kernel
theorem dX4_scanRun_157 : decode cX4_scanRun 157 = .ok (.aload_n 0, 1) := by decide +kernel
theorem dX4_scanRun_158 : decode cX4_scanRun 158 = .ok (.getfield 32, 3) := by decide +kernel
theorem dX4_scanRun_161 : decode cX4_scanRun 161 = .ok (.if_icmp .ne 21, 3) := by decide +kernel
theorem dX4_scanRun_164 : decode cX4_scanRun 164 = .ok (.aload_n 0, 1) := by decide +kernel
theorem dX4_scanRun_165 : decode cX4_scanRun 165 = .ok (.getfield 32, 3) := by decide +kernel
theorem dX4_scanRun_168 : decode cX4_scanRun 168 = .ok (.iconst 1, 1) := by decide +kernel
theorem dX4_scanRun_169 : decode cX4_scanRun 169 = .ok (.bipush 6, 2) := by decide +kernel
theorem dX4_scanRun_171 : decode cX4_scanRun 171 = .ok (.invokestatic 104, 3) := by decide +kernel
theorem dX4_scanRun_174 : decode cX4_scanRun 174 = .ok (.ifCond .eq 8, 3) := by decide +kernel
theorem dX4_scanRun_177 : decode cX4_scanRun 177 = .ok (.aload_n 0, 1) := by decide +kernel
theorem dX4_scanRun_178 : decode cX4_scanRun 178 = .ok (.iconst 2, 1) := by decide +kernel
theorem dX4_scanRun_179 : decode cX4_scanRun 179 = .ok (.putfield 75, 3) := by decide +kernel
theorem dX4_scanRun_182 : decode cX4_scanRun 182 = .ok (.return_, 1) := by decide +kernel
theorem dX4_wordOf_0 : decode cX4_wordOf 0 = .ok (.iconst 0, 1) := by decide +kernel
theorem dX4_wordOf_1 : decode cX4_wordOf 1 = .ok (.istore_n 2, 1) := by decide +kernel
theorem dX4_wordOf_2 : decode cX4_wordOf 2 = .ok (.iload_n 2, 1) := by decide +kernel
theorem dX4_wordOf_3 : decode cX4_wordOf 3 = .ok (.getstatic 178, 3) := by decide +kernel
theorem dX4_wordOf_6 : decode cX4_wordOf 6 = .ok (.arraylength, 1) := by decide +kernel
theorem dX4_wordOf_7 : decode cX4_wordOf 7 = .ok (.if_icmp .ge 21, 3) := by decide +kernel
theorem dX4_wordOf_10 : decode cX4_wordOf 10 = .ok (.getstatic 178, 3) := by decide +kernel
theorem dX4_wordOf_13 : decode cX4_wordOf 13 = .ok (.iload_n 2, 1) := by decide +kernel
theorem dX4_wordOf_14 : decode cX4_wordOf 14 = .ok (.laload, 1) := by decide +kernel
theorem dX4_wordOf_15 : decode cX4_wordOf 15 = .ok (.lload_n 0, 1) := by decide +kernel
theorem dX4_wordOf_16 : decode cX4_wordOf 16 = .ok (.lcmp, 1) := by decide +kernel
theorem dX4_wordOf_17 : decode cX4_wordOf 17 = .ok (.ifCond .ne 5, 3) := by decide +kernel
theorem dX4_wordOf_20 : decode cX4_wordOf 20 = .ok (.iload_n 2, 1) := by decide +kernel
theorem dX4_wordOf_21 : decode cX4_wordOf 21 = .ok (.ireturn, 1) := by decide +kernel
theorem dX4_wordOf_22 : decode cX4_wordOf 22 = .ok (.iinc 2 1, 3) := by decide +kernel
theorem dX4_wordOf_25 : decode cX4_wordOf 25 = .ok (.goto (-23), 3) := by decide +kernel
theorem dX4_wordOf_28 : decode cX4_wordOf 28 = .ok (.iconst (-1), 1) := by decide +kernel
theorem dX4_wordOf_29 : decode cX4_wordOf 29 = .ok (.ireturn, 1) := by decide +kernel
theorem dX4_isBlank_0 : decode cX4_isBlank 0 = .ok (.iload_n 0, 1) := by decide +kernel
theorem dX4_isBlank_1 : decode cX4_isBlank 1 = .ok (.bipush 32, 2) := by decide +kernel
theorem dX4_isBlank_3 : decode cX4_isBlank 3 = .ok (.if_icmp .eq 9, 3) := by decide +kernel
theorem dX4_isBlank_6 : decode cX4_isBlank 6 = .ok (.iload_n 0, 1) := by decide +kernel
theorem dX4_isBlank_7 : decode cX4_isBlank 7 = .ok (.bipush 10, 2) := by decide +kernel
theorem dX4_isBlank_9 : decode cX4_isBlank 9 = .ok (.if_icmp .ne 7, 3) := by decide +kernel
theorem dX4_isBlank_12 : decode cX4_isBlank 12 = .ok (.iconst 1, 1) := by decide +kernel
theorem dX4_isBlank_13 : decode cX4_isBlank 13 = .ok (.goto 4, 3) := by decide +kernel
theorem dX4_isBlank_16 : decode cX4_isBlank 16 = .ok (.iconst 0, 1) := by decide +kernel
theorem dX4_isBlank_17 : decode cX4_isBlank 17 = .ok (.ireturn, 1) := by decide +kernel
theorem dX5_init_0 : decode cX5_init 0 = .ok (.aload_n 0, 1) := by decide +kernel
theorem dX5_init_1 : decode cX5_init 1 = .ok (.invokespecial 3, 3) := by decide +kernel
theorem dX5_init_4 : decode cX5_init 4 = .ok (.aload_n 0, 1) := by decide +kernel
theorem dX5_init_5 : decode cX5_init 5 = .ok (.sipush 240, 3) := by decide +kernel
theorem dX5_init_8 : decode cX5_init 8 = .ok (.newarray .long, 2) := by decide +kernel
theorem dX5_init_10 : decode cX5_init 10 = .ok (.putfield 9, 3) := by decide +kernel
theorem dX5_init_13 : decode cX5_init 13 = .ok (.aload_n 0, 1) := by decide +kernel
theorem dX5_init_14 : decode cX5_init 14 = .ok (.sipush 240, 3) := by decide +kernel
theorem dX5_init_17 : decode cX5_init 17 = .ok (.newarray .long, 2) := by decide +kernel
theorem dX5_init_19 : decode cX5_init 19 = .ok (.putfield 15, 3) := by decide +kernel
theorem dX5_init_22 : decode cX5_init 22 = .ok (.aload_n 0, 1) := by decide +kernel
theorem dX5_init_23 : decode cX5_init 23 = .ok (.sipush 240, 3) := by decide +kernel
theorem dX5_init_26 : decode cX5_init 26 = .ok (.newarray .long, 2) := by decide +kernel
theorem dX5_init_28 : decode cX5_init 28 = .ok (.putfield 18, 3) := by decide +kernel
theorem dX5_init_31 : decode cX5_init 31 = .ok (.aload_n 0, 1) := by decide +kernel
theorem dX5_init_32 : decode cX5_init 32 = .ok (.sipush 240, 3) := by decide +kernel
theorem dX5_init_35 : decode cX5_init 35 = .ok (.newarray .int, 2) := by decide +kernel
theorem dX5_init_37 : decode cX5_init 37 = .ok (.putfield 21, 3) := by decide +kernel
theorem dX5_init_40 : decode cX5_init 40 = .ok (.return_, 1) := by decide +kernel
theorem dX5_search_0 : decode cX5_search 0 = .ok (.aload_n 0, 1) := by decide +kernel
theorem dX5_search_1 : decode cX5_search 1 = .ok (.aload_n 1, 1) := by decide +kernel
theorem dX5_search_2 : decode cX5_search 2 = .ok (.putfield 25, 3) := by decide +kernel
theorem dX5_search_5 : decode cX5_search 5 = .ok (.aload_n 0, 1) := by decide +kernel
theorem dX5_search_6 : decode cX5_search 6 = .ok (.iload 4, 2) := by decide +kernel
theorem dX5_search_8 : decode cX5_search 8 = .ok (.iconst 0, 1) := by decide +kernel
theorem dX5_search_9 : decode cX5_search 9 = .ok (.invokestatic 29, 3) := by decide +kernel
theorem dX5_search_12 : decode cX5_search 12 = .ok (.putfield 35, 3) := by decide +kernel
theorem dX5_search_15 : decode cX5_search 15 = .ok (.aload_n 0, 1) := by decide +kernel
theorem dX5_search_16 : decode cX5_search 16 = .ok (.iload 5, 2) := by decide +kernel
theorem dX5_search_18 : decode cX5_search 18 = .ok (.bipush 24, 2) := by decide +kernel
theorem dX5_search_20 : decode cX5_search 20 = .ok (.invokestatic 39, 3) := by decide +kernel
theorem dX5_search_23 : decode cX5_search 23 = .ok (.putfield 42, 3) := by decide +kernel
theorem dX5_search_26 : decode cX5_search 26 = .ok (.aload_n 0, 1) := by decide +kernel
theorem dX5_search_27 : decode cX5_search 27 = .ok (.getfield 42, 3) := by decide +kernel
theorem dX5_search_30 : decode cX5_search 30 = .ok (.iconst 1, 1) := by decide +kernel
theorem dX5_search_31 : decode cX5_search 31 = .ok (.isub, 1) := by decide +kernel
theorem dX5_search_32 : decode cX5_search 32 = .ok (.istore 7, 2) := by decide +kernel
theorem dX5_search_34 : decode cX5_search 34 = .ok (.iload 7, 2) := by decide +kernel
theorem dX5_search_36 : decode cX5_search 36 = .ok (.aload_n 0, 1) := by decide +kernel
theorem dX5_search_37 : decode cX5_search 37 = .ok (.getfield 35, 3) := by decide +kernel
theorem dX5_search_40 : decode cX5_search 40 = .ok (.if_icmp .lt 82, 3) := by decide +kernel
theorem dX5_search_43 : decode cX5_search 43 = .ok (.aload_n 0, 1) := by decide +kernel
theorem dX5_search_44 : decode cX5_search 44 = .ok (.aload_n 2, 1) := by decide +kernel
theorem dX5_search_45 : decode cX5_search 45 = .ok (.iload_n 3, 1) := by decide +kernel
theorem dX5_search_46 : decode cX5_search 46 = .ok (.iload 7, 2) := by decide +kernel
theorem dX5_search_48 : decode cX5_search 48 = .ok (.invokevirtual 45, 3) := by decide +kernel
theorem dX5_search_51 : decode cX5_search 51 = .ok (.iload 7, 2) := by decide +kernel
theorem dX5_search_53 : decode cX5_search 53 = .ok (.invokevirtual 51, 3) := by decide +kernel
theorem dX5_search_56 : decode cX5_search 56 = .ok (.iconst 0, 1) := by decide +kernel
theorem dX5_search_57 : decode cX5_search 57 = .ok (.istore 8, 2) := by decide +kernel
theorem dX5_search_59 : decode cX5_search 59 = .ok (.iload 8, 2) := by decide +kernel
theorem dX5_search_61 : decode cX5_search 61 = .ok (.aload_n 0, 1) := by decide +kernel
theorem dX5_search_62 : decode cX5_search 62 = .ok (.getfield 25, 3) := by decide +kernel
theorem dX5_search_65 : decode cX5_search 65 = .ok (.getfield 55, 3) := by decide +kernel
theorem dX5_search_68 : decode cX5_search 68 = .ok (.if_icmp .ge 17, 3) := by decide +kernel
theorem dX5_search_71 : decode cX5_search 71 = .ok (.aload_n 0, 1) := by decide +kernel
theorem dX5_search_72 : decode cX5_search 72 = .ok (.iload 8, 2) := by decide +kernel
theorem dX5_search_74 : decode cX5_search 74 = .ok (.iload 7, 2) := by decide +kernel
theorem dX5_search_76 : decode cX5_search 76 = .ok (.invokevirtual 60, 3) := by decide +kernel
theorem dX5_search_79 : decode cX5_search 79 = .ok (.iinc 8 1, 3) := by decide +kernel
theorem dX5_search_82 : decode cX5_search 82 = .ok (.goto (-23), 3) := by decide +kernel
theorem dX5_search_85 : decode cX5_search 85 = .ok (.iconst 0, 1) := by decide +kernel
theorem dX5_search_86 : decode cX5_search 86 = .ok (.istore 8, 2) := by decide +kernel
theorem dX5_search_88 : decode cX5_search 88 = .ok (.iload 8, 2) := by decide +kernel
theorem dX5_search_90 : decode cX5_search 90 = .ok (.aload_n 0, 1) := by decide +kernel
theorem dX5_search_91 : decode cX5_search 91 = .ok (.getfield 25, 3) := by decide +kernel
theorem dX5_search_94 : decode cX5_search 94 = .ok (.getfield 55, 3) := by decide +kernel
theorem dX5_search_97 : decode cX5_search 97 = .ok (.if_icmp .ge 19, 3) := by decide +kernel
theorem dX5_search_100 : decode cX5_search 100 = .ok (.aload_n 0, 1) := by decide +kernel
theorem dX5_search_101 : decode cX5_search 101 = .ok (.iload 8, 2) := by decide +kernel
theorem dX5_search_103 : decode cX5_search 103 = .ok (.iload 7, 2) := by decide +kernel
theorem dX5_search_105 : decode cX5_search 105 = .ok (.iload 6, 2) := by decide +kernel
theorem dX5_search_107 : decode cX5_search 107 = .ok (.invokevirtual 64, 3) := by decide +kernel
theorem dX5_search_110 : decode cX5_search 110 = .ok (.iinc 8 1, 3) := by decide +kernel
theorem dX5_search_113 : decode cX5_search 113 = .ok (.goto (-25), 3) := by decide +kernel
theorem dX5_search_116 : decode cX5_search 116 = .ok (.iinc 7 (-1), 3) := by decide +kernel
theorem dX5_search_119 : decode cX5_search 119 = .ok (.goto (-85), 3) := by decide +kernel
theorem dX5_search_122 : decode cX5_search 122 = .ok (.aload_n 0, 1) := by decide +kernel
theorem dX5_search_123 : decode cX5_search 123 = .ok (.invokevirtual 68, 3) := by decide +kernel
theorem dX5_search_126 : decode cX5_search 126 = .ok (.lreturn, 1) := by decide +kernel
theorem dX5_writeRow_0 : decode cX5_writeRow 0 = .ok (.aload_n 0, 1) := by decide +kernel
theorem dX5_writeRow_1 : decode cX5_writeRow 1 = .ok (.getfield 72, 3) := by decide +kernel
theorem dX5_writeRow_4 : decode cX5_writeRow 4 = .ok (.istore_n 2, 1) := by decide +kernel
theorem dX5_writeRow_5 : decode cX5_writeRow 5 = .ok (.aload_n 0, 1) := by decide +kernel
theorem dX5_writeRow_6 : decode cX5_writeRow 6 = .ok (.getfield 35, 3) := by decide +kernel
theorem dX5_writeRow_9 : decode cX5_writeRow 9 = .ok (.aload_n 0, 1) := by decide +kernel
theorem dX5_writeRow_10 : decode cX5_writeRow 10 = .ok (.iload_n 2, 1) := by decide +kernel
theorem dX5_writeRow_11 : decode cX5_writeRow 11 = .ok (.invokevirtual 75, 3) := by decide +kernel
theorem dX5_writeRow_14 : decode cX5_writeRow 14 = .ok (.iadd, 1) := by decide +kernel
theorem dX5_writeRow_15 : decode cX5_writeRow 15 = .ok (.istore_n 3, 1) := by decide +kernel
theorem dX5_writeRow_16 : decode cX5_writeRow 16 = .ok (.aload_n 0, 1) := by decide +kernel
theorem dX5_writeRow_17 : decode cX5_writeRow 17 = .ok (.getfield 35, 3) := by decide +kernel
theorem dX5_writeRow_20 : decode cX5_writeRow 20 = .ok (.istore 4, 2) := by decide +kernel
theorem dX5_writeRow_22 : decode cX5_writeRow 22 = .ok (.iload 4, 2) := by decide +kernel
theorem dX5_writeRow_24 : decode cX5_writeRow 24 = .ok (.aload_n 0, 1) := by decide +kernel
theorem dX5_writeRow_25 : decode cX5_writeRow 25 = .ok (.getfield 42, 3) := by decide +kernel
theorem dX5_writeRow_28 : decode cX5_writeRow 28 = .ok (.if_icmp .ge 55, 3) := by decide +kernel
theorem dX5_writeRow_31 : decode cX5_writeRow 31 = .ok (.iload 4, 2) := by decide +kernel
theorem dX5_writeRow_33 : decode cX5_writeRow 33 = .ok (.aload_n 1, 1) := by decide +kernel
theorem dX5_writeRow_34 : decode cX5_writeRow 34 = .ok (.arraylength, 1) := by decide +kernel
theorem dX5_writeRow_35 : decode cX5_writeRow 35 = .ok (.if_icmp .ge 48, 3) := by decide +kernel
theorem dX5_writeRow_38 : decode cX5_writeRow 38 = .ok (.iload 4, 2) := by decide +kernel
theorem dX5_writeRow_40 : decode cX5_writeRow 40 = .ok (.iload_n 3, 1) := by decide +kernel
theorem dX5_writeRow_41 : decode cX5_writeRow 41 = .ok (.if_icmp .lt 31, 3) := by decide +kernel
theorem dX5_writeRow_44 : decode cX5_writeRow 44 = .ok (.aload_n 0, 1) := by decide +kernel
theorem dX5_writeRow_45 : decode cX5_writeRow 45 = .ok (.iload 4, 2) := by decide +kernel
theorem dX5_writeRow_47 : decode cX5_writeRow 47 = .ok (.iload_n 2, 1) := by decide +kernel
theorem dX5_writeRow_48 : decode cX5_writeRow 48 = .ok (.invokevirtual 79, 3) := by decide +kernel
theorem dX5_writeRow_51 : decode cX5_writeRow 51 = .ok (.iload_n 2, 1) := by decide +kernel
theorem dX5_writeRow_52 : decode cX5_writeRow 52 = .ok (.if_icmp .eq 20, 3) := by decide +kernel
theorem dX5_writeRow_55 : decode cX5_writeRow 55 = .ok (.aload_n 0, 1) := by decide +kernel
theorem dX5_writeRow_56 : decode cX5_writeRow 56 = .ok (.iload 4, 2) := by decide +kernel
theorem dX5_writeRow_58 : decode cX5_writeRow 58 = .ok (.iload_n 2, 1) := by decide +kernel
theorem dX5_writeRow_59 : decode cX5_writeRow 59 = .ok (.invokevirtual 79, 3) := by decide +kernel
theorem dX5_writeRow_62 : decode cX5_writeRow 62 = .ok (.istore_n 2, 1) := by decide +kernel
theorem dX5_writeRow_63 : decode cX5_writeRow 63 = .ok (.iload 4, 2) := by decide +kernel
theorem dX5_writeRow_65 : decode cX5_writeRow 65 = .ok (.aload_n 0, 1) := by decide +kernel
theorem dX5_writeRow_66 : decode cX5_writeRow 66 = .ok (.iload_n 2, 1) := by decide +kernel
theorem dX5_writeRow_67 : decode cX5_writeRow 67 = .ok (.invokevirtual 75, 3) := by decide +kernel
theorem dX5_writeRow_70 : decode cX5_writeRow 70 = .ok (.iadd, 1) := by decide +kernel
theorem dX5_writeRow_71 : decode cX5_writeRow 71 = .ok (.istore_n 3, 1) := by decide +kernel
theorem dX5_writeRow_72 : decode cX5_writeRow 72 = .ok (.aload_n 1, 1) := by decide +kernel
theorem dX5_writeRow_73 : decode cX5_writeRow 73 = .ok (.iload 4, 2) := by decide +kernel
theorem dX5_writeRow_75 : decode cX5_writeRow 75 = .ok (.iload_n 2, 1) := by decide +kernel
theorem dX5_writeRow_76 : decode cX5_writeRow 76 = .ok (.iastore, 1) := by decide +kernel
theorem dX5_writeRow_77 : decode cX5_writeRow 77 = .ok (.iinc 4 1, 3) := by decide +kernel
theorem dX5_writeRow_80 : decode cX5_writeRow 80 = .ok (.goto (-58), 3) := by decide +kernel
theorem dX5_writeRow_83 : decode cX5_writeRow 83 = .ok (.return_, 1) := by decide +kernel
theorem dX5_slot_0 : decode cX5_slot 0 = .ok (.iload_n 0, 1) := by decide +kernel
theorem dX5_slot_1 : decode cX5_slot 1 = .ok (.iconst 0, 1) := by decide +kernel
theorem dX5_slot_2 : decode cX5_slot 2 = .ok (.bipush 23, 2) := by decide +kernel
theorem dX5_slot_4 : decode cX5_slot 4 = .ok (.invokestatic 82, 3) := by decide +kernel
theorem dX5_slot_7 : decode cX5_slot 7 = .ok (.ifCond .eq 22, 3) := by decide +kernel
theorem dX5_slot_10 : decode cX5_slot 10 = .ok (.iload_n 1, 1) := by decide +kernel
theorem dX5_slot_11 : decode cX5_slot 11 = .ok (.iconst 0, 1) := by decide +kernel
theorem dX5_slot_12 : decode cX5_slot 12 = .ok (.bipush 9, 2) := by decide +kernel
theorem dX5_slot_14 : decode cX5_slot 14 = .ok (.invokestatic 82, 3) := by decide +kernel
theorem dX5_slot_17 : decode cX5_slot 17 = .ok (.ifCond .eq 12, 3) := by decide +kernel
theorem dX5_slot_20 : decode cX5_slot 20 = .ok (.iload_n 0, 1) := by decide +kernel
theorem dX5_slot_21 : decode cX5_slot 21 = .ok (.bipush 10, 2) := by decide +kernel
theorem dX5_slot_23 : decode cX5_slot 23 = .ok (.imul, 1) := by decide +kernel
theorem dX5_slot_24 : decode cX5_slot 24 = .ok (.iload_n 1, 1) := by decide +kernel
theorem dX5_slot_25 : decode cX5_slot 25 = .ok (.iadd, 1) := by decide +kernel
theorem dX5_slot_26 : decode cX5_slot 26 = .ok (.goto 4, 3) := by decide +kernel
theorem dX5_slot_29 : decode cX5_slot 29 = .ok (.iconst 0, 1) := by decide +kernel
theorem dX5_slot_30 : decode cX5_slot 30 = .ok (.ireturn, 1) := by decide +kernel
theorem dX5_termOf_0 : decode cX5_termOf 0 = .ok (.aload_n 0, 1) := by decide +kernel
theorem dX5_termOf_1 : decode cX5_termOf 1 = .ok (.getfield 25, 3) := by decide +kernel
theorem dX5_termOf_4 : decode cX5_termOf 4 = .ok (.ifnonnull 7, 3) := by decide +kernel
theorem dX5_termOf_7 : decode cX5_termOf 7 = .ok (.aconst_null, 1) := by decide +kernel
theorem dX5_termOf_8 : decode cX5_termOf 8 = .ok (.goto 11, 3) := by decide +kernel
theorem dX5_termOf_11 : decode cX5_termOf 11 = .ok (.aload_n 0, 1) := by decide +kernel
theorem dX5_termOf_12 : decode cX5_termOf 12 = .ok (.getfield 25, 3) := by decide +kernel
theorem dX5_termOf_15 : decode cX5_termOf 15 = .ok (.iload_n 1, 1) := by decide +kernel
theorem dX5_termOf_16 : decode cX5_termOf 16 = .ok (.invokevirtual 86, 3) := by decide +kernel
theorem dX5_termOf_19 : decode cX5_termOf 19 = .ok (.astore_n 2, 1) := by decide +kernel
theorem dX5_termOf_20 : decode cX5_termOf 20 = .ok (.aload_n 2, 1) := by decide +kernel
theorem dX5_termOf_21 : decode cX5_termOf 21 = .ok (.ifnonnull 7, 3) := by decide +kernel
theorem dX5_termOf_24 : decode cX5_termOf 24 = .ok (.iconst 1, 1) := by decide +kernel
theorem dX5_termOf_25 : decode cX5_termOf 25 = .ok (.goto 7, 3) := by decide +kernel
theorem dX5_termOf_28 : decode cX5_termOf 28 = .ok (.aload_n 2, 1) := by decide +kernel
theorem dX5_termOf_29 : decode cX5_termOf 29 = .ok (.getfield 90, 3) := by decide +kernel
theorem dX5_termOf_32 : decode cX5_termOf 32 = .ok (.ireturn, 1) := by decide +kernel
theorem dX5_choiceAt_0 : decode cX5_choiceAt 0 = .ok (.aload_n 0, 1) := by decide +kernel
theorem dX5_choiceAt_1 : decode cX5_choiceAt 1 = .ok (.getfield 21, 3) := by decide +kernel
theorem dX5_choiceAt_4 : decode cX5_choiceAt 4 = .ok (.iload_n 1, 1) := by decide +kernel
theorem dX5_choiceAt_5 : decode cX5_choiceAt 5 = .ok (.iload_n 2, 1) := by decide +kernel
theorem dX5_choiceAt_6 : decode cX5_choiceAt 6 = .ok (.invokestatic 95, 3) := by decide +kernel
theorem dX5_choiceAt_9 : decode cX5_choiceAt 9 = .ok (.iaload, 1) := by decide +kernel
theorem dX5_choiceAt_10 : decode cX5_choiceAt 10 = .ok (.ireturn, 1) := by decide +kernel
theorem dX5_fillMonthCents_0 : decode cX5_fillMonthCents 0 = .ok (.iconst 0, 1) := by decide +kernel
theorem dX5_fillMonthCents_1 : decode cX5_fillMonthCents 1 = .ok (.istore_n 3, 1) := by decide +kernel
theorem dX5_fillMonthCents_2 : decode cX5_fillMonthCents 2 = .ok (.iload_n 3, 1) := by decide +kernel
theorem dX5_fillMonthCents_3 : decode cX5_fillMonthCents 3 = .ok (.aload_n 0, 1) := by decide +kernel
theorem dX5_fillMonthCents_4 : decode cX5_fillMonthCents 4 = .ok (.getfield 25, 3) := by decide +kernel
theorem dX5_fillMonthCents_7 : decode cX5_fillMonthCents 7 = .ok (.getfield 55, 3) := by decide +kernel
theorem dX5_fillMonthCents_10 : decode cX5_fillMonthCents 10 = .ok (.if_icmp .ge 46, 3) := by decide +kernel
theorem dX5_fillMonthCents_13 : decode cX5_fillMonthCents 13 = .ok (.aload_n 0, 1) := by decide +kernel
theorem dX5_fillMonthCents_14 : decode cX5_fillMonthCents 14 = .ok (.getfield 25, 3) := by decide +kernel
theorem dX5_fillMonthCents_17 : decode cX5_fillMonthCents 17 = .ok (.iload_n 3, 1) := by decide +kernel
theorem dX5_fillMonthCents_18 : decode cX5_fillMonthCents 18 = .ok (.invokevirtual 86, 3) := by decide +kernel
theorem dX5_fillMonthCents_21 : decode cX5_fillMonthCents 21 = .ok (.astore 4, 2) := by decide +kernel
theorem dX5_fillMonthCents_23 : decode cX5_fillMonthCents 23 = .ok (.aload_n 0, 1) := by decide +kernel
theorem dX5_fillMonthCents_24 : decode cX5_fillMonthCents 24 = .ok (.getfield 9, 3) := by decide +kernel
theorem dX5_fillMonthCents_27 : decode cX5_fillMonthCents 27 = .ok (.iload_n 2, 1) := by decide +kernel
theorem dX5_fillMonthCents_28 : decode cX5_fillMonthCents 28 = .ok (.iload_n 3, 1) := by decide +kernel
theorem dX5_fillMonthCents_29 : decode cX5_fillMonthCents 29 = .ok (.invokestatic 95, 3) := by decide +kernel
theorem dX5_fillMonthCents_32 : decode cX5_fillMonthCents 32 = .ok (.aload 4, 2) := by decide +kernel
theorem dX5_fillMonthCents_34 : decode cX5_fillMonthCents 34 = .ok (.ifnonnull 9, 3) := by decide +kernel
theorem dX5_fillMonthCents_37 : decode cX5_fillMonthCents 37 = .ok (.ldc2_w 98, 3) := by decide +kernel
theorem dX5_fillMonthCents_40 : decode cX5_fillMonthCents 40 = .ok (.goto 9, 3) := by decide +kernel
theorem dX5_fillMonthCents_43 : decode cX5_fillMonthCents 43 = .ok (.aload 4, 2) := by decide +kernel
theorem dX5_fillMonthCents_45 : decode cX5_fillMonthCents 45 = .ok (.aload_n 1, 1) := by decide +kernel
theorem dX5_fillMonthCents_46 : decode cX5_fillMonthCents 46 = .ok (.invokevirtual 100, 3) := by decide +kernel
theorem dX5_fillMonthCents_49 : decode cX5_fillMonthCents 49 = .ok (.lastore, 1) := by decide +kernel
theorem dX5_fillMonthCents_50 : decode cX5_fillMonthCents 50 = .ok (.iinc 3 1, 3) := by decide +kernel
theorem dX5_fillMonthCents_53 : decode cX5_fillMonthCents 53 = .ok (.goto (-51), 3) := by decide +kernel
theorem dX5_fillMonthCents_56 : decode cX5_fillMonthCents 56 = .ok (.return_, 1) := by decide +kernel
theorem dX5_fillBegun_0 : decode cX5_fillBegun 0 = .ok (.aload_n 0, 1) := by decide +kernel
theorem dX5_fillBegun_1 : decode cX5_fillBegun 1 = .ok (.getfield 25, 3) := by decide +kernel
theorem dX5_fillBegun_4 : decode cX5_fillBegun 4 = .ok (.iload_n 1, 1) := by decide +kernel
theorem dX5_fillBegun_5 : decode cX5_fillBegun 5 = .ok (.invokevirtual 86, 3) := by decide +kernel
theorem dX5_fillBegun_8 : decode cX5_fillBegun 8 = .ok (.astore_n 3, 1) := by decide +kernel
theorem dX5_fillBegun_9 : decode cX5_fillBegun 9 = .ok (.ldc2_w 98, 3) := by decide +kernel
theorem dX5_fillBegun_12 : decode cX5_fillBegun 12 = .ok (.lstore 4, 2) := by decide +kernel
theorem dX5_fillBegun_14 : decode cX5_fillBegun 14 = .ok (.aload_n 3, 1) := by decide +kernel
theorem dX5_fillBegun_15 : decode cX5_fillBegun 15 = .ok (.ifnull 86, 3) := by decide +kernel
theorem dX5_fillBegun_18 : decode cX5_fillBegun 18 = .ok (.aload_n 3, 1) := by decide +kernel
theorem dX5_fillBegun_19 : decode cX5_fillBegun 19 = .ok (.iload_n 2, 1) := by decide +kernel
theorem dX5_fillBegun_20 : decode cX5_fillBegun 20 = .ok (.invokevirtual 103, 3) := by decide +kernel
theorem dX5_fillBegun_23 : decode cX5_fillBegun 23 = .ok (.ifCond .eq 78, 3) := by decide +kernel
theorem dX5_fillBegun_26 : decode cX5_fillBegun 26 = .ok (.iload_n 2, 1) := by decide +kernel
theorem dX5_fillBegun_27 : decode cX5_fillBegun 27 = .ok (.aload_n 3, 1) := by decide +kernel
theorem dX5_fillBegun_28 : decode cX5_fillBegun 28 = .ok (.getfield 90, 3) := by decide +kernel
theorem dX5_fillBegun_31 : decode cX5_fillBegun 31 = .ok (.iadd, 1) := by decide +kernel
theorem dX5_fillBegun_32 : decode cX5_fillBegun 32 = .ok (.aload_n 0, 1) := by decide +kernel
theorem dX5_fillBegun_33 : decode cX5_fillBegun 33 = .ok (.getfield 42, 3) := by decide +kernel
theorem dX5_fillBegun_36 : decode cX5_fillBegun 36 = .ok (.invokestatic 39, 3) := by decide +kernel
theorem dX5_fillBegun_39 : decode cX5_fillBegun 39 = .ok (.istore 6, 2) := by decide +kernel
theorem dX5_fillBegun_41 : decode cX5_fillBegun 41 = .ok (.iload 6, 2) := by decide +kernel
theorem dX5_fillBegun_43 : decode cX5_fillBegun 43 = .ok (.aload_n 0, 1) := by decide +kernel
theorem dX5_fillBegun_44 : decode cX5_fillBegun 44 = .ok (.getfield 42, 3) := by decide +kernel
theorem dX5_fillBegun_47 : decode cX5_fillBegun 47 = .ok (.if_icmp .ge 17, 3) := by decide +kernel
theorem dX5_fillBegun_50 : decode cX5_fillBegun 50 = .ok (.aload_n 0, 1) := by decide +kernel
theorem dX5_fillBegun_51 : decode cX5_fillBegun 51 = .ok (.getfield 18, 3) := by decide +kernel
theorem dX5_fillBegun_54 : decode cX5_fillBegun 54 = .ok (.iload 6, 2) := by decide +kernel
theorem dX5_fillBegun_56 : decode cX5_fillBegun 56 = .ok (.iload_n 1, 1) := by decide +kernel
theorem dX5_fillBegun_57 : decode cX5_fillBegun 57 = .ok (.invokestatic 95, 3) := by decide +kernel
theorem dX5_fillBegun_60 : decode cX5_fillBegun 60 = .ok (.laload, 1) := by decide +kernel
theorem dX5_fillBegun_61 : decode cX5_fillBegun 61 = .ok (.goto 4, 3) := by decide +kernel
theorem dX5_fillBegun_64 : decode cX5_fillBegun 64 = .ok (.lconst 0, 1) := by decide +kernel
theorem dX5_fillBegun_65 : decode cX5_fillBegun 65 = .ok (.lstore 4, 2) := by decide +kernel
theorem dX5_fillBegun_67 : decode cX5_fillBegun 67 = .ok (.iload_n 2, 1) := by decide +kernel
theorem dX5_fillBegun_68 : decode cX5_fillBegun 68 = .ok (.istore 7, 2) := by decide +kernel
theorem dX5_fillBegun_70 : decode cX5_fillBegun 70 = .ok (.iload 7, 2) := by decide +kernel
theorem dX5_fillBegun_72 : decode cX5_fillBegun 72 = .ok (.iload 6, 2) := by decide +kernel
theorem dX5_fillBegun_74 : decode cX5_fillBegun 74 = .ok (.if_icmp .ge 27, 3) := by decide +kernel
theorem dX5_fillBegun_77 : decode cX5_fillBegun 77 = .ok (.lload 4, 2) := by decide +kernel
theorem dX5_fillBegun_79 : decode cX5_fillBegun 79 = .ok (.aload_n 0, 1) := by decide +kernel
theorem dX5_fillBegun_80 : decode cX5_fillBegun 80 = .ok (.getfield 9, 3) := by decide +kernel
theorem dX5_fillBegun_83 : decode cX5_fillBegun 83 = .ok (.iload 7, 2) := by decide +kernel
theorem dX5_fillBegun_85 : decode cX5_fillBegun 85 = .ok (.iload_n 1, 1) := by decide +kernel
theorem dX5_fillBegun_86 : decode cX5_fillBegun 86 = .ok (.invokestatic 95, 3) := by decide +kernel
theorem dX5_fillBegun_89 : decode cX5_fillBegun 89 = .ok (.laload, 1) := by decide +kernel
theorem dX5_fillBegun_90 : decode cX5_fillBegun 90 = .ok (.invokestatic 107, 3) := by decide +kernel
theorem dX5_fillBegun_93 : decode cX5_fillBegun 93 = .ok (.lstore 4, 2) := by decide +kernel
theorem dX5_fillBegun_95 : decode cX5_fillBegun 95 = .ok (.iinc 7 1, 3) := by decide +kernel
theorem dX5_fillBegun_98 : decode cX5_fillBegun 98 = .ok (.goto (-28), 3) := by decide +kernel
theorem dX5_fillBegun_101 : decode cX5_fillBegun 101 = .ok (.aload_n 0, 1) := by decide +kernel
theorem dX5_fillBegun_102 : decode cX5_fillBegun 102 = .ok (.getfield 15, 3) := by decide +kernel
theorem dX5_fillBegun_105 : decode cX5_fillBegun 105 = .ok (.iload_n 2, 1) := by decide +kernel
theorem dX5_fillBegun_106 : decode cX5_fillBegun 106 = .ok (.iload_n 1, 1) := by decide +kernel
theorem dX5_fillBegun_107 : decode cX5_fillBegun 107 = .ok (.invokestatic 95, 3) := by decide +kernel
theorem dX5_fillBegun_110 : decode cX5_fillBegun 110 = .ok (.lload 4, 2) := by decide +kernel
theorem dX5_fillBegun_112 : decode cX5_fillBegun 112 = .ok (.lastore, 1) := by decide +kernel
theorem dX5_fillBegun_113 : decode cX5_fillBegun 113 = .ok (.return_, 1) := by decide +kernel
theorem dX5_fillFreed_0 : decode cX5_fillFreed 0 = .ok (.ldc2_w 98, 3) := by decide +kernel
theorem dX5_fillFreed_3 : decode cX5_fillFreed 3 = .ok (.lstore 4, 2) := by decide +kernel
theorem dX5_fillFreed_5 : decode cX5_fillFreed 5 = .ok (.iconst (-1), 1) := by decide +kernel
theorem dX5_fillFreed_6 : decode cX5_fillFreed 6 = .ok (.istore 6, 2) := by decide +kernel
theorem dX5_fillFreed_8 : decode cX5_fillFreed 8 = .ok (.iconst 0, 1) := by decide +kernel
theorem dX5_fillFreed_9 : decode cX5_fillFreed 9 = .ok (.istore 7, 2) := by decide +kernel
theorem dX5_fillFreed_11 : decode cX5_fillFreed 11 = .ok (.iload 7, 2) := by decide +kernel
theorem dX5_fillFreed_13 : decode cX5_fillFreed 13 = .ok (.aload_n 0, 1) := by decide +kernel
theorem dX5_fillFreed_14 : decode cX5_fillFreed 14 = .ok (.getfield 25, 3) := by decide +kernel
theorem dX5_fillFreed_17 : decode cX5_fillFreed 17 = .ok (.getfield 55, 3) := by decide +kernel
theorem dX5_fillFreed_20 : decode cX5_fillFreed 20 = .ok (.if_icmp .ge 60, 3) := by decide +kernel
theorem dX5_fillFreed_23 : decode cX5_fillFreed 23 = .ok (.iload 7, 2) := by decide +kernel
theorem dX5_fillFreed_25 : decode cX5_fillFreed 25 = .ok (.iload_n 1, 1) := by decide +kernel
theorem dX5_fillFreed_26 : decode cX5_fillFreed 26 = .ok (.if_icmp .ne 12, 3) := by decide +kernel
theorem dX5_fillFreed_29 : decode cX5_fillFreed 29 = .ok (.aload_n 0, 1) := by decide +kernel
theorem dX5_fillFreed_30 : decode cX5_fillFreed 30 = .ok (.iload_n 1, 1) := by decide +kernel
theorem dX5_fillFreed_31 : decode cX5_fillFreed 31 = .ok (.iload_n 2, 1) := by decide +kernel
theorem dX5_fillFreed_32 : decode cX5_fillFreed 32 = .ok (.invokevirtual 111, 3) := by decide +kernel
theorem dX5_fillFreed_35 : decode cX5_fillFreed 35 = .ok (.goto 19, 3) := by decide +kernel
theorem dX5_fillFreed_38 : decode cX5_fillFreed 38 = .ok (.aload_n 0, 1) := by decide +kernel
theorem dX5_fillFreed_39 : decode cX5_fillFreed 39 = .ok (.getfield 15, 3) := by decide +kernel
theorem dX5_fillFreed_42 : decode cX5_fillFreed 42 = .ok (.iload_n 2, 1) := by decide +kernel
theorem dX5_fillFreed_43 : decode cX5_fillFreed 43 = .ok (.iload 7, 2) := by decide +kernel
theorem dX5_fillFreed_45 : decode cX5_fillFreed 45 = .ok (.invokestatic 95, 3) := by decide +kernel
theorem dX5_fillFreed_48 : decode cX5_fillFreed 48 = .ok (.laload, 1) := by decide +kernel
theorem dX5_fillFreed_49 : decode cX5_fillFreed 49 = .ok (.iload_n 3, 1) := by decide +kernel
theorem dX5_fillFreed_50 : decode cX5_fillFreed 50 = .ok (.i2l, 1) := by decide +kernel
theorem dX5_fillFreed_51 : decode cX5_fillFreed 51 = .ok (.invokestatic 107, 3) := by decide +kernel
theorem dX5_fillFreed_54 : decode cX5_fillFreed 54 = .ok (.lstore 8, 2) := by decide +kernel
theorem dX5_fillFreed_56 : decode cX5_fillFreed 56 = .ok (.lload 8, 2) := by decide +kernel
theorem dX5_fillFreed_58 : decode cX5_fillFreed 58 = .ok (.lload 4, 2) := by decide +kernel
theorem dX5_fillFreed_60 : decode cX5_fillFreed 60 = .ok (.invokestatic 115, 3) := by decide +kernel
theorem dX5_fillFreed_63 : decode cX5_fillFreed 63 = .ok (.ifCond .eq 11, 3) := by decide +kernel
theorem dX5_fillFreed_66 : decode cX5_fillFreed 66 = .ok (.lload 8, 2) := by decide +kernel
theorem dX5_fillFreed_68 : decode cX5_fillFreed 68 = .ok (.lstore 4, 2) := by decide +kernel
theorem dX5_fillFreed_70 : decode cX5_fillFreed 70 = .ok (.iload 7, 2) := by decide +kernel
theorem dX5_fillFreed_72 : decode cX5_fillFreed 72 = .ok (.istore 6, 2) := by decide +kernel
theorem dX5_fillFreed_74 : decode cX5_fillFreed 74 = .ok (.iinc 7 1, 3) := by decide +kernel
theorem dX5_fillFreed_77 : decode cX5_fillFreed 77 = .ok (.goto (-66), 3) := by decide +kernel
theorem dX5_fillFreed_80 : decode cX5_fillFreed 80 = .ok (.aload_n 0, 1) := by decide +kernel
theorem dX5_fillFreed_81 : decode cX5_fillFreed 81 = .ok (.getfield 18, 3) := by decide +kernel
theorem dX5_fillFreed_84 : decode cX5_fillFreed 84 = .ok (.iload_n 2, 1) := by decide +kernel
