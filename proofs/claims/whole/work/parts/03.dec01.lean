theorem dX5_fillFreed_85 : decode cX5_fillFreed 85 = .ok (.iload_n 1, 1) := by decide +kernel
theorem dX5_fillFreed_86 : decode cX5_fillFreed 86 = .ok (.invokestatic 95, 3) := by decide +kernel
theorem dX5_fillFreed_89 : decode cX5_fillFreed 89 = .ok (.lload 4, 2) := by decide +kernel
theorem dX5_fillFreed_91 : decode cX5_fillFreed 91 = .ok (.lastore, 1) := by decide +kernel
theorem dX5_fillFreed_92 : decode cX5_fillFreed 92 = .ok (.aload_n 0, 1) := by decide +kernel
theorem dX5_fillFreed_93 : decode cX5_fillFreed 93 = .ok (.getfield 21, 3) := by decide +kernel
theorem dX5_fillFreed_96 : decode cX5_fillFreed 96 = .ok (.iload_n 2, 1) := by decide +kernel
theorem dX5_fillFreed_97 : decode cX5_fillFreed 97 = .ok (.iload_n 1, 1) := by decide +kernel
theorem dX5_fillFreed_98 : decode cX5_fillFreed 98 = .ok (.invokestatic 95, 3) := by decide +kernel
theorem dX5_fillFreed_101 : decode cX5_fillFreed 101 = .ok (.iload 6, 2) := by decide +kernel
theorem dX5_fillFreed_103 : decode cX5_fillFreed 103 = .ok (.iastore, 1) := by decide +kernel
theorem dX5_fillFreed_104 : decode cX5_fillFreed 104 = .ok (.return_, 1) := by decide +kernel
theorem dX5_keptCents_0 : decode cX5_keptCents 0 = .ok (.iload_n 2, 1) := by decide +kernel
theorem dX5_keptCents_1 : decode cX5_keptCents 1 = .ok (.iconst 1, 1) := by decide +kernel
theorem dX5_keptCents_2 : decode cX5_keptCents 2 = .ok (.iadd, 1) := by decide +kernel
theorem dX5_keptCents_3 : decode cX5_keptCents 3 = .ok (.aload_n 0, 1) := by decide +kernel
theorem dX5_keptCents_4 : decode cX5_keptCents 4 = .ok (.getfield 42, 3) := by decide +kernel
theorem dX5_keptCents_7 : decode cX5_keptCents 7 = .ok (.if_icmp .ge 18, 3) := by decide +kernel
theorem dX5_keptCents_10 : decode cX5_keptCents 10 = .ok (.aload_n 0, 1) := by decide +kernel
theorem dX5_keptCents_11 : decode cX5_keptCents 11 = .ok (.getfield 18, 3) := by decide +kernel
theorem dX5_keptCents_14 : decode cX5_keptCents 14 = .ok (.iload_n 2, 1) := by decide +kernel
theorem dX5_keptCents_15 : decode cX5_keptCents 15 = .ok (.iconst 1, 1) := by decide +kernel
theorem dX5_keptCents_16 : decode cX5_keptCents 16 = .ok (.iadd, 1) := by decide +kernel
theorem dX5_keptCents_17 : decode cX5_keptCents 17 = .ok (.iload_n 1, 1) := by decide +kernel
theorem dX5_keptCents_18 : decode cX5_keptCents 18 = .ok (.invokestatic 95, 3) := by decide +kernel
theorem dX5_keptCents_21 : decode cX5_keptCents 21 = .ok (.laload, 1) := by decide +kernel
theorem dX5_keptCents_22 : decode cX5_keptCents 22 = .ok (.goto 4, 3) := by decide +kernel
theorem dX5_keptCents_25 : decode cX5_keptCents 25 = .ok (.lconst 0, 1) := by decide +kernel
theorem dX5_keptCents_26 : decode cX5_keptCents 26 = .ok (.lstore_n 3, 1) := by decide +kernel
theorem dX5_keptCents_27 : decode cX5_keptCents 27 = .ok (.aload_n 0, 1) := by decide +kernel
theorem dX5_keptCents_28 : decode cX5_keptCents 28 = .ok (.getfield 9, 3) := by decide +kernel
theorem dX5_keptCents_31 : decode cX5_keptCents 31 = .ok (.iload_n 2, 1) := by decide +kernel
theorem dX5_keptCents_32 : decode cX5_keptCents 32 = .ok (.iload_n 1, 1) := by decide +kernel
theorem dX5_keptCents_33 : decode cX5_keptCents 33 = .ok (.invokestatic 95, 3) := by decide +kernel
theorem dX5_keptCents_36 : decode cX5_keptCents 36 = .ok (.laload, 1) := by decide +kernel
theorem dX5_keptCents_37 : decode cX5_keptCents 37 = .ok (.lload_n 3, 1) := by decide +kernel
theorem dX5_keptCents_38 : decode cX5_keptCents 38 = .ok (.invokestatic 107, 3) := by decide +kernel
theorem dX5_keptCents_41 : decode cX5_keptCents 41 = .ok (.lreturn, 1) := by decide +kernel
theorem dX5_chooseFirst_0 : decode cX5_chooseFirst 0 = .ok (.ldc2_w 98, 3) := by decide +kernel
theorem dX5_chooseFirst_3 : decode cX5_chooseFirst 3 = .ok (.lstore_n 1, 1) := by decide +kernel
theorem dX5_chooseFirst_4 : decode cX5_chooseFirst 4 = .ok (.iconst 0, 1) := by decide +kernel
theorem dX5_chooseFirst_5 : decode cX5_chooseFirst 5 = .ok (.istore_n 3, 1) := by decide +kernel
theorem dX5_chooseFirst_6 : decode cX5_chooseFirst 6 = .ok (.iload_n 3, 1) := by decide +kernel
theorem dX5_chooseFirst_7 : decode cX5_chooseFirst 7 = .ok (.aload_n 0, 1) := by decide +kernel
theorem dX5_chooseFirst_8 : decode cX5_chooseFirst 8 = .ok (.getfield 25, 3) := by decide +kernel
theorem dX5_chooseFirst_11 : decode cX5_chooseFirst 11 = .ok (.getfield 55, 3) := by decide +kernel
theorem dX5_chooseFirst_14 : decode cX5_chooseFirst 14 = .ok (.if_icmp .ge 41, 3) := by decide +kernel
theorem dX5_chooseFirst_17 : decode cX5_chooseFirst 17 = .ok (.aload_n 0, 1) := by decide +kernel
theorem dX5_chooseFirst_18 : decode cX5_chooseFirst 18 = .ok (.getfield 15, 3) := by decide +kernel
theorem dX5_chooseFirst_21 : decode cX5_chooseFirst 21 = .ok (.aload_n 0, 1) := by decide +kernel
theorem dX5_chooseFirst_22 : decode cX5_chooseFirst 22 = .ok (.getfield 35, 3) := by decide +kernel
theorem dX5_chooseFirst_25 : decode cX5_chooseFirst 25 = .ok (.iload_n 3, 1) := by decide +kernel
theorem dX5_chooseFirst_26 : decode cX5_chooseFirst 26 = .ok (.invokestatic 95, 3) := by decide +kernel
theorem dX5_chooseFirst_29 : decode cX5_chooseFirst 29 = .ok (.laload, 1) := by decide +kernel
theorem dX5_chooseFirst_30 : decode cX5_chooseFirst 30 = .ok (.lstore 4, 2) := by decide +kernel
theorem dX5_chooseFirst_32 : decode cX5_chooseFirst 32 = .ok (.lload 4, 2) := by decide +kernel
theorem dX5_chooseFirst_34 : decode cX5_chooseFirst 34 = .ok (.lload_n 1, 1) := by decide +kernel
theorem dX5_chooseFirst_35 : decode cX5_chooseFirst 35 = .ok (.invokestatic 115, 3) := by decide +kernel
theorem dX5_chooseFirst_38 : decode cX5_chooseFirst 38 = .ok (.ifCond .eq 11, 3) := by decide +kernel
theorem dX5_chooseFirst_41 : decode cX5_chooseFirst 41 = .ok (.lload 4, 2) := by decide +kernel
theorem dX5_chooseFirst_43 : decode cX5_chooseFirst 43 = .ok (.lstore_n 1, 1) := by decide +kernel
theorem dX5_chooseFirst_44 : decode cX5_chooseFirst 44 = .ok (.aload_n 0, 1) := by decide +kernel
theorem dX5_chooseFirst_45 : decode cX5_chooseFirst 45 = .ok (.iload_n 3, 1) := by decide +kernel
theorem dX5_chooseFirst_46 : decode cX5_chooseFirst 46 = .ok (.putfield 72, 3) := by decide +kernel
theorem dX5_chooseFirst_49 : decode cX5_chooseFirst 49 = .ok (.iinc 3 1, 3) := by decide +kernel
theorem dX5_chooseFirst_52 : decode cX5_chooseFirst 52 = .ok (.goto (-46), 3) := by decide +kernel
theorem dX5_chooseFirst_55 : decode cX5_chooseFirst 55 = .ok (.lload_n 1, 1) := by decide +kernel
theorem dX5_chooseFirst_56 : decode cX5_chooseFirst 56 = .ok (.lreturn, 1) := by decide +kernel
theorem dX6_init_0 : decode cX6_init 0 = .ok (.aload_n 0, 1) := by decide +kernel
theorem dX6_init_1 : decode cX6_init 1 = .ok (.invokespecial 3, 3) := by decide +kernel
theorem dX6_init_4 : decode cX6_init 4 = .ok (.aload_n 0, 1) := by decide +kernel
theorem dX6_init_5 : decode cX6_init 5 = .ok (.sipush 840, 3) := by decide +kernel
theorem dX6_init_8 : decode cX6_init 8 = .ok (.newarray .byte, 2) := by decide +kernel
theorem dX6_init_10 : decode cX6_init 10 = .ok (.putfield 9, 3) := by decide +kernel
theorem dX6_init_13 : decode cX6_init 13 = .ok (.return_, 1) := by decide +kernel
theorem dX6_append_0 : decode cX6_append 0 = .ok (.bipush 24, 2) := by decide +kernel
theorem dX6_append_2 : decode cX6_append 2 = .ok (.istore_n 2, 1) := by decide +kernel
theorem dX6_append_3 : decode cX6_append 3 = .ok (.iload_n 2, 1) := by decide +kernel
theorem dX6_append_4 : decode cX6_append 4 = .ok (.ifCond .lt 42, 3) := by decide +kernel
theorem dX6_append_7 : decode cX6_append 7 = .ok (.aload_n 0, 1) := by decide +kernel
theorem dX6_append_8 : decode cX6_append 8 = .ok (.getfield 15, 3) := by decide +kernel
theorem dX6_append_11 : decode cX6_append 11 = .ok (.sipush 840, 3) := by decide +kernel
theorem dX6_append_14 : decode cX6_append 14 = .ok (.if_icmp .ge 32, 3) := by decide +kernel
theorem dX6_append_17 : decode cX6_append 17 = .ok (.aload_n 0, 1) := by decide +kernel
theorem dX6_append_18 : decode cX6_append 18 = .ok (.getfield 9, 3) := by decide +kernel
theorem dX6_append_21 : decode cX6_append 21 = .ok (.aload_n 0, 1) := by decide +kernel
theorem dX6_append_22 : decode cX6_append 22 = .ok (.getfield 15, 3) := by decide +kernel
theorem dX6_append_25 : decode cX6_append 25 = .ok (.iload_n 1, 1) := by decide +kernel
theorem dX6_append_26 : decode cX6_append 26 = .ok (.iload_n 2, 1) := by decide +kernel
theorem dX6_append_27 : decode cX6_append 27 = .ok (.ishr, 1) := by decide +kernel
theorem dX6_append_28 : decode cX6_append 28 = .ok (.i2b, 1) := by decide +kernel
theorem dX6_append_29 : decode cX6_append 29 = .ok (.bastore, 1) := by decide +kernel
theorem dX6_append_30 : decode cX6_append 30 = .ok (.aload_n 0, 1) := by decide +kernel
theorem dX6_append_31 : decode cX6_append 31 = .ok (.dup, 1) := by decide +kernel
theorem dX6_append_32 : decode cX6_append 32 = .ok (.getfield 15, 3) := by decide +kernel
theorem dX6_append_35 : decode cX6_append 35 = .ok (.iconst 1, 1) := by decide +kernel
theorem dX6_append_36 : decode cX6_append 36 = .ok (.iadd, 1) := by decide +kernel
theorem dX6_append_37 : decode cX6_append 37 = .ok (.putfield 15, 3) := by decide +kernel
theorem dX6_append_40 : decode cX6_append 40 = .ok (.iinc 2 (-8), 3) := by decide +kernel
theorem dX6_append_43 : decode cX6_append 43 = .ok (.goto (-40), 3) := by decide +kernel
theorem dX6_append_46 : decode cX6_append 46 = .ok (.return_, 1) := by decide +kernel
theorem dX6_byteAt_0 : decode cX6_byteAt 0 = .ok (.iload_n 1, 1) := by decide +kernel
theorem dX6_byteAt_1 : decode cX6_byteAt 1 = .ok (.ifCond .lt 18, 3) := by decide +kernel
theorem dX6_byteAt_4 : decode cX6_byteAt 4 = .ok (.iload_n 1, 1) := by decide +kernel
theorem dX6_byteAt_5 : decode cX6_byteAt 5 = .ok (.aload_n 0, 1) := by decide +kernel
theorem dX6_byteAt_6 : decode cX6_byteAt 6 = .ok (.getfield 15, 3) := by decide +kernel
theorem dX6_byteAt_9 : decode cX6_byteAt 9 = .ok (.if_icmp .ge 10, 3) := by decide +kernel
theorem dX6_byteAt_12 : decode cX6_byteAt 12 = .ok (.iload_n 1, 1) := by decide +kernel
theorem dX6_byteAt_13 : decode cX6_byteAt 13 = .ok (.sipush 840, 3) := by decide +kernel
theorem dX6_byteAt_16 : decode cX6_byteAt 16 = .ok (.if_icmp .lt 7, 3) := by decide +kernel
theorem dX6_byteAt_19 : decode cX6_byteAt 19 = .ok (.iconst (-1), 1) := by decide +kernel
theorem dX6_byteAt_20 : decode cX6_byteAt 20 = .ok (.goto 13, 3) := by decide +kernel
theorem dX6_byteAt_23 : decode cX6_byteAt 23 = .ok (.aload_n 0, 1) := by decide +kernel
theorem dX6_byteAt_24 : decode cX6_byteAt 24 = .ok (.getfield 9, 3) := by decide +kernel
theorem dX6_byteAt_27 : decode cX6_byteAt 27 = .ok (.iload_n 1, 1) := by decide +kernel
theorem dX6_byteAt_28 : decode cX6_byteAt 28 = .ok (.baload, 1) := by decide +kernel
theorem dX6_byteAt_29 : decode cX6_byteAt 29 = .ok (.sipush 255, 3) := by decide +kernel
theorem dX6_byteAt_32 : decode cX6_byteAt 32 = .ok (.iand, 1) := by decide +kernel
theorem dX6_byteAt_33 : decode cX6_byteAt 33 = .ok (.ireturn, 1) := by decide +kernel
theorem dX7_init_0 : decode cX7_init 0 = .ok (.aload_n 0, 1) := by decide +kernel
theorem dX7_init_1 : decode cX7_init 1 = .ok (.invokespecial 3, 3) := by decide +kernel
theorem dX7_init_4 : decode cX7_init 4 = .ok (.aload_n 0, 1) := by decide +kernel
theorem dX7_init_5 : decode cX7_init 5 = .ok (.sipush 384, 3) := by decide +kernel
theorem dX7_init_8 : decode cX7_init 8 = .ok (.newarray .int, 2) := by decide +kernel
theorem dX7_init_10 : decode cX7_init 10 = .ok (.putfield 9, 3) := by decide +kernel
theorem dX7_init_13 : decode cX7_init 13 = .ok (.aload_n 0, 1) := by decide +kernel
theorem dX7_init_14 : decode cX7_init 14 = .ok (.iconst 4, 1) := by decide +kernel
theorem dX7_init_15 : decode cX7_init 15 = .ok (.newarray .int, 2) := by decide +kernel
theorem dX7_init_17 : decode cX7_init 17 = .ok (.putfield 15, 3) := by decide +kernel
theorem dX7_init_20 : decode cX7_init 20 = .ok (.return_, 1) := by decide +kernel
theorem dX7_slot_0 : decode cX7_slot 0 = .ok (.iload_n 0, 1) := by decide +kernel
theorem dX7_slot_1 : decode cX7_slot 1 = .ok (.iconst 0, 1) := by decide +kernel
theorem dX7_slot_2 : decode cX7_slot 2 = .ok (.iconst 3, 1) := by decide +kernel
theorem dX7_slot_3 : decode cX7_slot 3 = .ok (.invokestatic 18, 3) := by decide +kernel
theorem dX7_slot_6 : decode cX7_slot 6 = .ok (.ifCond .eq 22, 3) := by decide +kernel
theorem dX7_slot_9 : decode cX7_slot 9 = .ok (.iload_n 1, 1) := by decide +kernel
theorem dX7_slot_10 : decode cX7_slot 10 = .ok (.iconst 0, 1) := by decide +kernel
theorem dX7_slot_11 : decode cX7_slot 11 = .ok (.iconst 3, 1) := by decide +kernel
theorem dX7_slot_12 : decode cX7_slot 12 = .ok (.invokestatic 18, 3) := by decide +kernel
theorem dX7_slot_15 : decode cX7_slot 15 = .ok (.ifCond .eq 13, 3) := by decide +kernel
theorem dX7_slot_18 : decode cX7_slot 18 = .ok (.iload_n 2, 1) := by decide +kernel
theorem dX7_slot_19 : decode cX7_slot 19 = .ok (.iconst 0, 1) := by decide +kernel
theorem dX7_slot_20 : decode cX7_slot 20 = .ok (.bipush 23, 2) := by decide +kernel
theorem dX7_slot_22 : decode cX7_slot 22 = .ok (.invokestatic 18, 3) := by decide +kernel
theorem dX7_slot_25 : decode cX7_slot 25 = .ok (.ifCond .ne 5, 3) := by decide +kernel
theorem dX7_slot_28 : decode cX7_slot 28 = .ok (.iconst (-1), 1) := by decide +kernel
theorem dX7_slot_29 : decode cX7_slot 29 = .ok (.ireturn, 1) := by decide +kernel
theorem dX7_slot_30 : decode cX7_slot 30 = .ok (.iload_n 0, 1) := by decide +kernel
theorem dX7_slot_31 : decode cX7_slot 31 = .ok (.iconst 4, 1) := by decide +kernel
theorem dX7_slot_32 : decode cX7_slot 32 = .ok (.imul, 1) := by decide +kernel
theorem dX7_slot_33 : decode cX7_slot 33 = .ok (.iload_n 1, 1) := by decide +kernel
theorem dX7_slot_34 : decode cX7_slot 34 = .ok (.iadd, 1) := by decide +kernel
theorem dX7_slot_35 : decode cX7_slot 35 = .ok (.bipush 24, 2) := by decide +kernel
theorem dX7_slot_37 : decode cX7_slot 37 = .ok (.imul, 1) := by decide +kernel
theorem dX7_slot_38 : decode cX7_slot 38 = .ok (.iload_n 2, 1) := by decide +kernel
theorem dX7_slot_39 : decode cX7_slot 39 = .ok (.iadd, 1) := by decide +kernel
theorem dX7_slot_40 : decode cX7_slot 40 = .ok (.ireturn, 1) := by decide +kernel
theorem dX7_at_0 : decode cX7_at 0 = .ok (.iload_n 1, 1) := by decide +kernel
theorem dX7_at_1 : decode cX7_at 1 = .ok (.iload_n 2, 1) := by decide +kernel
theorem dX7_at_2 : decode cX7_at 2 = .ok (.iload_n 3, 1) := by decide +kernel
theorem dX7_at_3 : decode cX7_at 3 = .ok (.invokestatic 22, 3) := by decide +kernel
theorem dX7_at_6 : decode cX7_at 6 = .ok (.istore 4, 2) := by decide +kernel
theorem dX7_at_8 : decode cX7_at 8 = .ok (.iload 4, 2) := by decide +kernel
theorem dX7_at_10 : decode cX7_at 10 = .ok (.iconst (-1), 1) := by decide +kernel
theorem dX7_at_11 : decode cX7_at 11 = .ok (.if_icmp .ne 7, 3) := by decide +kernel
theorem dX7_at_14 : decode cX7_at 14 = .ok (.iconst (-1), 1) := by decide +kernel
theorem dX7_at_15 : decode cX7_at 15 = .ok (.goto 10, 3) := by decide +kernel
theorem dX7_at_18 : decode cX7_at 18 = .ok (.aload_n 0, 1) := by decide +kernel
theorem dX7_at_19 : decode cX7_at 19 = .ok (.getfield 9, 3) := by decide +kernel
theorem dX7_at_22 : decode cX7_at 22 = .ok (.iload 4, 2) := by decide +kernel
theorem dX7_at_24 : decode cX7_at 24 = .ok (.iaload, 1) := by decide +kernel
theorem dX7_at_25 : decode cX7_at 25 = .ok (.ireturn, 1) := by decide +kernel
theorem dX7_take_0 : decode cX7_take 0 = .ok (.iload_n 2, 1) := by decide +kernel
theorem dX7_take_1 : decode cX7_take 1 = .ok (.iload_n 3, 1) := by decide +kernel
theorem dX7_take_2 : decode cX7_take 2 = .ok (.iload 4, 2) := by decide +kernel
theorem dX7_take_4 : decode cX7_take 4 = .ok (.invokestatic 22, 3) := by decide +kernel
theorem dX7_take_7 : decode cX7_take 7 = .ok (.istore 5, 2) := by decide +kernel
theorem dX7_take_9 : decode cX7_take 9 = .ok (.aload_n 1, 1) := by decide +kernel
theorem dX7_take_10 : decode cX7_take 10 = .ok (.getfield 26, 3) := by decide +kernel
theorem dX7_take_13 : decode cX7_take 13 = .ok (.iconst 2, 1) := by decide +kernel
theorem dX7_take_14 : decode cX7_take 14 = .ok (.idiv, 1) := by decide +kernel
theorem dX7_take_15 : decode cX7_take 15 = .ok (.istore 6, 2) := by decide +kernel
theorem dX7_take_17 : decode cX7_take 17 = .ok (.iload 5, 2) := by decide +kernel
theorem dX7_take_19 : decode cX7_take 19 = .ok (.iconst (-1), 1) := by decide +kernel
theorem dX7_take_20 : decode cX7_take 20 = .ok (.if_icmp .eq 22, 3) := by decide +kernel
theorem dX7_take_23 : decode cX7_take 23 = .ok (.aload_n 1, 1) := by decide +kernel
theorem dX7_take_24 : decode cX7_take 24 = .ok (.getfield 26, 3) := by decide +kernel
theorem dX7_take_27 : decode cX7_take 27 = .ok (.iconst 2, 1) := by decide +kernel
theorem dX7_take_28 : decode cX7_take 28 = .ok (.irem, 1) := by decide +kernel
theorem dX7_take_29 : decode cX7_take 29 = .ok (.ifCond .ne 13, 3) := by decide +kernel
theorem dX7_take_32 : decode cX7_take 32 = .ok (.iload 6, 2) := by decide +kernel
theorem dX7_take_34 : decode cX7_take 34 = .ok (.bipush 24, 2) := by decide +kernel
theorem dX7_take_36 : decode cX7_take 36 = .ok (.iload 4, 2) := by decide +kernel
theorem dX7_take_38 : decode cX7_take 38 = .ok (.isub, 1) := by decide +kernel
theorem dX7_take_39 : decode cX7_take 39 = .ok (.if_icmp .le 5, 3) := by decide +kernel
theorem dX7_take_42 : decode cX7_take 42 = .ok (.iconst (-1), 1) := by decide +kernel
theorem dX7_take_43 : decode cX7_take 43 = .ok (.ireturn, 1) := by decide +kernel
theorem dX7_take_44 : decode cX7_take 44 = .ok (.iconst 0, 1) := by decide +kernel
theorem dX7_take_45 : decode cX7_take 45 = .ok (.istore 7, 2) := by decide +kernel
theorem dX7_take_47 : decode cX7_take 47 = .ok (.iload 7, 2) := by decide +kernel
theorem dX7_take_49 : decode cX7_take 49 = .ok (.iload 6, 2) := by decide +kernel
theorem dX7_take_51 : decode cX7_take 51 = .ok (.if_icmp .ge 23, 3) := by decide +kernel
theorem dX7_take_54 : decode cX7_take 54 = .ok (.aload_n 1, 1) := by decide +kernel
theorem dX7_take_55 : decode cX7_take 55 = .ok (.iload 7, 2) := by decide +kernel
theorem dX7_take_57 : decode cX7_take 57 = .ok (.invokestatic 32, 3) := by decide +kernel
theorem dX7_take_60 : decode cX7_take 60 = .ok (.sipush 20000, 3) := by decide +kernel
theorem dX7_take_63 : decode cX7_take 63 = .ok (.if_icmp .le 5, 3) := by decide +kernel
theorem dX7_take_66 : decode cX7_take 66 = .ok (.iconst (-1), 1) := by decide +kernel
theorem dX7_take_67 : decode cX7_take 67 = .ok (.ireturn, 1) := by decide +kernel
theorem dX7_take_68 : decode cX7_take 68 = .ok (.iinc 7 1, 3) := by decide +kernel
theorem dX7_take_71 : decode cX7_take 71 = .ok (.goto (-24), 3) := by decide +kernel
theorem dX7_take_74 : decode cX7_take 74 = .ok (.iconst 0, 1) := by decide +kernel
theorem dX7_take_75 : decode cX7_take 75 = .ok (.istore 7, 2) := by decide +kernel
theorem dX7_take_77 : decode cX7_take 77 = .ok (.iload 7, 2) := by decide +kernel
theorem dX7_take_79 : decode cX7_take 79 = .ok (.iload 6, 2) := by decide +kernel
theorem dX7_take_81 : decode cX7_take 81 = .ok (.if_icmp .ge 38, 3) := by decide +kernel
theorem dX7_take_84 : decode cX7_take 84 = .ok (.iload 5, 2) := by decide +kernel
theorem dX7_take_86 : decode cX7_take 86 = .ok (.iload 7, 2) := by decide +kernel
theorem dX7_take_88 : decode cX7_take 88 = .ok (.iadd, 1) := by decide +kernel
theorem dX7_take_89 : decode cX7_take 89 = .ok (.aload_n 0, 1) := by decide +kernel
theorem dX7_take_90 : decode cX7_take 90 = .ok (.getfield 9, 3) := by decide +kernel
theorem dX7_take_93 : decode cX7_take 93 = .ok (.arraylength, 1) := by decide +kernel
theorem dX7_take_94 : decode cX7_take 94 = .ok (.if_icmp .ge 25, 3) := by decide +kernel
theorem dX7_take_97 : decode cX7_take 97 = .ok (.aload_n 0, 1) := by decide +kernel
theorem dX7_take_98 : decode cX7_take 98 = .ok (.getfield 9, 3) := by decide +kernel
theorem dX7_take_101 : decode cX7_take 101 = .ok (.iload 5, 2) := by decide +kernel
theorem dX7_take_103 : decode cX7_take 103 = .ok (.iload 7, 2) := by decide +kernel
theorem dX7_take_105 : decode cX7_take 105 = .ok (.iadd, 1) := by decide +kernel
theorem dX7_take_106 : decode cX7_take 106 = .ok (.aload_n 1, 1) := by decide +kernel
theorem dX7_take_107 : decode cX7_take 107 = .ok (.iload 7, 2) := by decide +kernel
theorem dX7_take_109 : decode cX7_take 109 = .ok (.invokestatic 32, 3) := by decide +kernel
theorem dX7_take_112 : decode cX7_take 112 = .ok (.iastore, 1) := by decide +kernel
theorem dX7_take_113 : decode cX7_take 113 = .ok (.iinc 7 1, 3) := by decide +kernel
theorem dX7_take_116 : decode cX7_take 116 = .ok (.goto (-39), 3) := by decide +kernel
theorem dX7_take_119 : decode cX7_take 119 = .ok (.iload 6, 2) := by decide +kernel
theorem dX7_take_121 : decode cX7_take 121 = .ok (.ireturn, 1) := by decide +kernel
theorem dX7_numberAt_0 : decode cX7_numberAt 0 = .ok (.aload_n 0, 1) := by decide +kernel
theorem dX7_numberAt_1 : decode cX7_numberAt 1 = .ok (.iconst 2, 1) := by decide +kernel
theorem dX7_numberAt_2 : decode cX7_numberAt 2 = .ok (.iload_n 1, 1) := by decide +kernel
theorem dX7_numberAt_3 : decode cX7_numberAt 3 = .ok (.imul, 1) := by decide +kernel
theorem dX7_numberAt_4 : decode cX7_numberAt 4 = .ok (.invokevirtual 36, 3) := by decide +kernel
theorem dX7_numberAt_7 : decode cX7_numberAt 7 = .ok (.bipush 8, 2) := by decide +kernel
theorem dX7_numberAt_9 : decode cX7_numberAt 9 = .ok (.ishl, 1) := by decide +kernel
theorem dX7_numberAt_10 : decode cX7_numberAt 10 = .ok (.aload_n 0, 1) := by decide +kernel
theorem dX7_numberAt_11 : decode cX7_numberAt 11 = .ok (.iconst 2, 1) := by decide +kernel
theorem dX7_numberAt_12 : decode cX7_numberAt 12 = .ok (.iload_n 1, 1) := by decide +kernel
theorem dX7_numberAt_13 : decode cX7_numberAt 13 = .ok (.imul, 1) := by decide +kernel
theorem dX7_numberAt_14 : decode cX7_numberAt 14 = .ok (.iconst 1, 1) := by decide +kernel
theorem dX7_numberAt_15 : decode cX7_numberAt 15 = .ok (.iadd, 1) := by decide +kernel
theorem dX7_numberAt_16 : decode cX7_numberAt 16 = .ok (.invokevirtual 36, 3) := by decide +kernel
theorem dX7_numberAt_19 : decode cX7_numberAt 19 = .ok (.ior, 1) := by decide +kernel
theorem dX7_numberAt_20 : decode cX7_numberAt 20 = .ok (.ireturn, 1) := by decide +kernel
theorem dX7_together_0 : decode cX7_together 0 = .ok (.iconst 0, 1) := by decide +kernel
theorem dX7_together_1 : decode cX7_together 1 = .ok (.istore_n 3, 1) := by decide +kernel
theorem dX7_together_2 : decode cX7_together 2 = .ok (.iload_n 3, 1) := by decide +kernel
theorem dX7_together_3 : decode cX7_together 3 = .ok (.iconst 4, 1) := by decide +kernel
theorem dX7_together_4 : decode cX7_together 4 = .ok (.if_icmp .ge 57, 3) := by decide +kernel
theorem dX7_together_7 : decode cX7_together 7 = .ok (.iconst 0, 1) := by decide +kernel
theorem dX7_together_8 : decode cX7_together 8 = .ok (.istore 4, 2) := by decide +kernel
theorem dX7_together_10 : decode cX7_together 10 = .ok (.iconst 0, 1) := by decide +kernel
theorem dX7_together_11 : decode cX7_together 11 = .ok (.istore 5, 2) := by decide +kernel
theorem dX7_together_13 : decode cX7_together 13 = .ok (.iload 5, 2) := by decide +kernel
theorem dX7_together_15 : decode cX7_together 15 = .ok (.iconst 4, 1) := by decide +kernel
theorem dX7_together_16 : decode cX7_together 16 = .ok (.if_icmp .ge 31, 3) := by decide +kernel
theorem dX7_together_19 : decode cX7_together 19 = .ok (.iload_n 1, 1) := by decide +kernel
theorem dX7_together_20 : decode cX7_together 20 = .ok (.iload 5, 2) := by decide +kernel
theorem dX7_together_22 : decode cX7_together 22 = .ok (.ishr, 1) := by decide +kernel
theorem dX7_together_23 : decode cX7_together 23 = .ok (.iconst 1, 1) := by decide +kernel
theorem dX7_together_24 : decode cX7_together 24 = .ok (.iand, 1) := by decide +kernel
theorem dX7_together_25 : decode cX7_together 25 = .ok (.ifCond .eq 16, 3) := by decide +kernel
theorem dX7_together_28 : decode cX7_together 28 = .ok (.iload 4, 2) := by decide +kernel
theorem dX7_together_30 : decode cX7_together 30 = .ok (.aload_n 0, 1) := by decide +kernel
theorem dX7_together_31 : decode cX7_together 31 = .ok (.iload 5, 2) := by decide +kernel
theorem dX7_together_33 : decode cX7_together 33 = .ok (.iload_n 3, 1) := by decide +kernel
theorem dX7_together_34 : decode cX7_together 34 = .ok (.iload_n 2, 1) := by decide +kernel
theorem dX7_together_35 : decode cX7_together 35 = .ok (.invokevirtual 40, 3) := by decide +kernel
theorem dX7_together_38 : decode cX7_together 38 = .ok (.iadd, 1) := by decide +kernel
theorem dX7_together_39 : decode cX7_together 39 = .ok (.istore 4, 2) := by decide +kernel
theorem dX7_together_41 : decode cX7_together 41 = .ok (.iinc 5 1, 3) := by decide +kernel
theorem dX7_together_44 : decode cX7_together 44 = .ok (.goto (-31), 3) := by decide +kernel
theorem dX7_together_47 : decode cX7_together 47 = .ok (.aload_n 0, 1) := by decide +kernel
theorem dX7_together_48 : decode cX7_together 48 = .ok (.getfield 15, 3) := by decide +kernel
theorem dX7_together_51 : decode cX7_together 51 = .ok (.iload_n 3, 1) := by decide +kernel
theorem dX7_together_52 : decode cX7_together 52 = .ok (.iload 4, 2) := by decide +kernel
theorem dX7_together_54 : decode cX7_together 54 = .ok (.iastore, 1) := by decide +kernel
theorem dX7_together_55 : decode cX7_together 55 = .ok (.iinc 3 1, 3) := by decide +kernel
theorem dX7_together_58 : decode cX7_together 58 = .ok (.goto (-56), 3) := by decide +kernel
theorem dX7_together_61 : decode cX7_together 61 = .ok (.aload_n 0, 1) := by decide +kernel
theorem dX7_together_62 : decode cX7_together 62 = .ok (.getfield 15, 3) := by decide +kernel
theorem dX7_together_65 : decode cX7_together 65 = .ok (.areturn, 1) := by decide +kernel
theorem dX8_init_0 : decode cX8_init 0 = .ok (.aload_n 0, 1) := by decide +kernel
theorem dX8_init_1 : decode cX8_init 1 = .ok (.invokespecial 1, 3) := by decide +kernel
theorem dX8_init_4 : decode cX8_init 4 = .ok (.aload_n 0, 1) := by decide +kernel
theorem dX8_init_5 : decode cX8_init 5 = .ok (.new 7, 3) := by decide +kernel
theorem dX8_init_8 : decode cX8_init 8 = .ok (.dup, 1) := by decide +kernel
theorem dX8_init_9 : decode cX8_init 9 = .ok (.invokespecial 9, 3) := by decide +kernel
theorem dX8_init_12 : decode cX8_init 12 = .ok (.putfield 10, 3) := by decide +kernel
theorem dX8_init_15 : decode cX8_init 15 = .ok (.aload_n 0, 1) := by decide +kernel
theorem dX8_init_16 : decode cX8_init 16 = .ok (.new 16, 3) := by decide +kernel
theorem dX8_init_19 : decode cX8_init 19 = .ok (.dup, 1) := by decide +kernel
theorem dX8_init_20 : decode cX8_init 20 = .ok (.aload_n 0, 1) := by decide +kernel
theorem dX8_init_21 : decode cX8_init 21 = .ok (.getfield 10, 3) := by decide +kernel
theorem dX8_init_24 : decode cX8_init 24 = .ok (.invokespecial 18, 3) := by decide +kernel
theorem dX8_init_27 : decode cX8_init 27 = .ok (.putfield 21, 3) := by decide +kernel
theorem dX8_init_30 : decode cX8_init 30 = .ok (.aload_n 0, 1) := by decide +kernel
theorem dX8_init_31 : decode cX8_init 31 = .ok (.new 25, 3) := by decide +kernel
theorem dX8_init_34 : decode cX8_init 34 = .ok (.dup, 1) := by decide +kernel
theorem dX8_init_35 : decode cX8_init 35 = .ok (.invokespecial 27, 3) := by decide +kernel
theorem dX8_init_38 : decode cX8_init 38 = .ok (.putfield 28, 3) := by decide +kernel
theorem dX8_init_41 : decode cX8_init 41 = .ok (.aload_n 0, 1) := by decide +kernel
theorem dX8_init_42 : decode cX8_init 42 = .ok (.new 32, 3) := by decide +kernel
theorem dX8_init_45 : decode cX8_init 45 = .ok (.dup, 1) := by decide +kernel
theorem dX8_init_46 : decode cX8_init 46 = .ok (.invokespecial 34, 3) := by decide +kernel
theorem dX8_init_49 : decode cX8_init 49 = .ok (.putfield 35, 3) := by decide +kernel
theorem dX8_init_52 : decode cX8_init 52 = .ok (.aload_n 0, 1) := by decide +kernel
theorem dX8_init_53 : decode cX8_init 53 = .ok (.new 39, 3) := by decide +kernel
theorem dX8_init_56 : decode cX8_init 56 = .ok (.dup, 1) := by decide +kernel
theorem dX8_init_57 : decode cX8_init 57 = .ok (.invokespecial 41, 3) := by decide +kernel
theorem dX8_init_60 : decode cX8_init 60 = .ok (.putfield 42, 3) := by decide +kernel
theorem dX8_init_63 : decode cX8_init 63 = .ok (.aload_n 0, 1) := by decide +kernel
theorem dX8_init_64 : decode cX8_init 64 = .ok (.iconst 4, 1) := by decide +kernel
theorem dX8_init_65 : decode cX8_init 65 = .ok (.newarray .int, 2) := by decide +kernel
theorem dX8_init_67 : decode cX8_init 67 = .ok (.putfield 46, 3) := by decide +kernel
theorem dX8_init_70 : decode cX8_init 70 = .ok (.aload_n 0, 1) := by decide +kernel
theorem dX8_init_71 : decode cX8_init 71 = .ok (.iconst 4, 1) := by decide +kernel
theorem dX8_init_72 : decode cX8_init 72 = .ok (.newarray .int, 2) := by decide +kernel
theorem dX8_init_74 : decode cX8_init 74 = .ok (.putfield 50, 3) := by decide +kernel
theorem dX8_init_77 : decode cX8_init 77 = .ok (.aload_n 0, 1) := by decide +kernel
theorem dX8_init_78 : decode cX8_init 78 = .ok (.bipush 24, 2) := by decide +kernel
theorem dX8_init_80 : decode cX8_init 80 = .ok (.newarray .int, 2) := by decide +kernel
theorem dX8_init_82 : decode cX8_init 82 = .ok (.putfield 53, 3) := by decide +kernel
theorem dX8_init_85 : decode cX8_init 85 = .ok (.aload_n 0, 1) := by decide +kernel
theorem dX8_init_86 : decode cX8_init 86 = .ok (.new 56, 3) := by decide +kernel
theorem dX8_init_89 : decode cX8_init 89 = .ok (.dup, 1) := by decide +kernel
theorem dX8_init_90 : decode cX8_init 90 = .ok (.invokespecial 58, 3) := by decide +kernel
theorem dX8_init_93 : decode cX8_init 93 = .ok (.putfield 59, 3) := by decide +kernel
theorem dX8_init_96 : decode cX8_init 96 = .ok (.aload_n 0, 1) := by decide +kernel
theorem dX8_init_97 : decode cX8_init 97 = .ok (.invokevirtual 63, 3) := by decide +kernel
theorem dX8_init_100 : decode cX8_init 100 = .ok (.return_, 1) := by decide +kernel
theorem dX8_feed_0 : decode cX8_feed 0 = .ok (.aload_n 0, 1) := by decide +kernel
theorem dX8_feed_1 : decode cX8_feed 1 = .ok (.getfield 10, 3) := by decide +kernel
theorem dX8_feed_4 : decode cX8_feed 4 = .ok (.getfield 66, 3) := by decide +kernel
theorem dX8_feed_7 : decode cX8_feed 7 = .ok (.bipush 20, 2) := by decide +kernel
theorem dX8_feed_9 : decode cX8_feed 9 = .ok (.iadd, 1) := by decide +kernel
theorem dX8_feed_10 : decode cX8_feed 10 = .ok (.sipush 840, 3) := by decide +kernel
theorem dX8_feed_13 : decode cX8_feed 13 = .ok (.if_icmp .le 5, 3) := by decide +kernel
theorem dX8_feed_16 : decode cX8_feed 16 = .ok (.iconst (-1), 1) := by decide +kernel
theorem dX8_feed_17 : decode cX8_feed 17 = .ok (.ireturn, 1) := by decide +kernel
theorem dX8_feed_18 : decode cX8_feed 18 = .ok (.aload_n 0, 1) := by decide +kernel
theorem dX8_feed_19 : decode cX8_feed 19 = .ok (.getfield 10, 3) := by decide +kernel
theorem dX8_feed_22 : decode cX8_feed 22 = .ok (.iload_n 1, 1) := by decide +kernel
theorem dX8_feed_23 : decode cX8_feed 23 = .ok (.invokevirtual 70, 3) := by decide +kernel
theorem dX8_feed_26 : decode cX8_feed 26 = .ok (.aload_n 0, 1) := by decide +kernel
theorem dX8_feed_27 : decode cX8_feed 27 = .ok (.getfield 10, 3) := by decide +kernel
theorem dX8_feed_30 : decode cX8_feed 30 = .ok (.iload_n 2, 1) := by decide +kernel
theorem dX8_feed_31 : decode cX8_feed 31 = .ok (.invokevirtual 70, 3) := by decide +kernel
theorem dX8_feed_34 : decode cX8_feed 34 = .ok (.aload_n 0, 1) := by decide +kernel
theorem dX8_feed_35 : decode cX8_feed 35 = .ok (.getfield 10, 3) := by decide +kernel
theorem dX8_feed_38 : decode cX8_feed 38 = .ok (.iload_n 3, 1) := by decide +kernel
theorem dX8_feed_39 : decode cX8_feed 39 = .ok (.invokevirtual 70, 3) := by decide +kernel
theorem dX8_feed_42 : decode cX8_feed 42 = .ok (.aload_n 0, 1) := by decide +kernel
theorem dX8_feed_43 : decode cX8_feed 43 = .ok (.getfield 10, 3) := by decide +kernel
theorem dX8_feed_46 : decode cX8_feed 46 = .ok (.iload 4, 2) := by decide +kernel
theorem dX8_feed_48 : decode cX8_feed 48 = .ok (.invokevirtual 70, 3) := by decide +kernel
theorem dX8_feed_51 : decode cX8_feed 51 = .ok (.aload_n 0, 1) := by decide +kernel
theorem dX8_feed_52 : decode cX8_feed 52 = .ok (.getfield 10, 3) := by decide +kernel
theorem dX8_feed_55 : decode cX8_feed 55 = .ok (.iload 5, 2) := by decide +kernel
theorem dX8_feed_57 : decode cX8_feed 57 = .ok (.invokevirtual 70, 3) := by decide +kernel
theorem dX8_feed_60 : decode cX8_feed 60 = .ok (.aload_n 0, 1) := by decide +kernel
theorem dX8_feed_61 : decode cX8_feed 61 = .ok (.getfield 10, 3) := by decide +kernel
theorem dX8_feed_64 : decode cX8_feed 64 = .ok (.getfield 66, 3) := by decide +kernel
theorem dX8_feed_67 : decode cX8_feed 67 = .ok (.ireturn, 1) := by decide +kernel
theorem dX8_end_0 : decode cX8_end 0 = .ok (.iload_n 1, 1) := by decide +kernel
theorem dX8_end_1 : decode cX8_end 1 = .ok (.ifCond .lt 14, 3) := by decide +kernel
theorem dX8_end_4 : decode cX8_end 4 = .ok (.iload_n 1, 1) := by decide +kernel
theorem dX8_end_5 : decode cX8_end 5 = .ok (.aload_n 0, 1) := by decide +kernel
theorem dX8_end_6 : decode cX8_end 6 = .ok (.getfield 10, 3) := by decide +kernel
theorem dX8_end_9 : decode cX8_end 9 = .ok (.getfield 66, 3) := by decide +kernel
theorem dX8_end_12 : decode cX8_end 12 = .ok (.if_icmp .le 5, 3) := by decide +kernel
theorem dX8_end_15 : decode cX8_end 15 = .ok (.iconst 0, 1) := by decide +kernel
theorem dX8_end_16 : decode cX8_end 16 = .ok (.ireturn, 1) := by decide +kernel
theorem dX8_end_17 : decode cX8_end 17 = .ok (.aload_n 0, 1) := by decide +kernel
theorem dX8_end_18 : decode cX8_end 18 = .ok (.getfield 10, 3) := by decide +kernel
theorem dX8_end_21 : decode cX8_end 21 = .ok (.iload_n 1, 1) := by decide +kernel
theorem dX8_end_22 : decode cX8_end 22 = .ok (.putfield 66, 3) := by decide +kernel
theorem dX8_end_25 : decode cX8_end 25 = .ok (.iconst 1, 1) := by decide +kernel
theorem dX8_end_26 : decode cX8_end 26 = .ok (.ireturn, 1) := by decide +kernel
theorem dX8_plans_0 : decode cX8_plans 0 = .ok (.aload_n 0, 1) := by decide +kernel
theorem dX8_plans_1 : decode cX8_plans 1 = .ok (.getfield 21, 3) := by decide +kernel
theorem dX8_plans_4 : decode cX8_plans 4 = .ok (.invokevirtual 74, 3) := by decide +kernel
theorem dX8_plans_7 : decode cX8_plans 7 = .ok (.istore_n 1, 1) := by decide +kernel
theorem dX8_plans_8 : decode cX8_plans 8 = .ok (.aload_n 0, 1) := by decide +kernel
theorem dX8_plans_9 : decode cX8_plans 9 = .ok (.getfield 10, 3) := by decide +kernel
theorem dX8_plans_12 : decode cX8_plans 12 = .ok (.iconst 0, 1) := by decide +kernel
theorem dX8_plans_13 : decode cX8_plans 13 = .ok (.putfield 66, 3) := by decide +kernel
theorem dX8_plans_16 : decode cX8_plans 16 = .ok (.iload_n 1, 1) := by decide +kernel
theorem dX8_plans_17 : decode cX8_plans 17 = .ok (.ifCond .ne 13, 3) := by decide +kernel
theorem dX8_plans_20 : decode cX8_plans 20 = .ok (.iconst (-1), 1) := by decide +kernel
theorem dX8_plans_21 : decode cX8_plans 21 = .ok (.aload_n 0, 1) := by decide +kernel
theorem dX8_plans_22 : decode cX8_plans 22 = .ok (.getfield 21, 3) := by decide +kernel
theorem dX8_plans_25 : decode cX8_plans 25 = .ok (.getfield 78, 3) := by decide +kernel
theorem dX8_plans_28 : decode cX8_plans 28 = .ok (.isub, 1) := by decide +kernel
theorem dX8_plans_29 : decode cX8_plans 29 = .ok (.ireturn, 1) := by decide +kernel
theorem dX8_plans_30 : decode cX8_plans 30 = .ok (.aload_n 0, 1) := by decide +kernel
theorem dX8_plans_31 : decode cX8_plans 31 = .ok (.aload_n 0, 1) := by decide +kernel
theorem dX8_plans_32 : decode cX8_plans 32 = .ok (.getfield 21, 3) := by decide +kernel
theorem dX8_plans_35 : decode cX8_plans 35 = .ok (.aload_n 0, 1) := by decide +kernel
theorem dX8_plans_36 : decode cX8_plans 36 = .ok (.getfield 59, 3) := by decide +kernel
theorem dX8_plans_39 : decode cX8_plans 39 = .ok (.invokevirtual 81, 3) := by decide +kernel
theorem dX8_plans_42 : decode cX8_plans 42 = .ok (.putfield 59, 3) := by decide +kernel
theorem dX8_plans_45 : decode cX8_plans 45 = .ok (.aload_n 0, 1) := by decide +kernel
theorem dX8_plans_46 : decode cX8_plans 46 = .ok (.invokevirtual 63, 3) := by decide +kernel
theorem dX8_plans_49 : decode cX8_plans 49 = .ok (.aload_n 0, 1) := by decide +kernel
theorem dX8_plans_50 : decode cX8_plans 50 = .ok (.getfield 42, 3) := by decide +kernel
theorem dX8_plans_53 : decode cX8_plans 53 = .ok (.invokevirtual 85, 3) := by decide +kernel
theorem dX8_plans_56 : decode cX8_plans 56 = .ok (.aload_n 0, 1) := by decide +kernel
theorem dX8_plans_57 : decode cX8_plans 57 = .ok (.getfield 59, 3) := by decide +kernel
theorem dX8_plans_60 : decode cX8_plans 60 = .ok (.getfield 88, 3) := by decide +kernel
theorem dX8_plans_63 : decode cX8_plans 63 = .ok (.ireturn, 1) := by decide +kernel
theorem dX8_fault_0 : decode cX8_fault 0 = .ok (.aload_n 0, 1) := by decide +kernel
theorem dX8_fault_1 : decode cX8_fault 1 = .ok (.getfield 21, 3) := by decide +kernel
theorem dX8_fault_4 : decode cX8_fault 4 = .ok (.getfield 91, 3) := by decide +kernel
theorem dX8_fault_7 : decode cX8_fault 7 = .ok (.ireturn, 1) := by decide +kernel
theorem dX8_plan_0 : decode cX8_plan 0 = .ok (.aload_n 0, 1) := by decide +kernel
theorem dX8_plan_1 : decode cX8_plan 1 = .ok (.getfield 59, 3) := by decide +kernel
theorem dX8_plan_4 : decode cX8_plan 4 = .ok (.iload_n 1, 1) := by decide +kernel
theorem dX8_plan_5 : decode cX8_plan 5 = .ok (.invokevirtual 94, 3) := by decide +kernel
theorem dX8_plan_8 : decode cX8_plan 8 = .ok (.astore_n 3, 1) := by decide +kernel
theorem dX8_plan_9 : decode cX8_plan 9 = .ok (.aload_n 3, 1) := by decide +kernel
theorem dX8_plan_10 : decode cX8_plan 10 = .ok (.ifnonnull 11, 3) := by decide +kernel
theorem dX8_plan_13 : decode cX8_plan 13 = .ok (.new 98, 3) := by decide +kernel
theorem dX8_plan_16 : decode cX8_plan 16 = .ok (.dup, 1) := by decide +kernel
theorem dX8_plan_17 : decode cX8_plan 17 = .ok (.invokespecial 100, 3) := by decide +kernel
theorem dX8_plan_20 : decode cX8_plan 20 = .ok (.athrow, 1) := by decide +kernel
theorem dX8_plan_21 : decode cX8_plan 21 = .ok (.iload_n 2, 1) := by decide +kernel
theorem dX8_plan_22 : decode cX8_plan 22 = .ok (.tableswitch 59 0 4 #[34, 39, 44, 49, 54], 34) := by decide +kernel
theorem dX8_plan_56 : decode cX8_plan 56 = .ok (.aload_n 3, 1) := by decide +kernel
theorem dX8_plan_57 : decode cX8_plan 57 = .ok (.getfield 101, 3) := by decide +kernel
theorem dX8_plan_60 : decode cX8_plan 60 = .ok (.ireturn, 1) := by decide +kernel
theorem dX8_plan_61 : decode cX8_plan 61 = .ok (.aload_n 3, 1) := by decide +kernel
theorem dX8_plan_62 : decode cX8_plan 62 = .ok (.getfield 106, 3) := by decide +kernel
theorem dX8_plan_65 : decode cX8_plan 65 = .ok (.ireturn, 1) := by decide +kernel
theorem dX8_plan_66 : decode cX8_plan 66 = .ok (.aload_n 3, 1) := by decide +kernel
theorem dX8_plan_67 : decode cX8_plan 67 = .ok (.getfield 109, 3) := by decide +kernel
theorem dX8_plan_70 : decode cX8_plan 70 = .ok (.ireturn, 1) := by decide +kernel
theorem dX8_plan_71 : decode cX8_plan 71 = .ok (.aload_n 3, 1) := by decide +kernel
theorem dX8_plan_72 : decode cX8_plan 72 = .ok (.getfield 112, 3) := by decide +kernel
theorem dX8_plan_75 : decode cX8_plan 75 = .ok (.ireturn, 1) := by decide +kernel
theorem dX8_plan_76 : decode cX8_plan 76 = .ok (.aload_n 3, 1) := by decide +kernel
theorem dX8_plan_77 : decode cX8_plan 77 = .ok (.getfield 115, 3) := by decide +kernel
theorem dX8_plan_80 : decode cX8_plan 80 = .ok (.ireturn, 1) := by decide +kernel
theorem dX8_plan_81 : decode cX8_plan 81 = .ok (.new 98, 3) := by decide +kernel
theorem dX8_plan_84 : decode cX8_plan 84 = .ok (.dup, 1) := by decide +kernel
theorem dX8_plan_85 : decode cX8_plan 85 = .ok (.invokespecial 100, 3) := by decide +kernel
theorem dX8_plan_88 : decode cX8_plan 88 = .ok (.athrow, 1) := by decide +kernel
theorem dX8_name_0 : decode cX8_name 0 = .ok (.aload_n 0, 1) := by decide +kernel
theorem dX8_name_1 : decode cX8_name 1 = .ok (.getfield 59, 3) := by decide +kernel
theorem dX8_name_4 : decode cX8_name 4 = .ok (.iload_n 1, 1) := by decide +kernel
theorem dX8_name_5 : decode cX8_name 5 = .ok (.invokevirtual 94, 3) := by decide +kernel
theorem dX8_name_8 : decode cX8_name 8 = .ok (.astore_n 2, 1) := by decide +kernel
theorem dX8_name_9 : decode cX8_name 9 = .ok (.aload_n 2, 1) := by decide +kernel
theorem dX8_name_10 : decode cX8_name 10 = .ok (.ifnonnull 5, 3) := by decide +kernel
theorem dX8_name_13 : decode cX8_name 13 = .ok (.iconst (-1), 1) := by decide +kernel
theorem dX8_name_14 : decode cX8_name 14 = .ok (.ireturn, 1) := by decide +kernel
theorem dX8_name_15 : decode cX8_name 15 = .ok (.aload_n 0, 1) := by decide +kernel
theorem dX8_name_16 : decode cX8_name 16 = .ok (.aload_n 2, 1) := by decide +kernel
theorem dX8_name_17 : decode cX8_name 17 = .ok (.getfield 118, 3) := by decide +kernel
theorem dX8_name_20 : decode cX8_name 20 = .ok (.putfield 122, 3) := by decide +kernel
theorem dX8_name_23 : decode cX8_name 23 = .ok (.aload_n 0, 1) := by decide +kernel
theorem dX8_name_24 : decode cX8_name 24 = .ok (.aload_n 2, 1) := by decide +kernel
theorem dX8_name_25 : decode cX8_name 25 = .ok (.getfield 125, 3) := by decide +kernel
theorem dX8_name_28 : decode cX8_name 28 = .ok (.putfield 128, 3) := by decide +kernel
theorem dX8_name_31 : decode cX8_name 31 = .ok (.aload_n 0, 1) := by decide +kernel
theorem dX8_name_32 : decode cX8_name 32 = .ok (.getfield 128, 3) := by decide +kernel
theorem dX8_name_35 : decode cX8_name 35 = .ok (.ireturn, 1) := by decide +kernel
theorem dX8_octet_0 : decode cX8_octet 0 = .ok (.iload_n 1, 1) := by decide +kernel
theorem dX8_octet_1 : decode cX8_octet 1 = .ok (.ifCond .lt 11, 3) := by decide +kernel
theorem dX8_octet_4 : decode cX8_octet 4 = .ok (.iload_n 1, 1) := by decide +kernel
theorem dX8_octet_5 : decode cX8_octet 5 = .ok (.aload_n 0, 1) := by decide +kernel
theorem dX8_octet_6 : decode cX8_octet 6 = .ok (.getfield 128, 3) := by decide +kernel
theorem dX8_octet_9 : decode cX8_octet 9 = .ok (.if_icmp .lt 11, 3) := by decide +kernel
theorem dX8_octet_12 : decode cX8_octet 12 = .ok (.new 98, 3) := by decide +kernel
theorem dX8_octet_15 : decode cX8_octet 15 = .ok (.dup, 1) := by decide +kernel
theorem dX8_octet_16 : decode cX8_octet 16 = .ok (.invokespecial 100, 3) := by decide +kernel
theorem dX8_octet_19 : decode cX8_octet 19 = .ok (.athrow, 1) := by decide +kernel
theorem dX8_octet_20 : decode cX8_octet 20 = .ok (.aload_n 0, 1) := by decide +kernel
theorem dX8_octet_21 : decode cX8_octet 21 = .ok (.getfield 122, 3) := by decide +kernel
theorem dX8_octet_24 : decode cX8_octet 24 = .ok (.bipush 8, 2) := by decide +kernel
theorem dX8_octet_26 : decode cX8_octet 26 = .ok (.aload_n 0, 1) := by decide +kernel
theorem dX8_octet_27 : decode cX8_octet 27 = .ok (.getfield 128, 3) := by decide +kernel
theorem dX8_octet_30 : decode cX8_octet 30 = .ok (.iconst 1, 1) := by decide +kernel
theorem dX8_octet_31 : decode cX8_octet 31 = .ok (.isub, 1) := by decide +kernel
theorem dX8_octet_32 : decode cX8_octet 32 = .ok (.iload_n 1, 1) := by decide +kernel
theorem dX8_octet_33 : decode cX8_octet 33 = .ok (.isub, 1) := by decide +kernel
theorem dX8_octet_34 : decode cX8_octet 34 = .ok (.imul, 1) := by decide +kernel
theorem dX8_octet_35 : decode cX8_octet 35 = .ok (.lshr, 1) := by decide +kernel
theorem dX8_octet_36 : decode cX8_octet 36 = .ok (.l2i, 1) := by decide +kernel
theorem dX8_octet_37 : decode cX8_octet 37 = .ok (.sipush 255, 3) := by decide +kernel
theorem dX8_octet_40 : decode cX8_octet 40 = .ok (.iand, 1) := by decide +kernel
theorem dX8_octet_41 : decode cX8_octet 41 = .ok (.ireturn, 1) := by decide +kernel
theorem dX8_uses_0 : decode cX8_uses 0 = .ok (.aload_n 0, 1) := by decide +kernel
theorem dX8_uses_1 : decode cX8_uses 1 = .ok (.getfield 28, 3) := by decide +kernel
theorem dX8_uses_4 : decode cX8_uses 4 = .ok (.aload_n 0, 1) := by decide +kernel
theorem dX8_uses_5 : decode cX8_uses 5 = .ok (.getfield 10, 3) := by decide +kernel
theorem dX8_uses_8 : decode cX8_uses 8 = .ok (.iload_n 1, 1) := by decide +kernel
theorem dX8_uses_9 : decode cX8_uses 9 = .ok (.iload_n 2, 1) := by decide +kernel
theorem dX8_uses_10 : decode cX8_uses 10 = .ok (.iload_n 3, 1) := by decide +kernel
theorem dX8_uses_11 : decode cX8_uses 11 = .ok (.invokevirtual 131, 3) := by decide +kernel
theorem dX8_uses_14 : decode cX8_uses 14 = .ok (.istore 4, 2) := by decide +kernel
theorem dX8_uses_16 : decode cX8_uses 16 = .ok (.aload_n 0, 1) := by decide +kernel
theorem dX8_uses_17 : decode cX8_uses 17 = .ok (.getfield 10, 3) := by decide +kernel
theorem dX8_uses_20 : decode cX8_uses 20 = .ok (.iconst 0, 1) := by decide +kernel
theorem dX8_uses_21 : decode cX8_uses 21 = .ok (.putfield 66, 3) := by decide +kernel
theorem dX8_uses_24 : decode cX8_uses 24 = .ok (.iload 4, 2) := by decide +kernel
theorem dX8_uses_26 : decode cX8_uses 26 = .ok (.ireturn, 1) := by decide +kernel
theorem dX8_use_0 : decode cX8_use 0 = .ok (.aload_n 0, 1) := by decide +kernel
theorem dX8_use_1 : decode cX8_use 1 = .ok (.getfield 28, 3) := by decide +kernel
theorem dX8_use_4 : decode cX8_use 4 = .ok (.iload_n 1, 1) := by decide +kernel
theorem dX8_use_5 : decode cX8_use 5 = .ok (.iload_n 2, 1) := by decide +kernel
theorem dX8_use_6 : decode cX8_use 6 = .ok (.iload_n 3, 1) := by decide +kernel
theorem dX8_use_7 : decode cX8_use 7 = .ok (.invokevirtual 135, 3) := by decide +kernel
theorem dX8_use_10 : decode cX8_use 10 = .ok (.ireturn, 1) := by decide +kernel
theorem dX8_change_0 : decode cX8_change 0 = .ok (.iload_n 1, 1) := by decide +kernel
theorem dX8_change_1 : decode cX8_change 1 = .ok (.ifCond .lt 9, 3) := by decide +kernel
theorem dX8_change_4 : decode cX8_change 4 = .ok (.iload_n 1, 1) := by decide +kernel
theorem dX8_change_5 : decode cX8_change 5 = .ok (.ldc 138, 2) := by decide +kernel
theorem dX8_change_7 : decode cX8_change 7 = .ok (.if_icmp .le 5, 3) := by decide +kernel
theorem dX8_change_10 : decode cX8_change 10 = .ok (.iconst 0, 1) := by decide +kernel
theorem dX8_change_11 : decode cX8_change 11 = .ok (.ireturn, 1) := by decide +kernel
theorem dX8_change_12 : decode cX8_change 12 = .ok (.aload_n 0, 1) := by decide +kernel
theorem dX8_change_13 : decode cX8_change 13 = .ok (.iload_n 1, 1) := by decide +kernel
theorem dX8_change_14 : decode cX8_change 14 = .ok (.putfield 139, 3) := by decide +kernel
theorem dX8_change_17 : decode cX8_change 17 = .ok (.iconst 1, 1) := by decide +kernel
theorem dX8_change_18 : decode cX8_change 18 = .ok (.ireturn, 1) := by decide +kernel
theorem dX8_cost_0 : decode cX8_cost 0 = .ok (.aload_n 0, 1) := by decide +kernel
theorem dX8_cost_1 : decode cX8_cost 1 = .ok (.iload_n 1, 1) := by decide +kernel
theorem dX8_cost_2 : decode cX8_cost 2 = .ok (.iload_n 2, 1) := by decide +kernel
theorem dX8_cost_3 : decode cX8_cost 3 = .ok (.iload_n 3, 1) := by decide +kernel
theorem dX8_cost_4 : decode cX8_cost 4 = .ok (.iload 4, 2) := by decide +kernel
theorem dX8_cost_6 : decode cX8_cost 6 = .ok (.invokevirtual 142, 3) := by decide +kernel
theorem dX8_cost_9 : decode cX8_cost 9 = .ok (.lstore 5, 2) := by decide +kernel
theorem dX8_cost_11 : decode cX8_cost 11 = .ok (.lload 5, 2) := by decide +kernel
theorem dX8_cost_13 : decode cX8_cost 13 = .ok (.ldc2_w 146, 3) := by decide +kernel
theorem dX8_cost_16 : decode cX8_cost 16 = .ok (.lcmp, 1) := by decide +kernel
theorem dX8_cost_17 : decode cX8_cost 17 = .ok (.ifCond .ne 11, 3) := by decide +kernel
theorem dX8_cost_20 : decode cX8_cost 20 = .ok (.new 98, 3) := by decide +kernel
theorem dX8_cost_23 : decode cX8_cost 23 = .ok (.dup, 1) := by decide +kernel
theorem dX8_cost_24 : decode cX8_cost 24 = .ok (.invokespecial 100, 3) := by decide +kernel
theorem dX8_cost_27 : decode cX8_cost 27 = .ok (.athrow, 1) := by decide +kernel
theorem dX8_cost_28 : decode cX8_cost 28 = .ok (.lload 5, 2) := by decide +kernel
theorem dX8_cost_30 : decode cX8_cost 30 = .ok (.lreturn, 1) := by decide +kernel
theorem dX8_bill_0 : decode cX8_bill 0 = .ok (.iload_n 2, 1) := by decide +kernel
theorem dX8_bill_1 : decode cX8_bill 1 = .ok (.iconst 0, 1) := by decide +kernel
theorem dX8_bill_2 : decode cX8_bill 2 = .ok (.iconst 3, 1) := by decide +kernel
theorem dX8_bill_3 : decode cX8_bill 3 = .ok (.invokestatic 148, 3) := by decide +kernel
theorem dX8_bill_6 : decode cX8_bill 6 = .ok (.ifCond .eq 16, 3) := by decide +kernel
theorem dX8_bill_9 : decode cX8_bill 9 = .ok (.aload_n 0, 1) := by decide +kernel
theorem dX8_bill_10 : decode cX8_bill 10 = .ok (.iload_n 1, 1) := by decide +kernel
theorem dX8_bill_11 : decode cX8_bill 11 = .ok (.iconst 1, 1) := by decide +kernel
theorem dX8_bill_12 : decode cX8_bill 12 = .ok (.iload_n 2, 1) := by decide +kernel
theorem dX8_bill_13 : decode cX8_bill 13 = .ok (.ishl, 1) := by decide +kernel
theorem dX8_bill_14 : decode cX8_bill 14 = .ok (.iload_n 3, 1) := by decide +kernel
theorem dX8_bill_15 : decode cX8_bill 15 = .ok (.iconst 0, 1) := by decide +kernel
theorem dX8_bill_16 : decode cX8_bill 16 = .ok (.invokevirtual 142, 3) := by decide +kernel
theorem dX8_bill_19 : decode cX8_bill 19 = .ok (.goto 6, 3) := by decide +kernel
theorem dX8_bill_22 : decode cX8_bill 22 = .ok (.ldc2_w 146, 3) := by decide +kernel
theorem dX8_bill_25 : decode cX8_bill 25 = .ok (.lstore 6, 2) := by decide +kernel
theorem dX8_bill_27 : decode cX8_bill 27 = .ok (.lload 6, 2) := by decide +kernel
theorem dX8_bill_29 : decode cX8_bill 29 = .ok (.ldc2_w 146, 3) := by decide +kernel
theorem dX8_bill_32 : decode cX8_bill 32 = .ok (.lcmp, 1) := by decide +kernel
theorem dX8_bill_33 : decode cX8_bill 33 = .ok (.ifCond .ne 11, 3) := by decide +kernel
theorem dX8_bill_36 : decode cX8_bill 36 = .ok (.new 98, 3) := by decide +kernel
theorem dX8_bill_39 : decode cX8_bill 39 = .ok (.dup, 1) := by decide +kernel
theorem dX8_bill_40 : decode cX8_bill 40 = .ok (.invokespecial 100, 3) := by decide +kernel
theorem dX8_bill_43 : decode cX8_bill 43 = .ok (.athrow, 1) := by decide +kernel
theorem dX8_bill_44 : decode cX8_bill 44 = .ok (.lload 4, 2) := by decide +kernel
theorem dX8_bill_46 : decode cX8_bill 46 = .ok (.lload 6, 2) := by decide +kernel
theorem dX8_bill_48 : decode cX8_bill 48 = .ok (.lsub, 1) := by decide +kernel
theorem dX8_bill_49 : decode cX8_bill 49 = .ok (.lreturn, 1) := by decide +kernel
theorem dX8_best_0 : decode cX8_best 0 = .ok (.iload_n 1, 1) := by decide +kernel
theorem dX8_best_1 : decode cX8_best 1 = .ok (.iconst 1, 1) := by decide +kernel
theorem dX8_best_2 : decode cX8_best 2 = .ok (.bipush 15, 2) := by decide +kernel
theorem dX8_best_4 : decode cX8_best 4 = .ok (.invokestatic 148, 3) := by decide +kernel
theorem dX8_best_7 : decode cX8_best 7 = .ok (.ifCond .eq 18, 3) := by decide +kernel
theorem dX8_best_10 : decode cX8_best 10 = .ok (.iload_n 2, 1) := by decide +kernel
theorem dX8_best_11 : decode cX8_best 11 = .ok (.ifCond .lt 14, 3) := by decide +kernel
theorem dX8_best_14 : decode cX8_best 14 = .ok (.iload_n 2, 1) := by decide +kernel
theorem dX8_best_15 : decode cX8_best 15 = .ok (.iload_n 3, 1) := by decide +kernel
theorem dX8_best_16 : decode cX8_best 16 = .ok (.if_icmp .ge 9, 3) := by decide +kernel
theorem dX8_best_19 : decode cX8_best 19 = .ok (.iload_n 3, 1) := by decide +kernel
theorem dX8_best_20 : decode cX8_best 20 = .ok (.bipush 24, 2) := by decide +kernel
theorem dX8_best_22 : decode cX8_best 22 = .ok (.if_icmp .le 7, 3) := by decide +kernel
theorem dX8_best_25 : decode cX8_best 25 = .ok (.ldc2_w 146, 3) := by decide +kernel
theorem dX8_best_28 : decode cX8_best 28 = .ok (.lreturn, 1) := by decide +kernel
theorem dX8_best_29 : decode cX8_best 29 = .ok (.aload_n 0, 1) := by decide +kernel
theorem dX8_best_30 : decode cX8_best 30 = .ok (.getfield 35, 3) := by decide +kernel
theorem dX8_best_33 : decode cX8_best 33 = .ok (.aload_n 0, 1) := by decide +kernel
theorem dX8_best_34 : decode cX8_best 34 = .ok (.getfield 59, 3) := by decide +kernel
theorem dX8_best_37 : decode cX8_best 37 = .ok (.aload_n 0, 1) := by decide +kernel
theorem dX8_best_38 : decode cX8_best 38 = .ok (.getfield 28, 3) := by decide +kernel
theorem dX8_best_41 : decode cX8_best 41 = .ok (.iload_n 1, 1) := by decide +kernel
theorem dX8_best_42 : decode cX8_best 42 = .ok (.iload_n 2, 1) := by decide +kernel
theorem dX8_best_43 : decode cX8_best 43 = .ok (.iload_n 3, 1) := by decide +kernel
theorem dX8_best_44 : decode cX8_best 44 = .ok (.aload_n 0, 1) := by decide +kernel
theorem dX8_best_45 : decode cX8_best 45 = .ok (.getfield 139, 3) := by decide +kernel
theorem dX8_best_48 : decode cX8_best 48 = .ok (.invokevirtual 152, 3) := by decide +kernel
theorem dX8_best_51 : decode cX8_best 51 = .ok (.lstore 4, 2) := by decide +kernel
theorem dX8_best_53 : decode cX8_best 53 = .ok (.lload 4, 2) := by decide +kernel
theorem dX8_best_55 : decode cX8_best 55 = .ok (.ldc2_w 146, 3) := by decide +kernel
theorem dX8_best_58 : decode cX8_best 58 = .ok (.lcmp, 1) := by decide +kernel
theorem dX8_best_59 : decode cX8_best 59 = .ok (.ifCond .eq 18, 3) := by decide +kernel
theorem dX8_best_62 : decode cX8_best 62 = .ok (.aload_n 0, 1) := by decide +kernel
theorem dX8_best_63 : decode cX8_best 63 = .ok (.invokevirtual 63, 3) := by decide +kernel
theorem dX8_best_66 : decode cX8_best 66 = .ok (.aload_n 0, 1) := by decide +kernel
theorem dX8_best_67 : decode cX8_best 67 = .ok (.getfield 35, 3) := by decide +kernel
theorem dX8_best_70 : decode cX8_best 70 = .ok (.aload_n 0, 1) := by decide +kernel
theorem dX8_best_71 : decode cX8_best 71 = .ok (.getfield 53, 3) := by decide +kernel
theorem dX8_best_74 : decode cX8_best 74 = .ok (.invokevirtual 156, 3) := by decide +kernel
theorem dX8_best_77 : decode cX8_best 77 = .ok (.lload 4, 2) := by decide +kernel
theorem dX8_best_79 : decode cX8_best 79 = .ok (.lreturn, 1) := by decide +kernel
theorem dX8_had_0 : decode cX8_had 0 = .ok (.iload_n 1, 1) := by decide +kernel
theorem dX8_had_1 : decode cX8_had 1 = .ok (.iconst 0, 1) := by decide +kernel
theorem dX8_had_2 : decode cX8_had 2 = .ok (.bipush 23, 2) := by decide +kernel
theorem dX8_had_4 : decode cX8_had 4 = .ok (.invokestatic 148, 3) := by decide +kernel
theorem dX8_had_7 : decode cX8_had 7 = .ok (.ifCond .eq 12, 3) := by decide +kernel
theorem dX8_had_10 : decode cX8_had 10 = .ok (.aload_n 0, 1) := by decide +kernel
theorem dX8_had_11 : decode cX8_had 11 = .ok (.getfield 53, 3) := by decide +kernel
theorem dX8_had_14 : decode cX8_had 14 = .ok (.iload_n 1, 1) := by decide +kernel
theorem dX8_had_15 : decode cX8_had 15 = .ok (.iaload, 1) := by decide +kernel
theorem dX8_had_16 : decode cX8_had 16 = .ok (.goto 4, 3) := by decide +kernel
theorem dX8_had_19 : decode cX8_had 19 = .ok (.iconst (-1), 1) := by decide +kernel
theorem dX8_had_20 : decode cX8_had 20 = .ok (.ireturn, 1) := by decide +kernel
theorem dX8_bills_0 : decode cX8_bills 0 = .ok (.iconst 1, 1) := by decide +kernel
theorem dX8_bills_1 : decode cX8_bills 1 = .ok (.istore_n 1, 1) := by decide +kernel
theorem dX8_bills_2 : decode cX8_bills 2 = .ok (.iload_n 1, 1) := by decide +kernel
theorem dX8_bills_3 : decode cX8_bills 3 = .ok (.bipush 15, 2) := by decide +kernel
theorem dX8_bills_5 : decode cX8_bills 5 = .ok (.if_icmp .gt 40, 3) := by decide +kernel
theorem dX8_bills_8 : decode cX8_bills 8 = .ok (.aload_n 0, 1) := by decide +kernel
theorem dX8_bills_9 : decode cX8_bills 9 = .ok (.getfield 42, 3) := by decide +kernel
theorem dX8_bills_12 : decode cX8_bills 12 = .ok (.iload_n 1, 1) := by decide +kernel
theorem dX8_bills_13 : decode cX8_bills 13 = .ok (.aload_n 0, 1) := by decide +kernel
theorem dX8_bills_14 : decode cX8_bills 14 = .ok (.getfield 35, 3) := by decide +kernel
theorem dX8_bills_17 : decode cX8_bills 17 = .ok (.aload_n 0, 1) := by decide +kernel
theorem dX8_bills_18 : decode cX8_bills 18 = .ok (.getfield 59, 3) := by decide +kernel
theorem dX8_bills_21 : decode cX8_bills 21 = .ok (.aload_n 0, 1) := by decide +kernel
theorem dX8_bills_22 : decode cX8_bills 22 = .ok (.getfield 28, 3) := by decide +kernel
theorem dX8_bills_25 : decode cX8_bills 25 = .ok (.iload_n 1, 1) := by decide +kernel
theorem dX8_bills_26 : decode cX8_bills 26 = .ok (.iconst 0, 1) := by decide +kernel
theorem dX8_bills_27 : decode cX8_bills 27 = .ok (.bipush 24, 2) := by decide +kernel
theorem dX8_bills_29 : decode cX8_bills 29 = .ok (.aload_n 0, 1) := by decide +kernel
theorem dX8_bills_30 : decode cX8_bills 30 = .ok (.getfield 139, 3) := by decide +kernel
theorem dX8_bills_33 : decode cX8_bills 33 = .ok (.invokevirtual 152, 3) := by decide +kernel
theorem dX8_bills_36 : decode cX8_bills 36 = .ok (.invokevirtual 160, 3) := by decide +kernel
theorem dX8_bills_39 : decode cX8_bills 39 = .ok (.iinc 1 1, 3) := by decide +kernel
theorem dX8_bills_42 : decode cX8_bills 42 = .ok (.goto (-40), 3) := by decide +kernel
theorem dX8_bills_45 : decode cX8_bills 45 = .ok (.aload_n 0, 1) := by decide +kernel
theorem dX8_bills_46 : decode cX8_bills 46 = .ok (.getfield 42, 3) := by decide +kernel
theorem dX8_bills_49 : decode cX8_bills 49 = .ok (.invokevirtual 164, 3) := by decide +kernel
theorem dX8_bills_52 : decode cX8_bills 52 = .ok (.lreturn, 1) := by decide +kernel
theorem dX8_group_0 : decode cX8_group 0 = .ok (.iload_n 1, 1) := by decide +kernel
theorem dX8_group_1 : decode cX8_group 1 = .ok (.iconst 0, 1) := by decide +kernel
theorem dX8_group_2 : decode cX8_group 2 = .ok (.iconst 3, 1) := by decide +kernel
theorem dX8_group_3 : decode cX8_group 3 = .ok (.invokestatic 148, 3) := by decide +kernel
theorem dX8_group_6 : decode cX8_group 6 = .ok (.ifCond .eq 15, 3) := by decide +kernel
theorem dX8_group_9 : decode cX8_group 9 = .ok (.aload_n 0, 1) := by decide +kernel
theorem dX8_group_10 : decode cX8_group 10 = .ok (.getfield 42, 3) := by decide +kernel
theorem dX8_group_13 : decode cX8_group 13 = .ok (.getfield 168, 3) := by decide +kernel
theorem dX8_group_16 : decode cX8_group 16 = .ok (.iload_n 1, 1) := by decide +kernel
theorem dX8_group_17 : decode cX8_group 17 = .ok (.iaload, 1) := by decide +kernel
theorem dX8_group_18 : decode cX8_group 18 = .ok (.goto 4, 3) := by decide +kernel
theorem dX8_group_21 : decode cX8_group 21 = .ok (.iconst (-1), 1) := by decide +kernel
theorem dX8_group_22 : decode cX8_group 22 = .ok (.ireturn, 1) := by decide +kernel
theorem dX8_span_0 : decode cX8_span 0 = .ok (.iload_n 1, 1) := by decide +kernel
theorem dX8_span_1 : decode cX8_span 1 = .ok (.iconst 0, 1) := by decide +kernel
theorem dX8_span_2 : decode cX8_span 2 = .ok (.iconst 3, 1) := by decide +kernel
theorem dX8_span_3 : decode cX8_span 3 = .ok (.invokestatic 148, 3) := by decide +kernel
theorem dX8_span_6 : decode cX8_span 6 = .ok (.ifCond .eq 19, 3) := by decide +kernel
theorem dX8_span_9 : decode cX8_span 9 = .ok (.iload_n 2, 1) := by decide +kernel
theorem dX8_span_10 : decode cX8_span 10 = .ok (.ifCond .lt 15, 3) := by decide +kernel
theorem dX8_span_13 : decode cX8_span 13 = .ok (.iload_n 2, 1) := by decide +kernel
theorem dX8_span_14 : decode cX8_span 14 = .ok (.iload_n 3, 1) := by decide +kernel
theorem dX8_span_15 : decode cX8_span 15 = .ok (.if_icmp .gt 10, 3) := by decide +kernel
theorem dX8_span_18 : decode cX8_span 18 = .ok (.iload_n 3, 1) := by decide +kernel
theorem dX8_span_19 : decode cX8_span 19 = .ok (.sipush 20000, 3) := by decide +kernel
theorem dX8_span_22 : decode cX8_span 22 = .ok (.if_icmp .le 5, 3) := by decide +kernel
theorem dX8_span_25 : decode cX8_span 25 = .ok (.iconst 0, 1) := by decide +kernel
theorem dX8_span_26 : decode cX8_span 26 = .ok (.ireturn, 1) := by decide +kernel
theorem dX8_span_27 : decode cX8_span 27 = .ok (.aload_n 0, 1) := by decide +kernel
theorem dX8_span_28 : decode cX8_span 28 = .ok (.getfield 46, 3) := by decide +kernel
theorem dX8_span_31 : decode cX8_span 31 = .ok (.iload_n 1, 1) := by decide +kernel
theorem dX8_span_32 : decode cX8_span 32 = .ok (.iload_n 2, 1) := by decide +kernel
theorem dX8_span_33 : decode cX8_span 33 = .ok (.iastore, 1) := by decide +kernel
theorem dX8_span_34 : decode cX8_span 34 = .ok (.aload_n 0, 1) := by decide +kernel
theorem dX8_span_35 : decode cX8_span 35 = .ok (.getfield 50, 3) := by decide +kernel
theorem dX8_span_38 : decode cX8_span 38 = .ok (.iload_n 1, 1) := by decide +kernel
theorem dX8_span_39 : decode cX8_span 39 = .ok (.iload_n 3, 1) := by decide +kernel
theorem dX8_span_40 : decode cX8_span 40 = .ok (.iastore, 1) := by decide +kernel
theorem dX8_span_41 : decode cX8_span 41 = .ok (.iconst 1, 1) := by decide +kernel
theorem dX8_span_42 : decode cX8_span 42 = .ok (.ireturn, 1) := by decide +kernel
theorem dX8_above_0 : decode cX8_above 0 = .ok (.aload_n 0, 1) := by decide +kernel
theorem dX8_above_1 : decode cX8_above 1 = .ok (.getfield 59, 3) := by decide +kernel
theorem dX8_above_4 : decode cX8_above 4 = .ok (.iload_n 1, 1) := by decide +kernel
theorem dX8_above_5 : decode cX8_above 5 = .ok (.invokevirtual 94, 3) := by decide +kernel
theorem dX8_above_8 : decode cX8_above 8 = .ok (.astore 4, 2) := by decide +kernel
theorem dX8_above_10 : decode cX8_above 10 = .ok (.aload_n 0, 1) := by decide +kernel
theorem dX8_above_11 : decode cX8_above 11 = .ok (.getfield 59, 3) := by decide +kernel
theorem dX8_above_14 : decode cX8_above 14 = .ok (.iload_n 2, 1) := by decide +kernel
theorem dX8_above_15 : decode cX8_above 15 = .ok (.invokevirtual 94, 3) := by decide +kernel
theorem dX8_above_18 : decode cX8_above 18 = .ok (.astore 5, 2) := by decide +kernel
theorem dX8_above_20 : decode cX8_above 20 = .ok (.aload 4, 2) := by decide +kernel
theorem dX8_above_22 : decode cX8_above 22 = .ok (.ifnull 8, 3) := by decide +kernel
theorem dX8_above_25 : decode cX8_above 25 = .ok (.aload 5, 2) := by decide +kernel
theorem dX8_above_27 : decode cX8_above 27 = .ok (.ifnonnull 11, 3) := by decide +kernel
theorem dX8_above_30 : decode cX8_above 30 = .ok (.new 98, 3) := by decide +kernel
theorem dX8_above_33 : decode cX8_above 33 = .ok (.dup, 1) := by decide +kernel
theorem dX8_above_34 : decode cX8_above 34 = .ok (.invokespecial 100, 3) := by decide +kernel
theorem dX8_above_37 : decode cX8_above 37 = .ok (.athrow, 1) := by decide +kernel
theorem dX8_above_38 : decode cX8_above 38 = .ok (.aload 4, 2) := by decide +kernel
theorem dX8_above_40 : decode cX8_above 40 = .ok (.getfield 101, 3) := by decide +kernel
theorem dX8_above_43 : decode cX8_above 43 = .ok (.i2l, 1) := by decide +kernel
theorem dX8_above_44 : decode cX8_above 44 = .ok (.aload 5, 2) := by decide +kernel
theorem dX8_above_46 : decode cX8_above 46 = .ok (.getfield 101, 3) := by decide +kernel
theorem dX8_above_49 : decode cX8_above 49 = .ok (.i2l, 1) := by decide +kernel
theorem dX8_above_50 : decode cX8_above 50 = .ok (.lsub, 1) := by decide +kernel
theorem dX8_above_51 : decode cX8_above 51 = .ok (.lstore 6, 2) := by decide +kernel
theorem dX8_above_53 : decode cX8_above 53 = .ok (.iconst 0, 1) := by decide +kernel
theorem dX8_above_54 : decode cX8_above 54 = .ok (.istore 8, 2) := by decide +kernel
theorem dX8_above_56 : decode cX8_above 56 = .ok (.iload 8, 2) := by decide +kernel
theorem dX8_above_58 : decode cX8_above 58 = .ok (.iconst 4, 1) := by decide +kernel
theorem dX8_above_59 : decode cX8_above 59 = .ok (.if_icmp .ge 71, 3) := by decide +kernel
theorem dX8_above_62 : decode cX8_above 62 = .ok (.aload_n 0, 1) := by decide +kernel
theorem dX8_above_63 : decode cX8_above 63 = .ok (.getfield 50, 3) := by decide +kernel
theorem dX8_above_66 : decode cX8_above 66 = .ok (.iload 8, 2) := by decide +kernel
theorem dX8_above_68 : decode cX8_above 68 = .ok (.iaload, 1) := by decide +kernel
theorem dX8_above_69 : decode cX8_above 69 = .ok (.ifCond .le 55, 3) := by decide +kernel
theorem dX8_above_72 : decode cX8_above 72 = .ok (.aload 4, 2) := by decide +kernel
theorem dX8_above_74 : decode cX8_above 74 = .ok (.iload 8, 2) := by decide +kernel
theorem dX8_above_76 : decode cX8_above 76 = .ok (.invokevirtual 171, 3) := by decide +kernel
theorem dX8_above_79 : decode cX8_above 79 = .ok (.astore 9, 2) := by decide +kernel
theorem dX8_above_81 : decode cX8_above 81 = .ok (.aload 5, 2) := by decide +kernel
theorem dX8_above_83 : decode cX8_above 83 = .ok (.iload 8, 2) := by decide +kernel
theorem dX8_above_85 : decode cX8_above 85 = .ok (.invokevirtual 171, 3) := by decide +kernel
theorem dX8_above_88 : decode cX8_above 88 = .ok (.astore 10, 2) := by decide +kernel
theorem dX8_above_90 : decode cX8_above 90 = .ok (.aload 9, 2) := by decide +kernel
theorem dX8_above_92 : decode cX8_above 92 = .ok (.ifnull 8, 3) := by decide +kernel
theorem dX8_above_95 : decode cX8_above 95 = .ok (.aload 10, 2) := by decide +kernel
theorem dX8_above_97 : decode cX8_above 97 = .ok (.ifnonnull 11, 3) := by decide +kernel
theorem dX8_above_100 : decode cX8_above 100 = .ok (.new 98, 3) := by decide +kernel
theorem dX8_above_103 : decode cX8_above 103 = .ok (.dup, 1) := by decide +kernel
theorem dX8_above_104 : decode cX8_above 104 = .ok (.invokespecial 100, 3) := by decide +kernel
theorem dX8_above_107 : decode cX8_above 107 = .ok (.athrow, 1) := by decide +kernel
theorem dX8_above_108 : decode cX8_above 108 = .ok (.lload 6, 2) := by decide +kernel
theorem dX8_above_110 : decode cX8_above 110 = .ok (.aload_n 0, 1) := by decide +kernel
theorem dX8_above_111 : decode cX8_above 111 = .ok (.aload 9, 2) := by decide +kernel
theorem dX8_above_113 : decode cX8_above 113 = .ok (.aload 10, 2) := by decide +kernel
theorem dX8_above_115 : decode cX8_above 115 = .ok (.iload 8, 2) := by decide +kernel
theorem dX8_above_117 : decode cX8_above 117 = .ok (.iload_n 3, 1) := by decide +kernel
theorem dX8_above_118 : decode cX8_above 118 = .ok (.invokevirtual 175, 3) := by decide +kernel
theorem dX8_above_121 : decode cX8_above 121 = .ok (.ladd, 1) := by decide +kernel
theorem dX8_above_122 : decode cX8_above 122 = .ok (.lstore 6, 2) := by decide +kernel
theorem dX8_above_124 : decode cX8_above 124 = .ok (.iinc 8 1, 3) := by decide +kernel
theorem dX8_above_127 : decode cX8_above 127 = .ok (.goto (-71), 3) := by decide +kernel
theorem dX8_above_130 : decode cX8_above 130 = .ok (.lload 6, 2) := by decide +kernel
theorem dX8_above_132 : decode cX8_above 132 = .ok (.lreturn, 1) := by decide +kernel
theorem dX8_count_0 : decode cX8_count 0 = .ok (.iload_n 1, 1) := by decide +kernel
theorem dX8_count_1 : decode cX8_count 1 = .ok (.tableswitch 57 0 3 #[31, 39, 44, 52], 31) := by decide +kernel
theorem dX8_count_32 : decode cX8_count 32 = .ok (.aload_n 0, 1) := by decide +kernel
theorem dX8_count_33 : decode cX8_count 33 = .ok (.getfield 59, 3) := by decide +kernel
theorem dX8_count_36 : decode cX8_count 36 = .ok (.getfield 88, 3) := by decide +kernel
theorem dX8_count_39 : decode cX8_count 39 = .ok (.ireturn, 1) := by decide +kernel
theorem dX8_count_40 : decode cX8_count 40 = .ok (.aload_n 0, 1) := by decide +kernel
theorem dX8_count_41 : decode cX8_count 41 = .ok (.getfield 139, 3) := by decide +kernel
theorem dX8_count_44 : decode cX8_count 44 = .ok (.ireturn, 1) := by decide +kernel
theorem dX8_count_45 : decode cX8_count 45 = .ok (.aload_n 0, 1) := by decide +kernel
theorem dX8_count_46 : decode cX8_count 46 = .ok (.getfield 10, 3) := by decide +kernel
theorem dX8_count_49 : decode cX8_count 49 = .ok (.getfield 66, 3) := by decide +kernel
theorem dX8_count_52 : decode cX8_count 52 = .ok (.ireturn, 1) := by decide +kernel
theorem dX8_count_53 : decode cX8_count 53 = .ok (.aload_n 0, 1) := by decide +kernel
theorem dX8_count_54 : decode cX8_count 54 = .ok (.getfield 128, 3) := by decide +kernel
theorem dX8_count_57 : decode cX8_count 57 = .ok (.ireturn, 1) := by decide +kernel
theorem dX8_count_58 : decode cX8_count 58 = .ok (.iconst (-1), 1) := by decide +kernel
theorem dX8_count_59 : decode cX8_count 59 = .ok (.ireturn, 1) := by decide +kernel
theorem dX8_isWithin_0 : decode cX8_isWithin 0 = .ok (.iload_n 0, 1) := by decide +kernel
theorem dX8_isWithin_1 : decode cX8_isWithin 1 = .ok (.iload_n 1, 1) := by decide +kernel
theorem dX8_isWithin_2 : decode cX8_isWithin 2 = .ok (.if_icmp .lt 12, 3) := by decide +kernel
theorem dX8_isWithin_5 : decode cX8_isWithin 5 = .ok (.iload_n 0, 1) := by decide +kernel
theorem dX8_isWithin_6 : decode cX8_isWithin 6 = .ok (.iload_n 2, 1) := by decide +kernel
theorem dX8_isWithin_7 : decode cX8_isWithin 7 = .ok (.if_icmp .gt 7, 3) := by decide +kernel
theorem dX8_isWithin_10 : decode cX8_isWithin 10 = .ok (.iconst 1, 1) := by decide +kernel
theorem dX8_isWithin_11 : decode cX8_isWithin 11 = .ok (.goto 4, 3) := by decide +kernel
theorem dX8_isWithin_14 : decode cX8_isWithin 14 = .ok (.iconst 0, 1) := by decide +kernel
theorem dX8_isWithin_15 : decode cX8_isWithin 15 = .ok (.ireturn, 1) := by decide +kernel
theorem dX8_plus_0 : decode cX8_plus 0 = .ok (.lload_n 0, 1) := by decide +kernel
theorem dX8_plus_1 : decode cX8_plus 1 = .ok (.ldc2_w 146, 3) := by decide +kernel
theorem dX8_plus_4 : decode cX8_plus 4 = .ok (.lcmp, 1) := by decide +kernel
theorem dX8_plus_5 : decode cX8_plus 5 = .ok (.ifCond .eq 11, 3) := by decide +kernel
theorem dX8_plus_8 : decode cX8_plus 8 = .ok (.lload_n 2, 1) := by decide +kernel
theorem dX8_plus_9 : decode cX8_plus 9 = .ok (.ldc2_w 146, 3) := by decide +kernel
theorem dX8_plus_12 : decode cX8_plus 12 = .ok (.lcmp, 1) := by decide +kernel
theorem dX8_plus_13 : decode cX8_plus 13 = .ok (.ifCond .ne 9, 3) := by decide +kernel
theorem dX8_plus_16 : decode cX8_plus 16 = .ok (.ldc2_w 146, 3) := by decide +kernel
theorem dX8_plus_19 : decode cX8_plus 19 = .ok (.goto 6, 3) := by decide +kernel
theorem dX8_plus_22 : decode cX8_plus 22 = .ok (.lload_n 0, 1) := by decide +kernel
theorem dX8_plus_23 : decode cX8_plus 23 = .ok (.lload_n 2, 1) := by decide +kernel
theorem dX8_plus_24 : decode cX8_plus 24 = .ok (.ladd, 1) := by decide +kernel
theorem dX8_plus_25 : decode cX8_plus 25 = .ok (.lreturn, 1) := by decide +kernel
theorem dX8_isCheaper_0 : decode cX8_isCheaper 0 = .ok (.lload_n 0, 1) := by decide +kernel
theorem dX8_isCheaper_1 : decode cX8_isCheaper 1 = .ok (.ldc2_w 146, 3) := by decide +kernel
theorem dX8_isCheaper_4 : decode cX8_isCheaper 4 = .ok (.lcmp, 1) := by decide +kernel
theorem dX8_isCheaper_5 : decode cX8_isCheaper 5 = .ok (.ifCond .eq 21, 3) := by decide +kernel
theorem dX8_isCheaper_8 : decode cX8_isCheaper 8 = .ok (.lload_n 2, 1) := by decide +kernel
theorem dX8_isCheaper_9 : decode cX8_isCheaper 9 = .ok (.ldc2_w 146, 3) := by decide +kernel
theorem dX8_isCheaper_12 : decode cX8_isCheaper 12 = .ok (.lcmp, 1) := by decide +kernel
theorem dX8_isCheaper_13 : decode cX8_isCheaper 13 = .ok (.ifCond .eq 9, 3) := by decide +kernel
theorem dX8_isCheaper_16 : decode cX8_isCheaper 16 = .ok (.lload_n 0, 1) := by decide +kernel
theorem dX8_isCheaper_17 : decode cX8_isCheaper 17 = .ok (.lload_n 2, 1) := by decide +kernel
theorem dX8_isCheaper_18 : decode cX8_isCheaper 18 = .ok (.lcmp, 1) := by decide +kernel
theorem dX8_isCheaper_19 : decode cX8_isCheaper 19 = .ok (.ifCond .ge 7, 3) := by decide +kernel
theorem dX8_isCheaper_22 : decode cX8_isCheaper 22 = .ok (.iconst 1, 1) := by decide +kernel
theorem dX8_isCheaper_23 : decode cX8_isCheaper 23 = .ok (.goto 4, 3) := by decide +kernel
theorem dX8_isCheaper_26 : decode cX8_isCheaper 26 = .ok (.iconst 0, 1) := by decide +kernel
theorem dX8_isCheaper_27 : decode cX8_isCheaper 27 = .ok (.ireturn, 1) := by decide +kernel
theorem dX8_forgetRow_0 : decode cX8_forgetRow 0 = .ok (.iconst 0, 1) := by decide +kernel
theorem dX8_forgetRow_1 : decode cX8_forgetRow 1 = .ok (.istore_n 1, 1) := by decide +kernel
theorem dX8_forgetRow_2 : decode cX8_forgetRow 2 = .ok (.iload_n 1, 1) := by decide +kernel
theorem dX8_forgetRow_3 : decode cX8_forgetRow 3 = .ok (.bipush 24, 2) := by decide +kernel
theorem dX8_forgetRow_5 : decode cX8_forgetRow 5 = .ok (.if_icmp .ge 16, 3) := by decide +kernel
theorem dX8_forgetRow_8 : decode cX8_forgetRow 8 = .ok (.aload_n 0, 1) := by decide +kernel
theorem dX8_forgetRow_9 : decode cX8_forgetRow 9 = .ok (.getfield 53, 3) := by decide +kernel
theorem dX8_forgetRow_12 : decode cX8_forgetRow 12 = .ok (.iload_n 1, 1) := by decide +kernel
theorem dX8_forgetRow_13 : decode cX8_forgetRow 13 = .ok (.iconst (-1), 1) := by decide +kernel
theorem dX8_forgetRow_14 : decode cX8_forgetRow 14 = .ok (.iastore, 1) := by decide +kernel
theorem dX8_forgetRow_15 : decode cX8_forgetRow 15 = .ok (.iinc 1 1, 3) := by decide +kernel
theorem dX8_forgetRow_18 : decode cX8_forgetRow 18 = .ok (.goto (-16), 3) := by decide +kernel
theorem dX8_forgetRow_21 : decode cX8_forgetRow 21 = .ok (.return_, 1) := by decide +kernel
theorem dX8_centsOf_0 : decode cX8_centsOf 0 = .ok (.aload_n 0, 1) := by decide +kernel
theorem dX8_centsOf_1 : decode cX8_centsOf 1 = .ok (.getfield 59, 3) := by decide +kernel
theorem dX8_centsOf_4 : decode cX8_centsOf 4 = .ok (.iload_n 1, 1) := by decide +kernel
theorem dX8_centsOf_5 : decode cX8_centsOf 5 = .ok (.invokevirtual 94, 3) := by decide +kernel
theorem dX8_centsOf_8 : decode cX8_centsOf 8 = .ok (.astore 5, 2) := by decide +kernel
theorem dX8_centsOf_10 : decode cX8_centsOf 10 = .ok (.aload 5, 2) := by decide +kernel
theorem dX8_centsOf_12 : decode cX8_centsOf 12 = .ok (.ifnull 33, 3) := by decide +kernel
theorem dX8_centsOf_15 : decode cX8_centsOf 15 = .ok (.iload_n 2, 1) := by decide +kernel
theorem dX8_centsOf_16 : decode cX8_centsOf 16 = .ok (.iconst 1, 1) := by decide +kernel
theorem dX8_centsOf_17 : decode cX8_centsOf 17 = .ok (.bipush 15, 2) := by decide +kernel
theorem dX8_centsOf_19 : decode cX8_centsOf 19 = .ok (.invokestatic 148, 3) := by decide +kernel
theorem dX8_centsOf_22 : decode cX8_centsOf 22 = .ok (.ifCond .eq 23, 3) := by decide +kernel
theorem dX8_centsOf_25 : decode cX8_centsOf 25 = .ok (.iload_n 3, 1) := by decide +kernel
theorem dX8_centsOf_26 : decode cX8_centsOf 26 = .ok (.iconst 0, 1) := by decide +kernel
theorem dX8_centsOf_27 : decode cX8_centsOf 27 = .ok (.bipush 23, 2) := by decide +kernel
theorem dX8_centsOf_29 : decode cX8_centsOf 29 = .ok (.invokestatic 148, 3) := by decide +kernel
theorem dX8_centsOf_32 : decode cX8_centsOf 32 = .ok (.ifCond .eq 13, 3) := by decide +kernel
theorem dX8_centsOf_35 : decode cX8_centsOf 35 = .ok (.iload 4, 2) := by decide +kernel
theorem dX8_centsOf_37 : decode cX8_centsOf 37 = .ok (.iconst 0, 1) := by decide +kernel
theorem dX8_centsOf_38 : decode cX8_centsOf 38 = .ok (.iconst 5, 1) := by decide +kernel
theorem dX8_centsOf_39 : decode cX8_centsOf 39 = .ok (.invokestatic 148, 3) := by decide +kernel
theorem dX8_centsOf_42 : decode cX8_centsOf 42 = .ok (.ifCond .ne 7, 3) := by decide +kernel
theorem dX8_centsOf_45 : decode cX8_centsOf 45 = .ok (.ldc2_w 146, 3) := by decide +kernel
theorem dX8_centsOf_48 : decode cX8_centsOf 48 = .ok (.lreturn, 1) := by decide +kernel
theorem dX8_centsOf_49 : decode cX8_centsOf 49 = .ok (.aload_n 0, 1) := by decide +kernel
theorem dX8_centsOf_50 : decode cX8_centsOf 50 = .ok (.getfield 28, 3) := by decide +kernel
theorem dX8_centsOf_53 : decode cX8_centsOf 53 = .ok (.iload_n 2, 1) := by decide +kernel
theorem dX8_centsOf_54 : decode cX8_centsOf 54 = .ok (.iload_n 3, 1) := by decide +kernel
theorem dX8_centsOf_55 : decode cX8_centsOf 55 = .ok (.invokevirtual 179, 3) := by decide +kernel
theorem dX8_centsOf_58 : decode cX8_centsOf 58 = .ok (.astore 6, 2) := by decide +kernel
theorem dX8_centsOf_60 : decode cX8_centsOf 60 = .ok (.aload 5, 2) := by decide +kernel
theorem dX8_centsOf_62 : decode cX8_centsOf 62 = .ok (.aload 6, 2) := by decide +kernel
theorem dX8_centsOf_64 : decode cX8_centsOf 64 = .ok (.invokevirtual 183, 3) := by decide +kernel
theorem dX8_centsOf_67 : decode cX8_centsOf 67 = .ok (.lstore 7, 2) := by decide +kernel
theorem dX8_centsOf_69 : decode cX8_centsOf 69 = .ok (.lload 7, 2) := by decide +kernel
theorem dX8_centsOf_71 : decode cX8_centsOf 71 = .ok (.ldc2_w 146, 3) := by decide +kernel
theorem dX8_centsOf_74 : decode cX8_centsOf 74 = .ok (.lcmp, 1) := by decide +kernel
theorem dX8_centsOf_75 : decode cX8_centsOf 75 = .ok (.ifCond .eq 8, 3) := by decide +kernel
theorem dX8_centsOf_78 : decode cX8_centsOf 78 = .ok (.iload 4, 2) := by decide +kernel
theorem dX8_centsOf_80 : decode cX8_centsOf 80 = .ok (.ifCond .ne 6, 3) := by decide +kernel
theorem dX8_centsOf_83 : decode cX8_centsOf 83 = .ok (.lload 7, 2) := by decide +kernel
theorem dX8_centsOf_85 : decode cX8_centsOf 85 = .ok (.lreturn, 1) := by decide +kernel
theorem dX8_centsOf_86 : decode cX8_centsOf 86 = .ok (.iload 4, 2) := by decide +kernel
theorem dX8_centsOf_88 : decode cX8_centsOf 88 = .ok (.iconst 1, 1) := by decide +kernel
theorem dX8_centsOf_89 : decode cX8_centsOf 89 = .ok (.if_icmp .ne 12, 3) := by decide +kernel
theorem dX8_centsOf_92 : decode cX8_centsOf 92 = .ok (.aload 5, 2) := by decide +kernel
theorem dX8_centsOf_94 : decode cX8_centsOf 94 = .ok (.getfield 101, 3) := by decide +kernel
theorem dX8_centsOf_97 : decode cX8_centsOf 97 = .ok (.i2l, 1) := by decide +kernel
theorem dX8_centsOf_98 : decode cX8_centsOf 98 = .ok (.goto 14, 3) := by decide +kernel
theorem dX8_centsOf_101 : decode cX8_centsOf 101 = .ok (.aload 5, 2) := by decide +kernel
theorem dX8_centsOf_103 : decode cX8_centsOf 103 = .ok (.aload 6, 2) := by decide +kernel
theorem dX8_centsOf_105 : decode cX8_centsOf 105 = .ok (.iload 4, 2) := by decide +kernel
theorem dX8_centsOf_107 : decode cX8_centsOf 107 = .ok (.iconst 2, 1) := by decide +kernel
theorem dX8_centsOf_108 : decode cX8_centsOf 108 = .ok (.isub, 1) := by decide +kernel
theorem dX8_centsOf_109 : decode cX8_centsOf 109 = .ok (.invokevirtual 187, 3) := by decide +kernel
theorem dX8_centsOf_112 : decode cX8_centsOf 112 = .ok (.lreturn, 1) := by decide +kernel
theorem dX8_partAbove_0 : decode cX8_partAbove 0 = .ok (.aload_n 0, 1) := by decide +kernel
theorem dX8_partAbove_1 : decode cX8_partAbove 1 = .ok (.getfield 46, 3) := by decide +kernel
theorem dX8_partAbove_4 : decode cX8_partAbove 4 = .ok (.iload_n 3, 1) := by decide +kernel
theorem dX8_partAbove_5 : decode cX8_partAbove 5 = .ok (.iaload, 1) := by decide +kernel
theorem dX8_partAbove_6 : decode cX8_partAbove 6 = .ok (.istore 5, 2) := by decide +kernel
theorem dX8_partAbove_8 : decode cX8_partAbove 8 = .ok (.aload_n 0, 1) := by decide +kernel
theorem dX8_partAbove_9 : decode cX8_partAbove 9 = .ok (.getfield 50, 3) := by decide +kernel
theorem dX8_partAbove_12 : decode cX8_partAbove 12 = .ok (.iload_n 3, 1) := by decide +kernel
theorem dX8_partAbove_13 : decode cX8_partAbove 13 = .ok (.iaload, 1) := by decide +kernel
theorem dX8_partAbove_14 : decode cX8_partAbove 14 = .ok (.istore 6, 2) := by decide +kernel
theorem dX8_partAbove_16 : decode cX8_partAbove 16 = .ok (.aload_n 1, 1) := by decide +kernel
theorem dX8_partAbove_17 : decode cX8_partAbove 17 = .ok (.aload_n 2, 1) := by decide +kernel
theorem dX8_partAbove_18 : decode cX8_partAbove 18 = .ok (.iload 5, 2) := by decide +kernel
theorem dX8_partAbove_20 : decode cX8_partAbove 20 = .ok (.invokestatic 191, 3) := by decide +kernel
theorem dX8_partAbove_23 : decode cX8_partAbove 23 = .ok (.aload_n 1, 1) := by decide +kernel
theorem dX8_partAbove_24 : decode cX8_partAbove 24 = .ok (.aload_n 2, 1) := by decide +kernel
theorem dX8_partAbove_25 : decode cX8_partAbove 25 = .ok (.iload 6, 2) := by decide +kernel
theorem dX8_partAbove_27 : decode cX8_partAbove 27 = .ok (.invokestatic 191, 3) := by decide +kernel
theorem dX8_partAbove_30 : decode cX8_partAbove 30 = .ok (.iload 4, 2) := by decide +kernel
theorem dX8_partAbove_32 : decode cX8_partAbove 32 = .ok (.invokestatic 195, 3) := by decide +kernel
theorem dX8_partAbove_35 : decode cX8_partAbove 35 = .ok (.lstore 7, 2) := by decide +kernel
theorem dX8_partAbove_37 : decode cX8_partAbove 37 = .ok (.iconst 0, 1) := by decide +kernel
theorem dX8_partAbove_38 : decode cX8_partAbove 38 = .ok (.istore 9, 2) := by decide +kernel
theorem dX8_partAbove_40 : decode cX8_partAbove 40 = .ok (.iload 9, 2) := by decide +kernel
theorem dX8_partAbove_42 : decode cX8_partAbove 42 = .ok (.iconst 3, 1) := by decide +kernel
theorem dX8_partAbove_43 : decode cX8_partAbove 43 = .ok (.if_icmp .gt 81, 3) := by decide +kernel
theorem dX8_partAbove_46 : decode cX8_partAbove 46 = .ok (.aload_n 1, 1) := by decide +kernel
theorem dX8_partAbove_47 : decode cX8_partAbove 47 = .ok (.iload 9, 2) := by decide +kernel
theorem dX8_partAbove_49 : decode cX8_partAbove 49 = .ok (.invokevirtual 199, 3) := by decide +kernel
theorem dX8_partAbove_52 : decode cX8_partAbove 52 = .ok (.istore 10, 2) := by decide +kernel
theorem dX8_partAbove_54 : decode cX8_partAbove 54 = .ok (.iload 10, 2) := by decide +kernel
theorem dX8_partAbove_56 : decode cX8_partAbove 56 = .ok (.iload 5, 2) := by decide +kernel
theorem dX8_partAbove_58 : decode cX8_partAbove 58 = .ok (.iload 6, 2) := by decide +kernel
theorem dX8_partAbove_60 : decode cX8_partAbove 60 = .ok (.invokestatic 148, 3) := by decide +kernel
theorem dX8_partAbove_63 : decode cX8_partAbove 63 = .ok (.ifCond .eq 19, 3) := by decide +kernel
theorem dX8_partAbove_66 : decode cX8_partAbove 66 = .ok (.lload 7, 2) := by decide +kernel
theorem dX8_partAbove_68 : decode cX8_partAbove 68 = .ok (.aload_n 1, 1) := by decide +kernel
theorem dX8_partAbove_69 : decode cX8_partAbove 69 = .ok (.aload_n 2, 1) := by decide +kernel
theorem dX8_partAbove_70 : decode cX8_partAbove 70 = .ok (.iload 10, 2) := by decide +kernel
theorem dX8_partAbove_72 : decode cX8_partAbove 72 = .ok (.invokestatic 191, 3) := by decide +kernel
theorem dX8_partAbove_75 : decode cX8_partAbove 75 = .ok (.iload 4, 2) := by decide +kernel
theorem dX8_partAbove_77 : decode cX8_partAbove 77 = .ok (.invokestatic 195, 3) := by decide +kernel
theorem dX8_partAbove_80 : decode cX8_partAbove 80 = .ok (.lstore 7, 2) := by decide +kernel
theorem dX8_partAbove_82 : decode cX8_partAbove 82 = .ok (.aload_n 2, 1) := by decide +kernel
theorem dX8_partAbove_83 : decode cX8_partAbove 83 = .ok (.iload 9, 2) := by decide +kernel
theorem dX8_partAbove_85 : decode cX8_partAbove 85 = .ok (.invokevirtual 199, 3) := by decide +kernel
theorem dX8_partAbove_88 : decode cX8_partAbove 88 = .ok (.istore 11, 2) := by decide +kernel
theorem dX8_partAbove_90 : decode cX8_partAbove 90 = .ok (.iload 11, 2) := by decide +kernel
theorem dX8_partAbove_92 : decode cX8_partAbove 92 = .ok (.iload 5, 2) := by decide +kernel
theorem dX8_partAbove_94 : decode cX8_partAbove 94 = .ok (.iload 6, 2) := by decide +kernel
theorem dX8_partAbove_96 : decode cX8_partAbove 96 = .ok (.invokestatic 148, 3) := by decide +kernel
theorem dX8_partAbove_99 : decode cX8_partAbove 99 = .ok (.ifCond .eq 19, 3) := by decide +kernel
theorem dX8_partAbove_102 : decode cX8_partAbove 102 = .ok (.lload 7, 2) := by decide +kernel
theorem dX8_partAbove_104 : decode cX8_partAbove 104 = .ok (.aload_n 1, 1) := by decide +kernel
theorem dX8_partAbove_105 : decode cX8_partAbove 105 = .ok (.aload_n 2, 1) := by decide +kernel
theorem dX8_partAbove_106 : decode cX8_partAbove 106 = .ok (.iload 11, 2) := by decide +kernel
theorem dX8_partAbove_108 : decode cX8_partAbove 108 = .ok (.invokestatic 191, 3) := by decide +kernel
theorem dX8_partAbove_111 : decode cX8_partAbove 111 = .ok (.iload 4, 2) := by decide +kernel
theorem dX8_partAbove_113 : decode cX8_partAbove 113 = .ok (.invokestatic 195, 3) := by decide +kernel
theorem dX8_partAbove_116 : decode cX8_partAbove 116 = .ok (.lstore 7, 2) := by decide +kernel
theorem dX8_partAbove_118 : decode cX8_partAbove 118 = .ok (.iinc 9 1, 3) := by decide +kernel
theorem dX8_partAbove_121 : decode cX8_partAbove 121 = .ok (.goto (-81), 3) := by decide +kernel
theorem dX8_partAbove_124 : decode cX8_partAbove 124 = .ok (.lload 7, 2) := by decide +kernel
theorem dX8_partAbove_126 : decode cX8_partAbove 126 = .ok (.lreturn, 1) := by decide +kernel
theorem dX8_differenceAt_0 : decode cX8_differenceAt 0 = .ok (.aload_n 0, 1) := by decide +kernel
theorem dX8_differenceAt_1 : decode cX8_differenceAt 1 = .ok (.iload_n 2, 1) := by decide +kernel
theorem dX8_differenceAt_2 : decode cX8_differenceAt 2 = .ok (.invokevirtual 205, 3) := by decide +kernel
theorem dX8_differenceAt_5 : decode cX8_differenceAt 5 = .ok (.aload_n 1, 1) := by decide +kernel
theorem dX8_differenceAt_6 : decode cX8_differenceAt 6 = .ok (.iload_n 2, 1) := by decide +kernel
theorem dX8_differenceAt_7 : decode cX8_differenceAt 7 = .ok (.invokevirtual 205, 3) := by decide +kernel
theorem dX8_differenceAt_10 : decode cX8_differenceAt 10 = .ok (.lsub, 1) := by decide +kernel
theorem dX8_differenceAt_11 : decode cX8_differenceAt 11 = .ok (.lreturn, 1) := by decide +kernel
theorem dX8_further_0 : decode cX8_further 0 = .ok (.iload 4, 2) := by decide +kernel
theorem dX8_further_2 : decode cX8_further 2 = .ok (.ifCond .eq 11, 3) := by decide +kernel
theorem dX8_further_5 : decode cX8_further 5 = .ok (.lload_n 0, 1) := by decide +kernel
theorem dX8_further_6 : decode cX8_further 6 = .ok (.lload_n 2, 1) := by decide +kernel
theorem dX8_further_7 : decode cX8_further 7 = .ok (.invokestatic 209, 3) := by decide +kernel
theorem dX8_further_10 : decode cX8_further 10 = .ok (.goto 8, 3) := by decide +kernel
theorem dX8_further_13 : decode cX8_further 13 = .ok (.lload_n 0, 1) := by decide +kernel
theorem dX8_further_14 : decode cX8_further 14 = .ok (.lload_n 2, 1) := by decide +kernel
theorem dX8_further_15 : decode cX8_further 15 = .ok (.invokestatic 215, 3) := by decide +kernel
theorem dX8_further_18 : decode cX8_further 18 = .ok (.lreturn, 1) := by decide +kernel
theorem dX9_init_0 : decode cX9_init 0 = .ok (.aload_n 0, 1) := by decide +kernel
theorem dX9_init_1 : decode cX9_init 1 = .ok (.invokespecial 1, 3) := by decide +kernel
theorem dX9_init_4 : decode cX9_init 4 = .ok (.aload_n 0, 1) := by decide +kernel
theorem dX9_init_5 : decode cX9_init 5 = .ok (.sipush 840, 3) := by decide +kernel
theorem dX9_init_8 : decode cX9_init 8 = .ok (.newarray .int, 2) := by decide +kernel
theorem dX9_init_10 : decode cX9_init 10 = .ok (.putfield 7, 3) := by decide +kernel
theorem dX9_init_13 : decode cX9_init 13 = .ok (.aload_n 0, 1) := by decide +kernel
theorem dX9_init_14 : decode cX9_init 14 = .ok (.bipush 20, 2) := by decide +kernel
theorem dX9_init_16 : decode cX9_init 16 = .ok (.newarray .long, 2) := by decide +kernel
theorem dX9_init_18 : decode cX9_init 18 = .ok (.putfield 13, 3) := by decide +kernel
theorem dX9_init_21 : decode cX9_init 21 = .ok (.aload_n 0, 1) := by decide +kernel
theorem dX9_init_22 : decode cX9_init 22 = .ok (.bipush 20, 2) := by decide +kernel
theorem dX9_init_24 : decode cX9_init 24 = .ok (.newarray .int, 2) := by decide +kernel
theorem dX9_init_26 : decode cX9_init 26 = .ok (.putfield 17, 3) := by decide +kernel
theorem dX9_init_29 : decode cX9_init 29 = .ok (.aload_n 0, 1) := by decide +kernel
theorem dX9_init_30 : decode cX9_init 30 = .ok (.bipush 20, 2) := by decide +kernel
theorem dX9_init_32 : decode cX9_init 32 = .ok (.newarray .int, 2) := by decide +kernel
theorem dX9_init_34 : decode cX9_init 34 = .ok (.putfield 20, 3) := by decide +kernel
theorem dX9_init_37 : decode cX9_init 37 = .ok (.aload_n 0, 1) := by decide +kernel
theorem dX9_init_38 : decode cX9_init 38 = .ok (.bipush 20, 2) := by decide +kernel
theorem dX9_init_40 : decode cX9_init 40 = .ok (.newarray .int, 2) := by decide +kernel
theorem dX9_init_42 : decode cX9_init 42 = .ok (.putfield 23, 3) := by decide +kernel
theorem dX9_init_45 : decode cX9_init 45 = .ok (.aload_n 0, 1) := by decide +kernel
theorem dX9_init_46 : decode cX9_init 46 = .ok (.bipush 20, 2) := by decide +kernel
theorem dX9_init_48 : decode cX9_init 48 = .ok (.newarray .int, 2) := by decide +kernel
theorem dX9_init_50 : decode cX9_init 50 = .ok (.putfield 26, 3) := by decide +kernel
theorem dX9_init_53 : decode cX9_init 53 = .ok (.aload_n 0, 1) := by decide +kernel
theorem dX9_init_54 : decode cX9_init 54 = .ok (.bipush 80, 2) := by decide +kernel
theorem dX9_init_56 : decode cX9_init 56 = .ok (.newarray .boolean, 2) := by decide +kernel
theorem dX9_init_58 : decode cX9_init 58 = .ok (.putfield 29, 3) := by decide +kernel
theorem dX9_init_61 : decode cX9_init 61 = .ok (.aload_n 0, 1) := by decide +kernel
theorem dX9_init_62 : decode cX9_init 62 = .ok (.bipush 80, 2) := by decide +kernel
theorem dX9_init_64 : decode cX9_init 64 = .ok (.newarray .int, 2) := by decide +kernel
theorem dX9_init_66 : decode cX9_init 66 = .ok (.putfield 33, 3) := by decide +kernel
theorem dX9_init_69 : decode cX9_init 69 = .ok (.aload_n 0, 1) := by decide +kernel
theorem dX9_init_70 : decode cX9_init 70 = .ok (.bipush 80, 2) := by decide +kernel
theorem dX9_init_72 : decode cX9_init 72 = .ok (.newarray .int, 2) := by decide +kernel
theorem dX9_init_74 : decode cX9_init 74 = .ok (.putfield 36, 3) := by decide +kernel
theorem dX9_init_77 : decode cX9_init 77 = .ok (.aload_n 0, 1) := by decide +kernel
theorem dX9_init_78 : decode cX9_init 78 = .ok (.sipush 240, 3) := by decide +kernel
theorem dX9_init_81 : decode cX9_init 81 = .ok (.newarray .int, 2) := by decide +kernel
theorem dX9_init_83 : decode cX9_init 83 = .ok (.putfield 39, 3) := by decide +kernel
theorem dX9_init_86 : decode cX9_init 86 = .ok (.aload_n 0, 1) := by decide +kernel
theorem dX9_init_87 : decode cX9_init 87 = .ok (.sipush 240, 3) := by decide +kernel
theorem dX9_init_90 : decode cX9_init 90 = .ok (.newarray .int, 2) := by decide +kernel
theorem dX9_init_92 : decode cX9_init 92 = .ok (.putfield 42, 3) := by decide +kernel
theorem dX9_init_95 : decode cX9_init 95 = .ok (.aload_n 0, 1) := by decide +kernel
theorem dX9_init_96 : decode cX9_init 96 = .ok (.bipush 80, 2) := by decide +kernel
theorem dX9_init_98 : decode cX9_init 98 = .ok (.newarray .int, 2) := by decide +kernel
theorem dX9_init_100 : decode cX9_init 100 = .ok (.putfield 45, 3) := by decide +kernel
theorem dX9_init_103 : decode cX9_init 103 = .ok (.aload_n 0, 1) := by decide +kernel
theorem dX9_init_104 : decode cX9_init 104 = .ok (.bipush 8, 2) := by decide +kernel
theorem dX9_init_106 : decode cX9_init 106 = .ok (.newarray .int, 2) := by decide +kernel
theorem dX9_init_108 : decode cX9_init 108 = .ok (.putfield 48, 3) := by decide +kernel
theorem dX9_init_111 : decode cX9_init 111 = .ok (.aload_n 0, 1) := by decide +kernel
theorem dX9_init_112 : decode cX9_init 112 = .ok (.sipush 384, 3) := by decide +kernel
theorem dX9_init_115 : decode cX9_init 115 = .ok (.newarray .int, 2) := by decide +kernel
theorem dX9_init_117 : decode cX9_init 117 = .ok (.putfield 51, 3) := by decide +kernel
theorem dX9_init_120 : decode cX9_init 120 = .ok (.aload_n 0, 1) := by decide +kernel
theorem dX9_init_121 : decode cX9_init 121 = .ok (.sipush 250, 3) := by decide +kernel
theorem dX9_init_124 : decode cX9_init 124 = .ok (.newarray .long, 2) := by decide +kernel
theorem dX9_init_126 : decode cX9_init 126 = .ok (.putfield 54, 3) := by decide +kernel
theorem dX9_init_129 : decode cX9_init 129 = .ok (.aload_n 0, 1) := by decide +kernel
theorem dX9_init_130 : decode cX9_init 130 = .ok (.sipush 250, 3) := by decide +kernel
theorem dX9_init_133 : decode cX9_init 133 = .ok (.newarray .long, 2) := by decide +kernel
theorem dX9_init_135 : decode cX9_init 135 = .ok (.putfield 57, 3) := by decide +kernel
theorem dX9_init_138 : decode cX9_init 138 = .ok (.aload_n 0, 1) := by decide +kernel
theorem dX9_init_139 : decode cX9_init 139 = .ok (.sipush 6000, 3) := by decide +kernel
theorem dX9_init_142 : decode cX9_init 142 = .ok (.newarray .int, 2) := by decide +kernel
theorem dX9_init_144 : decode cX9_init 144 = .ok (.putfield 60, 3) := by decide +kernel
theorem dX9_init_147 : decode cX9_init 147 = .ok (.aload_n 0, 1) := by decide +kernel
theorem dX9_init_148 : decode cX9_init 148 = .ok (.sipush 6000, 3) := by decide +kernel
theorem dX9_init_151 : decode cX9_init 151 = .ok (.newarray .int, 2) := by decide +kernel
theorem dX9_init_153 : decode cX9_init 153 = .ok (.putfield 63, 3) := by decide +kernel
theorem dX9_init_156 : decode cX9_init 156 = .ok (.aload_n 0, 1) := by decide +kernel
theorem dX9_init_157 : decode cX9_init 157 = .ok (.bipush 24, 2) := by decide +kernel
theorem dX9_init_159 : decode cX9_init 159 = .ok (.newarray .int, 2) := by decide +kernel
theorem dX9_init_161 : decode cX9_init 161 = .ok (.putfield 66, 3) := by decide +kernel
theorem dX9_init_164 : decode cX9_init 164 = .ok (.aload_n 0, 1) := by decide +kernel
theorem dX9_init_165 : decode cX9_init 165 = .ok (.bipush 16, 2) := by decide +kernel
theorem dX9_init_167 : decode cX9_init 167 = .ok (.newarray .long, 2) := by decide +kernel
theorem dX9_init_169 : decode cX9_init 169 = .ok (.putfield 69, 3) := by decide +kernel
theorem dX9_init_172 : decode cX9_init 172 = .ok (.aload_n 0, 1) := by decide +kernel
theorem dX9_init_173 : decode cX9_init 173 = .ok (.bipush 16, 2) := by decide +kernel
theorem dX9_init_175 : decode cX9_init 175 = .ok (.newarray .long, 2) := by decide +kernel
theorem dX9_init_177 : decode cX9_init 177 = .ok (.putfield 72, 3) := by decide +kernel
theorem dX9_init_180 : decode cX9_init 180 = .ok (.aload_n 0, 1) := by decide +kernel
theorem dX9_init_181 : decode cX9_init 181 = .ok (.bipush 16, 2) := by decide +kernel
theorem dX9_init_183 : decode cX9_init 183 = .ok (.newarray .int, 2) := by decide +kernel
theorem dX9_init_185 : decode cX9_init 185 = .ok (.putfield 75, 3) := by decide +kernel
theorem dX9_init_188 : decode cX9_init 188 = .ok (.aload_n 0, 1) := by decide +kernel
theorem dX9_init_189 : decode cX9_init 189 = .ok (.iconst 4, 1) := by decide +kernel
theorem dX9_init_190 : decode cX9_init 190 = .ok (.newarray .int, 2) := by decide +kernel
theorem dX9_init_192 : decode cX9_init 192 = .ok (.putfield 78, 3) := by decide +kernel
theorem dX9_init_195 : decode cX9_init 195 = .ok (.aload_n 0, 1) := by decide +kernel
theorem dX9_init_196 : decode cX9_init 196 = .ok (.iconst 4, 1) := by decide +kernel
theorem dX9_init_197 : decode cX9_init 197 = .ok (.newarray .int, 2) := by decide +kernel
theorem dX9_init_199 : decode cX9_init 199 = .ok (.putfield 81, 3) := by decide +kernel
theorem dX9_init_202 : decode cX9_init 202 = .ok (.aload_n 0, 1) := by decide +kernel
theorem dX9_init_203 : decode cX9_init 203 = .ok (.iconst 4, 1) := by decide +kernel
theorem dX9_init_204 : decode cX9_init 204 = .ok (.newarray .int, 2) := by decide +kernel
theorem dX9_init_206 : decode cX9_init 206 = .ok (.putfield 84, 3) := by decide +kernel
theorem dX9_init_209 : decode cX9_init 209 = .ok (.return_, 1) := by decide +kernel
theorem dX9_thrown_0 : decode cX9_thrown 0 = .ok (.aload_n 0, 1) := by decide +kernel
theorem dX9_thrown_1 : decode cX9_thrown 1 = .ok (.getfield 87, 3) := by decide +kernel
theorem dX9_thrown_4 : decode cX9_thrown 4 = .ok (.ireturn, 1) := by decide +kernel
theorem dX9_refuse_0 : decode cX9_refuse 0 = .ok (.aload_n 0, 1) := by decide +kernel
theorem dX9_refuse_1 : decode cX9_refuse 1 = .ok (.iconst 1, 1) := by decide +kernel
theorem dX9_refuse_2 : decode cX9_refuse 2 = .ok (.putfield 87, 3) := by decide +kernel
theorem dX9_refuse_5 : decode cX9_refuse 5 = .ok (.iconst 0, 1) := by decide +kernel
theorem dX9_refuse_6 : decode cX9_refuse 6 = .ok (.ireturn, 1) := by decide +kernel
theorem dX9_come_0 : decode cX9_come 0 = .ok (.bipush 24, 2) := by decide +kernel
theorem dX9_come_2 : decode cX9_come 2 = .ok (.istore_n 2, 1) := by decide +kernel
theorem dX9_come_3 : decode cX9_come 3 = .ok (.iload_n 2, 1) := by decide +kernel
theorem dX9_come_4 : decode cX9_come 4 = .ok (.ifCond .lt 35, 3) := by decide +kernel
theorem dX9_come_7 : decode cX9_come 7 = .ok (.aload_n 0, 1) := by decide +kernel
theorem dX9_come_8 : decode cX9_come 8 = .ok (.getfield 7, 3) := by decide +kernel
theorem dX9_come_11 : decode cX9_come 11 = .ok (.aload_n 0, 1) := by decide +kernel
theorem dX9_come_12 : decode cX9_come 12 = .ok (.getfield 91, 3) := by decide +kernel
theorem dX9_come_15 : decode cX9_come 15 = .ok (.iload_n 1, 1) := by decide +kernel
theorem dX9_come_16 : decode cX9_come 16 = .ok (.iload_n 2, 1) := by decide +kernel
theorem dX9_come_17 : decode cX9_come 17 = .ok (.iushr, 1) := by decide +kernel
theorem dX9_come_18 : decode cX9_come 18 = .ok (.sipush 255, 3) := by decide +kernel
theorem dX9_come_21 : decode cX9_come 21 = .ok (.iand, 1) := by decide +kernel
theorem dX9_come_22 : decode cX9_come 22 = .ok (.iastore, 1) := by decide +kernel
theorem dX9_come_23 : decode cX9_come 23 = .ok (.aload_n 0, 1) := by decide +kernel
theorem dX9_come_24 : decode cX9_come 24 = .ok (.dup, 1) := by decide +kernel
theorem dX9_come_25 : decode cX9_come 25 = .ok (.getfield 91, 3) := by decide +kernel
theorem dX9_come_28 : decode cX9_come 28 = .ok (.iconst 1, 1) := by decide +kernel
theorem dX9_come_29 : decode cX9_come 29 = .ok (.iadd, 1) := by decide +kernel
theorem dX9_come_30 : decode cX9_come 30 = .ok (.putfield 91, 3) := by decide +kernel
theorem dX9_come_33 : decode cX9_come 33 = .ok (.iinc 2 (-8), 3) := by decide +kernel
theorem dX9_come_36 : decode cX9_come 36 = .ok (.goto (-33), 3) := by decide +kernel
theorem dX9_come_39 : decode cX9_come 39 = .ok (.return_, 1) := by decide +kernel
theorem dX9_feed_0 : decode cX9_feed 0 = .ok (.aload_n 0, 1) := by decide +kernel
theorem dX9_feed_1 : decode cX9_feed 1 = .ok (.iconst 0, 1) := by decide +kernel
theorem dX9_feed_2 : decode cX9_feed 2 = .ok (.putfield 87, 3) := by decide +kernel
theorem dX9_feed_5 : decode cX9_feed 5 = .ok (.aload_n 0, 1) := by decide +kernel
theorem dX9_feed_6 : decode cX9_feed 6 = .ok (.getfield 91, 3) := by decide +kernel
theorem dX9_feed_9 : decode cX9_feed 9 = .ok (.bipush 20, 2) := by decide +kernel
theorem dX9_feed_11 : decode cX9_feed 11 = .ok (.iadd, 1) := by decide +kernel
theorem dX9_feed_12 : decode cX9_feed 12 = .ok (.sipush 840, 3) := by decide +kernel
theorem dX9_feed_15 : decode cX9_feed 15 = .ok (.if_icmp .le 5, 3) := by decide +kernel
theorem dX9_feed_18 : decode cX9_feed 18 = .ok (.iconst (-1), 1) := by decide +kernel
theorem dX9_feed_19 : decode cX9_feed 19 = .ok (.ireturn, 1) := by decide +kernel
theorem dX9_feed_20 : decode cX9_feed 20 = .ok (.aload_n 0, 1) := by decide +kernel
theorem dX9_feed_21 : decode cX9_feed 21 = .ok (.iload_n 1, 1) := by decide +kernel
theorem dX9_feed_22 : decode cX9_feed 22 = .ok (.invokevirtual 94, 3) := by decide +kernel
theorem dX9_feed_25 : decode cX9_feed 25 = .ok (.aload_n 0, 1) := by decide +kernel
theorem dX9_feed_26 : decode cX9_feed 26 = .ok (.iload_n 2, 1) := by decide +kernel
theorem dX9_feed_27 : decode cX9_feed 27 = .ok (.invokevirtual 94, 3) := by decide +kernel
theorem dX9_feed_30 : decode cX9_feed 30 = .ok (.aload_n 0, 1) := by decide +kernel
theorem dX9_feed_31 : decode cX9_feed 31 = .ok (.iload_n 3, 1) := by decide +kernel
theorem dX9_feed_32 : decode cX9_feed 32 = .ok (.invokevirtual 94, 3) := by decide +kernel
theorem dX9_feed_35 : decode cX9_feed 35 = .ok (.aload_n 0, 1) := by decide +kernel
theorem dX9_feed_36 : decode cX9_feed 36 = .ok (.iload 4, 2) := by decide +kernel
theorem dX9_feed_38 : decode cX9_feed 38 = .ok (.invokevirtual 94, 3) := by decide +kernel
theorem dX9_feed_41 : decode cX9_feed 41 = .ok (.aload_n 0, 1) := by decide +kernel
theorem dX9_feed_42 : decode cX9_feed 42 = .ok (.iload 5, 2) := by decide +kernel
theorem dX9_feed_44 : decode cX9_feed 44 = .ok (.invokevirtual 94, 3) := by decide +kernel
theorem dX9_feed_47 : decode cX9_feed 47 = .ok (.aload_n 0, 1) := by decide +kernel
theorem dX9_feed_48 : decode cX9_feed 48 = .ok (.getfield 91, 3) := by decide +kernel
theorem dX9_feed_51 : decode cX9_feed 51 = .ok (.ireturn, 1) := by decide +kernel
theorem dX9_end_0 : decode cX9_end 0 = .ok (.aload_n 0, 1) := by decide +kernel
theorem dX9_end_1 : decode cX9_end 1 = .ok (.iconst 0, 1) := by decide +kernel
theorem dX9_end_2 : decode cX9_end 2 = .ok (.putfield 87, 3) := by decide +kernel
theorem dX9_end_5 : decode cX9_end 5 = .ok (.iload_n 1, 1) := by decide +kernel
theorem dX9_end_6 : decode cX9_end 6 = .ok (.ifCond .lt 11, 3) := by decide +kernel
theorem dX9_end_9 : decode cX9_end 9 = .ok (.iload_n 1, 1) := by decide +kernel
theorem dX9_end_10 : decode cX9_end 10 = .ok (.aload_n 0, 1) := by decide +kernel
theorem dX9_end_11 : decode cX9_end 11 = .ok (.getfield 91, 3) := by decide +kernel
theorem dX9_end_14 : decode cX9_end 14 = .ok (.if_icmp .le 5, 3) := by decide +kernel
theorem dX9_end_17 : decode cX9_end 17 = .ok (.iconst 0, 1) := by decide +kernel
theorem dX9_end_18 : decode cX9_end 18 = .ok (.ireturn, 1) := by decide +kernel
theorem dX9_end_19 : decode cX9_end 19 = .ok (.aload_n 0, 1) := by decide +kernel
theorem dX9_end_20 : decode cX9_end 20 = .ok (.iload_n 1, 1) := by decide +kernel
theorem dX9_end_21 : decode cX9_end 21 = .ok (.putfield 91, 3) := by decide +kernel
theorem dX9_end_24 : decode cX9_end 24 = .ok (.iconst 1, 1) := by decide +kernel
theorem dX9_end_25 : decode cX9_end 25 = .ok (.ireturn, 1) := by decide +kernel
theorem dX9_byteAt_0 : decode cX9_byteAt 0 = .ok (.iload_n 1, 1) := by decide +kernel
theorem dX9_byteAt_1 : decode cX9_byteAt 1 = .ok (.aload_n 0, 1) := by decide +kernel
theorem dX9_byteAt_2 : decode cX9_byteAt 2 = .ok (.getfield 98, 3) := by decide +kernel
theorem dX9_byteAt_5 : decode cX9_byteAt 5 = .ok (.if_icmp .ge 12, 3) := by decide +kernel
theorem dX9_byteAt_8 : decode cX9_byteAt 8 = .ok (.aload_n 0, 1) := by decide +kernel
theorem dX9_byteAt_9 : decode cX9_byteAt 9 = .ok (.getfield 7, 3) := by decide +kernel
theorem dX9_byteAt_12 : decode cX9_byteAt 12 = .ok (.iload_n 1, 1) := by decide +kernel
theorem dX9_byteAt_13 : decode cX9_byteAt 13 = .ok (.iaload, 1) := by decide +kernel
theorem dX9_byteAt_14 : decode cX9_byteAt 14 = .ok (.goto 4, 3) := by decide +kernel
theorem dX9_byteAt_17 : decode cX9_byteAt 17 = .ok (.iconst 0, 1) := by decide +kernel
theorem dX9_byteAt_18 : decode cX9_byteAt 18 = .ok (.ireturn, 1) := by decide +kernel
theorem dX9_isDigit_0 : decode cX9_isDigit 0 = .ok (.iload_n 0, 1) := by decide +kernel
theorem dX9_isDigit_1 : decode cX9_isDigit 1 = .ok (.bipush 48, 2) := by decide +kernel
theorem dX9_isDigit_3 : decode cX9_isDigit 3 = .ok (.if_icmp .lt 13, 3) := by decide +kernel
theorem dX9_isDigit_6 : decode cX9_isDigit 6 = .ok (.iload_n 0, 1) := by decide +kernel
theorem dX9_isDigit_7 : decode cX9_isDigit 7 = .ok (.bipush 57, 2) := by decide +kernel
theorem dX9_isDigit_9 : decode cX9_isDigit 9 = .ok (.if_icmp .gt 7, 3) := by decide +kernel
theorem dX9_isDigit_12 : decode cX9_isDigit 12 = .ok (.iconst 1, 1) := by decide +kernel
theorem dX9_isDigit_13 : decode cX9_isDigit 13 = .ok (.goto 4, 3) := by decide +kernel
theorem dX9_isDigit_16 : decode cX9_isDigit 16 = .ok (.iconst 0, 1) := by decide +kernel
theorem dX9_isDigit_17 : decode cX9_isDigit 17 = .ok (.ireturn, 1) := by decide +kernel
theorem dX9_isLetter_0 : decode cX9_isLetter 0 = .ok (.iload_n 0, 1) := by decide +kernel
theorem dX9_isLetter_1 : decode cX9_isLetter 1 = .ok (.bipush 97, 2) := by decide +kernel
theorem dX9_isLetter_3 : decode cX9_isLetter 3 = .ok (.if_icmp .lt 13, 3) := by decide +kernel
theorem dX9_isLetter_6 : decode cX9_isLetter 6 = .ok (.iload_n 0, 1) := by decide +kernel
theorem dX9_isLetter_7 : decode cX9_isLetter 7 = .ok (.bipush 122, 2) := by decide +kernel
theorem dX9_isLetter_9 : decode cX9_isLetter 9 = .ok (.if_icmp .gt 7, 3) := by decide +kernel
theorem dX9_isLetter_12 : decode cX9_isLetter 12 = .ok (.iconst 1, 1) := by decide +kernel
theorem dX9_isLetter_13 : decode cX9_isLetter 13 = .ok (.goto 4, 3) := by decide +kernel
theorem dX9_isLetter_16 : decode cX9_isLetter 16 = .ok (.iconst 0, 1) := by decide +kernel
theorem dX9_isLetter_17 : decode cX9_isLetter 17 = .ok (.ireturn, 1) := by decide +kernel
theorem dX9_go_0 : decode cX9_go 0 = .ok (.aload_n 0, 1) := by decide +kernel
theorem dX9_go_1 : decode cX9_go 1 = .ok (.getfield 101, 3) := by decide +kernel
theorem dX9_go_4 : decode cX9_go 4 = .ok (.aload_n 0, 1) := by decide +kernel
theorem dX9_go_5 : decode cX9_go 5 = .ok (.getfield 98, 3) := by decide +kernel
theorem dX9_go_8 : decode cX9_go 8 = .ok (.if_icmp .ge 44, 3) := by decide +kernel
theorem dX9_go_11 : decode cX9_go 11 = .ok (.aload_n 0, 1) := by decide +kernel
theorem dX9_go_12 : decode cX9_go 12 = .ok (.getfield 7, 3) := by decide +kernel
theorem dX9_go_15 : decode cX9_go 15 = .ok (.aload_n 0, 1) := by decide +kernel
theorem dX9_go_16 : decode cX9_go 16 = .ok (.getfield 101, 3) := by decide +kernel
theorem dX9_go_19 : decode cX9_go 19 = .ok (.iaload, 1) := by decide +kernel
theorem dX9_go_20 : decode cX9_go 20 = .ok (.bipush 32, 2) := by decide +kernel
theorem dX9_go_22 : decode cX9_go 22 = .ok (.if_icmp .eq 17, 3) := by decide +kernel
theorem dX9_go_25 : decode cX9_go 25 = .ok (.aload_n 0, 1) := by decide +kernel
theorem dX9_go_26 : decode cX9_go 26 = .ok (.getfield 7, 3) := by decide +kernel
theorem dX9_go_29 : decode cX9_go 29 = .ok (.aload_n 0, 1) := by decide +kernel
theorem dX9_go_30 : decode cX9_go 30 = .ok (.getfield 101, 3) := by decide +kernel
theorem dX9_go_33 : decode cX9_go 33 = .ok (.iaload, 1) := by decide +kernel
theorem dX9_go_34 : decode cX9_go 34 = .ok (.bipush 10, 2) := by decide +kernel
theorem dX9_go_36 : decode cX9_go 36 = .ok (.if_icmp .ne 16, 3) := by decide +kernel
theorem dX9_go_39 : decode cX9_go 39 = .ok (.aload_n 0, 1) := by decide +kernel
theorem dX9_go_40 : decode cX9_go 40 = .ok (.dup, 1) := by decide +kernel
theorem dX9_go_41 : decode cX9_go 41 = .ok (.getfield 101, 3) := by decide +kernel
theorem dX9_go_44 : decode cX9_go 44 = .ok (.iconst 1, 1) := by decide +kernel
theorem dX9_go_45 : decode cX9_go 45 = .ok (.iadd, 1) := by decide +kernel
theorem dX9_go_46 : decode cX9_go 46 = .ok (.putfield 101, 3) := by decide +kernel
theorem dX9_go_49 : decode cX9_go 49 = .ok (.goto (-49), 3) := by decide +kernel
theorem dX9_go_52 : decode cX9_go 52 = .ok (.aload_n 0, 1) := by decide +kernel
theorem dX9_go_53 : decode cX9_go 53 = .ok (.aload_n 0, 1) := by decide +kernel
theorem dX9_go_54 : decode cX9_go 54 = .ok (.getfield 101, 3) := by decide +kernel
theorem dX9_go_57 : decode cX9_go 57 = .ok (.putfield 104, 3) := by decide +kernel
theorem dX9_go_60 : decode cX9_go 60 = .ok (.aload_n 0, 1) := by decide +kernel
theorem dX9_go_61 : decode cX9_go 61 = .ok (.getfield 98, 3) := by decide +kernel
theorem dX9_go_64 : decode cX9_go 64 = .ok (.sipush 800, 3) := by decide +kernel
theorem dX9_go_67 : decode cX9_go 67 = .ok (.if_icmp .le 26, 3) := by decide +kernel
theorem dX9_go_70 : decode cX9_go 70 = .ok (.aload_n 0, 1) := by decide +kernel
theorem dX9_go_71 : decode cX9_go 71 = .ok (.getfield 104, 3) := by decide +kernel
theorem dX9_go_74 : decode cX9_go 74 = .ok (.sipush 800, 3) := by decide +kernel
theorem dX9_go_77 : decode cX9_go 77 = .ok (.if_icmp .lt 16, 3) := by decide +kernel
theorem dX9_go_80 : decode cX9_go 80 = .ok (.aload_n 0, 1) := by decide +kernel
theorem dX9_go_81 : decode cX9_go 81 = .ok (.sipush 800, 3) := by decide +kernel
theorem dX9_go_84 : decode cX9_go 84 = .ok (.putfield 104, 3) := by decide +kernel
theorem dX9_go_87 : decode cX9_go 87 = .ok (.aload_n 0, 1) := by decide +kernel
theorem dX9_go_88 : decode cX9_go 88 = .ok (.iconst 1, 1) := by decide +kernel
theorem dX9_go_89 : decode cX9_go 89 = .ok (.putfield 107, 3) := by decide +kernel
theorem dX9_go_92 : decode cX9_go 92 = .ok (.return_, 1) := by decide +kernel
theorem dX9_go_93 : decode cX9_go 93 = .ok (.aload_n 0, 1) := by decide +kernel
theorem dX9_go_94 : decode cX9_go 94 = .ok (.getfield 101, 3) := by decide +kernel
theorem dX9_go_97 : decode cX9_go 97 = .ok (.aload_n 0, 1) := by decide +kernel
theorem dX9_go_98 : decode cX9_go 98 = .ok (.getfield 98, 3) := by decide +kernel
theorem dX9_go_101 : decode cX9_go 101 = .ok (.if_icmp .lt 9, 3) := by decide +kernel
theorem dX9_go_104 : decode cX9_go 104 = .ok (.aload_n 0, 1) := by decide +kernel
theorem dX9_go_105 : decode cX9_go 105 = .ok (.iconst 0, 1) := by decide +kernel
theorem dX9_go_106 : decode cX9_go 106 = .ok (.putfield 107, 3) := by decide +kernel
theorem dX9_go_109 : decode cX9_go 109 = .ok (.return_, 1) := by decide +kernel
theorem dX9_go_110 : decode cX9_go 110 = .ok (.aload_n 0, 1) := by decide +kernel
theorem dX9_go_111 : decode cX9_go 111 = .ok (.getfield 7, 3) := by decide +kernel
theorem dX9_go_114 : decode cX9_go 114 = .ok (.aload_n 0, 1) := by decide +kernel
theorem dX9_go_115 : decode cX9_go 115 = .ok (.getfield 101, 3) := by decide +kernel
theorem dX9_go_118 : decode cX9_go 118 = .ok (.iaload, 1) := by decide +kernel
theorem dX9_go_119 : decode cX9_go 119 = .ok (.istore_n 1, 1) := by decide +kernel
theorem dX9_go_120 : decode cX9_go 120 = .ok (.iload_n 1, 1) := by decide +kernel
theorem dX9_go_121 : decode cX9_go 121 = .ok (.invokestatic 110, 3) := by decide +kernel
theorem dX9_go_124 : decode cX9_go 124 = .ok (.ifCond .ne 36, 3) := by decide +kernel
theorem dX9_go_127 : decode cX9_go 127 = .ok (.iload_n 1, 1) := by decide +kernel
theorem dX9_go_128 : decode cX9_go 128 = .ok (.invokestatic 114, 3) := by decide +kernel
theorem dX9_go_131 : decode cX9_go 131 = .ok (.ifCond .ne 29, 3) := by decide +kernel
theorem dX9_go_134 : decode cX9_go 134 = .ok (.aload_n 0, 1) := by decide +kernel
theorem dX9_go_135 : decode cX9_go 135 = .ok (.iload_n 1, 1) := by decide +kernel
theorem dX9_go_136 : decode cX9_go 136 = .ok (.bipush 59, 2) := by decide +kernel
theorem dX9_go_138 : decode cX9_go 138 = .ok (.if_icmp .ne 7, 3) := by decide +kernel
theorem dX9_go_141 : decode cX9_go 141 = .ok (.iconst 4, 1) := by decide +kernel
theorem dX9_go_142 : decode cX9_go 142 = .ok (.goto 4, 3) := by decide +kernel
theorem dX9_go_145 : decode cX9_go 145 = .ok (.iconst 1, 1) := by decide +kernel
theorem dX9_go_146 : decode cX9_go 146 = .ok (.putfield 107, 3) := by decide +kernel
theorem dX9_go_149 : decode cX9_go 149 = .ok (.aload_n 0, 1) := by decide +kernel
theorem dX9_go_150 : decode cX9_go 150 = .ok (.dup, 1) := by decide +kernel
theorem dX9_go_151 : decode cX9_go 151 = .ok (.getfield 101, 3) := by decide +kernel
theorem dX9_go_154 : decode cX9_go 154 = .ok (.iconst 1, 1) := by decide +kernel
theorem dX9_go_155 : decode cX9_go 155 = .ok (.iadd, 1) := by decide +kernel
theorem dX9_go_156 : decode cX9_go 156 = .ok (.putfield 101, 3) := by decide +kernel
theorem dX9_go_159 : decode cX9_go 159 = .ok (.return_, 1) := by decide +kernel
theorem dX9_go_160 : decode cX9_go 160 = .ok (.iload_n 1, 1) := by decide +kernel
theorem dX9_go_161 : decode cX9_go 161 = .ok (.invokestatic 110, 3) := by decide +kernel
theorem dX9_go_164 : decode cX9_go 164 = .ok (.istore_n 2, 1) := by decide +kernel
theorem dX9_go_165 : decode cX9_go 165 = .ok (.iconst 1, 1) := by decide +kernel
theorem dX9_go_166 : decode cX9_go 166 = .ok (.istore_n 3, 1) := by decide +kernel
theorem dX9_go_167 : decode cX9_go 167 = .ok (.aload_n 0, 1) := by decide +kernel
theorem dX9_go_168 : decode cX9_go 168 = .ok (.lconst 0, 1) := by decide +kernel
theorem dX9_go_169 : decode cX9_go 169 = .ok (.putfield 117, 3) := by decide +kernel
theorem dX9_go_172 : decode cX9_go 172 = .ok (.aload_n 0, 1) := by decide +kernel
theorem dX9_go_173 : decode cX9_go 173 = .ok (.iconst 0, 1) := by decide +kernel
theorem dX9_go_174 : decode cX9_go 174 = .ok (.putfield 121, 3) := by decide +kernel
theorem dX9_go_177 : decode cX9_go 177 = .ok (.aload_n 0, 1) := by decide +kernel
theorem dX9_go_178 : decode cX9_go 178 = .ok (.aload_n 0, 1) := by decide +kernel
theorem dX9_go_179 : decode cX9_go 179 = .ok (.getfield 101, 3) := by decide +kernel
theorem dX9_go_182 : decode cX9_go 182 = .ok (.invokevirtual 124, 3) := by decide +kernel
theorem dX9_go_185 : decode cX9_go 185 = .ok (.invokestatic 110, 3) := by decide +kernel
theorem dX9_go_188 : decode cX9_go 188 = .ok (.ifCond .ne 17, 3) := by decide +kernel
theorem dX9_go_191 : decode cX9_go 191 = .ok (.aload_n 0, 1) := by decide +kernel
theorem dX9_go_192 : decode cX9_go 192 = .ok (.aload_n 0, 1) := by decide +kernel
theorem dX9_go_193 : decode cX9_go 193 = .ok (.getfield 101, 3) := by decide +kernel
theorem dX9_go_196 : decode cX9_go 196 = .ok (.invokevirtual 124, 3) := by decide +kernel
theorem dX9_go_199 : decode cX9_go 199 = .ok (.invokestatic 114, 3) := by decide +kernel
theorem dX9_go_202 : decode cX9_go 202 = .ok (.ifCond .eq 111, 3) := by decide +kernel
theorem dX9_go_205 : decode cX9_go 205 = .ok (.aload_n 0, 1) := by decide +kernel
theorem dX9_go_206 : decode cX9_go 206 = .ok (.getfield 7, 3) := by decide +kernel
theorem dX9_go_209 : decode cX9_go 209 = .ok (.aload_n 0, 1) := by decide +kernel
theorem dX9_go_210 : decode cX9_go 210 = .ok (.getfield 101, 3) := by decide +kernel
theorem dX9_go_213 : decode cX9_go 213 = .ok (.iaload, 1) := by decide +kernel
theorem dX9_go_214 : decode cX9_go 214 = .ok (.istore 4, 2) := by decide +kernel
theorem dX9_go_216 : decode cX9_go 216 = .ok (.iload_n 3, 1) := by decide +kernel
theorem dX9_go_217 : decode cX9_go 217 = .ok (.ifCond .eq 16, 3) := by decide +kernel
theorem dX9_go_220 : decode cX9_go 220 = .ok (.iload 4, 2) := by decide +kernel
theorem dX9_go_222 : decode cX9_go 222 = .ok (.invokestatic 110, 3) := by decide +kernel
theorem dX9_go_225 : decode cX9_go 225 = .ok (.iload_n 2, 1) := by decide +kernel
theorem dX9_go_226 : decode cX9_go 226 = .ok (.if_icmp .ne 7, 3) := by decide +kernel
theorem dX9_go_229 : decode cX9_go 229 = .ok (.iconst 1, 1) := by decide +kernel
theorem dX9_go_230 : decode cX9_go 230 = .ok (.goto 4, 3) := by decide +kernel
theorem dX9_go_233 : decode cX9_go 233 = .ok (.iconst 0, 1) := by decide +kernel
theorem dX9_go_234 : decode cX9_go 234 = .ok (.istore_n 3, 1) := by decide +kernel
theorem dX9_go_235 : decode cX9_go 235 = .ok (.aload_n 0, 1) := by decide +kernel
theorem dX9_go_236 : decode cX9_go 236 = .ok (.getfield 101, 3) := by decide +kernel
theorem dX9_go_239 : decode cX9_go 239 = .ok (.aload_n 0, 1) := by decide +kernel
theorem dX9_go_240 : decode cX9_go 240 = .ok (.getfield 104, 3) := by decide +kernel
theorem dX9_go_243 : decode cX9_go 243 = .ok (.isub, 1) := by decide +kernel
theorem dX9_go_244 : decode cX9_go 244 = .ok (.bipush 8, 2) := by decide +kernel
theorem dX9_go_246 : decode cX9_go 246 = .ok (.if_icmp .ge 23, 3) := by decide +kernel
theorem dX9_go_249 : decode cX9_go 249 = .ok (.aload_n 0, 1) := by decide +kernel
theorem dX9_go_250 : decode cX9_go 250 = .ok (.ldc2_w 128, 3) := by decide +kernel
theorem dX9_go_253 : decode cX9_go 253 = .ok (.aload_n 0, 1) := by decide +kernel
theorem dX9_go_254 : decode cX9_go 254 = .ok (.getfield 117, 3) := by decide +kernel
theorem dX9_go_257 : decode cX9_go 257 = .ok (.lmul, 1) := by decide +kernel
theorem dX9_go_258 : decode cX9_go 258 = .ok (.iload 4, 2) := by decide +kernel
theorem dX9_go_260 : decode cX9_go 260 = .ok (.i2l, 1) := by decide +kernel
theorem dX9_go_261 : decode cX9_go 261 = .ok (.ladd, 1) := by decide +kernel
theorem dX9_go_262 : decode cX9_go 262 = .ok (.ldc2_w 130, 3) := by decide +kernel
theorem dX9_go_265 : decode cX9_go 265 = .ok (.lsub, 1) := by decide +kernel
theorem dX9_go_266 : decode cX9_go 266 = .ok (.putfield 117, 3) := by decide +kernel
theorem dX9_go_269 : decode cX9_go 269 = .ok (.aload_n 0, 1) := by decide +kernel
theorem dX9_go_270 : decode cX9_go 270 = .ok (.getfield 101, 3) := by decide +kernel
theorem dX9_go_273 : decode cX9_go 273 = .ok (.aload_n 0, 1) := by decide +kernel
theorem dX9_go_274 : decode cX9_go 274 = .ok (.getfield 104, 3) := by decide +kernel
theorem dX9_go_277 : decode cX9_go 277 = .ok (.isub, 1) := by decide +kernel
theorem dX9_go_278 : decode cX9_go 278 = .ok (.bipush 6, 2) := by decide +kernel
theorem dX9_go_280 : decode cX9_go 280 = .ok (.if_icmp .ge 20, 3) := by decide +kernel
theorem dX9_go_283 : decode cX9_go 283 = .ok (.aload_n 0, 1) := by decide +kernel
theorem dX9_go_284 : decode cX9_go 284 = .ok (.bipush 10, 2) := by decide +kernel
theorem dX9_go_286 : decode cX9_go 286 = .ok (.aload_n 0, 1) := by decide +kernel
theorem dX9_go_287 : decode cX9_go 287 = .ok (.getfield 121, 3) := by decide +kernel
theorem dX9_go_290 : decode cX9_go 290 = .ok (.imul, 1) := by decide +kernel
theorem dX9_go_291 : decode cX9_go 291 = .ok (.iload 4, 2) := by decide +kernel
theorem dX9_go_293 : decode cX9_go 293 = .ok (.iadd, 1) := by decide +kernel
theorem dX9_go_294 : decode cX9_go 294 = .ok (.bipush 48, 2) := by decide +kernel
theorem dX9_go_296 : decode cX9_go 296 = .ok (.isub, 1) := by decide +kernel
theorem dX9_go_297 : decode cX9_go 297 = .ok (.putfield 121, 3) := by decide +kernel
theorem dX9_go_300 : decode cX9_go 300 = .ok (.aload_n 0, 1) := by decide +kernel
theorem dX9_go_301 : decode cX9_go 301 = .ok (.dup, 1) := by decide +kernel
theorem dX9_go_302 : decode cX9_go 302 = .ok (.getfield 101, 3) := by decide +kernel
theorem dX9_go_305 : decode cX9_go 305 = .ok (.iconst 1, 1) := by decide +kernel
theorem dX9_go_306 : decode cX9_go 306 = .ok (.iadd, 1) := by decide +kernel
theorem dX9_go_307 : decode cX9_go 307 = .ok (.putfield 101, 3) := by decide +kernel
theorem dX9_go_310 : decode cX9_go 310 = .ok (.goto (-133), 3) := by decide +kernel
theorem dX9_go_313 : decode cX9_go 313 = .ok (.aload_n 0, 1) := by decide +kernel
theorem dX9_go_314 : decode cX9_go 314 = .ok (.iload_n 3, 1) := by decide +kernel
theorem dX9_go_315 : decode cX9_go 315 = .ok (.ifCond .eq 26, 3) := by decide +kernel
theorem dX9_go_318 : decode cX9_go 318 = .ok (.aload_n 0, 1) := by decide +kernel
theorem dX9_go_319 : decode cX9_go 319 = .ok (.getfield 101, 3) := by decide +kernel
theorem dX9_go_322 : decode cX9_go 322 = .ok (.aload_n 0, 1) := by decide +kernel
theorem dX9_go_323 : decode cX9_go 323 = .ok (.getfield 104, 3) := by decide +kernel
theorem dX9_go_326 : decode cX9_go 326 = .ok (.isub, 1) := by decide +kernel
theorem dX9_go_327 : decode cX9_go 327 = .ok (.iload_n 2, 1) := by decide +kernel
theorem dX9_go_328 : decode cX9_go 328 = .ok (.ifCond .eq 8, 3) := by decide +kernel
theorem dX9_go_331 : decode cX9_go 331 = .ok (.bipush 8, 2) := by decide +kernel
theorem dX9_go_333 : decode cX9_go 333 = .ok (.goto 5, 3) := by decide +kernel
theorem dX9_go_336 : decode cX9_go 336 = .ok (.bipush 6, 2) := by decide +kernel
theorem dX9_go_338 : decode cX9_go 338 = .ok (.if_icmp .le 7, 3) := by decide +kernel
theorem dX9_go_341 : decode cX9_go 341 = .ok (.iconst 1, 1) := by decide +kernel
theorem dX9_go_342 : decode cX9_go 342 = .ok (.goto 12, 3) := by decide +kernel
theorem dX9_go_345 : decode cX9_go 345 = .ok (.iload_n 2, 1) := by decide +kernel
theorem dX9_go_346 : decode cX9_go 346 = .ok (.ifCond .eq 7, 3) := by decide +kernel
theorem dX9_go_349 : decode cX9_go 349 = .ok (.iconst 2, 1) := by decide +kernel
theorem dX9_go_350 : decode cX9_go 350 = .ok (.goto 4, 3) := by decide +kernel
theorem dX9_go_353 : decode cX9_go 353 = .ok (.iconst 3, 1) := by decide +kernel
theorem dX9_go_354 : decode cX9_go 354 = .ok (.putfield 107, 3) := by decide +kernel
theorem dX9_go_357 : decode cX9_go 357 = .ok (.return_, 1) := by decide +kernel
theorem dX9_isKey_0 : decode cX9_isKey 0 = .ok (.aload_n 0, 1) := by decide +kernel
theorem dX9_isKey_1 : decode cX9_isKey 1 = .ok (.getfield 107, 3) := by decide +kernel
theorem dX9_isKey_4 : decode cX9_isKey 4 = .ok (.iconst 2, 1) := by decide +kernel
theorem dX9_isKey_5 : decode cX9_isKey 5 = .ok (.if_icmp .ne 16, 3) := by decide +kernel
theorem dX9_isKey_8 : decode cX9_isKey 8 = .ok (.aload_n 0, 1) := by decide +kernel
theorem dX9_isKey_9 : decode cX9_isKey 9 = .ok (.getfield 117, 3) := by decide +kernel
theorem dX9_isKey_12 : decode cX9_isKey 12 = .ok (.lload_n 1, 1) := by decide +kernel
theorem dX9_isKey_13 : decode cX9_isKey 13 = .ok (.lcmp, 1) := by decide +kernel
theorem dX9_isKey_14 : decode cX9_isKey 14 = .ok (.ifCond .ne 7, 3) := by decide +kernel
theorem dX9_isKey_17 : decode cX9_isKey 17 = .ok (.iconst 1, 1) := by decide +kernel
theorem dX9_isKey_18 : decode cX9_isKey 18 = .ok (.goto 4, 3) := by decide +kernel
theorem dX9_isKey_21 : decode cX9_isKey 21 = .ok (.iconst 0, 1) := by decide +kernel
theorem dX9_isKey_22 : decode cX9_isKey 22 = .ok (.ireturn, 1) := by decide +kernel
theorem dX9_isFree_0 : decode cX9_isFree 0 = .ok (.aload_n 0, 1) := by decide +kernel
theorem dX9_isFree_1 : decode cX9_isFree 1 = .ok (.getfield 107, 3) := by decide +kernel
theorem dX9_isFree_4 : decode cX9_isFree 4 = .ok (.iconst 2, 1) := by decide +kernel
theorem dX9_isFree_5 : decode cX9_isFree 5 = .ok (.if_icmp .ne 117, 3) := by decide +kernel
theorem dX9_isFree_8 : decode cX9_isFree 8 = .ok (.aload_n 0, 1) := by decide +kernel
theorem dX9_isFree_9 : decode cX9_isFree 9 = .ok (.getfield 117, 3) := by decide +kernel
theorem dX9_isFree_12 : decode cX9_isFree 12 = .ok (.getstatic 132, 3) := by decide +kernel
theorem dX9_isFree_15 : decode cX9_isFree 15 = .ok (.lcmp, 1) := by decide +kernel
theorem dX9_isFree_16 : decode cX9_isFree 16 = .ok (.ifCond .eq 106, 3) := by decide +kernel
theorem dX9_isFree_19 : decode cX9_isFree 19 = .ok (.aload_n 0, 1) := by decide +kernel
theorem dX9_isFree_20 : decode cX9_isFree 20 = .ok (.getfield 117, 3) := by decide +kernel
theorem dX9_isFree_23 : decode cX9_isFree 23 = .ok (.getstatic 135, 3) := by decide +kernel
theorem dX9_isFree_26 : decode cX9_isFree 26 = .ok (.lcmp, 1) := by decide +kernel
theorem dX9_isFree_27 : decode cX9_isFree 27 = .ok (.ifCond .eq 95, 3) := by decide +kernel
theorem dX9_isFree_30 : decode cX9_isFree 30 = .ok (.aload_n 0, 1) := by decide +kernel
theorem dX9_isFree_31 : decode cX9_isFree 31 = .ok (.getfield 117, 3) := by decide +kernel
theorem dX9_isFree_34 : decode cX9_isFree 34 = .ok (.getstatic 138, 3) := by decide +kernel
theorem dX9_isFree_37 : decode cX9_isFree 37 = .ok (.lcmp, 1) := by decide +kernel
theorem dX9_isFree_38 : decode cX9_isFree 38 = .ok (.ifCond .eq 84, 3) := by decide +kernel
theorem dX9_isFree_41 : decode cX9_isFree 41 = .ok (.aload_n 0, 1) := by decide +kernel
theorem dX9_isFree_42 : decode cX9_isFree 42 = .ok (.getfield 117, 3) := by decide +kernel
theorem dX9_isFree_45 : decode cX9_isFree 45 = .ok (.getstatic 141, 3) := by decide +kernel
theorem dX9_isFree_48 : decode cX9_isFree 48 = .ok (.lcmp, 1) := by decide +kernel
theorem dX9_isFree_49 : decode cX9_isFree 49 = .ok (.ifCond .eq 73, 3) := by decide +kernel
theorem dX9_isFree_52 : decode cX9_isFree 52 = .ok (.aload_n 0, 1) := by decide +kernel
theorem dX9_isFree_53 : decode cX9_isFree 53 = .ok (.getfield 117, 3) := by decide +kernel
theorem dX9_isFree_56 : decode cX9_isFree 56 = .ok (.getstatic 144, 3) := by decide +kernel
theorem dX9_isFree_59 : decode cX9_isFree 59 = .ok (.lcmp, 1) := by decide +kernel
theorem dX9_isFree_60 : decode cX9_isFree 60 = .ok (.ifCond .eq 62, 3) := by decide +kernel
theorem dX9_isFree_63 : decode cX9_isFree 63 = .ok (.aload_n 0, 1) := by decide +kernel
theorem dX9_isFree_64 : decode cX9_isFree 64 = .ok (.getfield 117, 3) := by decide +kernel
theorem dX9_isFree_67 : decode cX9_isFree 67 = .ok (.getstatic 147, 3) := by decide +kernel
theorem dX9_isFree_70 : decode cX9_isFree 70 = .ok (.lcmp, 1) := by decide +kernel
theorem dX9_isFree_71 : decode cX9_isFree 71 = .ok (.ifCond .eq 51, 3) := by decide +kernel
theorem dX9_isFree_74 : decode cX9_isFree 74 = .ok (.aload_n 0, 1) := by decide +kernel
theorem dX9_isFree_75 : decode cX9_isFree 75 = .ok (.getfield 117, 3) := by decide +kernel
theorem dX9_isFree_78 : decode cX9_isFree 78 = .ok (.getstatic 150, 3) := by decide +kernel
theorem dX9_isFree_81 : decode cX9_isFree 81 = .ok (.lcmp, 1) := by decide +kernel
theorem dX9_isFree_82 : decode cX9_isFree 82 = .ok (.ifCond .eq 40, 3) := by decide +kernel
theorem dX9_isFree_85 : decode cX9_isFree 85 = .ok (.aload_n 0, 1) := by decide +kernel
theorem dX9_isFree_86 : decode cX9_isFree 86 = .ok (.getfield 117, 3) := by decide +kernel
theorem dX9_isFree_89 : decode cX9_isFree 89 = .ok (.getstatic 153, 3) := by decide +kernel
theorem dX9_isFree_92 : decode cX9_isFree 92 = .ok (.lcmp, 1) := by decide +kernel
theorem dX9_isFree_93 : decode cX9_isFree 93 = .ok (.ifCond .eq 29, 3) := by decide +kernel
theorem dX9_isFree_96 : decode cX9_isFree 96 = .ok (.aload_n 0, 1) := by decide +kernel
theorem dX9_isFree_97 : decode cX9_isFree 97 = .ok (.getfield 117, 3) := by decide +kernel
theorem dX9_isFree_100 : decode cX9_isFree 100 = .ok (.getstatic 156, 3) := by decide +kernel
theorem dX9_isFree_103 : decode cX9_isFree 103 = .ok (.lcmp, 1) := by decide +kernel
theorem dX9_isFree_104 : decode cX9_isFree 104 = .ok (.ifCond .eq 18, 3) := by decide +kernel
theorem dX9_isFree_107 : decode cX9_isFree 107 = .ok (.aload_n 0, 1) := by decide +kernel
theorem dX9_isFree_108 : decode cX9_isFree 108 = .ok (.getfield 117, 3) := by decide +kernel
theorem dX9_isFree_111 : decode cX9_isFree 111 = .ok (.getstatic 159, 3) := by decide +kernel
theorem dX9_isFree_114 : decode cX9_isFree 114 = .ok (.lcmp, 1) := by decide +kernel
theorem dX9_isFree_115 : decode cX9_isFree 115 = .ok (.ifCond .eq 7, 3) := by decide +kernel
theorem dX9_isFree_118 : decode cX9_isFree 118 = .ok (.iconst 1, 1) := by decide +kernel
theorem dX9_isFree_119 : decode cX9_isFree 119 = .ok (.goto 4, 3) := by decide +kernel
theorem dX9_isFree_122 : decode cX9_isFree 122 = .ok (.iconst 0, 1) := by decide +kernel
theorem dX9_isFree_123 : decode cX9_isFree 123 = .ok (.ireturn, 1) := by decide +kernel
theorem dX9_bad_0 : decode cX9_bad 0 = .ok (.aload_n 0, 1) := by decide +kernel
theorem dX9_bad_1 : decode cX9_bad 1 = .ok (.aload_n 0, 1) := by decide +kernel
theorem dX9_bad_2 : decode cX9_bad 2 = .ok (.getfield 107, 3) := by decide +kernel
theorem dX9_bad_5 : decode cX9_bad 5 = .ok (.iconst 1, 1) := by decide +kernel
theorem dX9_bad_6 : decode cX9_bad 6 = .ok (.if_icmp .ne 7, 3) := by decide +kernel
theorem dX9_bad_9 : decode cX9_bad 9 = .ok (.iconst 1, 1) := by decide +kernel
theorem dX9_bad_10 : decode cX9_bad 10 = .ok (.goto 4, 3) := by decide +kernel
theorem dX9_bad_13 : decode cX9_bad 13 = .ok (.iload_n 1, 1) := by decide +kernel
theorem dX9_bad_14 : decode cX9_bad 14 = .ok (.putfield 162, 3) := by decide +kernel
theorem dX9_bad_17 : decode cX9_bad 17 = .ok (.aload_n 0, 1) := by decide +kernel
theorem dX9_bad_18 : decode cX9_bad 18 = .ok (.aload_n 0, 1) := by decide +kernel
theorem dX9_bad_19 : decode cX9_bad 19 = .ok (.getfield 104, 3) := by decide +kernel
theorem dX9_bad_22 : decode cX9_bad 22 = .ok (.putfield 165, 3) := by decide +kernel
theorem dX9_bad_25 : decode cX9_bad 25 = .ok (.iconst 0, 1) := by decide +kernel
theorem dX9_bad_26 : decode cX9_bad 26 = .ok (.ireturn, 1) := by decide +kernel
theorem dX9_readNumber_0 : decode cX9_readNumber 0 = .ok (.aload_n 0, 1) := by decide +kernel
theorem dX9_readNumber_1 : decode cX9_readNumber 1 = .ok (.getfield 107, 3) := by decide +kernel
theorem dX9_readNumber_4 : decode cX9_readNumber 4 = .ok (.iconst 3, 1) := by decide +kernel
theorem dX9_readNumber_5 : decode cX9_readNumber 5 = .ok (.if_icmp .eq 9, 3) := by decide +kernel
theorem dX9_readNumber_8 : decode cX9_readNumber 8 = .ok (.aload_n 0, 1) := by decide +kernel
theorem dX9_readNumber_9 : decode cX9_readNumber 9 = .ok (.iconst 1, 1) := by decide +kernel
theorem dX9_readNumber_10 : decode cX9_readNumber 10 = .ok (.invokevirtual 168, 3) := by decide +kernel
theorem dX9_readNumber_13 : decode cX9_readNumber 13 = .ok (.ireturn, 1) := by decide +kernel
theorem dX9_readNumber_14 : decode cX9_readNumber 14 = .ok (.aload_n 0, 1) := by decide +kernel
theorem dX9_readNumber_15 : decode cX9_readNumber 15 = .ok (.getfield 121, 3) := by decide +kernel
theorem dX9_readNumber_18 : decode cX9_readNumber 18 = .ok (.iload_n 1, 1) := by decide +kernel
theorem dX9_readNumber_19 : decode cX9_readNumber 19 = .ok (.if_icmp .lt 11, 3) := by decide +kernel
theorem dX9_readNumber_22 : decode cX9_readNumber 22 = .ok (.aload_n 0, 1) := by decide +kernel
theorem dX9_readNumber_23 : decode cX9_readNumber 23 = .ok (.getfield 121, 3) := by decide +kernel
theorem dX9_readNumber_26 : decode cX9_readNumber 26 = .ok (.iload_n 2, 1) := by decide +kernel
theorem dX9_readNumber_27 : decode cX9_readNumber 27 = .ok (.if_icmp .le 9, 3) := by decide +kernel
theorem dX9_readNumber_30 : decode cX9_readNumber 30 = .ok (.aload_n 0, 1) := by decide +kernel
theorem dX9_readNumber_31 : decode cX9_readNumber 31 = .ok (.iconst 2, 1) := by decide +kernel
theorem dX9_readNumber_32 : decode cX9_readNumber 32 = .ok (.invokevirtual 168, 3) := by decide +kernel
theorem dX9_readNumber_35 : decode cX9_readNumber 35 = .ok (.ireturn, 1) := by decide +kernel
theorem dX9_readNumber_36 : decode cX9_readNumber 36 = .ok (.aload_n 0, 1) := by decide +kernel
theorem dX9_readNumber_37 : decode cX9_readNumber 37 = .ok (.aload_n 0, 1) := by decide +kernel
theorem dX9_readNumber_38 : decode cX9_readNumber 38 = .ok (.getfield 121, 3) := by decide +kernel
theorem dX9_readNumber_41 : decode cX9_readNumber 41 = .ok (.putfield 171, 3) := by decide +kernel
theorem dX9_readNumber_44 : decode cX9_readNumber 44 = .ok (.aload_n 0, 1) := by decide +kernel
theorem dX9_readNumber_45 : decode cX9_readNumber 45 = .ok (.invokevirtual 174, 3) := by decide +kernel
theorem dX9_readNumber_48 : decode cX9_readNumber 48 = .ok (.iconst 1, 1) := by decide +kernel
theorem dX9_readNumber_49 : decode cX9_readNumber 49 = .ok (.ireturn, 1) := by decide +kernel
theorem dX9_readKey_0 : decode cX9_readKey 0 = .ok (.aload_n 0, 1) := by decide +kernel
theorem dX9_readKey_1 : decode cX9_readKey 1 = .ok (.lload_n 1, 1) := by decide +kernel
theorem dX9_readKey_2 : decode cX9_readKey 2 = .ok (.invokevirtual 177, 3) := by decide +kernel
theorem dX9_readKey_5 : decode cX9_readKey 5 = .ok (.ifCond .ne 9, 3) := by decide +kernel
theorem dX9_readKey_8 : decode cX9_readKey 8 = .ok (.aload_n 0, 1) := by decide +kernel
theorem dX9_readKey_9 : decode cX9_readKey 9 = .ok (.iconst 1, 1) := by decide +kernel
theorem dX9_readKey_10 : decode cX9_readKey 10 = .ok (.invokevirtual 168, 3) := by decide +kernel
theorem dX9_readKey_13 : decode cX9_readKey 13 = .ok (.ireturn, 1) := by decide +kernel
theorem dX9_readKey_14 : decode cX9_readKey 14 = .ok (.aload_n 0, 1) := by decide +kernel
theorem dX9_readKey_15 : decode cX9_readKey 15 = .ok (.invokevirtual 174, 3) := by decide +kernel
theorem dX9_readKey_18 : decode cX9_readKey 18 = .ok (.iconst 1, 1) := by decide +kernel
theorem dX9_readKey_19 : decode cX9_readKey 19 = .ok (.ireturn, 1) := by decide +kernel
theorem dX9_readPart_0 : decode cX9_readPart 0 = .ok (.aload_n 0, 1) := by decide +kernel
theorem dX9_readPart_1 : decode cX9_readPart 1 = .ok (.getfield 107, 3) := by decide +kernel
theorem dX9_readPart_4 : decode cX9_readPart 4 = .ok (.iconst 3, 1) := by decide +kernel
theorem dX9_readPart_5 : decode cX9_readPart 5 = .ok (.if_icmp .ne 33, 3) := by decide +kernel
theorem dX9_readPart_8 : decode cX9_readPart 8 = .ok (.aload_n 0, 1) := by decide +kernel
theorem dX9_readPart_9 : decode cX9_readPart 9 = .ok (.getfield 121, 3) := by decide +kernel
