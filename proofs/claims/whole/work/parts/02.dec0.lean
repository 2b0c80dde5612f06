theorem dX0_init_0 : decode cX0_init 0 = .ok (.aload_n 0, 1) := by decide +kernel
theorem dX0_init_1 : decode cX0_init 1 = .ok (.invokespecial 3, 3) := by decide +kernel
theorem dX0_init_4 : decode cX0_init 4 = .ok (.aload_n 0, 1) := by decide +kernel
theorem dX0_init_5 : decode cX0_init 5 = .ok (.iconst 0, 1) := by decide +kernel
theorem dX0_init_6 : decode cX0_init 6 = .ok (.putfield 9, 3) := by decide +kernel
theorem dX0_init_9 : decode cX0_init 9 = .ok (.aload_n 0, 1) := by decide +kernel
theorem dX0_init_10 : decode cX0_init 10 = .ok (.iconst 0, 1) := by decide +kernel
theorem dX0_init_11 : decode cX0_init 11 = .ok (.putfield 15, 3) := by decide +kernel
theorem dX0_init_14 : decode cX0_init 14 = .ok (.aload_n 0, 1) := by decide +kernel
theorem dX0_init_15 : decode cX0_init 15 = .ok (.iconst 1, 1) := by decide +kernel
theorem dX0_init_16 : decode cX0_init 16 = .ok (.putfield 18, 3) := by decide +kernel
theorem dX0_init_19 : decode cX0_init 19 = .ok (.aload_n 0, 1) := by decide +kernel
theorem dX0_init_20 : decode cX0_init 20 = .ok (.iconst (-1), 1) := by decide +kernel
theorem dX0_init_21 : decode cX0_init 21 = .ok (.putfield 21, 3) := by decide +kernel
theorem dX0_init_24 : decode cX0_init 24 = .ok (.aload_n 0, 1) := by decide +kernel
theorem dX0_init_25 : decode cX0_init 25 = .ok (.iconst 0, 1) := by decide +kernel
theorem dX0_init_26 : decode cX0_init 26 = .ok (.putfield 24, 3) := by decide +kernel
theorem dX0_init_29 : decode cX0_init 29 = .ok (.aload_n 0, 1) := by decide +kernel
theorem dX0_init_30 : decode cX0_init 30 = .ok (.iconst 0, 1) := by decide +kernel
theorem dX0_init_31 : decode cX0_init 31 = .ok (.putfield 27, 3) := by decide +kernel
theorem dX0_init_34 : decode cX0_init 34 = .ok (.aload_n 0, 1) := by decide +kernel
theorem dX0_init_35 : decode cX0_init 35 = .ok (.iconst (-1), 1) := by decide +kernel
theorem dX0_init_36 : decode cX0_init 36 = .ok (.putfield 30, 3) := by decide +kernel
theorem dX0_init_39 : decode cX0_init 39 = .ok (.aload_n 0, 1) := by decide +kernel
theorem dX0_init_40 : decode cX0_init 40 = .ok (.iconst 5, 1) := by decide +kernel
theorem dX0_init_41 : decode cX0_init 41 = .ok (.newarray .long, 2) := by decide +kernel
theorem dX0_init_43 : decode cX0_init 43 = .ok (.putfield 33, 3) := by decide +kernel
theorem dX0_init_46 : decode cX0_init 46 = .ok (.return_, 1) := by decide +kernel
theorem dX0_start_0 : decode cX0_start 0 = .ok (.aload_n 0, 1) := by decide +kernel
theorem dX0_start_1 : decode cX0_start 1 = .ok (.iconst 0, 1) := by decide +kernel
theorem dX0_start_2 : decode cX0_start 2 = .ok (.putfield 9, 3) := by decide +kernel
theorem dX0_start_5 : decode cX0_start 5 = .ok (.aload_n 0, 1) := by decide +kernel
theorem dX0_start_6 : decode cX0_start 6 = .ok (.iload_n 1, 1) := by decide +kernel
theorem dX0_start_7 : decode cX0_start 7 = .ok (.putfield 15, 3) := by decide +kernel
theorem dX0_start_10 : decode cX0_start 10 = .ok (.aload_n 0, 1) := by decide +kernel
theorem dX0_start_11 : decode cX0_start 11 = .ok (.iconst 1, 1) := by decide +kernel
theorem dX0_start_12 : decode cX0_start 12 = .ok (.putfield 18, 3) := by decide +kernel
theorem dX0_start_15 : decode cX0_start 15 = .ok (.aload_n 0, 1) := by decide +kernel
theorem dX0_start_16 : decode cX0_start 16 = .ok (.iconst (-1), 1) := by decide +kernel
theorem dX0_start_17 : decode cX0_start 17 = .ok (.putfield 21, 3) := by decide +kernel
theorem dX0_start_20 : decode cX0_start 20 = .ok (.aload_n 0, 1) := by decide +kernel
theorem dX0_start_21 : decode cX0_start 21 = .ok (.iconst 0, 1) := by decide +kernel
theorem dX0_start_22 : decode cX0_start 22 = .ok (.putfield 24, 3) := by decide +kernel
theorem dX0_start_25 : decode cX0_start 25 = .ok (.aload_n 0, 1) := by decide +kernel
theorem dX0_start_26 : decode cX0_start 26 = .ok (.iconst 0, 1) := by decide +kernel
theorem dX0_start_27 : decode cX0_start 27 = .ok (.putfield 27, 3) := by decide +kernel
theorem dX0_start_30 : decode cX0_start 30 = .ok (.aload_n 0, 1) := by decide +kernel
theorem dX0_start_31 : decode cX0_start 31 = .ok (.iload_n 2, 1) := by decide +kernel
theorem dX0_start_32 : decode cX0_start 32 = .ok (.putfield 30, 3) := by decide +kernel
theorem dX0_start_35 : decode cX0_start 35 = .ok (.aload_n 0, 1) := by decide +kernel
theorem dX0_start_36 : decode cX0_start 36 = .ok (.getfield 33, 3) := by decide +kernel
theorem dX0_start_39 : decode cX0_start 39 = .ok (.lconst 0, 1) := by decide +kernel
theorem dX0_start_40 : decode cX0_start 40 = .ok (.invokestatic 37, 3) := by decide +kernel
theorem dX0_start_43 : decode cX0_start 43 = .ok (.return_, 1) := by decide +kernel
theorem dX0_addSign_0 : decode cX0_addSign 0 = .ok (.iload_n 1, 1) := by decide +kernel
theorem dX0_addSign_1 : decode cX0_addSign 1 = .ok (.ifCond .lt 57, 3) := by decide +kernel
theorem dX0_addSign_4 : decode cX0_addSign 4 = .ok (.iload_n 1, 1) := by decide +kernel
theorem dX0_addSign_5 : decode cX0_addSign 5 = .ok (.iconst 5, 1) := by decide +kernel
theorem dX0_addSign_6 : decode cX0_addSign 6 = .ok (.if_icmp .ge 52, 3) := by decide +kernel
theorem dX0_addSign_9 : decode cX0_addSign 9 = .ok (.iload_n 2, 1) := by decide +kernel
theorem dX0_addSign_10 : decode cX0_addSign 10 = .ok (.ifCond .lt 48, 3) := by decide +kernel
theorem dX0_addSign_13 : decode cX0_addSign 13 = .ok (.iload_n 2, 1) := by decide +kernel
theorem dX0_addSign_14 : decode cX0_addSign 14 = .ok (.bipush 8, 2) := by decide +kernel
theorem dX0_addSign_16 : decode cX0_addSign 16 = .ok (.if_icmp .ge 42, 3) := by decide +kernel
theorem dX0_addSign_19 : decode cX0_addSign 19 = .ok (.aload_n 0, 1) := by decide +kernel
theorem dX0_addSign_20 : decode cX0_addSign 20 = .ok (.getfield 33, 3) := by decide +kernel
theorem dX0_addSign_23 : decode cX0_addSign 23 = .ok (.iload_n 1, 1) := by decide +kernel
theorem dX0_addSign_24 : decode cX0_addSign 24 = .ok (.dup2, 1) := by decide +kernel
theorem dX0_addSign_25 : decode cX0_addSign 25 = .ok (.laload, 1) := by decide +kernel
theorem dX0_addSign_26 : decode cX0_addSign 26 = .ok (.iload_n 3, 1) := by decide +kernel
theorem dX0_addSign_27 : decode cX0_addSign 27 = .ok (.i2l, 1) := by decide +kernel
theorem dX0_addSign_28 : decode cX0_addSign 28 = .ok (.bipush 56, 2) := by decide +kernel
theorem dX0_addSign_30 : decode cX0_addSign 30 = .ok (.bipush 8, 2) := by decide +kernel
theorem dX0_addSign_32 : decode cX0_addSign 32 = .ok (.iload_n 2, 1) := by decide +kernel
theorem dX0_addSign_33 : decode cX0_addSign 33 = .ok (.imul, 1) := by decide +kernel
theorem dX0_addSign_34 : decode cX0_addSign 34 = .ok (.isub, 1) := by decide +kernel
theorem dX0_addSign_35 : decode cX0_addSign 35 = .ok (.lshl, 1) := by decide +kernel
theorem dX0_addSign_36 : decode cX0_addSign 36 = .ok (.lor, 1) := by decide +kernel
theorem dX0_addSign_37 : decode cX0_addSign 37 = .ok (.lastore, 1) := by decide +kernel
theorem dX0_addSign_38 : decode cX0_addSign 38 = .ok (.aload_n 0, 1) := by decide +kernel
theorem dX0_addSign_39 : decode cX0_addSign 39 = .ok (.aload_n 0, 1) := by decide +kernel
theorem dX0_addSign_40 : decode cX0_addSign 40 = .ok (.getfield 9, 3) := by decide +kernel
theorem dX0_addSign_43 : decode cX0_addSign 43 = .ok (.ifCond .ne 9, 3) := by decide +kernel
theorem dX0_addSign_46 : decode cX0_addSign 46 = .ok (.iload_n 2, 1) := by decide +kernel
theorem dX0_addSign_47 : decode cX0_addSign 47 = .ok (.iconst 1, 1) := by decide +kernel
theorem dX0_addSign_48 : decode cX0_addSign 48 = .ok (.iadd, 1) := by decide +kernel
theorem dX0_addSign_49 : decode cX0_addSign 49 = .ok (.goto 6, 3) := by decide +kernel
theorem dX0_addSign_52 : decode cX0_addSign 52 = .ok (.iload_n 1, 1) := by decide +kernel
theorem dX0_addSign_53 : decode cX0_addSign 53 = .ok (.iconst 1, 1) := by decide +kernel
theorem dX0_addSign_54 : decode cX0_addSign 54 = .ok (.iadd, 1) := by decide +kernel
theorem dX0_addSign_55 : decode cX0_addSign 55 = .ok (.putfield 27, 3) := by decide +kernel
theorem dX0_addSign_58 : decode cX0_addSign 58 = .ok (.return_, 1) := by decide +kernel
theorem dX0_wordAt_0 : decode cX0_wordAt 0 = .ok (.iload_n 1, 1) := by decide +kernel
theorem dX0_wordAt_1 : decode cX0_wordAt 1 = .ok (.ifCond .lt 17, 3) := by decide +kernel
theorem dX0_wordAt_4 : decode cX0_wordAt 4 = .ok (.iload_n 1, 1) := by decide +kernel
theorem dX0_wordAt_5 : decode cX0_wordAt 5 = .ok (.iconst 5, 1) := by decide +kernel
theorem dX0_wordAt_6 : decode cX0_wordAt 6 = .ok (.if_icmp .ge 12, 3) := by decide +kernel
theorem dX0_wordAt_9 : decode cX0_wordAt 9 = .ok (.aload_n 0, 1) := by decide +kernel
theorem dX0_wordAt_10 : decode cX0_wordAt 10 = .ok (.getfield 33, 3) := by decide +kernel
theorem dX0_wordAt_13 : decode cX0_wordAt 13 = .ok (.iload_n 1, 1) := by decide +kernel
theorem dX0_wordAt_14 : decode cX0_wordAt 14 = .ok (.laload, 1) := by decide +kernel
theorem dX0_wordAt_15 : decode cX0_wordAt 15 = .ok (.goto 4, 3) := by decide +kernel
theorem dX0_wordAt_18 : decode cX0_wordAt 18 = .ok (.lconst 0, 1) := by decide +kernel
theorem dX0_wordAt_19 : decode cX0_wordAt 19 = .ok (.lreturn, 1) := by decide +kernel
theorem dX0_turnToField_0 : decode cX0_turnToField 0 = .ok (.aload_n 0, 1) := by decide +kernel
theorem dX0_turnToField_1 : decode cX0_turnToField 1 = .ok (.aload_n 0, 1) := by decide +kernel
theorem dX0_turnToField_2 : decode cX0_turnToField 2 = .ok (.getfield 33, 3) := by decide +kernel
theorem dX0_turnToField_5 : decode cX0_turnToField 5 = .ok (.iconst 0, 1) := by decide +kernel
theorem dX0_turnToField_6 : decode cX0_turnToField 6 = .ok (.laload, 1) := by decide +kernel
theorem dX0_turnToField_7 : decode cX0_turnToField 7 = .ok (.iconst 0, 1) := by decide +kernel
theorem dX0_turnToField_8 : decode cX0_turnToField 8 = .ok (.invokestatic 43, 3) := by decide +kernel
theorem dX0_turnToField_11 : decode cX0_turnToField 11 = .ok (.bipush 97, 2) := by decide +kernel
theorem dX0_turnToField_13 : decode cX0_turnToField 13 = .ok (.isub, 1) := by decide +kernel
theorem dX0_turnToField_14 : decode cX0_turnToField 14 = .ok (.putfield 21, 3) := by decide +kernel
theorem dX0_turnToField_17 : decode cX0_turnToField 17 = .ok (.aload_n 0, 1) := by decide +kernel
theorem dX0_turnToField_18 : decode cX0_turnToField 18 = .ok (.getfield 33, 3) := by decide +kernel
theorem dX0_turnToField_21 : decode cX0_turnToField 21 = .ok (.iconst 0, 1) := by decide +kernel
theorem dX0_turnToField_22 : decode cX0_turnToField 22 = .ok (.lconst 0, 1) := by decide +kernel
theorem dX0_turnToField_23 : decode cX0_turnToField 23 = .ok (.lastore, 1) := by decide +kernel
theorem dX0_turnToField_24 : decode cX0_turnToField 24 = .ok (.aload_n 0, 1) := by decide +kernel
theorem dX0_turnToField_25 : decode cX0_turnToField 25 = .ok (.iconst 0, 1) := by decide +kernel
theorem dX0_turnToField_26 : decode cX0_turnToField 26 = .ok (.putfield 27, 3) := by decide +kernel
theorem dX0_turnToField_29 : decode cX0_turnToField 29 = .ok (.return_, 1) := by decide +kernel
theorem dX1_init_0 : decode cX1_init 0 = .ok (.aload_n 0, 1) := by decide +kernel
theorem dX1_init_1 : decode cX1_init 1 = .ok (.invokespecial 3, 3) := by decide +kernel
theorem dX1_init_4 : decode cX1_init 4 = .ok (.aload_n 0, 1) := by decide +kernel
theorem dX1_init_5 : decode cX1_init 5 = .ok (.new 9, 3) := by decide +kernel
theorem dX1_init_8 : decode cX1_init 8 = .ok (.dup, 1) := by decide +kernel
theorem dX1_init_9 : decode cX1_init 9 = .ok (.invokespecial 11, 3) := by decide +kernel
theorem dX1_init_12 : decode cX1_init 12 = .ok (.putfield 12, 3) := by decide +kernel
theorem dX1_init_15 : decode cX1_init 15 = .ok (.aload_n 0, 1) := by decide +kernel
theorem dX1_init_16 : decode cX1_init 16 = .ok (.new 18, 3) := by decide +kernel
theorem dX1_init_19 : decode cX1_init 19 = .ok (.dup, 1) := by decide +kernel
theorem dX1_init_20 : decode cX1_init 20 = .ok (.invokespecial 20, 3) := by decide +kernel
theorem dX1_init_23 : decode cX1_init 23 = .ok (.putfield 21, 3) := by decide +kernel
theorem dX1_init_26 : decode cX1_init 26 = .ok (.aload_n 0, 1) := by decide +kernel
theorem dX1_init_27 : decode cX1_init 27 = .ok (.bipush 25, 2) := by decide +kernel
theorem dX1_init_29 : decode cX1_init 29 = .ok (.newarray .long, 2) := by decide +kernel
theorem dX1_init_31 : decode cX1_init 31 = .ok (.putfield 25, 3) := by decide +kernel
theorem dX1_init_34 : decode cX1_init 34 = .ok (.return_, 1) := by decide +kernel
theorem dX1_weigh_0 : decode cX1_weigh 0 = .ok (.aload_n 1, 1) := by decide +kernel
theorem dX1_weigh_1 : decode cX1_weigh 1 = .ok (.getfield 29, 3) := by decide +kernel
theorem dX1_weigh_4 : decode cX1_weigh 4 = .ok (.iconst 1, 1) := by decide +kernel
theorem dX1_weigh_5 : decode cX1_weigh 5 = .ok (.isub, 1) := by decide +kernel
theorem dX1_weigh_6 : decode cX1_weigh 6 = .ok (.istore 4, 2) := by decide +kernel
theorem dX1_weigh_8 : decode cX1_weigh 8 = .ok (.iload 4, 2) := by decide +kernel
theorem dX1_weigh_10 : decode cX1_weigh 10 = .ok (.iload_n 2, 1) := by decide +kernel
theorem dX1_weigh_11 : decode cX1_weigh 11 = .ok (.if_icmp .lt 90, 3) := by decide +kernel
theorem dX1_weigh_14 : decode cX1_weigh 14 = .ok (.iload 4, 2) := by decide +kernel
theorem dX1_weigh_16 : decode cX1_weigh 16 = .ok (.ifCond .lt 85, 3) := by decide +kernel
theorem dX1_weigh_19 : decode cX1_weigh 19 = .ok (.aload_n 1, 1) := by decide +kernel
theorem dX1_weigh_20 : decode cX1_weigh 20 = .ok (.iload 4, 2) := by decide +kernel
theorem dX1_weigh_22 : decode cX1_weigh 22 = .ok (.invokevirtual 35, 3) := by decide +kernel
theorem dX1_weigh_25 : decode cX1_weigh 25 = .ok (.astore 5, 2) := by decide +kernel
theorem dX1_weigh_27 : decode cX1_weigh 27 = .ok (.aload 5, 2) := by decide +kernel
theorem dX1_weigh_29 : decode cX1_weigh 29 = .ok (.getfield 39, 3) := by decide +kernel
theorem dX1_weigh_32 : decode cX1_weigh 32 = .ok (.iconst 3, 1) := by decide +kernel
theorem dX1_weigh_33 : decode cX1_weigh 33 = .ok (.if_icmp .ne 19, 3) := by decide +kernel
theorem dX1_weigh_36 : decode cX1_weigh 36 = .ok (.aload_n 0, 1) := by decide +kernel
theorem dX1_weigh_37 : decode cX1_weigh 37 = .ok (.iload 4, 2) := by decide +kernel
theorem dX1_weigh_39 : decode cX1_weigh 39 = .ok (.aload_n 0, 1) := by decide +kernel
theorem dX1_weigh_40 : decode cX1_weigh 40 = .ok (.aload_n 1, 1) := by decide +kernel
theorem dX1_weigh_41 : decode cX1_weigh 41 = .ok (.iload 4, 2) := by decide +kernel
theorem dX1_weigh_43 : decode cX1_weigh 43 = .ok (.invokevirtual 44, 3) := by decide +kernel
theorem dX1_weigh_46 : decode cX1_weigh 46 = .ok (.invokevirtual 48, 3) := by decide +kernel
theorem dX1_weigh_49 : decode cX1_weigh 49 = .ok (.goto 46, 3) := by decide +kernel
theorem dX1_weigh_52 : decode cX1_weigh 52 = .ok (.aload_n 0, 1) := by decide +kernel
theorem dX1_weigh_53 : decode cX1_weigh 53 = .ok (.aload 5, 2) := by decide +kernel
theorem dX1_weigh_55 : decode cX1_weigh 55 = .ok (.aload_n 1, 1) := by decide +kernel
theorem dX1_weigh_56 : decode cX1_weigh 56 = .ok (.iload 4, 2) := by decide +kernel
theorem dX1_weigh_58 : decode cX1_weigh 58 = .ok (.invokevirtual 52, 3) := by decide +kernel
theorem dX1_weigh_61 : decode cX1_weigh 61 = .ok (.iload_n 3, 1) := by decide +kernel
theorem dX1_weigh_62 : decode cX1_weigh 62 = .ok (.invokevirtual 56, 3) := by decide +kernel
theorem dX1_weigh_65 : decode cX1_weigh 65 = .ok (.lstore 6, 2) := by decide +kernel
theorem dX1_weigh_67 : decode cX1_weigh 67 = .ok (.aload_n 0, 1) := by decide +kernel
theorem dX1_weigh_68 : decode cX1_weigh 68 = .ok (.iload 4, 2) := by decide +kernel
theorem dX1_weigh_70 : decode cX1_weigh 70 = .ok (.lload 6, 2) := by decide +kernel
theorem dX1_weigh_72 : decode cX1_weigh 72 = .ok (.lconst 0, 1) := by decide +kernel
theorem dX1_weigh_73 : decode cX1_weigh 73 = .ok (.lcmp, 1) := by decide +kernel
theorem dX1_weigh_74 : decode cX1_weigh 74 = .ok (.ifCond .ne 9, 3) := by decide +kernel
theorem dX1_weigh_77 : decode cX1_weigh 77 = .ok (.ldc2_w 60, 3) := by decide +kernel
theorem dX1_weigh_80 : decode cX1_weigh 80 = .ok (.goto 12, 3) := by decide +kernel
theorem dX1_weigh_83 : decode cX1_weigh 83 = .ok (.aload 5, 2) := by decide +kernel
theorem dX1_weigh_85 : decode cX1_weigh 85 = .ok (.getfield 62, 3) := by decide +kernel
theorem dX1_weigh_88 : decode cX1_weigh 88 = .ok (.i2l, 1) := by decide +kernel
theorem dX1_weigh_89 : decode cX1_weigh 89 = .ok (.lload 6, 2) := by decide +kernel
theorem dX1_weigh_91 : decode cX1_weigh 91 = .ok (.lmul, 1) := by decide +kernel
theorem dX1_weigh_92 : decode cX1_weigh 92 = .ok (.invokevirtual 48, 3) := by decide +kernel
theorem dX1_weigh_95 : decode cX1_weigh 95 = .ok (.iinc 4 (-1), 3) := by decide +kernel
theorem dX1_weigh_98 : decode cX1_weigh 98 = .ok (.goto (-90), 3) := by decide +kernel
theorem dX1_weigh_101 : decode cX1_weigh 101 = .ok (.aload_n 0, 1) := by decide +kernel
theorem dX1_weigh_102 : decode cX1_weigh 102 = .ok (.iload_n 2, 1) := by decide +kernel
theorem dX1_weigh_103 : decode cX1_weigh 103 = .ok (.invokevirtual 65, 3) := by decide +kernel
theorem dX1_weigh_106 : decode cX1_weigh 106 = .ok (.lreturn, 1) := by decide +kernel
theorem dX1_setValue_0 : decode cX1_setValue 0 = .ok (.iload_n 1, 1) := by decide +kernel
theorem dX1_setValue_1 : decode cX1_setValue 1 = .ok (.ifCond .lt 19, 3) := by decide +kernel
theorem dX1_setValue_4 : decode cX1_setValue 4 = .ok (.iload_n 1, 1) := by decide +kernel
theorem dX1_setValue_5 : decode cX1_setValue 5 = .ok (.aload_n 0, 1) := by decide +kernel
theorem dX1_setValue_6 : decode cX1_setValue 6 = .ok (.getfield 25, 3) := by decide +kernel
theorem dX1_setValue_9 : decode cX1_setValue 9 = .ok (.arraylength, 1) := by decide +kernel
theorem dX1_setValue_10 : decode cX1_setValue 10 = .ok (.if_icmp .ge 10, 3) := by decide +kernel
theorem dX1_setValue_13 : decode cX1_setValue 13 = .ok (.aload_n 0, 1) := by decide +kernel
theorem dX1_setValue_14 : decode cX1_setValue 14 = .ok (.getfield 25, 3) := by decide +kernel
theorem dX1_setValue_17 : decode cX1_setValue 17 = .ok (.iload_n 1, 1) := by decide +kernel
theorem dX1_setValue_18 : decode cX1_setValue 18 = .ok (.lload_n 2, 1) := by decide +kernel
theorem dX1_setValue_19 : decode cX1_setValue 19 = .ok (.lastore, 1) := by decide +kernel
theorem dX1_setValue_20 : decode cX1_setValue 20 = .ok (.return_, 1) := by decide +kernel
theorem dX1_valueAt_0 : decode cX1_valueAt 0 = .ok (.iload_n 1, 1) := by decide +kernel
theorem dX1_valueAt_1 : decode cX1_valueAt 1 = .ok (.ifCond .lt 21, 3) := by decide +kernel
theorem dX1_valueAt_4 : decode cX1_valueAt 4 = .ok (.iload_n 1, 1) := by decide +kernel
theorem dX1_valueAt_5 : decode cX1_valueAt 5 = .ok (.aload_n 0, 1) := by decide +kernel
theorem dX1_valueAt_6 : decode cX1_valueAt 6 = .ok (.getfield 25, 3) := by decide +kernel
theorem dX1_valueAt_9 : decode cX1_valueAt 9 = .ok (.arraylength, 1) := by decide +kernel
theorem dX1_valueAt_10 : decode cX1_valueAt 10 = .ok (.if_icmp .ge 12, 3) := by decide +kernel
theorem dX1_valueAt_13 : decode cX1_valueAt 13 = .ok (.aload_n 0, 1) := by decide +kernel
theorem dX1_valueAt_14 : decode cX1_valueAt 14 = .ok (.getfield 25, 3) := by decide +kernel
theorem dX1_valueAt_17 : decode cX1_valueAt 17 = .ok (.iload_n 1, 1) := by decide +kernel
theorem dX1_valueAt_18 : decode cX1_valueAt 18 = .ok (.laload, 1) := by decide +kernel
theorem dX1_valueAt_19 : decode cX1_valueAt 19 = .ok (.goto 6, 3) := by decide +kernel
theorem dX1_valueAt_22 : decode cX1_valueAt 22 = .ok (.ldc2_w 60, 3) := by decide +kernel
theorem dX1_valueAt_25 : decode cX1_valueAt 25 = .ok (.lreturn, 1) := by decide +kernel
theorem dX1_groupValue_0 : decode cX1_groupValue 0 = .ok (.lconst 0, 1) := by decide +kernel
theorem dX1_groupValue_1 : decode cX1_groupValue 1 = .ok (.lstore_n 3, 1) := by decide +kernel
theorem dX1_groupValue_2 : decode cX1_groupValue 2 = .ok (.iconst 0, 1) := by decide +kernel
theorem dX1_groupValue_3 : decode cX1_groupValue 3 = .ok (.istore 5, 2) := by decide +kernel
theorem dX1_groupValue_5 : decode cX1_groupValue 5 = .ok (.iconst 0, 1) := by decide +kernel
theorem dX1_groupValue_6 : decode cX1_groupValue 6 = .ok (.istore 6, 2) := by decide +kernel
theorem dX1_groupValue_8 : decode cX1_groupValue 8 = .ok (.iconst 0, 1) := by decide +kernel
theorem dX1_groupValue_9 : decode cX1_groupValue 9 = .ok (.istore 7, 2) := by decide +kernel
theorem dX1_groupValue_11 : decode cX1_groupValue 11 = .ok (.iload_n 2, 1) := by decide +kernel
theorem dX1_groupValue_12 : decode cX1_groupValue 12 = .ok (.iconst 1, 1) := by decide +kernel
theorem dX1_groupValue_13 : decode cX1_groupValue 13 = .ok (.iadd, 1) := by decide +kernel
theorem dX1_groupValue_14 : decode cX1_groupValue 14 = .ok (.istore 8, 2) := by decide +kernel
theorem dX1_groupValue_16 : decode cX1_groupValue 16 = .ok (.iload 8, 2) := by decide +kernel
theorem dX1_groupValue_18 : decode cX1_groupValue 18 = .ok (.aload_n 1, 1) := by decide +kernel
theorem dX1_groupValue_19 : decode cX1_groupValue 19 = .ok (.getfield 29, 3) := by decide +kernel
theorem dX1_groupValue_22 : decode cX1_groupValue 22 = .ok (.if_icmp .ge 128, 3) := by decide +kernel
theorem dX1_groupValue_25 : decode cX1_groupValue 25 = .ok (.aload_n 1, 1) := by decide +kernel
theorem dX1_groupValue_26 : decode cX1_groupValue 26 = .ok (.iload 8, 2) := by decide +kernel
theorem dX1_groupValue_28 : decode cX1_groupValue 28 = .ok (.invokevirtual 35, 3) := by decide +kernel
theorem dX1_groupValue_31 : decode cX1_groupValue 31 = .ok (.astore 9, 2) := by decide +kernel
theorem dX1_groupValue_33 : decode cX1_groupValue 33 = .ok (.aload 9, 2) := by decide +kernel
theorem dX1_groupValue_35 : decode cX1_groupValue 35 = .ok (.getfield 69, 3) := by decide +kernel
theorem dX1_groupValue_38 : decode cX1_groupValue 38 = .ok (.iload_n 2, 1) := by decide +kernel
theorem dX1_groupValue_39 : decode cX1_groupValue 39 = .ok (.if_icmp .ne 105, 3) := by decide +kernel
theorem dX1_groupValue_42 : decode cX1_groupValue 42 = .ok (.aload_n 0, 1) := by decide +kernel
theorem dX1_groupValue_43 : decode cX1_groupValue 43 = .ok (.iload 8, 2) := by decide +kernel
theorem dX1_groupValue_45 : decode cX1_groupValue 45 = .ok (.invokevirtual 65, 3) := by decide +kernel
theorem dX1_groupValue_48 : decode cX1_groupValue 48 = .ok (.lstore 10, 2) := by decide +kernel
theorem dX1_groupValue_50 : decode cX1_groupValue 50 = .ok (.aload 9, 2) := by decide +kernel
theorem dX1_groupValue_52 : decode cX1_groupValue 52 = .ok (.getfield 72, 3) := by decide +kernel
theorem dX1_groupValue_55 : decode cX1_groupValue 55 = .ok (.lload 10, 2) := by decide +kernel
theorem dX1_groupValue_57 : decode cX1_groupValue 57 = .ok (.invokestatic 75, 3) := by decide +kernel
theorem dX1_groupValue_60 : decode cX1_groupValue 60 = .ok (.ifCond .eq 7, 3) := by decide +kernel
theorem dX1_groupValue_63 : decode cX1_groupValue 63 = .ok (.ldc2_w 60, 3) := by decide +kernel
theorem dX1_groupValue_66 : decode cX1_groupValue 66 = .ok (.lreturn, 1) := by decide +kernel
theorem dX1_groupValue_67 : decode cX1_groupValue 67 = .ok (.iload 5, 2) := by decide +kernel
theorem dX1_groupValue_69 : decode cX1_groupValue 69 = .ok (.ifCond .ne 12, 3) := by decide +kernel
theorem dX1_groupValue_72 : decode cX1_groupValue 72 = .ok (.aload 9, 2) := by decide +kernel
theorem dX1_groupValue_74 : decode cX1_groupValue 74 = .ok (.getfield 72, 3) := by decide +kernel
theorem dX1_groupValue_77 : decode cX1_groupValue 77 = .ok (.iconst 1, 1) := by decide +kernel
theorem dX1_groupValue_78 : decode cX1_groupValue 78 = .ok (.if_icmp .ne 7, 3) := by decide +kernel
theorem dX1_groupValue_81 : decode cX1_groupValue 81 = .ok (.iconst 1, 1) := by decide +kernel
theorem dX1_groupValue_82 : decode cX1_groupValue 82 = .ok (.goto 4, 3) := by decide +kernel
theorem dX1_groupValue_85 : decode cX1_groupValue 85 = .ok (.iconst 0, 1) := by decide +kernel
theorem dX1_groupValue_86 : decode cX1_groupValue 86 = .ok (.istore 5, 2) := by decide +kernel
theorem dX1_groupValue_88 : decode cX1_groupValue 88 = .ok (.iload 6, 2) := by decide +kernel
theorem dX1_groupValue_90 : decode cX1_groupValue 90 = .ok (.ifCond .ne 11, 3) := by decide +kernel
theorem dX1_groupValue_93 : decode cX1_groupValue 93 = .ok (.aload 9, 2) := by decide +kernel
theorem dX1_groupValue_95 : decode cX1_groupValue 95 = .ok (.getfield 72, 3) := by decide +kernel
theorem dX1_groupValue_98 : decode cX1_groupValue 98 = .ok (.ifCond .ne 7, 3) := by decide +kernel
theorem dX1_groupValue_101 : decode cX1_groupValue 101 = .ok (.iconst 1, 1) := by decide +kernel
theorem dX1_groupValue_102 : decode cX1_groupValue 102 = .ok (.goto 4, 3) := by decide +kernel
theorem dX1_groupValue_105 : decode cX1_groupValue 105 = .ok (.iconst 0, 1) := by decide +kernel
theorem dX1_groupValue_106 : decode cX1_groupValue 106 = .ok (.istore 6, 2) := by decide +kernel
theorem dX1_groupValue_108 : decode cX1_groupValue 108 = .ok (.iload 7, 2) := by decide +kernel
theorem dX1_groupValue_110 : decode cX1_groupValue 110 = .ok (.aload 9, 2) := by decide +kernel
theorem dX1_groupValue_112 : decode cX1_groupValue 112 = .ok (.getfield 72, 3) := by decide +kernel
theorem dX1_groupValue_115 : decode cX1_groupValue 115 = .ok (.ifCond .ne 16, 3) := by decide +kernel
theorem dX1_groupValue_118 : decode cX1_groupValue 118 = .ok (.lload 10, 2) := by decide +kernel
theorem dX1_groupValue_120 : decode cX1_groupValue 120 = .ok (.ldc2_w 60, 3) := by decide +kernel
theorem dX1_groupValue_123 : decode cX1_groupValue 123 = .ok (.lcmp, 1) := by decide +kernel
theorem dX1_groupValue_124 : decode cX1_groupValue 124 = .ok (.ifCond .eq 7, 3) := by decide +kernel
theorem dX1_groupValue_127 : decode cX1_groupValue 127 = .ok (.iconst 1, 1) := by decide +kernel
theorem dX1_groupValue_128 : decode cX1_groupValue 128 = .ok (.goto 4, 3) := by decide +kernel
theorem dX1_groupValue_131 : decode cX1_groupValue 131 = .ok (.iconst 0, 1) := by decide +kernel
theorem dX1_groupValue_132 : decode cX1_groupValue 132 = .ok (.iadd, 1) := by decide +kernel
theorem dX1_groupValue_133 : decode cX1_groupValue 133 = .ok (.istore 7, 2) := by decide +kernel
theorem dX1_groupValue_135 : decode cX1_groupValue 135 = .ok (.lload_n 3, 1) := by decide +kernel
theorem dX1_groupValue_136 : decode cX1_groupValue 136 = .ok (.lconst 0, 1) := by decide +kernel
theorem dX1_groupValue_137 : decode cX1_groupValue 137 = .ok (.lload 10, 2) := by decide +kernel
theorem dX1_groupValue_139 : decode cX1_groupValue 139 = .ok (.invokestatic 79, 3) := by decide +kernel
theorem dX1_groupValue_142 : decode cX1_groupValue 142 = .ok (.ladd, 1) := by decide +kernel
theorem dX1_groupValue_143 : decode cX1_groupValue 143 = .ok (.lstore_n 3, 1) := by decide +kernel
theorem dX1_groupValue_144 : decode cX1_groupValue 144 = .ok (.iinc 8 1, 3) := by decide +kernel
theorem dX1_groupValue_147 : decode cX1_groupValue 147 = .ok (.goto (-131), 3) := by decide +kernel
theorem dX1_groupValue_150 : decode cX1_groupValue 150 = .ok (.aload_n 1, 1) := by decide +kernel
theorem dX1_groupValue_151 : decode cX1_groupValue 151 = .ok (.iload_n 2, 1) := by decide +kernel
theorem dX1_groupValue_152 : decode cX1_groupValue 152 = .ok (.invokevirtual 35, 3) := by decide +kernel
theorem dX1_groupValue_155 : decode cX1_groupValue 155 = .ok (.astore 8, 2) := by decide +kernel
theorem dX1_groupValue_157 : decode cX1_groupValue 157 = .ok (.iload 5, 2) := by decide +kernel
theorem dX1_groupValue_159 : decode cX1_groupValue 159 = .ok (.ifCond .ne 8, 3) := by decide +kernel
theorem dX1_groupValue_162 : decode cX1_groupValue 162 = .ok (.iload 6, 2) := by decide +kernel
theorem dX1_groupValue_164 : decode cX1_groupValue 164 = .ok (.ifCond .ne 7, 3) := by decide +kernel
theorem dX1_groupValue_167 : decode cX1_groupValue 167 = .ok (.iconst 0, 1) := by decide +kernel
theorem dX1_groupValue_168 : decode cX1_groupValue 168 = .ok (.goto 4, 3) := by decide +kernel
theorem dX1_groupValue_171 : decode cX1_groupValue 171 = .ok (.iconst 1, 1) := by decide +kernel
theorem dX1_groupValue_172 : decode cX1_groupValue 172 = .ok (.istore 9, 2) := by decide +kernel
theorem dX1_groupValue_174 : decode cX1_groupValue 174 = .ok (.aload 8, 2) := by decide +kernel
theorem dX1_groupValue_176 : decode cX1_groupValue 176 = .ok (.getfield 85, 3) := by decide +kernel
theorem dX1_groupValue_179 : decode cX1_groupValue 179 = .ok (.iconst (-1), 1) := by decide +kernel
theorem dX1_groupValue_180 : decode cX1_groupValue 180 = .ok (.if_icmp .ne 8, 3) := by decide +kernel
theorem dX1_groupValue_183 : decode cX1_groupValue 183 = .ok (.iload 9, 2) := by decide +kernel
theorem dX1_groupValue_185 : decode cX1_groupValue 185 = .ok (.goto 8, 3) := by decide +kernel
theorem dX1_groupValue_188 : decode cX1_groupValue 188 = .ok (.aload 8, 2) := by decide +kernel
theorem dX1_groupValue_190 : decode cX1_groupValue 190 = .ok (.getfield 85, 3) := by decide +kernel
theorem dX1_groupValue_193 : decode cX1_groupValue 193 = .ok (.istore 10, 2) := by decide +kernel
theorem dX1_groupValue_195 : decode cX1_groupValue 195 = .ok (.iload 7, 2) := by decide +kernel
theorem dX1_groupValue_197 : decode cX1_groupValue 197 = .ok (.iload 10, 2) := by decide +kernel
theorem dX1_groupValue_199 : decode cX1_groupValue 199 = .ok (.if_icmp .ge 9, 3) := by decide +kernel
theorem dX1_groupValue_202 : decode cX1_groupValue 202 = .ok (.ldc2_w 60, 3) := by decide +kernel
theorem dX1_groupValue_205 : decode cX1_groupValue 205 = .ok (.goto 11, 3) := by decide +kernel
theorem dX1_groupValue_208 : decode cX1_groupValue 208 = .ok (.aload 8, 2) := by decide +kernel
theorem dX1_groupValue_210 : decode cX1_groupValue 210 = .ok (.getfield 62, 3) := by decide +kernel
theorem dX1_groupValue_213 : decode cX1_groupValue 213 = .ok (.i2l, 1) := by decide +kernel
theorem dX1_groupValue_214 : decode cX1_groupValue 214 = .ok (.lload_n 3, 1) := by decide +kernel
theorem dX1_groupValue_215 : decode cX1_groupValue 215 = .ok (.lmul, 1) := by decide +kernel
theorem dX1_groupValue_216 : decode cX1_groupValue 216 = .ok (.lreturn, 1) := by decide +kernel
theorem dX1_isFault_0 : decode cX1_isFault 0 = .ok (.iload_n 0, 1) := by decide +kernel
theorem dX1_isFault_1 : decode cX1_isFault 1 = .ok (.iconst 1, 1) := by decide +kernel
theorem dX1_isFault_2 : decode cX1_isFault 2 = .ok (.if_icmp .ne 11, 3) := by decide +kernel
theorem dX1_isFault_5 : decode cX1_isFault 5 = .ok (.lload_n 1, 1) := by decide +kernel
theorem dX1_isFault_6 : decode cX1_isFault 6 = .ok (.ldc2_w 60, 3) := by decide +kernel
theorem dX1_isFault_9 : decode cX1_isFault 9 = .ok (.lcmp, 1) := by decide +kernel
theorem dX1_isFault_10 : decode cX1_isFault 10 = .ok (.ifCond .eq 16, 3) := by decide +kernel
theorem dX1_isFault_13 : decode cX1_isFault 13 = .ok (.iload_n 0, 1) := by decide +kernel
theorem dX1_isFault_14 : decode cX1_isFault 14 = .ok (.iconst 2, 1) := by decide +kernel
theorem dX1_isFault_15 : decode cX1_isFault 15 = .ok (.if_icmp .ne 15, 3) := by decide +kernel
theorem dX1_isFault_18 : decode cX1_isFault 18 = .ok (.lload_n 1, 1) := by decide +kernel
theorem dX1_isFault_19 : decode cX1_isFault 19 = .ok (.ldc2_w 60, 3) := by decide +kernel
theorem dX1_isFault_22 : decode cX1_isFault 22 = .ok (.lcmp, 1) := by decide +kernel
theorem dX1_isFault_23 : decode cX1_isFault 23 = .ok (.ifCond .eq 7, 3) := by decide +kernel
theorem dX1_isFault_26 : decode cX1_isFault 26 = .ok (.iconst 1, 1) := by decide +kernel
theorem dX1_isFault_27 : decode cX1_isFault 27 = .ok (.goto 4, 3) := by decide +kernel
theorem dX1_isFault_30 : decode cX1_isFault 30 = .ok (.iconst 0, 1) := by decide +kernel
theorem dX1_isFault_31 : decode cX1_isFault 31 = .ok (.ireturn, 1) := by decide +kernel
theorem dX1_firstFault_0 : decode cX1_firstFault 0 = .ok (.iconst 1, 1) := by decide +kernel
theorem dX1_firstFault_1 : decode cX1_firstFault 1 = .ok (.istore_n 3, 1) := by decide +kernel
theorem dX1_firstFault_2 : decode cX1_firstFault 2 = .ok (.iload_n 3, 1) := by decide +kernel
theorem dX1_firstFault_3 : decode cX1_firstFault 3 = .ok (.aload_n 1, 1) := by decide +kernel
theorem dX1_firstFault_4 : decode cX1_firstFault 4 = .ok (.getfield 29, 3) := by decide +kernel
theorem dX1_firstFault_7 : decode cX1_firstFault 7 = .ok (.if_icmp .ge 47, 3) := by decide +kernel
theorem dX1_firstFault_10 : decode cX1_firstFault 10 = .ok (.aload_n 1, 1) := by decide +kernel
theorem dX1_firstFault_11 : decode cX1_firstFault 11 = .ok (.iload_n 3, 1) := by decide +kernel
theorem dX1_firstFault_12 : decode cX1_firstFault 12 = .ok (.invokevirtual 35, 3) := by decide +kernel
theorem dX1_firstFault_15 : decode cX1_firstFault 15 = .ok (.astore 4, 2) := by decide +kernel
theorem dX1_firstFault_17 : decode cX1_firstFault 17 = .ok (.aload 4, 2) := by decide +kernel
theorem dX1_firstFault_19 : decode cX1_firstFault 19 = .ok (.getfield 69, 3) := by decide +kernel
theorem dX1_firstFault_22 : decode cX1_firstFault 22 = .ok (.ifCond .ne 26, 3) := by decide +kernel
theorem dX1_firstFault_25 : decode cX1_firstFault 25 = .ok (.aload 4, 2) := by decide +kernel
theorem dX1_firstFault_27 : decode cX1_firstFault 27 = .ok (.getfield 72, 3) := by decide +kernel
theorem dX1_firstFault_30 : decode cX1_firstFault 30 = .ok (.iload_n 2, 1) := by decide +kernel
theorem dX1_firstFault_31 : decode cX1_firstFault 31 = .ok (.if_icmp .ne 17, 3) := by decide +kernel
theorem dX1_firstFault_34 : decode cX1_firstFault 34 = .ok (.iload_n 2, 1) := by decide +kernel
theorem dX1_firstFault_35 : decode cX1_firstFault 35 = .ok (.aload_n 0, 1) := by decide +kernel
theorem dX1_firstFault_36 : decode cX1_firstFault 36 = .ok (.iload_n 3, 1) := by decide +kernel
theorem dX1_firstFault_37 : decode cX1_firstFault 37 = .ok (.invokevirtual 65, 3) := by decide +kernel
theorem dX1_firstFault_40 : decode cX1_firstFault 40 = .ok (.invokestatic 75, 3) := by decide +kernel
theorem dX1_firstFault_43 : decode cX1_firstFault 43 = .ok (.ifCond .eq 5, 3) := by decide +kernel
theorem dX1_firstFault_46 : decode cX1_firstFault 46 = .ok (.iload_n 3, 1) := by decide +kernel
theorem dX1_firstFault_47 : decode cX1_firstFault 47 = .ok (.ireturn, 1) := by decide +kernel
theorem dX1_firstFault_48 : decode cX1_firstFault 48 = .ok (.iinc 3 1, 3) := by decide +kernel
theorem dX1_firstFault_51 : decode cX1_firstFault 51 = .ok (.goto (-49), 3) := by decide +kernel
theorem dX1_firstFault_54 : decode cX1_firstFault 54 = .ok (.iconst 0, 1) := by decide +kernel
theorem dX1_firstFault_55 : decode cX1_firstFault 55 = .ok (.ireturn, 1) := by decide +kernel
theorem dX1_countFits_0 : decode cX1_countFits 0 = .ok (.lconst 0, 1) := by decide +kernel
theorem dX1_countFits_1 : decode cX1_countFits 1 = .ok (.lstore 4, 2) := by decide +kernel
theorem dX1_countFits_3 : decode cX1_countFits 3 = .ok (.iconst 0, 1) := by decide +kernel
theorem dX1_countFits_4 : decode cX1_countFits 4 = .ok (.istore 6, 2) := by decide +kernel
theorem dX1_countFits_6 : decode cX1_countFits 6 = .ok (.iload 6, 2) := by decide +kernel
theorem dX1_countFits_8 : decode cX1_countFits 8 = .ok (.iconst 4, 1) := by decide +kernel
theorem dX1_countFits_9 : decode cX1_countFits 9 = .ok (.if_icmp .ge 54, 3) := by decide +kernel
theorem dX1_countFits_12 : decode cX1_countFits 12 = .ok (.iload_n 2, 1) := by decide +kernel
theorem dX1_countFits_13 : decode cX1_countFits 13 = .ok (.iconst (-1), 1) := by decide +kernel
theorem dX1_countFits_14 : decode cX1_countFits 14 = .ok (.if_icmp .eq 9, 3) := by decide +kernel
theorem dX1_countFits_17 : decode cX1_countFits 17 = .ok (.iload_n 2, 1) := by decide +kernel
theorem dX1_countFits_18 : decode cX1_countFits 18 = .ok (.iload 6, 2) := by decide +kernel
theorem dX1_countFits_20 : decode cX1_countFits 20 = .ok (.if_icmp .ne 37, 3) := by decide +kernel
theorem dX1_countFits_23 : decode cX1_countFits 23 = .ok (.lload 4, 2) := by decide +kernel
theorem dX1_countFits_25 : decode cX1_countFits 25 = .ok (.aload_n 1, 1) := by decide +kernel
theorem dX1_countFits_26 : decode cX1_countFits 26 = .ok (.getfield 39, 3) := by decide +kernel
theorem dX1_countFits_29 : decode cX1_countFits 29 = .ok (.iconst 1, 1) := by decide +kernel
theorem dX1_countFits_30 : decode cX1_countFits 30 = .ok (.if_icmp .ne 15, 3) := by decide +kernel
theorem dX1_countFits_33 : decode cX1_countFits 33 = .ok (.aload_n 0, 1) := by decide +kernel
theorem dX1_countFits_34 : decode cX1_countFits 34 = .ok (.aload_n 1, 1) := by decide +kernel
theorem dX1_countFits_35 : decode cX1_countFits 35 = .ok (.iload_n 3, 1) := by decide +kernel
theorem dX1_countFits_36 : decode cX1_countFits 36 = .ok (.iload 6, 2) := by decide +kernel
theorem dX1_countFits_38 : decode cX1_countFits 38 = .ok (.invokevirtual 88, 3) := by decide +kernel
theorem dX1_countFits_41 : decode cX1_countFits 41 = .ok (.i2l, 1) := by decide +kernel
theorem dX1_countFits_42 : decode cX1_countFits 42 = .ok (.goto 12, 3) := by decide +kernel
theorem dX1_countFits_45 : decode cX1_countFits 45 = .ok (.aload_n 0, 1) := by decide +kernel
theorem dX1_countFits_46 : decode cX1_countFits 46 = .ok (.aload_n 1, 1) := by decide +kernel
theorem dX1_countFits_47 : decode cX1_countFits 47 = .ok (.iload_n 3, 1) := by decide +kernel
theorem dX1_countFits_48 : decode cX1_countFits 48 = .ok (.iload 6, 2) := by decide +kernel
theorem dX1_countFits_50 : decode cX1_countFits 50 = .ok (.invokevirtual 92, 3) := by decide +kernel
theorem dX1_countFits_53 : decode cX1_countFits 53 = .ok (.i2l, 1) := by decide +kernel
theorem dX1_countFits_54 : decode cX1_countFits 54 = .ok (.ladd, 1) := by decide +kernel
theorem dX1_countFits_55 : decode cX1_countFits 55 = .ok (.lstore 4, 2) := by decide +kernel
theorem dX1_countFits_57 : decode cX1_countFits 57 = .ok (.iinc 6 1, 3) := by decide +kernel
theorem dX1_countFits_60 : decode cX1_countFits 60 = .ok (.goto (-54), 3) := by decide +kernel
theorem dX1_countFits_63 : decode cX1_countFits 63 = .ok (.lload 4, 2) := by decide +kernel
theorem dX1_countFits_65 : decode cX1_countFits 65 = .ok (.lreturn, 1) := by decide +kernel
theorem dX1_countWords_0 : decode cX1_countWords 0 = .ok (.iconst 0, 1) := by decide +kernel
theorem dX1_countWords_1 : decode cX1_countWords 1 = .ok (.istore 4, 2) := by decide +kernel
theorem dX1_countWords_3 : decode cX1_countWords 3 = .ok (.aload_n 0, 1) := by decide +kernel
theorem dX1_countWords_4 : decode cX1_countWords 4 = .ok (.getfield 12, 3) := by decide +kernel
theorem dX1_countWords_7 : decode cX1_countWords 7 = .ok (.iload_n 2, 1) := by decide +kernel
theorem dX1_countWords_8 : decode cX1_countWords 8 = .ok (.iload_n 3, 1) := by decide +kernel
theorem dX1_countWords_9 : decode cX1_countWords 9 = .ok (.invokevirtual 95, 3) := by decide +kernel
theorem dX1_countWords_12 : decode cX1_countWords 12 = .ok (.istore 5, 2) := by decide +kernel
theorem dX1_countWords_14 : decode cX1_countWords 14 = .ok (.iconst 0, 1) := by decide +kernel
theorem dX1_countWords_15 : decode cX1_countWords 15 = .ok (.istore 6, 2) := by decide +kernel
theorem dX1_countWords_17 : decode cX1_countWords 17 = .ok (.iload 6, 2) := by decide +kernel
theorem dX1_countWords_19 : decode cX1_countWords 19 = .ok (.iload 5, 2) := by decide +kernel
theorem dX1_countWords_21 : decode cX1_countWords 21 = .ok (.if_icmp .ge 34, 3) := by decide +kernel
theorem dX1_countWords_24 : decode cX1_countWords 24 = .ok (.aload_n 0, 1) := by decide +kernel
theorem dX1_countWords_25 : decode cX1_countWords 25 = .ok (.getfield 21, 3) := by decide +kernel
theorem dX1_countWords_28 : decode cX1_countWords 28 = .ok (.aload_n 1, 1) := by decide +kernel
theorem dX1_countWords_29 : decode cX1_countWords 29 = .ok (.aload_n 0, 1) := by decide +kernel
theorem dX1_countWords_30 : decode cX1_countWords 30 = .ok (.getfield 12, 3) := by decide +kernel
theorem dX1_countWords_33 : decode cX1_countWords 33 = .ok (.iload_n 2, 1) := by decide +kernel
theorem dX1_countWords_34 : decode cX1_countWords 34 = .ok (.iload_n 3, 1) := by decide +kernel
theorem dX1_countWords_35 : decode cX1_countWords 35 = .ok (.iload 6, 2) := by decide +kernel
theorem dX1_countWords_37 : decode cX1_countWords 37 = .ok (.invokevirtual 99, 3) := by decide +kernel
theorem dX1_countWords_40 : decode cX1_countWords 40 = .ok (.invokevirtual 103, 3) := by decide +kernel
theorem dX1_countWords_43 : decode cX1_countWords 43 = .ok (.ifCond .eq 6, 3) := by decide +kernel
theorem dX1_countWords_46 : decode cX1_countWords 46 = .ok (.iinc 4 1, 3) := by decide +kernel
theorem dX1_countWords_49 : decode cX1_countWords 49 = .ok (.iinc 6 1, 3) := by decide +kernel
theorem dX1_countWords_52 : decode cX1_countWords 52 = .ok (.goto (-35), 3) := by decide +kernel
theorem dX1_countWords_55 : decode cX1_countWords 55 = .ok (.iload 4, 2) := by decide +kernel
theorem dX1_countWords_57 : decode cX1_countWords 57 = .ok (.ireturn, 1) := by decide +kernel
theorem dX1_countQuotes_0 : decode cX1_countQuotes 0 = .ok (.iconst 0, 1) := by decide +kernel
theorem dX1_countQuotes_1 : decode cX1_countQuotes 1 = .ok (.istore 4, 2) := by decide +kernel
theorem dX1_countQuotes_3 : decode cX1_countQuotes 3 = .ok (.aload_n 0, 1) := by decide +kernel
theorem dX1_countQuotes_4 : decode cX1_countQuotes 4 = .ok (.getfield 12, 3) := by decide +kernel
theorem dX1_countQuotes_7 : decode cX1_countQuotes 7 = .ok (.iload_n 2, 1) := by decide +kernel
theorem dX1_countQuotes_8 : decode cX1_countQuotes 8 = .ok (.iload_n 3, 1) := by decide +kernel
theorem dX1_countQuotes_9 : decode cX1_countQuotes 9 = .ok (.invokevirtual 95, 3) := by decide +kernel
theorem dX1_countQuotes_12 : decode cX1_countQuotes 12 = .ok (.istore 5, 2) := by decide +kernel
theorem dX1_countQuotes_14 : decode cX1_countQuotes 14 = .ok (.iconst 0, 1) := by decide +kernel
theorem dX1_countQuotes_15 : decode cX1_countQuotes 15 = .ok (.istore 6, 2) := by decide +kernel
theorem dX1_countQuotes_17 : decode cX1_countQuotes 17 = .ok (.iload 6, 2) := by decide +kernel
theorem dX1_countQuotes_19 : decode cX1_countQuotes 19 = .ok (.iload 5, 2) := by decide +kernel
theorem dX1_countQuotes_21 : decode cX1_countQuotes 21 = .ok (.if_icmp .ge 44, 3) := by decide +kernel
theorem dX1_countQuotes_24 : decode cX1_countQuotes 24 = .ok (.aload_n 0, 1) := by decide +kernel
theorem dX1_countQuotes_25 : decode cX1_countQuotes 25 = .ok (.getfield 12, 3) := by decide +kernel
theorem dX1_countQuotes_28 : decode cX1_countQuotes 28 = .ok (.iload_n 2, 1) := by decide +kernel
theorem dX1_countQuotes_29 : decode cX1_countQuotes 29 = .ok (.iload_n 3, 1) := by decide +kernel
theorem dX1_countQuotes_30 : decode cX1_countQuotes 30 = .ok (.iload 6, 2) := by decide +kernel
theorem dX1_countQuotes_32 : decode cX1_countQuotes 32 = .ok (.invokevirtual 99, 3) := by decide +kernel
theorem dX1_countQuotes_35 : decode cX1_countQuotes 35 = .ok (.aload_n 1, 1) := by decide +kernel
theorem dX1_countQuotes_36 : decode cX1_countQuotes 36 = .ok (.iconst 0, 1) := by decide +kernel
theorem dX1_countQuotes_37 : decode cX1_countQuotes 37 = .ok (.invokevirtual 107, 3) := by decide +kernel
theorem dX1_countQuotes_40 : decode cX1_countQuotes 40 = .ok (.lcmp, 1) := by decide +kernel
theorem dX1_countQuotes_41 : decode cX1_countQuotes 41 = .ok (.ifCond .ne 18, 3) := by decide +kernel
theorem dX1_countQuotes_44 : decode cX1_countQuotes 44 = .ok (.aload_n 0, 1) := by decide +kernel
theorem dX1_countQuotes_45 : decode cX1_countQuotes 45 = .ok (.aload_n 1, 1) := by decide +kernel
theorem dX1_countQuotes_46 : decode cX1_countQuotes 46 = .ok (.iload_n 2, 1) := by decide +kernel
theorem dX1_countQuotes_47 : decode cX1_countQuotes 47 = .ok (.iload_n 3, 1) := by decide +kernel
theorem dX1_countQuotes_48 : decode cX1_countQuotes 48 = .ok (.iload 6, 2) := by decide +kernel
theorem dX1_countQuotes_50 : decode cX1_countQuotes 50 = .ok (.invokevirtual 109, 3) := by decide +kernel
theorem dX1_countQuotes_53 : decode cX1_countQuotes 53 = .ok (.ifCond .eq 6, 3) := by decide +kernel
theorem dX1_countQuotes_56 : decode cX1_countQuotes 56 = .ok (.iinc 4 1, 3) := by decide +kernel
theorem dX1_countQuotes_59 : decode cX1_countQuotes 59 = .ok (.iinc 6 1, 3) := by decide +kernel
theorem dX1_countQuotes_62 : decode cX1_countQuotes 62 = .ok (.goto (-45), 3) := by decide +kernel
theorem dX1_countQuotes_65 : decode cX1_countQuotes 65 = .ok (.iload 4, 2) := by decide +kernel
theorem dX1_countQuotes_67 : decode cX1_countQuotes 67 = .ok (.ireturn, 1) := by decide +kernel
theorem dX1_quoteStands_0 : decode cX1_quoteStands 0 = .ok (.aload_n 0, 1) := by decide +kernel
theorem dX1_quoteStands_1 : decode cX1_quoteStands 1 = .ok (.getfield 12, 3) := by decide +kernel
theorem dX1_quoteStands_4 : decode cX1_quoteStands 4 = .ok (.iload_n 2, 1) := by decide +kernel
theorem dX1_quoteStands_5 : decode cX1_quoteStands 5 = .ok (.iload_n 3, 1) := by decide +kernel
theorem dX1_quoteStands_6 : decode cX1_quoteStands 6 = .ok (.invokevirtual 95, 3) := by decide +kernel
theorem dX1_quoteStands_9 : decode cX1_quoteStands 9 = .ok (.iconst 1, 1) := by decide +kernel
theorem dX1_quoteStands_10 : decode cX1_quoteStands 10 = .ok (.isub, 1) := by decide +kernel
theorem dX1_quoteStands_11 : decode cX1_quoteStands 11 = .ok (.iload 4, 2) := by decide +kernel
theorem dX1_quoteStands_13 : decode cX1_quoteStands 13 = .ok (.aload_n 1, 1) := by decide +kernel
theorem dX1_quoteStands_14 : decode cX1_quoteStands 14 = .ok (.getfield 113, 3) := by decide +kernel
theorem dX1_quoteStands_17 : decode cX1_quoteStands 17 = .ok (.iadd, 1) := by decide +kernel
theorem dX1_quoteStands_18 : decode cX1_quoteStands 18 = .ok (.iconst 1, 1) := by decide +kernel
theorem dX1_quoteStands_19 : decode cX1_quoteStands 19 = .ok (.isub, 1) := by decide +kernel
theorem dX1_quoteStands_20 : decode cX1_quoteStands 20 = .ok (.aload_n 1, 1) := by decide +kernel
theorem dX1_quoteStands_21 : decode cX1_quoteStands 21 = .ok (.getfield 85, 3) := by decide +kernel
theorem dX1_quoteStands_24 : decode cX1_quoteStands 24 = .ok (.iadd, 1) := by decide +kernel
theorem dX1_quoteStands_25 : decode cX1_quoteStands 25 = .ok (.invokestatic 116, 3) := by decide +kernel
theorem dX1_quoteStands_28 : decode cX1_quoteStands 28 = .ok (.istore 5, 2) := by decide +kernel
theorem dX1_quoteStands_30 : decode cX1_quoteStands 30 = .ok (.iconst 0, 1) := by decide +kernel
theorem dX1_quoteStands_31 : decode cX1_quoteStands 31 = .ok (.istore 6, 2) := by decide +kernel
theorem dX1_quoteStands_33 : decode cX1_quoteStands 33 = .ok (.iload 4, 2) := by decide +kernel
theorem dX1_quoteStands_35 : decode cX1_quoteStands 35 = .ok (.istore 7, 2) := by decide +kernel
theorem dX1_quoteStands_37 : decode cX1_quoteStands 37 = .ok (.iload 7, 2) := by decide +kernel
theorem dX1_quoteStands_39 : decode cX1_quoteStands 39 = .ok (.iload 5, 2) := by decide +kernel
theorem dX1_quoteStands_41 : decode cX1_quoteStands 41 = .ok (.if_icmp .gt 42, 3) := by decide +kernel
theorem dX1_quoteStands_44 : decode cX1_quoteStands 44 = .ok (.iload 6, 2) := by decide +kernel
theorem dX1_quoteStands_46 : decode cX1_quoteStands 46 = .ok (.aload_n 1, 1) := by decide +kernel
theorem dX1_quoteStands_47 : decode cX1_quoteStands 47 = .ok (.getfield 113, 3) := by decide +kernel
theorem dX1_quoteStands_50 : decode cX1_quoteStands 50 = .ok (.if_icmp .ge 33, 3) := by decide +kernel
theorem dX1_quoteStands_53 : decode cX1_quoteStands 53 = .ok (.aload_n 0, 1) := by decide +kernel
theorem dX1_quoteStands_54 : decode cX1_quoteStands 54 = .ok (.getfield 12, 3) := by decide +kernel
theorem dX1_quoteStands_57 : decode cX1_quoteStands 57 = .ok (.iload_n 2, 1) := by decide +kernel
theorem dX1_quoteStands_58 : decode cX1_quoteStands 58 = .ok (.iload_n 3, 1) := by decide +kernel
theorem dX1_quoteStands_59 : decode cX1_quoteStands 59 = .ok (.iload 7, 2) := by decide +kernel
theorem dX1_quoteStands_61 : decode cX1_quoteStands 61 = .ok (.invokevirtual 99, 3) := by decide +kernel
theorem dX1_quoteStands_64 : decode cX1_quoteStands 64 = .ok (.aload_n 1, 1) := by decide +kernel
theorem dX1_quoteStands_65 : decode cX1_quoteStands 65 = .ok (.iload 6, 2) := by decide +kernel
theorem dX1_quoteStands_67 : decode cX1_quoteStands 67 = .ok (.invokevirtual 107, 3) := by decide +kernel
theorem dX1_quoteStands_70 : decode cX1_quoteStands 70 = .ok (.lcmp, 1) := by decide +kernel
theorem dX1_quoteStands_71 : decode cX1_quoteStands 71 = .ok (.ifCond .ne 6, 3) := by decide +kernel
theorem dX1_quoteStands_74 : decode cX1_quoteStands 74 = .ok (.iinc 6 1, 3) := by decide +kernel
theorem dX1_quoteStands_77 : decode cX1_quoteStands 77 = .ok (.iinc 7 1, 3) := by decide +kernel
theorem dX1_quoteStands_80 : decode cX1_quoteStands 80 = .ok (.goto (-43), 3) := by decide +kernel
theorem dX1_quoteStands_83 : decode cX1_quoteStands 83 = .ok (.iload 6, 2) := by decide +kernel
theorem dX1_quoteStands_85 : decode cX1_quoteStands 85 = .ok (.aload_n 1, 1) := by decide +kernel
theorem dX1_quoteStands_86 : decode cX1_quoteStands 86 = .ok (.getfield 113, 3) := by decide +kernel
theorem dX1_quoteStands_89 : decode cX1_quoteStands 89 = .ok (.if_icmp .ne 7, 3) := by decide +kernel
theorem dX1_quoteStands_92 : decode cX1_quoteStands 92 = .ok (.iconst 1, 1) := by decide +kernel
theorem dX1_quoteStands_93 : decode cX1_quoteStands 93 = .ok (.goto 4, 3) := by decide +kernel
theorem dX1_quoteStands_96 : decode cX1_quoteStands 96 = .ok (.iconst 0, 1) := by decide +kernel
theorem dX1_quoteStands_97 : decode cX1_quoteStands 97 = .ok (.ireturn, 1) := by decide +kernel
theorem dX2_isLetter_0 : decode cX2_isLetter 0 = .ok (.iload_n 0, 1) := by decide +kernel
theorem dX2_isLetter_1 : decode cX2_isLetter 1 = .ok (.bipush 97, 2) := by decide +kernel
theorem dX2_isLetter_3 : decode cX2_isLetter 3 = .ok (.if_icmp .lt 13, 3) := by decide +kernel
theorem dX2_isLetter_6 : decode cX2_isLetter 6 = .ok (.iload_n 0, 1) := by decide +kernel
theorem dX2_isLetter_7 : decode cX2_isLetter 7 = .ok (.bipush 122, 2) := by decide +kernel
theorem dX2_isLetter_9 : decode cX2_isLetter 9 = .ok (.if_icmp .gt 7, 3) := by decide +kernel
theorem dX2_isLetter_12 : decode cX2_isLetter 12 = .ok (.iconst 1, 1) := by decide +kernel
theorem dX2_isLetter_13 : decode cX2_isLetter 13 = .ok (.goto 4, 3) := by decide +kernel
theorem dX2_isLetter_16 : decode cX2_isLetter 16 = .ok (.iconst 0, 1) := by decide +kernel
theorem dX2_isLetter_17 : decode cX2_isLetter 17 = .ok (.ireturn, 1) := by decide +kernel
theorem dX2_isSign_0 : decode cX2_isSign 0 = .ok (.iload_n 0, 1) := by decide +kernel
theorem dX2_isSign_1 : decode cX2_isSign 1 = .ok (.invokestatic 9, 3) := by decide +kernel
theorem dX2_isSign_4 : decode cX2_isSign 4 = .ok (.ifCond .ne 15, 3) := by decide +kernel
theorem dX2_isSign_7 : decode cX2_isSign 7 = .ok (.iload_n 0, 1) := by decide +kernel
theorem dX2_isSign_8 : decode cX2_isSign 8 = .ok (.bipush 63, 2) := by decide +kernel
theorem dX2_isSign_10 : decode cX2_isSign 10 = .ok (.if_icmp .eq 9, 3) := by decide +kernel
theorem dX2_isSign_13 : decode cX2_isSign 13 = .ok (.iload_n 0, 1) := by decide +kernel
theorem dX2_isSign_14 : decode cX2_isSign 14 = .ok (.bipush 42, 2) := by decide +kernel
theorem dX2_isSign_16 : decode cX2_isSign 16 = .ok (.if_icmp .ne 7, 3) := by decide +kernel
theorem dX2_isSign_19 : decode cX2_isSign 19 = .ok (.iconst 1, 1) := by decide +kernel
theorem dX2_isSign_20 : decode cX2_isSign 20 = .ok (.goto 4, 3) := by decide +kernel
theorem dX2_isSign_23 : decode cX2_isSign 23 = .ok (.iconst 0, 1) := by decide +kernel
theorem dX2_isSign_24 : decode cX2_isSign 24 = .ok (.ireturn, 1) := by decide +kernel
theorem dX2_signAt_0 : decode cX2_signAt 0 = .ok (.iload_n 2, 1) := by decide +kernel
theorem dX2_signAt_1 : decode cX2_signAt 1 = .ok (.ifCond .lt 26, 3) := by decide +kernel
theorem dX2_signAt_4 : decode cX2_signAt 4 = .ok (.iload_n 2, 1) := by decide +kernel
theorem dX2_signAt_5 : decode cX2_signAt 5 = .ok (.bipush 8, 2) := by decide +kernel
theorem dX2_signAt_7 : decode cX2_signAt 7 = .ok (.if_icmp .ge 20, 3) := by decide +kernel
theorem dX2_signAt_10 : decode cX2_signAt 10 = .ok (.lload_n 0, 1) := by decide +kernel
theorem dX2_signAt_11 : decode cX2_signAt 11 = .ok (.bipush 56, 2) := by decide +kernel
theorem dX2_signAt_13 : decode cX2_signAt 13 = .ok (.bipush 8, 2) := by decide +kernel
theorem dX2_signAt_15 : decode cX2_signAt 15 = .ok (.iload_n 2, 1) := by decide +kernel
theorem dX2_signAt_16 : decode cX2_signAt 16 = .ok (.imul, 1) := by decide +kernel
theorem dX2_signAt_17 : decode cX2_signAt 17 = .ok (.isub, 1) := by decide +kernel
theorem dX2_signAt_18 : decode cX2_signAt 18 = .ok (.lushr, 1) := by decide +kernel
theorem dX2_signAt_19 : decode cX2_signAt 19 = .ok (.l2i, 1) := by decide +kernel
theorem dX2_signAt_20 : decode cX2_signAt 20 = .ok (.sipush 255, 3) := by decide +kernel
theorem dX2_signAt_23 : decode cX2_signAt 23 = .ok (.iand, 1) := by decide +kernel
theorem dX2_signAt_24 : decode cX2_signAt 24 = .ok (.goto 4, 3) := by decide +kernel
theorem dX2_signAt_27 : decode cX2_signAt 27 = .ok (.iconst 0, 1) := by decide +kernel
theorem dX2_signAt_28 : decode cX2_signAt 28 = .ok (.ireturn, 1) := by decide +kernel
theorem dX2_isPlain_0 : decode cX2_isPlain 0 = .ok (.lload_n 0, 1) := by decide +kernel
theorem dX2_isPlain_1 : decode cX2_isPlain 1 = .ok (.lstore_n 2, 1) := by decide +kernel
theorem dX2_isPlain_2 : decode cX2_isPlain 2 = .ok (.iconst 0, 1) := by decide +kernel
theorem dX2_isPlain_3 : decode cX2_isPlain 3 = .ok (.istore 4, 2) := by decide +kernel
theorem dX2_isPlain_5 : decode cX2_isPlain 5 = .ok (.iload 4, 2) := by decide +kernel
theorem dX2_isPlain_7 : decode cX2_isPlain 7 = .ok (.bipush 8, 2) := by decide +kernel
theorem dX2_isPlain_9 : decode cX2_isPlain 9 = .ok (.if_icmp .ge 34, 3) := by decide +kernel
theorem dX2_isPlain_12 : decode cX2_isPlain 12 = .ok (.lload_n 2, 1) := by decide +kernel
theorem dX2_isPlain_13 : decode cX2_isPlain 13 = .ok (.lconst 0, 1) := by decide +kernel
theorem dX2_isPlain_14 : decode cX2_isPlain 14 = .ok (.lcmp, 1) := by decide +kernel
theorem dX2_isPlain_15 : decode cX2_isPlain 15 = .ok (.ifCond .eq 28, 3) := by decide +kernel
theorem dX2_isPlain_18 : decode cX2_isPlain 18 = .ok (.lload_n 2, 1) := by decide +kernel
theorem dX2_isPlain_19 : decode cX2_isPlain 19 = .ok (.l2i, 1) := by decide +kernel
theorem dX2_isPlain_20 : decode cX2_isPlain 20 = .ok (.sipush 255, 3) := by decide +kernel
theorem dX2_isPlain_23 : decode cX2_isPlain 23 = .ok (.iand, 1) := by decide +kernel
theorem dX2_isPlain_24 : decode cX2_isPlain 24 = .ok (.invokestatic 9, 3) := by decide +kernel
theorem dX2_isPlain_27 : decode cX2_isPlain 27 = .ok (.ifCond .ne 5, 3) := by decide +kernel
theorem dX2_isPlain_30 : decode cX2_isPlain 30 = .ok (.iconst 0, 1) := by decide +kernel
theorem dX2_isPlain_31 : decode cX2_isPlain 31 = .ok (.ireturn, 1) := by decide +kernel
theorem dX2_isPlain_32 : decode cX2_isPlain 32 = .ok (.lload_n 2, 1) := by decide +kernel
theorem dX2_isPlain_33 : decode cX2_isPlain 33 = .ok (.bipush 8, 2) := by decide +kernel
theorem dX2_isPlain_35 : decode cX2_isPlain 35 = .ok (.lushr, 1) := by decide +kernel
theorem dX2_isPlain_36 : decode cX2_isPlain 36 = .ok (.lstore_n 2, 1) := by decide +kernel
theorem dX2_isPlain_37 : decode cX2_isPlain 37 = .ok (.iinc 4 1, 3) := by decide +kernel
theorem dX2_isPlain_40 : decode cX2_isPlain 40 = .ok (.goto (-35), 3) := by decide +kernel
theorem dX2_isPlain_43 : decode cX2_isPlain 43 = .ok (.lload_n 0, 1) := by decide +kernel
theorem dX2_isPlain_44 : decode cX2_isPlain 44 = .ok (.lconst 0, 1) := by decide +kernel
theorem dX2_isPlain_45 : decode cX2_isPlain 45 = .ok (.lcmp, 1) := by decide +kernel
theorem dX2_isPlain_46 : decode cX2_isPlain 46 = .ok (.ifCond .eq 7, 3) := by decide +kernel
theorem dX2_isPlain_49 : decode cX2_isPlain 49 = .ok (.iconst 1, 1) := by decide +kernel
theorem dX2_isPlain_50 : decode cX2_isPlain 50 = .ok (.goto 4, 3) := by decide +kernel
theorem dX2_isPlain_53 : decode cX2_isPlain 53 = .ok (.iconst 0, 1) := by decide +kernel
theorem dX2_isPlain_54 : decode cX2_isPlain 54 = .ok (.ireturn, 1) := by decide +kernel
theorem dX2_moveAhead_0 : decode cX2_moveAhead 0 = .ok (.lload_n 0, 1) := by decide +kernel
theorem dX2_moveAhead_1 : decode cX2_moveAhead 1 = .ok (.lstore_n 2, 1) := by decide +kernel
theorem dX2_moveAhead_2 : decode cX2_moveAhead 2 = .ok (.iconst 0, 1) := by decide +kernel
theorem dX2_moveAhead_3 : decode cX2_moveAhead 3 = .ok (.istore 4, 2) := by decide +kernel
theorem dX2_moveAhead_5 : decode cX2_moveAhead 5 = .ok (.iload 4, 2) := by decide +kernel
theorem dX2_moveAhead_7 : decode cX2_moveAhead 7 = .ok (.bipush 8, 2) := by decide +kernel
theorem dX2_moveAhead_9 : decode cX2_moveAhead 9 = .ok (.if_icmp .ge 23, 3) := by decide +kernel
theorem dX2_moveAhead_12 : decode cX2_moveAhead 12 = .ok (.lload_n 2, 1) := by decide +kernel
theorem dX2_moveAhead_13 : decode cX2_moveAhead 13 = .ok (.bipush 56, 2) := by decide +kernel
theorem dX2_moveAhead_15 : decode cX2_moveAhead 15 = .ok (.lushr, 1) := by decide +kernel
theorem dX2_moveAhead_16 : decode cX2_moveAhead 16 = .ok (.lconst 0, 1) := by decide +kernel
theorem dX2_moveAhead_17 : decode cX2_moveAhead 17 = .ok (.lcmp, 1) := by decide +kernel
theorem dX2_moveAhead_18 : decode cX2_moveAhead 18 = .ok (.ifCond .ne 14, 3) := by decide +kernel
theorem dX2_moveAhead_21 : decode cX2_moveAhead 21 = .ok (.lload_n 2, 1) := by decide +kernel
theorem dX2_moveAhead_22 : decode cX2_moveAhead 22 = .ok (.bipush 8, 2) := by decide +kernel
theorem dX2_moveAhead_24 : decode cX2_moveAhead 24 = .ok (.lshl, 1) := by decide +kernel
theorem dX2_moveAhead_25 : decode cX2_moveAhead 25 = .ok (.lstore_n 2, 1) := by decide +kernel
theorem dX2_moveAhead_26 : decode cX2_moveAhead 26 = .ok (.iinc 4 1, 3) := by decide +kernel
theorem dX2_moveAhead_29 : decode cX2_moveAhead 29 = .ok (.goto (-24), 3) := by decide +kernel
theorem dX2_moveAhead_32 : decode cX2_moveAhead 32 = .ok (.lload_n 2, 1) := by decide +kernel
theorem dX2_moveAhead_33 : decode cX2_moveAhead 33 = .ok (.lreturn, 1) := by decide +kernel
theorem dX2_lengthOf_0 : decode cX2_lengthOf 0 = .ok (.iconst 0, 1) := by decide +kernel
theorem dX2_lengthOf_1 : decode cX2_lengthOf 1 = .ok (.istore_n 2, 1) := by decide +kernel
theorem dX2_lengthOf_2 : decode cX2_lengthOf 2 = .ok (.iload_n 2, 1) := by decide +kernel
theorem dX2_lengthOf_3 : decode cX2_lengthOf 3 = .ok (.bipush 8, 2) := by decide +kernel
theorem dX2_lengthOf_5 : decode cX2_lengthOf 5 = .ok (.if_icmp .ge 17, 3) := by decide +kernel
theorem dX2_lengthOf_8 : decode cX2_lengthOf 8 = .ok (.lload_n 0, 1) := by decide +kernel
theorem dX2_lengthOf_9 : decode cX2_lengthOf 9 = .ok (.iload_n 2, 1) := by decide +kernel
theorem dX2_lengthOf_10 : decode cX2_lengthOf 10 = .ok (.invokestatic 15, 3) := by decide +kernel
theorem dX2_lengthOf_13 : decode cX2_lengthOf 13 = .ok (.ifCond .eq 9, 3) := by decide +kernel
theorem dX2_lengthOf_16 : decode cX2_lengthOf 16 = .ok (.iinc 2 1, 3) := by decide +kernel
theorem dX2_lengthOf_19 : decode cX2_lengthOf 19 = .ok (.goto (-17), 3) := by decide +kernel
theorem dX2_lengthOf_22 : decode cX2_lengthOf 22 = .ok (.iload_n 2, 1) := by decide +kernel
theorem dX2_lengthOf_23 : decode cX2_lengthOf 23 = .ok (.ireturn, 1) := by decide +kernel
theorem dX3_init_0 : decode cX3_init 0 = .ok (.aload_n 0, 1) := by decide +kernel
theorem dX3_init_1 : decode cX3_init 1 = .ok (.invokespecial 3, 3) := by decide +kernel
theorem dX3_init_4 : decode cX3_init 4 = .ok (.aload_n 0, 1) := by decide +kernel
theorem dX3_init_5 : decode cX3_init 5 = .ok (.bipush 9, 2) := by decide +kernel
theorem dX3_init_7 : decode cX3_init 7 = .ok (.newarray .int, 2) := by decide +kernel
theorem dX3_init_9 : decode cX3_init 9 = .ok (.putfield 9, 3) := by decide +kernel
theorem dX3_init_12 : decode cX3_init 12 = .ok (.return_, 1) := by decide +kernel
theorem dX3_isFor_0 : decode cX3_isFor 0 = .ok (.aload_n 1, 1) := by decide +kernel
theorem dX3_isFor_1 : decode cX3_isFor 1 = .ok (.getfield 15, 3) := by decide +kernel
theorem dX3_isFor_4 : decode cX3_isFor 4 = .ok (.iconst 2, 1) := by decide +kernel
theorem dX3_isFor_5 : decode cX3_isFor 5 = .ok (.if_icmp .ne 9, 3) := by decide +kernel
theorem dX3_isFor_8 : decode cX3_isFor 8 = .ok (.aload_n 1, 1) := by decide +kernel
theorem dX3_isFor_9 : decode cX3_isFor 9 = .ok (.lload_n 2, 1) := by decide +kernel
theorem dX3_isFor_10 : decode cX3_isFor 10 = .ok (.invokestatic 21, 3) := by decide +kernel
theorem dX3_isFor_13 : decode cX3_isFor 13 = .ok (.ireturn, 1) := by decide +kernel
theorem dX3_isFor_14 : decode cX3_isFor 14 = .ok (.aload_n 1, 1) := by decide +kernel
theorem dX3_isFor_15 : decode cX3_isFor 15 = .ok (.getfield 25, 3) := by decide +kernel
theorem dX3_isFor_18 : decode cX3_isFor 18 = .ok (.ifCond .le 28, 3) := by decide +kernel
theorem dX3_isFor_21 : decode cX3_isFor 21 = .ok (.aload_n 0, 1) := by decide +kernel
theorem dX3_isFor_22 : decode cX3_isFor 22 = .ok (.aload_n 1, 1) := by decide +kernel
theorem dX3_isFor_23 : decode cX3_isFor 23 = .ok (.iconst 0, 1) := by decide +kernel
theorem dX3_isFor_24 : decode cX3_isFor 24 = .ok (.invokevirtual 28, 3) := by decide +kernel
theorem dX3_isFor_27 : decode cX3_isFor 27 = .ok (.lload_n 2, 1) := by decide +kernel
theorem dX3_isFor_28 : decode cX3_isFor 28 = .ok (.invokevirtual 32, 3) := by decide +kernel
theorem dX3_isFor_31 : decode cX3_isFor 31 = .ok (.aload_n 1, 1) := by decide +kernel
theorem dX3_isFor_32 : decode cX3_isFor 32 = .ok (.getfield 25, 3) := by decide +kernel
theorem dX3_isFor_35 : decode cX3_isFor 35 = .ok (.if_icmp .gt 7, 3) := by decide +kernel
theorem dX3_isFor_38 : decode cX3_isFor 38 = .ok (.iconst 1, 1) := by decide +kernel
theorem dX3_isFor_39 : decode cX3_isFor 39 = .ok (.goto 16, 3) := by decide +kernel
theorem dX3_isFor_42 : decode cX3_isFor 42 = .ok (.iconst 0, 1) := by decide +kernel
theorem dX3_isFor_43 : decode cX3_isFor 43 = .ok (.goto 12, 3) := by decide +kernel
theorem dX3_isFor_46 : decode cX3_isFor 46 = .ok (.aload_n 1, 1) := by decide +kernel
theorem dX3_isFor_47 : decode cX3_isFor 47 = .ok (.iconst 0, 1) := by decide +kernel
theorem dX3_isFor_48 : decode cX3_isFor 48 = .ok (.invokevirtual 28, 3) := by decide +kernel
theorem dX3_isFor_51 : decode cX3_isFor 51 = .ok (.lload_n 2, 1) := by decide +kernel
theorem dX3_isFor_52 : decode cX3_isFor 52 = .ok (.invokestatic 36, 3) := by decide +kernel
theorem dX3_isFor_55 : decode cX3_isFor 55 = .ok (.ireturn, 1) := by decide +kernel
theorem dX3_isWithin_0 : decode cX3_isWithin 0 = .ok (.aload_n 0, 1) := by decide +kernel
theorem dX3_isWithin_1 : decode cX3_isWithin 1 = .ok (.iconst 0, 1) := by decide +kernel
theorem dX3_isWithin_2 : decode cX3_isWithin 2 = .ok (.invokevirtual 28, 3) := by decide +kernel
theorem dX3_isWithin_5 : decode cX3_isWithin 5 = .ok (.lstore_n 3, 1) := by decide +kernel
theorem dX3_isWithin_6 : decode cX3_isWithin 6 = .ok (.aload_n 0, 1) := by decide +kernel
theorem dX3_isWithin_7 : decode cX3_isWithin 7 = .ok (.iconst 1, 1) := by decide +kernel
theorem dX3_isWithin_8 : decode cX3_isWithin 8 = .ok (.invokevirtual 28, 3) := by decide +kernel
theorem dX3_isWithin_11 : decode cX3_isWithin 11 = .ok (.lstore 5, 2) := by decide +kernel
theorem dX3_isWithin_13 : decode cX3_isWithin 13 = .ok (.aload_n 0, 1) := by decide +kernel
theorem dX3_isWithin_14 : decode cX3_isWithin 14 = .ok (.getfield 25, 3) := by decide +kernel
theorem dX3_isWithin_17 : decode cX3_isWithin 17 = .ok (.iconst 1, 1) := by decide +kernel
theorem dX3_isWithin_18 : decode cX3_isWithin 18 = .ok (.if_icmp .ne 24, 3) := by decide +kernel
theorem dX3_isWithin_21 : decode cX3_isWithin 21 = .ok (.lload_n 3, 1) := by decide +kernel
theorem dX3_isWithin_22 : decode cX3_isWithin 22 = .ok (.lload_n 1, 1) := by decide +kernel
theorem dX3_isWithin_23 : decode cX3_isWithin 23 = .ok (.lcmp, 1) := by decide +kernel
theorem dX3_isWithin_24 : decode cX3_isWithin 24 = .ok (.ifCond .ge 14, 3) := by decide +kernel
theorem dX3_isWithin_27 : decode cX3_isWithin 27 = .ok (.lload_n 1, 1) := by decide +kernel
theorem dX3_isWithin_28 : decode cX3_isWithin 28 = .ok (.lload 5, 2) := by decide +kernel
theorem dX3_isWithin_30 : decode cX3_isWithin 30 = .ok (.lcmp, 1) := by decide +kernel
theorem dX3_isWithin_31 : decode cX3_isWithin 31 = .ok (.ifCond .ge 7, 3) := by decide +kernel
theorem dX3_isWithin_34 : decode cX3_isWithin 34 = .ok (.iconst 1, 1) := by decide +kernel
theorem dX3_isWithin_35 : decode cX3_isWithin 35 = .ok (.goto 25, 3) := by decide +kernel
theorem dX3_isWithin_38 : decode cX3_isWithin 38 = .ok (.iconst 0, 1) := by decide +kernel
theorem dX3_isWithin_39 : decode cX3_isWithin 39 = .ok (.goto 21, 3) := by decide +kernel
theorem dX3_isWithin_42 : decode cX3_isWithin 42 = .ok (.lload_n 3, 1) := by decide +kernel
theorem dX3_isWithin_43 : decode cX3_isWithin 43 = .ok (.lload_n 1, 1) := by decide +kernel
theorem dX3_isWithin_44 : decode cX3_isWithin 44 = .ok (.lcmp, 1) := by decide +kernel
theorem dX3_isWithin_45 : decode cX3_isWithin 45 = .ok (.ifCond .gt 14, 3) := by decide +kernel
theorem dX3_isWithin_48 : decode cX3_isWithin 48 = .ok (.lload_n 1, 1) := by decide +kernel
theorem dX3_isWithin_49 : decode cX3_isWithin 49 = .ok (.lload 5, 2) := by decide +kernel
theorem dX3_isWithin_51 : decode cX3_isWithin 51 = .ok (.lcmp, 1) := by decide +kernel
theorem dX3_isWithin_52 : decode cX3_isWithin 52 = .ok (.ifCond .gt 7, 3) := by decide +kernel
theorem dX3_isWithin_55 : decode cX3_isWithin 55 = .ok (.iconst 1, 1) := by decide +kernel
theorem dX3_isWithin_56 : decode cX3_isWithin 56 = .ok (.goto 4, 3) := by decide +kernel
theorem dX3_isWithin_59 : decode cX3_isWithin 59 = .ok (.iconst 0, 1) := by decide +kernel
theorem dX3_isWithin_60 : decode cX3_isWithin 60 = .ok (.ireturn, 1) := by decide +kernel
theorem dX3_changes_0 : decode cX3_changes 0 = .ok (.lload_n 1, 1) := by decide +kernel
theorem dX3_changes_1 : decode cX3_changes 1 = .ok (.invokestatic 40, 3) := by decide +kernel
theorem dX3_changes_4 : decode cX3_changes 4 = .ok (.istore 5, 2) := by decide +kernel
theorem dX3_changes_6 : decode cX3_changes 6 = .ok (.lload_n 3, 1) := by decide +kernel
theorem dX3_changes_7 : decode cX3_changes 7 = .ok (.invokestatic 40, 3) := by decide +kernel
theorem dX3_changes_10 : decode cX3_changes 10 = .ok (.istore 6, 2) := by decide +kernel
theorem dX3_changes_12 : decode cX3_changes 12 = .ok (.iconst 0, 1) := by decide +kernel
theorem dX3_changes_13 : decode cX3_changes 13 = .ok (.istore 7, 2) := by decide +kernel
theorem dX3_changes_15 : decode cX3_changes 15 = .ok (.iload 7, 2) := by decide +kernel
theorem dX3_changes_17 : decode cX3_changes 17 = .ok (.iload 6, 2) := by decide +kernel
theorem dX3_changes_19 : decode cX3_changes 19 = .ok (.if_icmp .gt 28, 3) := by decide +kernel
theorem dX3_changes_22 : decode cX3_changes 22 = .ok (.iload 7, 2) := by decide +kernel
theorem dX3_changes_24 : decode cX3_changes 24 = .ok (.aload_n 0, 1) := by decide +kernel
theorem dX3_changes_25 : decode cX3_changes 25 = .ok (.getfield 9, 3) := by decide +kernel
theorem dX3_changes_28 : decode cX3_changes 28 = .ok (.arraylength, 1) := by decide +kernel
theorem dX3_changes_29 : decode cX3_changes 29 = .ok (.if_icmp .ge 18, 3) := by decide +kernel
theorem dX3_changes_32 : decode cX3_changes 32 = .ok (.aload_n 0, 1) := by decide +kernel
theorem dX3_changes_33 : decode cX3_changes 33 = .ok (.getfield 9, 3) := by decide +kernel
theorem dX3_changes_36 : decode cX3_changes 36 = .ok (.iload 7, 2) := by decide +kernel
theorem dX3_changes_38 : decode cX3_changes 38 = .ok (.iload 7, 2) := by decide +kernel
theorem dX3_changes_40 : decode cX3_changes 40 = .ok (.iastore, 1) := by decide +kernel
theorem dX3_changes_41 : decode cX3_changes 41 = .ok (.iinc 7 1, 3) := by decide +kernel
theorem dX3_changes_44 : decode cX3_changes 44 = .ok (.goto (-29), 3) := by decide +kernel
theorem dX3_changes_47 : decode cX3_changes 47 = .ok (.iconst 1, 1) := by decide +kernel
theorem dX3_changes_48 : decode cX3_changes 48 = .ok (.istore 7, 2) := by decide +kernel
theorem dX3_changes_50 : decode cX3_changes 50 = .ok (.iload 7, 2) := by decide +kernel
theorem dX3_changes_52 : decode cX3_changes 52 = .ok (.iload 5, 2) := by decide +kernel
theorem dX3_changes_54 : decode cX3_changes 54 = .ok (.if_icmp .gt 126, 3) := by decide +kernel
theorem dX3_changes_57 : decode cX3_changes 57 = .ok (.aload_n 0, 1) := by decide +kernel
theorem dX3_changes_58 : decode cX3_changes 58 = .ok (.getfield 9, 3) := by decide +kernel
theorem dX3_changes_61 : decode cX3_changes 61 = .ok (.iconst 0, 1) := by decide +kernel
theorem dX3_changes_62 : decode cX3_changes 62 = .ok (.iaload, 1) := by decide +kernel
theorem dX3_changes_63 : decode cX3_changes 63 = .ok (.istore 8, 2) := by decide +kernel
theorem dX3_changes_65 : decode cX3_changes 65 = .ok (.aload_n 0, 1) := by decide +kernel
theorem dX3_changes_66 : decode cX3_changes 66 = .ok (.getfield 9, 3) := by decide +kernel
theorem dX3_changes_69 : decode cX3_changes 69 = .ok (.iconst 0, 1) := by decide +kernel
theorem dX3_changes_70 : decode cX3_changes 70 = .ok (.iload 7, 2) := by decide +kernel
theorem dX3_changes_72 : decode cX3_changes 72 = .ok (.iastore, 1) := by decide +kernel
theorem dX3_changes_73 : decode cX3_changes 73 = .ok (.iconst 1, 1) := by decide +kernel
theorem dX3_changes_74 : decode cX3_changes 74 = .ok (.istore 9, 2) := by decide +kernel
theorem dX3_changes_76 : decode cX3_changes 76 = .ok (.iload 9, 2) := by decide +kernel
theorem dX3_changes_78 : decode cX3_changes 78 = .ok (.iload 6, 2) := by decide +kernel
theorem dX3_changes_80 : decode cX3_changes 80 = .ok (.if_icmp .gt 94, 3) := by decide +kernel
theorem dX3_changes_83 : decode cX3_changes 83 = .ok (.iload 9, 2) := by decide +kernel
theorem dX3_changes_85 : decode cX3_changes 85 = .ok (.aload_n 0, 1) := by decide +kernel
theorem dX3_changes_86 : decode cX3_changes 86 = .ok (.getfield 9, 3) := by decide +kernel
theorem dX3_changes_89 : decode cX3_changes 89 = .ok (.arraylength, 1) := by decide +kernel
theorem dX3_changes_90 : decode cX3_changes 90 = .ok (.if_icmp .ge 84, 3) := by decide +kernel
theorem dX3_changes_93 : decode cX3_changes 93 = .ok (.lload_n 1, 1) := by decide +kernel
theorem dX3_changes_94 : decode cX3_changes 94 = .ok (.iload 7, 2) := by decide +kernel
theorem dX3_changes_96 : decode cX3_changes 96 = .ok (.iconst 1, 1) := by decide +kernel
theorem dX3_changes_97 : decode cX3_changes 97 = .ok (.isub, 1) := by decide +kernel
theorem dX3_changes_98 : decode cX3_changes 98 = .ok (.invokestatic 46, 3) := by decide +kernel
theorem dX3_changes_101 : decode cX3_changes 101 = .ok (.lload_n 3, 1) := by decide +kernel
theorem dX3_changes_102 : decode cX3_changes 102 = .ok (.iload 9, 2) := by decide +kernel
theorem dX3_changes_104 : decode cX3_changes 104 = .ok (.iconst 1, 1) := by decide +kernel
theorem dX3_changes_105 : decode cX3_changes 105 = .ok (.isub, 1) := by decide +kernel
theorem dX3_changes_106 : decode cX3_changes 106 = .ok (.invokestatic 46, 3) := by decide +kernel
theorem dX3_changes_109 : decode cX3_changes 109 = .ok (.if_icmp .ne 7, 3) := by decide +kernel
theorem dX3_changes_112 : decode cX3_changes 112 = .ok (.iconst 0, 1) := by decide +kernel
theorem dX3_changes_113 : decode cX3_changes 113 = .ok (.goto 4, 3) := by decide +kernel
theorem dX3_changes_116 : decode cX3_changes 116 = .ok (.iconst 1, 1) := by decide +kernel
theorem dX3_changes_117 : decode cX3_changes 117 = .ok (.istore 10, 2) := by decide +kernel
theorem dX3_changes_119 : decode cX3_changes 119 = .ok (.iload 8, 2) := by decide +kernel
theorem dX3_changes_121 : decode cX3_changes 121 = .ok (.iload 10, 2) := by decide +kernel
theorem dX3_changes_123 : decode cX3_changes 123 = .ok (.iadd, 1) := by decide +kernel
theorem dX3_changes_124 : decode cX3_changes 124 = .ok (.aload_n 0, 1) := by decide +kernel
theorem dX3_changes_125 : decode cX3_changes 125 = .ok (.getfield 9, 3) := by decide +kernel
theorem dX3_changes_128 : decode cX3_changes 128 = .ok (.iload 9, 2) := by decide +kernel
theorem dX3_changes_130 : decode cX3_changes 130 = .ok (.iaload, 1) := by decide +kernel
theorem dX3_changes_131 : decode cX3_changes 131 = .ok (.aload_n 0, 1) := by decide +kernel
theorem dX3_changes_132 : decode cX3_changes 132 = .ok (.getfield 9, 3) := by decide +kernel
theorem dX3_changes_135 : decode cX3_changes 135 = .ok (.iload 9, 2) := by decide +kernel
theorem dX3_changes_137 : decode cX3_changes 137 = .ok (.iconst 1, 1) := by decide +kernel
theorem dX3_changes_138 : decode cX3_changes 138 = .ok (.isub, 1) := by decide +kernel
theorem dX3_changes_139 : decode cX3_changes 139 = .ok (.iaload, 1) := by decide +kernel
theorem dX3_changes_140 : decode cX3_changes 140 = .ok (.invokestatic 50, 3) := by decide +kernel
theorem dX3_changes_143 : decode cX3_changes 143 = .ok (.iconst 1, 1) := by decide +kernel
theorem dX3_changes_144 : decode cX3_changes 144 = .ok (.iadd, 1) := by decide +kernel
theorem dX3_changes_145 : decode cX3_changes 145 = .ok (.invokestatic 50, 3) := by decide +kernel
theorem dX3_changes_148 : decode cX3_changes 148 = .ok (.istore 11, 2) := by decide +kernel
theorem dX3_changes_150 : decode cX3_changes 150 = .ok (.aload_n 0, 1) := by decide +kernel
theorem dX3_changes_151 : decode cX3_changes 151 = .ok (.getfield 9, 3) := by decide +kernel
theorem dX3_changes_154 : decode cX3_changes 154 = .ok (.iload 9, 2) := by decide +kernel
theorem dX3_changes_156 : decode cX3_changes 156 = .ok (.iaload, 1) := by decide +kernel
theorem dX3_changes_157 : decode cX3_changes 157 = .ok (.istore 8, 2) := by decide +kernel
theorem dX3_changes_159 : decode cX3_changes 159 = .ok (.aload_n 0, 1) := by decide +kernel
theorem dX3_changes_160 : decode cX3_changes 160 = .ok (.getfield 9, 3) := by decide +kernel
theorem dX3_changes_163 : decode cX3_changes 163 = .ok (.iload 9, 2) := by decide +kernel
theorem dX3_changes_165 : decode cX3_changes 165 = .ok (.iload 11, 2) := by decide +kernel
theorem dX3_changes_167 : decode cX3_changes 167 = .ok (.iastore, 1) := by decide +kernel
theorem dX3_changes_168 : decode cX3_changes 168 = .ok (.iinc 9 1, 3) := by decide +kernel
theorem dX3_changes_171 : decode cX3_changes 171 = .ok (.goto (-95), 3) := by decide +kernel
theorem dX3_changes_174 : decode cX3_changes 174 = .ok (.iinc 7 1, 3) := by decide +kernel
theorem dX3_changes_177 : decode cX3_changes 177 = .ok (.goto (-127), 3) := by decide +kernel
theorem dX3_changes_180 : decode cX3_changes 180 = .ok (.iload 6, 2) := by decide +kernel
theorem dX3_changes_182 : decode cX3_changes 182 = .ok (.aload_n 0, 1) := by decide +kernel
theorem dX3_changes_183 : decode cX3_changes 183 = .ok (.getfield 9, 3) := by decide +kernel
theorem dX3_changes_186 : decode cX3_changes 186 = .ok (.arraylength, 1) := by decide +kernel
theorem dX3_changes_187 : decode cX3_changes 187 = .ok (.if_icmp .ge 13, 3) := by decide +kernel
theorem dX3_changes_190 : decode cX3_changes 190 = .ok (.aload_n 0, 1) := by decide +kernel
theorem dX3_changes_191 : decode cX3_changes 191 = .ok (.getfield 9, 3) := by decide +kernel
theorem dX3_changes_194 : decode cX3_changes 194 = .ok (.iload 6, 2) := by decide +kernel
theorem dX3_changes_196 : decode cX3_changes 196 = .ok (.iaload, 1) := by decide +kernel
theorem dX3_changes_197 : decode cX3_changes 197 = .ok (.goto 8, 3) := by decide +kernel
theorem dX3_changes_200 : decode cX3_changes 200 = .ok (.aload_n 0, 1) := by decide +kernel
theorem dX3_changes_201 : decode cX3_changes 201 = .ok (.getfield 9, 3) := by decide +kernel
theorem dX3_changes_204 : decode cX3_changes 204 = .ok (.arraylength, 1) := by decide +kernel
theorem dX3_changes_205 : decode cX3_changes 205 = .ok (.ireturn, 1) := by decide +kernel
theorem dX3_hasSigns_0 : decode cX3_hasSigns 0 = .ok (.lload_n 2, 1) := by decide +kernel
theorem dX3_hasSigns_1 : decode cX3_hasSigns 1 = .ok (.invokestatic 40, 3) := by decide +kernel
theorem dX3_hasSigns_4 : decode cX3_hasSigns 4 = .ok (.istore 4, 2) := by decide +kernel
theorem dX3_hasSigns_6 : decode cX3_hasSigns 6 = .ok (.iconst 1, 1) := by decide +kernel
theorem dX3_hasSigns_7 : decode cX3_hasSigns 7 = .ok (.iload 4, 2) := by decide +kernel
theorem dX3_hasSigns_9 : decode cX3_hasSigns 9 = .ok (.iconst 1, 1) := by decide +kernel
theorem dX3_hasSigns_10 : decode cX3_hasSigns 10 = .ok (.iadd, 1) := by decide +kernel
theorem dX3_hasSigns_11 : decode cX3_hasSigns 11 = .ok (.ishl, 1) := by decide +kernel
theorem dX3_hasSigns_12 : decode cX3_hasSigns 12 = .ok (.iconst 1, 1) := by decide +kernel
theorem dX3_hasSigns_13 : decode cX3_hasSigns 13 = .ok (.isub, 1) := by decide +kernel
theorem dX3_hasSigns_14 : decode cX3_hasSigns 14 = .ok (.istore 5, 2) := by decide +kernel
theorem dX3_hasSigns_16 : decode cX3_hasSigns 16 = .ok (.lload_n 0, 1) := by decide +kernel
theorem dX3_hasSigns_17 : decode cX3_hasSigns 17 = .ok (.invokestatic 40, 3) := by decide +kernel
theorem dX3_hasSigns_20 : decode cX3_hasSigns 20 = .ok (.istore 6, 2) := by decide +kernel
theorem dX3_hasSigns_22 : decode cX3_hasSigns 22 = .ok (.iconst 1, 1) := by decide +kernel
theorem dX3_hasSigns_23 : decode cX3_hasSigns 23 = .ok (.istore 7, 2) := by decide +kernel
theorem dX3_hasSigns_25 : decode cX3_hasSigns 25 = .ok (.iconst 0, 1) := by decide +kernel
theorem dX3_hasSigns_26 : decode cX3_hasSigns 26 = .ok (.istore 8, 2) := by decide +kernel
theorem dX3_hasSigns_28 : decode cX3_hasSigns 28 = .ok (.iload 8, 2) := by decide +kernel
theorem dX3_hasSigns_30 : decode cX3_hasSigns 30 = .ok (.iload 6, 2) := by decide +kernel
theorem dX3_hasSigns_32 : decode cX3_hasSigns 32 = .ok (.if_icmp .ge 53, 3) := by decide +kernel
theorem dX3_hasSigns_35 : decode cX3_hasSigns 35 = .ok (.lload_n 0, 1) := by decide +kernel
theorem dX3_hasSigns_36 : decode cX3_hasSigns 36 = .ok (.iload 8, 2) := by decide +kernel
theorem dX3_hasSigns_38 : decode cX3_hasSigns 38 = .ok (.invokestatic 46, 3) := by decide +kernel
theorem dX3_hasSigns_41 : decode cX3_hasSigns 41 = .ok (.istore 9, 2) := by decide +kernel
theorem dX3_hasSigns_43 : decode cX3_hasSigns 43 = .ok (.iload 9, 2) := by decide +kernel
theorem dX3_hasSigns_45 : decode cX3_hasSigns 45 = .ok (.bipush 42, 2) := by decide +kernel
theorem dX3_hasSigns_47 : decode cX3_hasSigns 47 = .ok (.if_icmp .ne 17, 3) := by decide +kernel
theorem dX3_hasSigns_50 : decode cX3_hasSigns 50 = .ok (.iload 7, 2) := by decide +kernel
theorem dX3_hasSigns_52 : decode cX3_hasSigns 52 = .ok (.iload 7, 2) := by decide +kernel
theorem dX3_hasSigns_54 : decode cX3_hasSigns 54 = .ok (.ineg, 1) := by decide +kernel
theorem dX3_hasSigns_55 : decode cX3_hasSigns 55 = .ok (.ior, 1) := by decide +kernel
theorem dX3_hasSigns_56 : decode cX3_hasSigns 56 = .ok (.iload 5, 2) := by decide +kernel
theorem dX3_hasSigns_58 : decode cX3_hasSigns 58 = .ok (.iand, 1) := by decide +kernel
theorem dX3_hasSigns_59 : decode cX3_hasSigns 59 = .ok (.istore 7, 2) := by decide +kernel
theorem dX3_hasSigns_61 : decode cX3_hasSigns 61 = .ok (.goto 18, 3) := by decide +kernel
theorem dX3_hasSigns_64 : decode cX3_hasSigns 64 = .ok (.iload 7, 2) := by decide +kernel
theorem dX3_hasSigns_66 : decode cX3_hasSigns 66 = .ok (.iload 9, 2) := by decide +kernel
theorem dX3_hasSigns_68 : decode cX3_hasSigns 68 = .ok (.lload_n 2, 1) := by decide +kernel
theorem dX3_hasSigns_69 : decode cX3_hasSigns 69 = .ok (.iload 4, 2) := by decide +kernel
theorem dX3_hasSigns_71 : decode cX3_hasSigns 71 = .ok (.invokestatic 56, 3) := by decide +kernel
theorem dX3_hasSigns_74 : decode cX3_hasSigns 74 = .ok (.iand, 1) := by decide +kernel
theorem dX3_hasSigns_75 : decode cX3_hasSigns 75 = .ok (.iconst 1, 1) := by decide +kernel
theorem dX3_hasSigns_76 : decode cX3_hasSigns 76 = .ok (.ishl, 1) := by decide +kernel
theorem dX3_hasSigns_77 : decode cX3_hasSigns 77 = .ok (.istore 7, 2) := by decide +kernel
theorem dX3_hasSigns_79 : decode cX3_hasSigns 79 = .ok (.iinc 8 1, 3) := by decide +kernel
theorem dX3_hasSigns_82 : decode cX3_hasSigns 82 = .ok (.goto (-54), 3) := by decide +kernel
theorem dX3_hasSigns_85 : decode cX3_hasSigns 85 = .ok (.iload 7, 2) := by decide +kernel
theorem dX3_hasSigns_87 : decode cX3_hasSigns 87 = .ok (.iload 4, 2) := by decide +kernel
theorem dX3_hasSigns_89 : decode cX3_hasSigns 89 = .ok (.ishr, 1) := by decide +kernel
theorem dX3_hasSigns_90 : decode cX3_hasSigns 90 = .ok (.iconst 1, 1) := by decide +kernel
theorem dX3_hasSigns_91 : decode cX3_hasSigns 91 = .ok (.iand, 1) := by decide +kernel
theorem dX3_hasSigns_92 : decode cX3_hasSigns 92 = .ok (.iconst 1, 1) := by decide +kernel
theorem dX3_hasSigns_93 : decode cX3_hasSigns 93 = .ok (.if_icmp .ne 7, 3) := by decide +kernel
theorem dX3_hasSigns_96 : decode cX3_hasSigns 96 = .ok (.iconst 1, 1) := by decide +kernel
theorem dX3_hasSigns_97 : decode cX3_hasSigns 97 = .ok (.goto 4, 3) := by decide +kernel
theorem dX3_hasSigns_100 : decode cX3_hasSigns 100 = .ok (.iconst 0, 1) := by decide +kernel
theorem dX3_hasSigns_101 : decode cX3_hasSigns 101 = .ok (.ireturn, 1) := by decide +kernel
theorem dX3_placesOf_0 : decode cX3_placesOf 0 = .ok (.iconst 0, 1) := by decide +kernel
theorem dX3_placesOf_1 : decode cX3_placesOf 1 = .ok (.istore 4, 2) := by decide +kernel
theorem dX3_placesOf_3 : decode cX3_placesOf 3 = .ok (.iconst 0, 1) := by decide +kernel
theorem dX3_placesOf_4 : decode cX3_placesOf 4 = .ok (.istore 5, 2) := by decide +kernel
theorem dX3_placesOf_6 : decode cX3_placesOf 6 = .ok (.iload 5, 2) := by decide +kernel
theorem dX3_placesOf_8 : decode cX3_placesOf 8 = .ok (.iload_n 3, 1) := by decide +kernel
theorem dX3_placesOf_9 : decode cX3_placesOf 9 = .ok (.if_icmp .ge 34, 3) := by decide +kernel
theorem dX3_placesOf_12 : decode cX3_placesOf 12 = .ok (.iload_n 0, 1) := by decide +kernel
theorem dX3_placesOf_13 : decode cX3_placesOf 13 = .ok (.bipush 63, 2) := by decide +kernel
theorem dX3_placesOf_15 : decode cX3_placesOf 15 = .ok (.if_icmp .eq 13, 3) := by decide +kernel
theorem dX3_placesOf_18 : decode cX3_placesOf 18 = .ok (.iload_n 0, 1) := by decide +kernel
theorem dX3_placesOf_19 : decode cX3_placesOf 19 = .ok (.lload_n 1, 1) := by decide +kernel
theorem dX3_placesOf_20 : decode cX3_placesOf 20 = .ok (.iload 5, 2) := by decide +kernel
theorem dX3_placesOf_22 : decode cX3_placesOf 22 = .ok (.invokestatic 46, 3) := by decide +kernel
theorem dX3_placesOf_25 : decode cX3_placesOf 25 = .ok (.if_icmp .ne 12, 3) := by decide +kernel
theorem dX3_placesOf_28 : decode cX3_placesOf 28 = .ok (.iload 4, 2) := by decide +kernel
theorem dX3_placesOf_30 : decode cX3_placesOf 30 = .ok (.iconst 1, 1) := by decide +kernel
theorem dX3_placesOf_31 : decode cX3_placesOf 31 = .ok (.iload 5, 2) := by decide +kernel
theorem dX3_placesOf_33 : decode cX3_placesOf 33 = .ok (.ishl, 1) := by decide +kernel
theorem dX3_placesOf_34 : decode cX3_placesOf 34 = .ok (.ior, 1) := by decide +kernel
theorem dX3_placesOf_35 : decode cX3_placesOf 35 = .ok (.istore 4, 2) := by decide +kernel
theorem dX3_placesOf_37 : decode cX3_placesOf 37 = .ok (.iinc 5 1, 3) := by decide +kernel
theorem dX3_placesOf_40 : decode cX3_placesOf 40 = .ok (.goto (-34), 3) := by decide +kernel
theorem dX3_placesOf_43 : decode cX3_placesOf 43 = .ok (.iload 4, 2) := by decide +kernel
theorem dX3_placesOf_45 : decode cX3_placesOf 45 = .ok (.ireturn, 1) := by decide +kernel
theorem dX4_init_0 : decode cX4_init 0 = .ok (.aload_n 0, 1) := by decide +kernel
theorem dX4_init_1 : decode cX4_init 1 = .ok (.invokespecial 3, 3) := by decide +kernel
theorem dX4_init_4 : decode cX4_init 4 = .ok (.aload_n 0, 1) := by decide +kernel
theorem dX4_init_5 : decode cX4_init 5 = .ok (.new 9, 3) := by decide +kernel
theorem dX4_init_8 : decode cX4_init 8 = .ok (.dup, 1) := by decide +kernel
theorem dX4_init_9 : decode cX4_init 9 = .ok (.invokespecial 11, 3) := by decide +kernel
theorem dX4_init_12 : decode cX4_init 12 = .ok (.putfield 12, 3) := by decide +kernel
theorem dX4_init_15 : decode cX4_init 15 = .ok (.aload_n 0, 1) := by decide +kernel
theorem dX4_init_16 : decode cX4_init 16 = .ok (.iconst 0, 1) := by decide +kernel
theorem dX4_init_17 : decode cX4_init 17 = .ok (.putfield 18, 3) := by decide +kernel
theorem dX4_init_20 : decode cX4_init 20 = .ok (.aload_n 0, 1) := by decide +kernel
theorem dX4_init_21 : decode cX4_init 21 = .ok (.iconst 0, 1) := by decide +kernel
theorem dX4_init_22 : decode cX4_init 22 = .ok (.putfield 22, 3) := by decide +kernel
theorem dX4_init_25 : decode cX4_init 25 = .ok (.aload_n 0, 1) := by decide +kernel
theorem dX4_init_26 : decode cX4_init 26 = .ok (.iconst 0, 1) := by decide +kernel
theorem dX4_init_27 : decode cX4_init 27 = .ok (.putfield 25, 3) := by decide +kernel
theorem dX4_init_30 : decode cX4_init 30 = .ok (.aload_n 0, 1) := by decide +kernel
theorem dX4_init_31 : decode cX4_init 31 = .ok (.new 28, 3) := by decide +kernel
theorem dX4_init_34 : decode cX4_init 34 = .ok (.dup, 1) := by decide +kernel
theorem dX4_init_35 : decode cX4_init 35 = .ok (.invokespecial 30, 3) := by decide +kernel
theorem dX4_init_38 : decode cX4_init 38 = .ok (.putfield 31, 3) := by decide +kernel
theorem dX4_init_41 : decode cX4_init 41 = .ok (.aload_n 0, 1) := by decide +kernel
theorem dX4_init_42 : decode cX4_init 42 = .ok (.iconst 0, 1) := by decide +kernel
theorem dX4_init_43 : decode cX4_init 43 = .ok (.putfield 35, 3) := by decide +kernel
theorem dX4_init_46 : decode cX4_init 46 = .ok (.aload_n 0, 1) := by decide +kernel
theorem dX4_init_47 : decode cX4_init 47 = .ok (.iconst 0, 1) := by decide +kernel
theorem dX4_init_48 : decode cX4_init 48 = .ok (.putfield 38, 3) := by decide +kernel
theorem dX4_init_51 : decode cX4_init 51 = .ok (.aload_n 0, 1) := by decide +kernel
theorem dX4_init_52 : decode cX4_init 52 = .ok (.iconst 1, 1) := by decide +kernel
theorem dX4_init_53 : decode cX4_init 53 = .ok (.putfield 41, 3) := by decide +kernel
theorem dX4_init_56 : decode cX4_init 56 = .ok (.return_, 1) := by decide +kernel
theorem dX4_begin_0 : decode cX4_begin 0 = .ok (.aload_n 0, 1) := by decide +kernel
theorem dX4_begin_1 : decode cX4_begin 1 = .ok (.getfield 12, 3) := by decide +kernel
theorem dX4_begin_4 : decode cX4_begin 4 = .ok (.invokevirtual 45, 3) := by decide +kernel
theorem dX4_begin_7 : decode cX4_begin 7 = .ok (.aload_n 0, 1) := by decide +kernel
theorem dX4_begin_8 : decode cX4_begin 8 = .ok (.iconst 0, 1) := by decide +kernel
theorem dX4_begin_9 : decode cX4_begin 9 = .ok (.putfield 18, 3) := by decide +kernel
theorem dX4_begin_12 : decode cX4_begin 12 = .ok (.aload_n 0, 1) := by decide +kernel
theorem dX4_begin_13 : decode cX4_begin 13 = .ok (.iconst 0, 1) := by decide +kernel
theorem dX4_begin_14 : decode cX4_begin 14 = .ok (.putfield 22, 3) := by decide +kernel
theorem dX4_begin_17 : decode cX4_begin 17 = .ok (.aload_n 0, 1) := by decide +kernel
theorem dX4_begin_18 : decode cX4_begin 18 = .ok (.iconst 0, 1) := by decide +kernel
theorem dX4_begin_19 : decode cX4_begin 19 = .ok (.putfield 25, 3) := by decide +kernel
theorem dX4_begin_22 : decode cX4_begin 22 = .ok (.return_, 1) := by decide +kernel
theorem dX4_exchange_0 : decode cX4_exchange 0 = .ok (.aload_n 0, 1) := by decide +kernel
theorem dX4_exchange_1 : decode cX4_exchange 1 = .ok (.getfield 12, 3) := by decide +kernel
theorem dX4_exchange_4 : decode cX4_exchange 4 = .ok (.astore_n 2, 1) := by decide +kernel
theorem dX4_exchange_5 : decode cX4_exchange 5 = .ok (.aload_n 0, 1) := by decide +kernel
theorem dX4_exchange_6 : decode cX4_exchange 6 = .ok (.aload_n 1, 1) := by decide +kernel
theorem dX4_exchange_7 : decode cX4_exchange 7 = .ok (.putfield 12, 3) := by decide +kernel
theorem dX4_exchange_10 : decode cX4_exchange 10 = .ok (.aload_n 2, 1) := by decide +kernel
theorem dX4_exchange_11 : decode cX4_exchange 11 = .ok (.areturn, 1) := by decide +kernel
theorem dX4_isWhole_0 : decode cX4_isWhole 0 = .ok (.aload_n 0, 1) := by decide +kernel
theorem dX4_isWhole_1 : decode cX4_isWhole 1 = .ok (.getfield 22, 3) := by decide +kernel
theorem dX4_isWhole_4 : decode cX4_isWhole 4 = .ok (.ifCond .le 5, 3) := by decide +kernel
theorem dX4_isWhole_7 : decode cX4_isWhole 7 = .ok (.iconst 0, 1) := by decide +kernel
theorem dX4_isWhole_8 : decode cX4_isWhole 8 = .ok (.ireturn, 1) := by decide +kernel
theorem dX4_isWhole_9 : decode cX4_isWhole 9 = .ok (.aload_n 0, 1) := by decide +kernel
theorem dX4_isWhole_10 : decode cX4_isWhole 10 = .ok (.getfield 18, 3) := by decide +kernel
theorem dX4_isWhole_13 : decode cX4_isWhole 13 = .ok (.tableswitch 113 0 18 #[91, 113, 113, 111, 113, 113, 113, 113, 111, 113, 113, 113, 113, 111, 113, 111, 113, 111, 111], 91) := by decide +kernel
theorem dX4_isWhole_104 : decode cX4_isWhole 104 = .ok (.aload_n 0, 1) := by decide +kernel
theorem dX4_isWhole_105 : decode cX4_isWhole 105 = .ok (.getfield 12, 3) := by decide +kernel
theorem dX4_isWhole_108 : decode cX4_isWhole 108 = .ok (.iconst 0, 1) := by decide +kernel
theorem dX4_isWhole_109 : decode cX4_isWhole 109 = .ok (.invokevirtual 48, 3) := by decide +kernel
theorem dX4_isWhole_112 : decode cX4_isWhole 112 = .ok (.getfield 52, 3) := by decide +kernel
theorem dX4_isWhole_115 : decode cX4_isWhole 115 = .ok (.ifCond .le 7, 3) := by decide +kernel
theorem dX4_isWhole_118 : decode cX4_isWhole 118 = .ok (.iconst 1, 1) := by decide +kernel
theorem dX4_isWhole_119 : decode cX4_isWhole 119 = .ok (.goto 4, 3) := by decide +kernel
theorem dX4_isWhole_122 : decode cX4_isWhole 122 = .ok (.iconst 0, 1) := by decide +kernel
theorem dX4_isWhole_123 : decode cX4_isWhole 123 = .ok (.ireturn, 1) := by decide +kernel
theorem dX4_isWhole_124 : decode cX4_isWhole 124 = .ok (.iconst 1, 1) := by decide +kernel
theorem dX4_isWhole_125 : decode cX4_isWhole 125 = .ok (.ireturn, 1) := by decide +kernel
theorem dX4_isWhole_126 : decode cX4_isWhole 126 = .ok (.iconst 0, 1) := by decide +kernel
theorem dX4_isWhole_127 : decode cX4_isWhole 127 = .ok (.ireturn, 1) := by decide +kernel
theorem dX4_takes_0 : decode cX4_takes 0 = .ok (.aload_n 0, 1) := by decide +kernel
theorem dX4_takes_1 : decode cX4_takes 1 = .ok (.getfield 18, 3) := by decide +kernel
theorem dX4_takes_4 : decode cX4_takes 4 = .ok (.tableswitch 320 0 17 #[88, 94, 94, 117, 123, 133, 141, 147, 153, 174, 184, 192, 198, 220, 241, 251, 257, 283], 88) := by decide +kernel
theorem dX4_takes_92 : decode cX4_takes 92 = .ok (.aload_n 0, 1) := by decide +kernel
theorem dX4_takes_93 : decode cX4_takes 93 = .ok (.iload_n 1, 1) := by decide +kernel
theorem dX4_takes_94 : decode cX4_takes 94 = .ok (.invokevirtual 55, 3) := by decide +kernel
theorem dX4_takes_97 : decode cX4_takes 97 = .ok (.ireturn, 1) := by decide +kernel
theorem dX4_takes_98 : decode cX4_takes 98 = .ok (.aload_n 0, 1) := by decide +kernel
theorem dX4_takes_99 : decode cX4_takes 99 = .ok (.iload_n 1, 1) := by decide +kernel
theorem dX4_takes_100 : decode cX4_takes 100 = .ok (.iconst 0, 1) := by decide +kernel
theorem dX4_takes_101 : decode cX4_takes 101 = .ok (.invokevirtual 59, 3) := by decide +kernel
theorem dX4_takes_104 : decode cX4_takes 104 = .ok (.ifCond .eq 15, 3) := by decide +kernel
theorem dX4_takes_107 : decode cX4_takes 107 = .ok (.aload_n 0, 1) := by decide +kernel
theorem dX4_takes_108 : decode cX4_takes 108 = .ok (.iload_n 1, 1) := by decide +kernel
theorem dX4_takes_109 : decode cX4_takes 109 = .ok (.invokevirtual 63, 3) := by decide +kernel
theorem dX4_takes_112 : decode cX4_takes 112 = .ok (.ifCond .eq 7, 3) := by decide +kernel
theorem dX4_takes_115 : decode cX4_takes 115 = .ok (.iconst 1, 1) := by decide +kernel
theorem dX4_takes_116 : decode cX4_takes 116 = .ok (.goto 4, 3) := by decide +kernel
theorem dX4_takes_119 : decode cX4_takes 119 = .ok (.iconst 0, 1) := by decide +kernel
theorem dX4_takes_120 : decode cX4_takes 120 = .ok (.ireturn, 1) := by decide +kernel
theorem dX4_takes_121 : decode cX4_takes 121 = .ok (.aload_n 0, 1) := by decide +kernel
theorem dX4_takes_122 : decode cX4_takes 122 = .ok (.iload_n 1, 1) := by decide +kernel
theorem dX4_takes_123 : decode cX4_takes 123 = .ok (.invokevirtual 66, 3) := by decide +kernel
theorem dX4_takes_126 : decode cX4_takes 126 = .ok (.ireturn, 1) := by decide +kernel
theorem dX4_takes_127 : decode cX4_takes 127 = .ok (.aload_n 0, 1) := by decide +kernel
theorem dX4_takes_128 : decode cX4_takes 128 = .ok (.iload_n 1, 1) := by decide +kernel
theorem dX4_takes_129 : decode cX4_takes 129 = .ok (.bipush 48, 2) := by decide +kernel
theorem dX4_takes_131 : decode cX4_takes 131 = .ok (.bipush 50, 2) := by decide +kernel
theorem dX4_takes_133 : decode cX4_takes 133 = .ok (.invokevirtual 69, 3) := by decide +kernel
theorem dX4_takes_136 : decode cX4_takes 136 = .ok (.ireturn, 1) := by decide +kernel
theorem dX4_takes_137 : decode cX4_takes 137 = .ok (.aload_n 0, 1) := by decide +kernel
theorem dX4_takes_138 : decode cX4_takes 138 = .ok (.iload_n 1, 1) := by decide +kernel
theorem dX4_takes_139 : decode cX4_takes 139 = .ok (.bipush 6, 2) := by decide +kernel
theorem dX4_takes_141 : decode cX4_takes 141 = .ok (.invokevirtual 73, 3) := by decide +kernel
theorem dX4_takes_144 : decode cX4_takes 144 = .ok (.ireturn, 1) := by decide +kernel
theorem dX4_takes_145 : decode cX4_takes 145 = .ok (.aload_n 0, 1) := by decide +kernel
theorem dX4_takes_146 : decode cX4_takes 146 = .ok (.iload_n 1, 1) := by decide +kernel
theorem dX4_takes_147 : decode cX4_takes 147 = .ok (.invokevirtual 76, 3) := by decide +kernel
theorem dX4_takes_150 : decode cX4_takes 150 = .ok (.ireturn, 1) := by decide +kernel
theorem dX4_takes_151 : decode cX4_takes 151 = .ok (.aload_n 0, 1) := by decide +kernel
theorem dX4_takes_152 : decode cX4_takes 152 = .ok (.iload_n 1, 1) := by decide +kernel
theorem dX4_takes_153 : decode cX4_takes 153 = .ok (.invokevirtual 79, 3) := by decide +kernel
theorem dX4_takes_156 : decode cX4_takes 156 = .ok (.ireturn, 1) := by decide +kernel
theorem dX4_takes_157 : decode cX4_takes 157 = .ok (.iload_n 1, 1) := by decide +kernel
theorem dX4_takes_158 : decode cX4_takes 158 = .ok (.bipush 126, 2) := by decide +kernel
theorem dX4_takes_160 : decode cX4_takes 160 = .ok (.if_icmp .ne 12, 3) := by decide +kernel
theorem dX4_takes_163 : decode cX4_takes 163 = .ok (.aload_n 0, 1) := by decide +kernel
theorem dX4_takes_164 : decode cX4_takes 164 = .ok (.bipush 9, 2) := by decide +kernel
theorem dX4_takes_166 : decode cX4_takes 166 = .ok (.invokevirtual 82, 3) := by decide +kernel
theorem dX4_takes_169 : decode cX4_takes 169 = .ok (.goto 8, 3) := by decide +kernel
theorem dX4_takes_172 : decode cX4_takes 172 = .ok (.aload_n 0, 1) := by decide +kernel
theorem dX4_takes_173 : decode cX4_takes 173 = .ok (.iload_n 1, 1) := by decide +kernel
theorem dX4_takes_174 : decode cX4_takes 174 = .ok (.invokevirtual 85, 3) := by decide +kernel
theorem dX4_takes_177 : decode cX4_takes 177 = .ok (.ireturn, 1) := by decide +kernel
theorem dX4_takes_178 : decode cX4_takes 178 = .ok (.aload_n 0, 1) := by decide +kernel
theorem dX4_takes_179 : decode cX4_takes 179 = .ok (.iload_n 1, 1) := by decide +kernel
theorem dX4_takes_180 : decode cX4_takes 180 = .ok (.bipush 48, 2) := by decide +kernel
theorem dX4_takes_182 : decode cX4_takes 182 = .ok (.bipush 57, 2) := by decide +kernel
theorem dX4_takes_184 : decode cX4_takes 184 = .ok (.invokevirtual 69, 3) := by decide +kernel
theorem dX4_takes_187 : decode cX4_takes 187 = .ok (.ireturn, 1) := by decide +kernel
theorem dX4_takes_188 : decode cX4_takes 188 = .ok (.aload_n 0, 1) := by decide +kernel
theorem dX4_takes_189 : decode cX4_takes 189 = .ok (.iload_n 1, 1) := by decide +kernel
theorem dX4_takes_190 : decode cX4_takes 190 = .ok (.bipush 11, 2) := by decide +kernel
theorem dX4_takes_192 : decode cX4_takes 192 = .ok (.invokevirtual 73, 3) := by decide +kernel
theorem dX4_takes_195 : decode cX4_takes 195 = .ok (.ireturn, 1) := by decide +kernel
theorem dX4_takes_196 : decode cX4_takes 196 = .ok (.aload_n 0, 1) := by decide +kernel
theorem dX4_takes_197 : decode cX4_takes 197 = .ok (.iload_n 1, 1) := by decide +kernel
theorem dX4_takes_198 : decode cX4_takes 198 = .ok (.invokevirtual 88, 3) := by decide +kernel
theorem dX4_takes_201 : decode cX4_takes 201 = .ok (.ireturn, 1) := by decide +kernel
theorem dX4_takes_202 : decode cX4_takes 202 = .ok (.iload_n 1, 1) := by decide +kernel
theorem dX4_takes_203 : decode cX4_takes 203 = .ok (.bipush 46, 2) := by decide +kernel
theorem dX4_takes_205 : decode cX4_takes 205 = .ok (.if_icmp .ne 17, 3) := by decide +kernel
theorem dX4_takes_208 : decode cX4_takes 208 = .ok (.aload_n 0, 1) := by decide +kernel
theorem dX4_takes_209 : decode cX4_takes 209 = .ok (.iconst 1, 1) := by decide +kernel
theorem dX4_takes_210 : decode cX4_takes 210 = .ok (.bipush 10, 2) := by decide +kernel
theorem dX4_takes_212 : decode cX4_takes 212 = .ok (.invokevirtual 91, 3) := by decide +kernel
theorem dX4_takes_215 : decode cX4_takes 215 = .ok (.ifCond .eq 7, 3) := by decide +kernel
theorem dX4_takes_218 : decode cX4_takes 218 = .ok (.iconst 1, 1) := by decide +kernel
theorem dX4_takes_219 : decode cX4_takes 219 = .ok (.goto 4, 3) := by decide +kernel
theorem dX4_takes_222 : decode cX4_takes 222 = .ok (.iconst 0, 1) := by decide +kernel
theorem dX4_takes_223 : decode cX4_takes 223 = .ok (.ireturn, 1) := by decide +kernel
theorem dX4_takes_224 : decode cX4_takes 224 = .ok (.iload_n 1, 1) := by decide +kernel
theorem dX4_takes_225 : decode cX4_takes 225 = .ok (.bipush 64, 2) := by decide +kernel
theorem dX4_takes_227 : decode cX4_takes 227 = .ok (.if_icmp .ne 12, 3) := by decide +kernel
theorem dX4_takes_230 : decode cX4_takes 230 = .ok (.aload_n 0, 1) := by decide +kernel
theorem dX4_takes_231 : decode cX4_takes 231 = .ok (.bipush 14, 2) := by decide +kernel
theorem dX4_takes_233 : decode cX4_takes 233 = .ok (.invokevirtual 82, 3) := by decide +kernel
theorem dX4_takes_236 : decode cX4_takes 236 = .ok (.goto 8, 3) := by decide +kernel
theorem dX4_takes_239 : decode cX4_takes 239 = .ok (.aload_n 0, 1) := by decide +kernel
theorem dX4_takes_240 : decode cX4_takes 240 = .ok (.iload_n 1, 1) := by decide +kernel
theorem dX4_takes_241 : decode cX4_takes 241 = .ok (.invokevirtual 85, 3) := by decide +kernel
theorem dX4_takes_244 : decode cX4_takes 244 = .ok (.ireturn, 1) := by decide +kernel
theorem dX4_takes_245 : decode cX4_takes 245 = .ok (.aload_n 0, 1) := by decide +kernel
theorem dX4_takes_246 : decode cX4_takes 246 = .ok (.iload_n 1, 1) := by decide +kernel
theorem dX4_takes_247 : decode cX4_takes 247 = .ok (.bipush 49, 2) := by decide +kernel
theorem dX4_takes_249 : decode cX4_takes 249 = .ok (.bipush 57, 2) := by decide +kernel
theorem dX4_takes_251 : decode cX4_takes 251 = .ok (.invokevirtual 69, 3) := by decide +kernel
theorem dX4_takes_254 : decode cX4_takes 254 = .ok (.ireturn, 1) := by decide +kernel
theorem dX4_takes_255 : decode cX4_takes 255 = .ok (.aload_n 0, 1) := by decide +kernel
theorem dX4_takes_256 : decode cX4_takes 256 = .ok (.iload_n 1, 1) := by decide +kernel
theorem dX4_takes_257 : decode cX4_takes 257 = .ok (.invokevirtual 85, 3) := by decide +kernel
theorem dX4_takes_260 : decode cX4_takes 260 = .ok (.ireturn, 1) := by decide +kernel
theorem dX4_takes_261 : decode cX4_takes 261 = .ok (.iload_n 1, 1) := by decide +kernel
theorem dX4_takes_262 : decode cX4_takes 262 = .ok (.invokestatic 94, 3) := by decide +kernel
theorem dX4_takes_265 : decode cX4_takes 265 = .ok (.ifCond .eq 20, 3) := by decide +kernel
theorem dX4_takes_268 : decode cX4_takes 268 = .ok (.aload_n 0, 1) := by decide +kernel
theorem dX4_takes_269 : decode cX4_takes 269 = .ok (.iload_n 1, 1) := by decide +kernel
theorem dX4_takes_270 : decode cX4_takes 270 = .ok (.bipush 48, 2) := by decide +kernel
theorem dX4_takes_272 : decode cX4_takes 272 = .ok (.isub, 1) := by decide +kernel
theorem dX4_takes_273 : decode cX4_takes 273 = .ok (.bipush 17, 2) := by decide +kernel
theorem dX4_takes_275 : decode cX4_takes 275 = .ok (.invokevirtual 97, 3) := by decide +kernel
theorem dX4_takes_278 : decode cX4_takes 278 = .ok (.ifCond .eq 7, 3) := by decide +kernel
theorem dX4_takes_281 : decode cX4_takes 281 = .ok (.iconst 1, 1) := by decide +kernel
theorem dX4_takes_282 : decode cX4_takes 282 = .ok (.goto 4, 3) := by decide +kernel
theorem dX4_takes_285 : decode cX4_takes 285 = .ok (.iconst 0, 1) := by decide +kernel
theorem dX4_takes_286 : decode cX4_takes 286 = .ok (.ireturn, 1) := by decide +kernel
theorem dX4_takes_287 : decode cX4_takes 287 = .ok (.iload_n 1, 1) := by decide +kernel
theorem dX4_takes_288 : decode cX4_takes 288 = .ok (.invokestatic 94, 3) := by decide +kernel
theorem dX4_takes_291 : decode cX4_takes 291 = .ok (.ifCond .eq 27, 3) := by decide +kernel
theorem dX4_takes_294 : decode cX4_takes 294 = .ok (.aload_n 0, 1) := by decide +kernel
theorem dX4_takes_295 : decode cX4_takes 295 = .ok (.bipush 10, 2) := by decide +kernel
theorem dX4_takes_297 : decode cX4_takes 297 = .ok (.aload_n 0, 1) := by decide +kernel
theorem dX4_takes_298 : decode cX4_takes 298 = .ok (.getfield 31, 3) := by decide +kernel
theorem dX4_takes_301 : decode cX4_takes 301 = .ok (.getfield 100, 3) := by decide +kernel
theorem dX4_takes_304 : decode cX4_takes 304 = .ok (.imul, 1) := by decide +kernel
theorem dX4_takes_305 : decode cX4_takes 305 = .ok (.iload_n 1, 1) := by decide +kernel
theorem dX4_takes_306 : decode cX4_takes 306 = .ok (.iadd, 1) := by decide +kernel
theorem dX4_takes_307 : decode cX4_takes 307 = .ok (.bipush 48, 2) := by decide +kernel
theorem dX4_takes_309 : decode cX4_takes 309 = .ok (.isub, 1) := by decide +kernel
theorem dX4_takes_310 : decode cX4_takes 310 = .ok (.bipush 18, 2) := by decide +kernel
theorem dX4_takes_312 : decode cX4_takes 312 = .ok (.invokevirtual 97, 3) := by decide +kernel
theorem dX4_takes_315 : decode cX4_takes 315 = .ok (.goto 8, 3) := by decide +kernel
theorem dX4_takes_318 : decode cX4_takes 318 = .ok (.aload_n 0, 1) := by decide +kernel
theorem dX4_takes_319 : decode cX4_takes 319 = .ok (.iload_n 1, 1) := by decide +kernel
theorem dX4_takes_320 : decode cX4_takes 320 = .ok (.invokevirtual 103, 3) := by decide +kernel
theorem dX4_takes_323 : decode cX4_takes 323 = .ok (.ireturn, 1) := by decide +kernel
theorem dX4_takes_324 : decode cX4_takes 324 = .ok (.aload_n 0, 1) := by decide +kernel
theorem dX4_takes_325 : decode cX4_takes 325 = .ok (.iload_n 1, 1) := by decide +kernel
theorem dX4_takes_326 : decode cX4_takes 326 = .ok (.invokevirtual 103, 3) := by decide +kernel
theorem dX4_takes_329 : decode cX4_takes 329 = .ok (.ireturn, 1) := by decide +kernel
theorem dX4_goTo_0 : decode cX4_goTo 0 = .ok (.aload_n 0, 1) := by decide +kernel
theorem dX4_goTo_1 : decode cX4_goTo 1 = .ok (.iload_n 1, 1) := by decide +kernel
theorem dX4_goTo_2 : decode cX4_goTo 2 = .ok (.putfield 18, 3) := by decide +kernel
theorem dX4_goTo_5 : decode cX4_goTo 5 = .ok (.iconst 1, 1) := by decide +kernel
theorem dX4_goTo_6 : decode cX4_goTo 6 = .ok (.ireturn, 1) := by decide +kernel
theorem dX4_isFigure_0 : decode cX4_isFigure 0 = .ok (.iload_n 0, 1) := by decide +kernel
theorem dX4_isFigure_1 : decode cX4_isFigure 1 = .ok (.bipush 48, 2) := by decide +kernel
theorem dX4_isFigure_3 : decode cX4_isFigure 3 = .ok (.if_icmp .lt 13, 3) := by decide +kernel
theorem dX4_isFigure_6 : decode cX4_isFigure 6 = .ok (.iload_n 0, 1) := by decide +kernel
theorem dX4_isFigure_7 : decode cX4_isFigure 7 = .ok (.bipush 57, 2) := by decide +kernel
theorem dX4_isFigure_9 : decode cX4_isFigure 9 = .ok (.if_icmp .gt 7, 3) := by decide +kernel
theorem dX4_isFigure_12 : decode cX4_isFigure 12 = .ok (.iconst 1, 1) := by decide +kernel
theorem dX4_isFigure_13 : decode cX4_isFigure 13 = .ok (.goto 4, 3) := by decide +kernel
theorem dX4_isFigure_16 : decode cX4_isFigure 16 = .ok (.iconst 0, 1) := by decide +kernel
theorem dX4_isFigure_17 : decode cX4_isFigure 17 = .ok (.ireturn, 1) := by decide +kernel
theorem dX4_takesInGap_0 : decode cX4_takesInGap 0 = .ok (.iload_n 1, 1) := by decide +kernel
theorem dX4_takesInGap_1 : decode cX4_takesInGap 1 = .ok (.bipush 32, 2) := by decide +kernel
theorem dX4_takesInGap_3 : decode cX4_takesInGap 3 = .ok (.if_icmp .ne 5, 3) := by decide +kernel
theorem dX4_takesInGap_6 : decode cX4_takesInGap 6 = .ok (.iconst 1, 1) := by decide +kernel
theorem dX4_takesInGap_7 : decode cX4_takesInGap 7 = .ok (.ireturn, 1) := by decide +kernel
theorem dX4_takesInGap_8 : decode cX4_takesInGap 8 = .ok (.iload_n 1, 1) := by decide +kernel
theorem dX4_takesInGap_9 : decode cX4_takesInGap 9 = .ok (.bipush 41, 2) := by decide +kernel
theorem dX4_takesInGap_11 : decode cX4_takesInGap 11 = .ok (.if_icmp .ne 33, 3) := by decide +kernel
theorem dX4_takesInGap_14 : decode cX4_takesInGap 14 = .ok (.aload_n 0, 1) := by decide +kernel
theorem dX4_takesInGap_15 : decode cX4_takesInGap 15 = .ok (.getfield 12, 3) := by decide +kernel
theorem dX4_takesInGap_18 : decode cX4_takesInGap 18 = .ok (.aload_n 0, 1) := by decide +kernel
theorem dX4_takesInGap_19 : decode cX4_takesInGap 19 = .ok (.getfield 25, 3) := by decide +kernel
theorem dX4_takesInGap_22 : decode cX4_takesInGap 22 = .ok (.invokevirtual 48, 3) := by decide +kernel
theorem dX4_takesInGap_25 : decode cX4_takesInGap 25 = .ok (.getfield 52, 3) := by decide +kernel
theorem dX4_takesInGap_28 : decode cX4_takesInGap 28 = .ok (.ifCond .le 14, 3) := by decide +kernel
theorem dX4_takesInGap_31 : decode cX4_takesInGap 31 = .ok (.aload_n 0, 1) := by decide +kernel
theorem dX4_takesInGap_32 : decode cX4_takesInGap 32 = .ok (.invokevirtual 106, 3) := by decide +kernel
theorem dX4_takesInGap_35 : decode cX4_takesInGap 35 = .ok (.ifCond .eq 7, 3) := by decide +kernel
theorem dX4_takesInGap_38 : decode cX4_takesInGap 38 = .ok (.iconst 1, 1) := by decide +kernel
theorem dX4_takesInGap_39 : decode cX4_takesInGap 39 = .ok (.goto 4, 3) := by decide +kernel
theorem dX4_takesInGap_42 : decode cX4_takesInGap 42 = .ok (.iconst 0, 1) := by decide +kernel
theorem dX4_takesInGap_43 : decode cX4_takesInGap 43 = .ok (.ireturn, 1) := by decide +kernel
theorem dX4_takesInGap_44 : decode cX4_takesInGap 44 = .ok (.iload_n 1, 1) := by decide +kernel
theorem dX4_takesInGap_45 : decode cX4_takesInGap 45 = .ok (.bipush 43, 2) := by decide +kernel
theorem dX4_takesInGap_47 : decode cX4_takesInGap 47 = .ok (.if_icmp .eq 9, 3) := by decide +kernel
theorem dX4_takesInGap_50 : decode cX4_takesInGap 50 = .ok (.iload_n 1, 1) := by decide +kernel
theorem dX4_takesInGap_51 : decode cX4_takesInGap 51 = .ok (.bipush 45, 2) := by decide +kernel
theorem dX4_takesInGap_53 : decode cX4_takesInGap 53 = .ok (.if_icmp .ne 7, 3) := by decide +kernel
theorem dX4_takesInGap_56 : decode cX4_takesInGap 56 = .ok (.iconst 1, 1) := by decide +kernel
theorem dX4_takesInGap_57 : decode cX4_takesInGap 57 = .ok (.goto 4, 3) := by decide +kernel
theorem dX4_takesInGap_60 : decode cX4_takesInGap 60 = .ok (.iconst 0, 1) := by decide +kernel
theorem dX4_takesInGap_61 : decode cX4_takesInGap 61 = .ok (.istore_n 2, 1) := by decide +kernel
theorem dX4_takesInGap_62 : decode cX4_takesInGap 62 = .ok (.iload_n 2, 1) := by decide +kernel
theorem dX4_takesInGap_63 : decode cX4_takesInGap 63 = .ok (.ifCond .eq 17, 3) := by decide +kernel
theorem dX4_takesInGap_66 : decode cX4_takesInGap 66 = .ok (.aload_n 0, 1) := by decide +kernel
theorem dX4_takesInGap_67 : decode cX4_takesInGap 67 = .ok (.getfield 12, 3) := by decide +kernel
theorem dX4_takesInGap_70 : decode cX4_takesInGap 70 = .ok (.iconst 1, 1) := by decide +kernel
theorem dX4_takesInGap_71 : decode cX4_takesInGap 71 = .ok (.invokevirtual 110, 3) := by decide +kernel
theorem dX4_takesInGap_74 : decode cX4_takesInGap 74 = .ok (.ifCond .eq 15, 3) := by decide +kernel
theorem dX4_takesInGap_77 : decode cX4_takesInGap 77 = .ok (.goto 14, 3) := by decide +kernel
theorem dX4_takesInGap_80 : decode cX4_takesInGap 80 = .ok (.aload_n 0, 1) := by decide +kernel
theorem dX4_takesInGap_81 : decode cX4_takesInGap 81 = .ok (.iload_n 1, 1) := by decide +kernel
theorem dX4_takesInGap_82 : decode cX4_takesInGap 82 = .ok (.iconst 1, 1) := by decide +kernel
theorem dX4_takesInGap_83 : decode cX4_takesInGap 83 = .ok (.invokevirtual 59, 3) := by decide +kernel
theorem dX4_takesInGap_86 : decode cX4_takesInGap 86 = .ok (.ifCond .ne 5, 3) := by decide +kernel
theorem dX4_takesInGap_89 : decode cX4_takesInGap 89 = .ok (.iconst 0, 1) := by decide +kernel
theorem dX4_takesInGap_90 : decode cX4_takesInGap 90 = .ok (.ireturn, 1) := by decide +kernel
theorem dX4_takesInGap_91 : decode cX4_takesInGap 91 = .ok (.aload_n 0, 1) := by decide +kernel
theorem dX4_takesInGap_92 : decode cX4_takesInGap 92 = .ok (.aload_n 0, 1) := by decide +kernel
theorem dX4_takesInGap_93 : decode cX4_takesInGap 93 = .ok (.getfield 12, 3) := by decide +kernel
theorem dX4_takesInGap_96 : decode cX4_takesInGap 96 = .ok (.iload_n 1, 1) := by decide +kernel
theorem dX4_takesInGap_97 : decode cX4_takesInGap 97 = .ok (.bipush 43, 2) := by decide +kernel
theorem dX4_takesInGap_99 : decode cX4_takesInGap 99 = .ok (.if_icmp .ne 7, 3) := by decide +kernel
theorem dX4_takesInGap_102 : decode cX4_takesInGap 102 = .ok (.iconst 1, 1) := by decide +kernel
theorem dX4_takesInGap_103 : decode cX4_takesInGap 103 = .ok (.goto 14, 3) := by decide +kernel
theorem dX4_takesInGap_106 : decode cX4_takesInGap 106 = .ok (.iload_n 1, 1) := by decide +kernel
theorem dX4_takesInGap_107 : decode cX4_takesInGap 107 = .ok (.bipush 45, 2) := by decide +kernel
theorem dX4_takesInGap_109 : decode cX4_takesInGap 109 = .ok (.if_icmp .ne 7, 3) := by decide +kernel
theorem dX4_takesInGap_112 : decode cX4_takesInGap 112 = .ok (.iconst 2, 1) := by decide +kernel
theorem dX4_takesInGap_113 : decode cX4_takesInGap 113 = .ok (.goto 4, 3) := by decide +kernel
theorem dX4_takesInGap_116 : decode cX4_takesInGap 116 = .ok (.iconst 0, 1) := by decide +kernel
theorem dX4_takesInGap_117 : decode cX4_takesInGap 117 = .ok (.aload_n 0, 1) := by decide +kernel
theorem dX4_takesInGap_118 : decode cX4_takesInGap 118 = .ok (.getfield 25, 3) := by decide +kernel
theorem dX4_takesInGap_121 : decode cX4_takesInGap 121 = .ok (.invokevirtual 113, 3) := by decide +kernel
theorem dX4_takesInGap_124 : decode cX4_takesInGap 124 = .ok (.putfield 31, 3) := by decide +kernel
theorem dX4_takesInGap_127 : decode cX4_takesInGap 127 = .ok (.iload_n 2, 1) := by decide +kernel
theorem dX4_takesInGap_128 : decode cX4_takesInGap 128 = .ok (.ifCond .eq 11, 3) := by decide +kernel
theorem dX4_takesInGap_131 : decode cX4_takesInGap 131 = .ok (.aload_n 0, 1) := by decide +kernel
theorem dX4_takesInGap_132 : decode cX4_takesInGap 132 = .ok (.iconst 1, 1) := by decide +kernel
theorem dX4_takesInGap_133 : decode cX4_takesInGap 133 = .ok (.invokevirtual 82, 3) := by decide +kernel
theorem dX4_takesInGap_136 : decode cX4_takesInGap 136 = .ok (.goto 8, 3) := by decide +kernel
theorem dX4_takesInGap_139 : decode cX4_takesInGap 139 = .ok (.aload_n 0, 1) := by decide +kernel
theorem dX4_takesInGap_140 : decode cX4_takesInGap 140 = .ok (.iload_n 1, 1) := by decide +kernel
theorem dX4_takesInGap_141 : decode cX4_takesInGap 141 = .ok (.invokevirtual 63, 3) := by decide +kernel
theorem dX4_takesInGap_144 : decode cX4_takesInGap 144 = .ok (.ireturn, 1) := by decide +kernel
theorem dX4_canBeginCore_0 : decode cX4_canBeginCore 0 = .ok (.iload_n 1, 1) := by decide +kernel
theorem dX4_canBeginCore_1 : decode cX4_canBeginCore 1 = .ok (.bipush 40, 2) := by decide +kernel
theorem dX4_canBeginCore_3 : decode cX4_canBeginCore 3 = .ok (.if_icmp .ne 30, 3) := by decide +kernel
theorem dX4_canBeginCore_6 : decode cX4_canBeginCore 6 = .ok (.aload_n 0, 1) := by decide +kernel
theorem dX4_canBeginCore_7 : decode cX4_canBeginCore 7 = .ok (.getfield 22, 3) := by decide +kernel
theorem dX4_canBeginCore_10 : decode cX4_canBeginCore 10 = .ok (.iconst 5, 1) := by decide +kernel
theorem dX4_canBeginCore_11 : decode cX4_canBeginCore 11 = .ok (.if_icmp .ge 20, 3) := by decide +kernel
theorem dX4_canBeginCore_14 : decode cX4_canBeginCore 14 = .ok (.aload_n 0, 1) := by decide +kernel
theorem dX4_canBeginCore_15 : decode cX4_canBeginCore 15 = .ok (.getfield 12, 3) := by decide +kernel
theorem dX4_canBeginCore_18 : decode cX4_canBeginCore 18 = .ok (.iload_n 2, 1) := by decide +kernel
theorem dX4_canBeginCore_19 : decode cX4_canBeginCore 19 = .ok (.iconst 1, 1) := by decide +kernel
theorem dX4_canBeginCore_20 : decode cX4_canBeginCore 20 = .ok (.iadd, 1) := by decide +kernel
theorem dX4_canBeginCore_21 : decode cX4_canBeginCore 21 = .ok (.invokevirtual 110, 3) := by decide +kernel
theorem dX4_canBeginCore_24 : decode cX4_canBeginCore 24 = .ok (.ifCond .eq 7, 3) := by decide +kernel
theorem dX4_canBeginCore_27 : decode cX4_canBeginCore 27 = .ok (.iconst 1, 1) := by decide +kernel
theorem dX4_canBeginCore_28 : decode cX4_canBeginCore 28 = .ok (.goto 4, 3) := by decide +kernel
theorem dX4_canBeginCore_31 : decode cX4_canBeginCore 31 = .ok (.iconst 0, 1) := by decide +kernel
theorem dX4_canBeginCore_32 : decode cX4_canBeginCore 32 = .ok (.ireturn, 1) := by decide +kernel
theorem dX4_canBeginCore_33 : decode cX4_canBeginCore 33 = .ok (.aload_n 0, 1) := by decide +kernel
theorem dX4_canBeginCore_34 : decode cX4_canBeginCore 34 = .ok (.getfield 12, 3) := by decide +kernel
theorem dX4_canBeginCore_37 : decode cX4_canBeginCore 37 = .ok (.iload_n 2, 1) := by decide +kernel
theorem dX4_canBeginCore_38 : decode cX4_canBeginCore 38 = .ok (.invokevirtual 110, 3) := by decide +kernel
theorem dX4_canBeginCore_41 : decode cX4_canBeginCore 41 = .ok (.ifCond .eq 32, 3) := by decide +kernel
theorem dX4_canBeginCore_44 : decode cX4_canBeginCore 44 = .ok (.iload_n 1, 1) := by decide +kernel
theorem dX4_canBeginCore_45 : decode cX4_canBeginCore 45 = .ok (.invokestatic 117, 3) := by decide +kernel
theorem dX4_canBeginCore_48 : decode cX4_canBeginCore 48 = .ok (.ifCond .ne 21, 3) := by decide +kernel
theorem dX4_canBeginCore_51 : decode cX4_canBeginCore 51 = .ok (.iload_n 1, 1) := by decide +kernel
theorem dX4_canBeginCore_52 : decode cX4_canBeginCore 52 = .ok (.bipush 34, 2) := by decide +kernel
theorem dX4_canBeginCore_54 : decode cX4_canBeginCore 54 = .ok (.if_icmp .eq 15, 3) := by decide +kernel
theorem dX4_canBeginCore_57 : decode cX4_canBeginCore 57 = .ok (.iload_n 1, 1) := by decide +kernel
theorem dX4_canBeginCore_58 : decode cX4_canBeginCore 58 = .ok (.bipush 91, 2) := by decide +kernel
theorem dX4_canBeginCore_60 : decode cX4_canBeginCore 60 = .ok (.if_icmp .eq 9, 3) := by decide +kernel
theorem dX4_canBeginCore_63 : decode cX4_canBeginCore 63 = .ok (.iload_n 1, 1) := by decide +kernel
theorem dX4_canBeginCore_64 : decode cX4_canBeginCore 64 = .ok (.bipush 123, 2) := by decide +kernel
theorem dX4_canBeginCore_66 : decode cX4_canBeginCore 66 = .ok (.if_icmp .ne 7, 3) := by decide +kernel
theorem dX4_canBeginCore_69 : decode cX4_canBeginCore 69 = .ok (.iconst 1, 1) := by decide +kernel
theorem dX4_canBeginCore_70 : decode cX4_canBeginCore 70 = .ok (.goto 4, 3) := by decide +kernel
theorem dX4_canBeginCore_73 : decode cX4_canBeginCore 73 = .ok (.iconst 0, 1) := by decide +kernel
theorem dX4_canBeginCore_74 : decode cX4_canBeginCore 74 = .ok (.ireturn, 1) := by decide +kernel
theorem dX4_beginCore_0 : decode cX4_beginCore 0 = .ok (.iload_n 1, 1) := by decide +kernel
theorem dX4_beginCore_1 : decode cX4_beginCore 1 = .ok (.lookupswitch 97 #[(34, 48), (40, 43), (91, 63), (123, 63)], 43) := by decide +kernel
theorem dX4_beginCore_44 : decode cX4_beginCore 44 = .ok (.aload_n 0, 1) := by decide +kernel
theorem dX4_beginCore_45 : decode cX4_beginCore 45 = .ok (.invokevirtual 122, 3) := by decide +kernel
theorem dX4_beginCore_48 : decode cX4_beginCore 48 = .ok (.ireturn, 1) := by decide +kernel
theorem dX4_beginCore_49 : decode cX4_beginCore 49 = .ok (.aload_n 0, 1) := by decide +kernel
theorem dX4_beginCore_50 : decode cX4_beginCore 50 = .ok (.getfield 31, 3) := by decide +kernel
theorem dX4_beginCore_53 : decode cX4_beginCore 53 = .ok (.iconst 1, 1) := by decide +kernel
theorem dX4_beginCore_54 : decode cX4_beginCore 54 = .ok (.putfield 125, 3) := by decide +kernel
theorem dX4_beginCore_57 : decode cX4_beginCore 57 = .ok (.aload_n 0, 1) := by decide +kernel
theorem dX4_beginCore_58 : decode cX4_beginCore 58 = .ok (.iconst 0, 1) := by decide +kernel
theorem dX4_beginCore_59 : decode cX4_beginCore 59 = .ok (.iconst 5, 1) := by decide +kernel
theorem dX4_beginCore_60 : decode cX4_beginCore 60 = .ok (.invokevirtual 91, 3) := by decide +kernel
theorem dX4_beginCore_63 : decode cX4_beginCore 63 = .ok (.ireturn, 1) := by decide +kernel
theorem dX4_beginCore_64 : decode cX4_beginCore 64 = .ok (.aload_n 0, 1) := by decide +kernel
theorem dX4_beginCore_65 : decode cX4_beginCore 65 = .ok (.getfield 31, 3) := by decide +kernel
theorem dX4_beginCore_68 : decode cX4_beginCore 68 = .ok (.iconst 2, 1) := by decide +kernel
theorem dX4_beginCore_69 : decode cX4_beginCore 69 = .ok (.putfield 125, 3) := by decide +kernel
theorem dX4_beginCore_72 : decode cX4_beginCore 72 = .ok (.aload_n 0, 1) := by decide +kernel
theorem dX4_beginCore_73 : decode cX4_beginCore 73 = .ok (.getfield 31, 3) := by decide +kernel
theorem dX4_beginCore_76 : decode cX4_beginCore 76 = .ok (.iload_n 1, 1) := by decide +kernel
theorem dX4_beginCore_77 : decode cX4_beginCore 77 = .ok (.bipush 123, 2) := by decide +kernel
theorem dX4_beginCore_79 : decode cX4_beginCore 79 = .ok (.if_icmp .ne 7, 3) := by decide +kernel
theorem dX4_beginCore_82 : decode cX4_beginCore 82 = .ok (.iconst 1, 1) := by decide +kernel
theorem dX4_beginCore_83 : decode cX4_beginCore 83 = .ok (.goto 4, 3) := by decide +kernel
theorem dX4_beginCore_86 : decode cX4_beginCore 86 = .ok (.iconst 0, 1) := by decide +kernel
theorem dX4_beginCore_87 : decode cX4_beginCore 87 = .ok (.putfield 128, 3) := by decide +kernel
theorem dX4_beginCore_90 : decode cX4_beginCore 90 = .ok (.aload_n 0, 1) := by decide +kernel
theorem dX4_beginCore_91 : decode cX4_beginCore 91 = .ok (.iconst 0, 1) := by decide +kernel
theorem dX4_beginCore_92 : decode cX4_beginCore 92 = .ok (.bipush 10, 2) := by decide +kernel
theorem dX4_beginCore_94 : decode cX4_beginCore 94 = .ok (.invokevirtual 91, 3) := by decide +kernel
theorem dX4_beginCore_97 : decode cX4_beginCore 97 = .ok (.ireturn, 1) := by decide +kernel
theorem dX4_beginCore_98 : decode cX4_beginCore 98 = .ok (.aload_n 0, 1) := by decide +kernel
theorem dX4_beginCore_99 : decode cX4_beginCore 99 = .ok (.iconst 0, 1) := by decide +kernel
theorem dX4_beginCore_100 : decode cX4_beginCore 100 = .ok (.iconst 3, 1) := by decide +kernel
theorem dX4_beginCore_101 : decode cX4_beginCore 101 = .ok (.invokevirtual 91, 3) := by decide +kernel
theorem dX4_beginCore_104 : decode cX4_beginCore 104 = .ok (.ifCond .eq 15, 3) := by decide +kernel
theorem dX4_beginCore_107 : decode cX4_beginCore 107 = .ok (.aload_n 0, 1) := by decide +kernel
theorem dX4_beginCore_108 : decode cX4_beginCore 108 = .ok (.iload_n 1, 1) := by decide +kernel
theorem dX4_beginCore_109 : decode cX4_beginCore 109 = .ok (.invokevirtual 131, 3) := by decide +kernel
theorem dX4_beginCore_112 : decode cX4_beginCore 112 = .ok (.ifCond .eq 7, 3) := by decide +kernel
theorem dX4_beginCore_115 : decode cX4_beginCore 115 = .ok (.iconst 1, 1) := by decide +kernel
theorem dX4_beginCore_116 : decode cX4_beginCore 116 = .ok (.goto 4, 3) := by decide +kernel
theorem dX4_beginCore_119 : decode cX4_beginCore 119 = .ok (.iconst 0, 1) := by decide +kernel
theorem dX4_beginCore_120 : decode cX4_beginCore 120 = .ok (.ireturn, 1) := by decide +kernel
theorem dX4_openGroup_0 : decode cX4_openGroup 0 = .ok (.aload_n 0, 1) := by decide +kernel
theorem dX4_openGroup_1 : decode cX4_openGroup 1 = .ok (.getfield 31, 3) := by decide +kernel
theorem dX4_openGroup_4 : decode cX4_openGroup 4 = .ok (.iconst 3, 1) := by decide +kernel
theorem dX4_openGroup_5 : decode cX4_openGroup 5 = .ok (.putfield 125, 3) := by decide +kernel
theorem dX4_openGroup_8 : decode cX4_openGroup 8 = .ok (.aload_n 0, 1) := by decide +kernel
theorem dX4_openGroup_9 : decode cX4_openGroup 9 = .ok (.getfield 31, 3) := by decide +kernel
theorem dX4_openGroup_12 : decode cX4_openGroup 12 = .ok (.iconst (-1), 1) := by decide +kernel
theorem dX4_openGroup_13 : decode cX4_openGroup 13 = .ok (.putfield 128, 3) := by decide +kernel
theorem dX4_openGroup_16 : decode cX4_openGroup 16 = .ok (.aload_n 0, 1) := by decide +kernel
theorem dX4_openGroup_17 : decode cX4_openGroup 17 = .ok (.aload_n 0, 1) := by decide +kernel
theorem dX4_openGroup_18 : decode cX4_openGroup 18 = .ok (.getfield 12, 3) := by decide +kernel
theorem dX4_openGroup_21 : decode cX4_openGroup 21 = .ok (.getfield 134, 3) := by decide +kernel
theorem dX4_openGroup_24 : decode cX4_openGroup 24 = .ok (.iconst 1, 1) := by decide +kernel
theorem dX4_openGroup_25 : decode cX4_openGroup 25 = .ok (.isub, 1) := by decide +kernel
theorem dX4_openGroup_26 : decode cX4_openGroup 26 = .ok (.putfield 25, 3) := by decide +kernel
theorem dX4_openGroup_29 : decode cX4_openGroup 29 = .ok (.aload_n 0, 1) := by decide +kernel
theorem dX4_openGroup_30 : decode cX4_openGroup 30 = .ok (.dup, 1) := by decide +kernel
theorem dX4_openGroup_31 : decode cX4_openGroup 31 = .ok (.getfield 22, 3) := by decide +kernel
theorem dX4_openGroup_34 : decode cX4_openGroup 34 = .ok (.iconst 1, 1) := by decide +kernel
theorem dX4_openGroup_35 : decode cX4_openGroup 35 = .ok (.iadd, 1) := by decide +kernel
theorem dX4_openGroup_36 : decode cX4_openGroup 36 = .ok (.putfield 22, 3) := by decide +kernel
theorem dX4_openGroup_39 : decode cX4_openGroup 39 = .ok (.aload_n 0, 1) := by decide +kernel
theorem dX4_openGroup_40 : decode cX4_openGroup 40 = .ok (.iconst 0, 1) := by decide +kernel
theorem dX4_openGroup_41 : decode cX4_openGroup 41 = .ok (.invokevirtual 82, 3) := by decide +kernel
theorem dX4_openGroup_44 : decode cX4_openGroup 44 = .ok (.ireturn, 1) := by decide +kernel
theorem dX4_closeGroup_0 : decode cX4_closeGroup 0 = .ok (.aload_n 0, 1) := by decide +kernel
theorem dX4_closeGroup_1 : decode cX4_closeGroup 1 = .ok (.getfield 22, 3) := by decide +kernel
theorem dX4_closeGroup_4 : decode cX4_closeGroup 4 = .ok (.ifCond .ne 5, 3) := by decide +kernel
theorem dX4_closeGroup_7 : decode cX4_closeGroup 7 = .ok (.iconst 0, 1) := by decide +kernel
theorem dX4_closeGroup_8 : decode cX4_closeGroup 8 = .ok (.ireturn, 1) := by decide +kernel
theorem dX4_closeGroup_9 : decode cX4_closeGroup 9 = .ok (.aload_n 0, 1) := by decide +kernel
theorem dX4_closeGroup_10 : decode cX4_closeGroup 10 = .ok (.aload_n 0, 1) := by decide +kernel
theorem dX4_closeGroup_11 : decode cX4_closeGroup 11 = .ok (.getfield 12, 3) := by decide +kernel
theorem dX4_closeGroup_14 : decode cX4_closeGroup 14 = .ok (.aload_n 0, 1) := by decide +kernel
theorem dX4_closeGroup_15 : decode cX4_closeGroup 15 = .ok (.getfield 25, 3) := by decide +kernel
theorem dX4_closeGroup_18 : decode cX4_closeGroup 18 = .ok (.invokevirtual 48, 3) := by decide +kernel
theorem dX4_closeGroup_21 : decode cX4_closeGroup 21 = .ok (.putfield 31, 3) := by decide +kernel
theorem dX4_closeGroup_24 : decode cX4_closeGroup 24 = .ok (.aload_n 0, 1) := by decide +kernel
theorem dX4_closeGroup_25 : decode cX4_closeGroup 25 = .ok (.aload_n 0, 1) := by decide +kernel
theorem dX4_closeGroup_26 : decode cX4_closeGroup 26 = .ok (.getfield 31, 3) := by decide +kernel
theorem dX4_closeGroup_29 : decode cX4_closeGroup 29 = .ok (.getfield 137, 3) := by decide +kernel
theorem dX4_closeGroup_32 : decode cX4_closeGroup 32 = .ok (.putfield 25, 3) := by decide +kernel
theorem dX4_closeGroup_35 : decode cX4_closeGroup 35 = .ok (.aload_n 0, 1) := by decide +kernel
theorem dX4_closeGroup_36 : decode cX4_closeGroup 36 = .ok (.dup, 1) := by decide +kernel
theorem dX4_closeGroup_37 : decode cX4_closeGroup 37 = .ok (.getfield 22, 3) := by decide +kernel
theorem dX4_closeGroup_40 : decode cX4_closeGroup 40 = .ok (.iconst 1, 1) := by decide +kernel
theorem dX4_closeGroup_41 : decode cX4_closeGroup 41 = .ok (.isub, 1) := by decide +kernel
theorem dX4_closeGroup_42 : decode cX4_closeGroup 42 = .ok (.putfield 22, 3) := by decide +kernel
theorem dX4_closeGroup_45 : decode cX4_closeGroup 45 = .ok (.aload_n 0, 1) := by decide +kernel
theorem dX4_closeGroup_46 : decode cX4_closeGroup 46 = .ok (.bipush 13, 2) := by decide +kernel
theorem dX4_closeGroup_48 : decode cX4_closeGroup 48 = .ok (.invokevirtual 82, 3) := by decide +kernel
theorem dX4_closeGroup_51 : decode cX4_closeGroup 51 = .ok (.ireturn, 1) := by decide +kernel
theorem dX4_beginWord_0 : decode cX4_beginWord 0 = .ok (.aload_n 0, 1) := by decide +kernel
theorem dX4_beginWord_1 : decode cX4_beginWord 1 = .ok (.iload_n 1, 1) := by decide +kernel
theorem dX4_beginWord_2 : decode cX4_beginWord 2 = .ok (.putfield 35, 3) := by decide +kernel
theorem dX4_beginWord_5 : decode cX4_beginWord 5 = .ok (.aload_n 0, 1) := by decide +kernel
theorem dX4_beginWord_6 : decode cX4_beginWord 6 = .ok (.iconst 0, 1) := by decide +kernel
theorem dX4_beginWord_7 : decode cX4_beginWord 7 = .ok (.putfield 38, 3) := by decide +kernel
theorem dX4_beginWord_10 : decode cX4_beginWord 10 = .ok (.aload_n 0, 1) := by decide +kernel
theorem dX4_beginWord_11 : decode cX4_beginWord 11 = .ok (.iconst 1, 1) := by decide +kernel
theorem dX4_beginWord_12 : decode cX4_beginWord 12 = .ok (.putfield 41, 3) := by decide +kernel
theorem dX4_beginWord_15 : decode cX4_beginWord 15 = .ok (.aload_n 0, 1) := by decide +kernel
theorem dX4_beginWord_16 : decode cX4_beginWord 16 = .ok (.iload_n 2, 1) := by decide +kernel
theorem dX4_beginWord_17 : decode cX4_beginWord 17 = .ok (.invokevirtual 82, 3) := by decide +kernel
theorem dX4_beginWord_20 : decode cX4_beginWord 20 = .ok (.ireturn, 1) := by decide +kernel
theorem dX4_takeSign_0 : decode cX4_takeSign 0 = .ok (.aload_n 0, 1) := by decide +kernel
theorem dX4_takeSign_1 : decode cX4_takeSign 1 = .ok (.aload_n 0, 1) := by decide +kernel
theorem dX4_takeSign_2 : decode cX4_takeSign 2 = .ok (.getfield 41, 3) := by decide +kernel
theorem dX4_takeSign_5 : decode cX4_takeSign 5 = .ok (.ifCond .eq 14, 3) := by decide +kernel
theorem dX4_takeSign_8 : decode cX4_takeSign 8 = .ok (.iload_n 1, 1) := by decide +kernel
theorem dX4_takeSign_9 : decode cX4_takeSign 9 = .ok (.invokestatic 140, 3) := by decide +kernel
theorem dX4_takeSign_12 : decode cX4_takeSign 12 = .ok (.ifCond .eq 7, 3) := by decide +kernel
theorem dX4_takeSign_15 : decode cX4_takeSign 15 = .ok (.iconst 1, 1) := by decide +kernel
theorem dX4_takeSign_16 : decode cX4_takeSign 16 = .ok (.goto 4, 3) := by decide +kernel
theorem dX4_takeSign_19 : decode cX4_takeSign 19 = .ok (.iconst 0, 1) := by decide +kernel
theorem dX4_takeSign_20 : decode cX4_takeSign 20 = .ok (.putfield 41, 3) := by decide +kernel
theorem dX4_takeSign_23 : decode cX4_takeSign 23 = .ok (.aload_n 0, 1) := by decide +kernel
theorem dX4_takeSign_24 : decode cX4_takeSign 24 = .ok (.getfield 31, 3) := by decide +kernel
theorem dX4_takeSign_27 : decode cX4_takeSign 27 = .ok (.aload_n 0, 1) := by decide +kernel
theorem dX4_takeSign_28 : decode cX4_takeSign 28 = .ok (.getfield 35, 3) := by decide +kernel
theorem dX4_takeSign_31 : decode cX4_takeSign 31 = .ok (.aload_n 0, 1) := by decide +kernel
theorem dX4_takeSign_32 : decode cX4_takeSign 32 = .ok (.getfield 38, 3) := by decide +kernel
theorem dX4_takeSign_35 : decode cX4_takeSign 35 = .ok (.iload_n 1, 1) := by decide +kernel
theorem dX4_takeSign_36 : decode cX4_takeSign 36 = .ok (.invokevirtual 143, 3) := by decide +kernel
theorem dX4_takeSign_39 : decode cX4_takeSign 39 = .ok (.aload_n 0, 1) := by decide +kernel
theorem dX4_takeSign_40 : decode cX4_takeSign 40 = .ok (.dup, 1) := by decide +kernel
theorem dX4_takeSign_41 : decode cX4_takeSign 41 = .ok (.getfield 38, 3) := by decide +kernel
theorem dX4_takeSign_44 : decode cX4_takeSign 44 = .ok (.iconst 1, 1) := by decide +kernel
theorem dX4_takeSign_45 : decode cX4_takeSign 45 = .ok (.iadd, 1) := by decide +kernel
theorem dX4_takeSign_46 : decode cX4_takeSign 46 = .ok (.putfield 38, 3) := by decide +kernel
theorem dX4_takeSign_49 : decode cX4_takeSign 49 = .ok (.iconst 1, 1) := by decide +kernel
theorem dX4_takeSign_50 : decode cX4_takeSign 50 = .ok (.ireturn, 1) := by decide +kernel
theorem dX4_takesLetter_0 : decode cX4_takesLetter 0 = .ok (.aload_n 0, 1) := by decide +kernel
theorem dX4_takesLetter_1 : decode cX4_takesLetter 1 = .ok (.getfield 38, 3) := by decide +kernel
theorem dX4_takesLetter_4 : decode cX4_takesLetter 4 = .ok (.bipush 8, 2) := by decide +kernel
theorem dX4_takesLetter_6 : decode cX4_takesLetter 6 = .ok (.if_icmp .ge 30, 3) := by decide +kernel
theorem dX4_takesLetter_9 : decode cX4_takesLetter 9 = .ok (.iload_n 1, 1) := by decide +kernel
theorem dX4_takesLetter_10 : decode cX4_takesLetter 10 = .ok (.invokestatic 140, 3) := by decide +kernel
theorem dX4_takesLetter_13 : decode cX4_takesLetter 13 = .ok (.ifCond .eq 23, 3) := by decide +kernel
theorem dX4_takesLetter_16 : decode cX4_takesLetter 16 = .ok (.aload_n 0, 1) := by decide +kernel
theorem dX4_takesLetter_17 : decode cX4_takesLetter 17 = .ok (.iload_n 1, 1) := by decide +kernel
theorem dX4_takesLetter_18 : decode cX4_takesLetter 18 = .ok (.invokevirtual 131, 3) := by decide +kernel
theorem dX4_takesLetter_21 : decode cX4_takesLetter 21 = .ok (.ifCond .eq 15, 3) := by decide +kernel
theorem dX4_takesLetter_24 : decode cX4_takesLetter 24 = .ok (.aload_n 0, 1) := by decide +kernel
theorem dX4_takesLetter_25 : decode cX4_takesLetter 25 = .ok (.iload_n 2, 1) := by decide +kernel
theorem dX4_takesLetter_26 : decode cX4_takesLetter 26 = .ok (.invokevirtual 82, 3) := by decide +kernel
theorem dX4_takesLetter_29 : decode cX4_takesLetter 29 = .ok (.ifCond .eq 7, 3) := by decide +kernel
theorem dX4_takesLetter_32 : decode cX4_takesLetter 32 = .ok (.iconst 1, 1) := by decide +kernel
theorem dX4_takesLetter_33 : decode cX4_takesLetter 33 = .ok (.goto 4, 3) := by decide +kernel
theorem dX4_takesLetter_36 : decode cX4_takesLetter 36 = .ok (.iconst 0, 1) := by decide +kernel
theorem dX4_takesLetter_37 : decode cX4_takesLetter 37 = .ok (.ireturn, 1) := by decide +kernel
theorem dX4_takesInWord_0 : decode cX4_takesInWord 0 = .ok (.iload_n 1, 1) := by decide +kernel
theorem dX4_takesInWord_1 : decode cX4_takesInWord 1 = .ok (.invokestatic 117, 3) := by decide +kernel
theorem dX4_takesInWord_4 : decode cX4_takesInWord 4 = .ok (.ifCond .eq 26, 3) := by decide +kernel
theorem dX4_takesInWord_7 : decode cX4_takesInWord 7 = .ok (.aload_n 0, 1) := by decide +kernel
theorem dX4_takesInWord_8 : decode cX4_takesInWord 8 = .ok (.getfield 38, 3) := by decide +kernel
theorem dX4_takesInWord_11 : decode cX4_takesInWord 11 = .ok (.bipush 8, 2) := by decide +kernel
theorem dX4_takesInWord_13 : decode cX4_takesInWord 13 = .ok (.if_icmp .ge 15, 3) := by decide +kernel
theorem dX4_takesInWord_16 : decode cX4_takesInWord 16 = .ok (.aload_n 0, 1) := by decide +kernel
theorem dX4_takesInWord_17 : decode cX4_takesInWord 17 = .ok (.iload_n 1, 1) := by decide +kernel
theorem dX4_takesInWord_18 : decode cX4_takesInWord 18 = .ok (.invokevirtual 131, 3) := by decide +kernel
theorem dX4_takesInWord_21 : decode cX4_takesInWord 21 = .ok (.ifCond .eq 7, 3) := by decide +kernel
theorem dX4_takesInWord_24 : decode cX4_takesInWord 24 = .ok (.iconst 1, 1) := by decide +kernel
theorem dX4_takesInWord_25 : decode cX4_takesInWord 25 = .ok (.goto 4, 3) := by decide +kernel
theorem dX4_takesInWord_28 : decode cX4_takesInWord 28 = .ok (.iconst 0, 1) := by decide +kernel
theorem dX4_takesInWord_29 : decode cX4_takesInWord 29 = .ok (.ireturn, 1) := by decide +kernel
theorem dX4_takesInWord_30 : decode cX4_takesInWord 30 = .ok (.iload_n 1, 1) := by decide +kernel
theorem dX4_takesInWord_31 : decode cX4_takesInWord 31 = .ok (.bipush 58, 2) := by decide +kernel
theorem dX4_takesInWord_33 : decode cX4_takesInWord 33 = .ok (.if_icmp .ne 23, 3) := by decide +kernel
theorem dX4_takesInWord_36 : decode cX4_takesInWord 36 = .ok (.aload_n 0, 1) := by decide +kernel
theorem dX4_takesInWord_37 : decode cX4_takesInWord 37 = .ok (.invokevirtual 147, 3) := by decide +kernel
theorem dX4_takesInWord_40 : decode cX4_takesInWord 40 = .ok (.ifCond .eq 14, 3) := by decide +kernel
theorem dX4_takesInWord_43 : decode cX4_takesInWord 43 = .ok (.aload_n 0, 1) := by decide +kernel
theorem dX4_takesInWord_44 : decode cX4_takesInWord 44 = .ok (.invokevirtual 150, 3) := by decide +kernel
theorem dX4_takesInWord_47 : decode cX4_takesInWord 47 = .ok (.ifCond .eq 7, 3) := by decide +kernel
theorem dX4_takesInWord_50 : decode cX4_takesInWord 50 = .ok (.iconst 1, 1) := by decide +kernel
theorem dX4_takesInWord_51 : decode cX4_takesInWord 51 = .ok (.goto 4, 3) := by decide +kernel
theorem dX4_takesInWord_54 : decode cX4_takesInWord 54 = .ok (.iconst 0, 1) := by decide +kernel
theorem dX4_takesInWord_55 : decode cX4_takesInWord 55 = .ok (.ireturn, 1) := by decide +kernel
theorem dX4_takesInWord_56 : decode cX4_takesInWord 56 = .ok (.iload_n 1, 1) := by decide +kernel
theorem dX4_takesInWord_57 : decode cX4_takesInWord 57 = .ok (.bipush 126, 2) := by decide +kernel
theorem dX4_takesInWord_59 : decode cX4_takesInWord 59 = .ok (.if_icmp .ne 24, 3) := by decide +kernel
theorem dX4_takesInWord_62 : decode cX4_takesInWord 62 = .ok (.aload_n 0, 1) := by decide +kernel
theorem dX4_takesInWord_63 : decode cX4_takesInWord 63 = .ok (.getfield 41, 3) := by decide +kernel
theorem dX4_takesInWord_66 : decode cX4_takesInWord 66 = .ok (.ifCond .eq 15, 3) := by decide +kernel
theorem dX4_takesInWord_69 : decode cX4_takesInWord 69 = .ok (.aload_n 0, 1) := by decide +kernel
theorem dX4_takesInWord_70 : decode cX4_takesInWord 70 = .ok (.iconst 4, 1) := by decide +kernel
theorem dX4_takesInWord_71 : decode cX4_takesInWord 71 = .ok (.invokevirtual 82, 3) := by decide +kernel
theorem dX4_takesInWord_74 : decode cX4_takesInWord 74 = .ok (.ifCond .eq 7, 3) := by decide +kernel
theorem dX4_takesInWord_77 : decode cX4_takesInWord 77 = .ok (.iconst 1, 1) := by decide +kernel
theorem dX4_takesInWord_78 : decode cX4_takesInWord 78 = .ok (.goto 4, 3) := by decide +kernel
theorem dX4_takesInWord_81 : decode cX4_takesInWord 81 = .ok (.iconst 0, 1) := by decide +kernel
theorem dX4_takesInWord_82 : decode cX4_takesInWord 82 = .ok (.ireturn, 1) := by decide +kernel
theorem dX4_takesInWord_83 : decode cX4_takesInWord 83 = .ok (.aload_n 0, 1) := by decide +kernel
theorem dX4_takesInWord_84 : decode cX4_takesInWord 84 = .ok (.iload_n 1, 1) := by decide +kernel
theorem dX4_takesInWord_85 : decode cX4_takesInWord 85 = .ok (.invokevirtual 85, 3) := by decide +kernel
theorem dX4_takesInWord_88 : decode cX4_takesInWord 88 = .ok (.ireturn, 1) := by decide +kernel
theorem dX4_isFieldLetter_0 : decode cX4_isFieldLetter 0 = .ok (.aload_n 0, 1) := by decide +kernel
theorem dX4_isFieldLetter_1 : decode cX4_isFieldLetter 1 = .ok (.getfield 31, 3) := by decide +kernel
theorem dX4_isFieldLetter_4 : decode cX4_isFieldLetter 4 = .ok (.iconst 0, 1) := by decide +kernel
theorem dX4_isFieldLetter_5 : decode cX4_isFieldLetter 5 = .ok (.invokevirtual 153, 3) := by decide +kernel
theorem dX4_isFieldLetter_8 : decode cX4_isFieldLetter 8 = .ok (.iconst 0, 1) := by decide +kernel
theorem dX4_isFieldLetter_9 : decode cX4_isFieldLetter 9 = .ok (.invokestatic 157, 3) := by decide +kernel
theorem dX4_isFieldLetter_12 : decode cX4_isFieldLetter 12 = .ok (.istore_n 1, 1) := by decide +kernel
theorem dX4_isFieldLetter_13 : decode cX4_isFieldLetter 13 = .ok (.aload_n 0, 1) := by decide +kernel
theorem dX4_isFieldLetter_14 : decode cX4_isFieldLetter 14 = .ok (.getfield 38, 3) := by decide +kernel
theorem dX4_isFieldLetter_17 : decode cX4_isFieldLetter 17 = .ok (.iconst 1, 1) := by decide +kernel
theorem dX4_isFieldLetter_18 : decode cX4_isFieldLetter 18 = .ok (.if_icmp .ne 30, 3) := by decide +kernel
theorem dX4_isFieldLetter_21 : decode cX4_isFieldLetter 21 = .ok (.aload_n 0, 1) := by decide +kernel
theorem dX4_isFieldLetter_22 : decode cX4_isFieldLetter 22 = .ok (.getfield 31, 3) := by decide +kernel
theorem dX4_isFieldLetter_25 : decode cX4_isFieldLetter 25 = .ok (.getfield 161, 3) := by decide +kernel
theorem dX4_isFieldLetter_28 : decode cX4_isFieldLetter 28 = .ok (.iconst (-1), 1) := by decide +kernel
theorem dX4_isFieldLetter_29 : decode cX4_isFieldLetter 29 = .ok (.if_icmp .ne 19, 3) := by decide +kernel
theorem dX4_isFieldLetter_32 : decode cX4_isFieldLetter 32 = .ok (.iload_n 1, 1) := by decide +kernel
theorem dX4_isFieldLetter_33 : decode cX4_isFieldLetter 33 = .ok (.bipush 97, 2) := by decide +kernel
theorem dX4_isFieldLetter_35 : decode cX4_isFieldLetter 35 = .ok (.if_icmp .lt 13, 3) := by decide +kernel
theorem dX4_isFieldLetter_38 : decode cX4_isFieldLetter 38 = .ok (.iload_n 1, 1) := by decide +kernel
theorem dX4_isFieldLetter_39 : decode cX4_isFieldLetter 39 = .ok (.bipush 101, 2) := by decide +kernel
theorem dX4_isFieldLetter_41 : decode cX4_isFieldLetter 41 = .ok (.if_icmp .ge 7, 3) := by decide +kernel
theorem dX4_isFieldLetter_44 : decode cX4_isFieldLetter 44 = .ok (.iconst 1, 1) := by decide +kernel
theorem dX4_isFieldLetter_45 : decode cX4_isFieldLetter 45 = .ok (.goto 4, 3) := by decide +kernel
theorem dX4_isFieldLetter_48 : decode cX4_isFieldLetter 48 = .ok (.iconst 0, 1) := by decide +kernel
theorem dX4_isFieldLetter_49 : decode cX4_isFieldLetter 49 = .ok (.ireturn, 1) := by decide +kernel
theorem dX4_takeField_0 : decode cX4_takeField 0 = .ok (.aload_n 0, 1) := by decide +kernel
theorem dX4_takeField_1 : decode cX4_takeField 1 = .ok (.getfield 31, 3) := by decide +kernel
theorem dX4_takeField_4 : decode cX4_takeField 4 = .ok (.invokevirtual 164, 3) := by decide +kernel
theorem dX4_takeField_7 : decode cX4_takeField 7 = .ok (.aload_n 0, 1) := by decide +kernel
theorem dX4_takeField_8 : decode cX4_takeField 8 = .ok (.iconst 2, 1) := by decide +kernel
theorem dX4_takeField_9 : decode cX4_takeField 9 = .ok (.invokevirtual 82, 3) := by decide +kernel
theorem dX4_takeField_12 : decode cX4_takeField 12 = .ok (.ireturn, 1) := by decide +kernel
theorem dX4_takesInQuote_0 : decode cX4_takesInQuote 0 = .ok (.iload_n 1, 1) := by decide +kernel
theorem dX4_takesInQuote_1 : decode cX4_takesInQuote 1 = .ok (.bipush 34, 2) := by decide +kernel
theorem dX4_takesInQuote_3 : decode cX4_takesInQuote 3 = .ok (.if_icmp .ne 10, 3) := by decide +kernel
theorem dX4_takesInQuote_6 : decode cX4_takesInQuote 6 = .ok (.aload_n 0, 1) := by decide +kernel
theorem dX4_takesInQuote_7 : decode cX4_takesInQuote 7 = .ok (.bipush 8, 2) := by decide +kernel
theorem dX4_takesInQuote_9 : decode cX4_takesInQuote 9 = .ok (.invokevirtual 82, 3) := by decide +kernel
theorem dX4_takesInQuote_12 : decode cX4_takesInQuote 12 = .ok (.ireturn, 1) := by decide +kernel
theorem dX4_takesInQuote_13 : decode cX4_takesInQuote 13 = .ok (.iload_n 1, 1) := by decide +kernel
theorem dX4_takesInQuote_14 : decode cX4_takesInQuote 14 = .ok (.bipush 32, 2) := by decide +kernel
theorem dX4_takesInQuote_16 : decode cX4_takesInQuote 16 = .ok (.if_icmp .ne 28, 3) := by decide +kernel
theorem dX4_takesInQuote_19 : decode cX4_takesInQuote 19 = .ok (.aload_n 0, 1) := by decide +kernel
theorem dX4_takesInQuote_20 : decode cX4_takesInQuote 20 = .ok (.getfield 35, 3) := by decide +kernel
theorem dX4_takesInQuote_23 : decode cX4_takesInQuote 23 = .ok (.iconst 1, 1) := by decide +kernel
theorem dX4_takesInQuote_24 : decode cX4_takesInQuote 24 = .ok (.iadd, 1) := by decide +kernel
theorem dX4_takesInQuote_25 : decode cX4_takesInQuote 25 = .ok (.iconst 5, 1) := by decide +kernel
theorem dX4_takesInQuote_26 : decode cX4_takesInQuote 26 = .ok (.if_icmp .ge 16, 3) := by decide +kernel
theorem dX4_takesInQuote_29 : decode cX4_takesInQuote 29 = .ok (.aload_n 0, 1) := by decide +kernel
theorem dX4_takesInQuote_30 : decode cX4_takesInQuote 30 = .ok (.bipush 7, 2) := by decide +kernel
theorem dX4_takesInQuote_32 : decode cX4_takesInQuote 32 = .ok (.invokevirtual 82, 3) := by decide +kernel
theorem dX4_takesInQuote_35 : decode cX4_takesInQuote 35 = .ok (.ifCond .eq 7, 3) := by decide +kernel
theorem dX4_takesInQuote_38 : decode cX4_takesInQuote 38 = .ok (.iconst 1, 1) := by decide +kernel
theorem dX4_takesInQuote_39 : decode cX4_takesInQuote 39 = .ok (.goto 4, 3) := by decide +kernel
theorem dX4_takesInQuote_42 : decode cX4_takesInQuote 42 = .ok (.iconst 0, 1) := by decide +kernel
theorem dX4_takesInQuote_43 : decode cX4_takesInQuote 43 = .ok (.ireturn, 1) := by decide +kernel
theorem dX4_takesInQuote_44 : decode cX4_takesInQuote 44 = .ok (.aload_n 0, 1) := by decide +kernel
theorem dX4_takesInQuote_45 : decode cX4_takesInQuote 45 = .ok (.iload_n 1, 1) := by decide +kernel
theorem dX4_takesInQuote_46 : decode cX4_takesInQuote 46 = .ok (.bipush 6, 2) := by decide +kernel
theorem dX4_takesInQuote_48 : decode cX4_takesInQuote 48 = .ok (.invokevirtual 73, 3) := by decide +kernel
theorem dX4_takesInQuote_51 : decode cX4_takesInQuote 51 = .ok (.ireturn, 1) := by decide +kernel
theorem dX4_takesInQuoteGap_0 : decode cX4_takesInQuoteGap 0 = .ok (.iload_n 1, 1) := by decide +kernel
theorem dX4_takesInQuoteGap_1 : decode cX4_takesInQuoteGap 1 = .ok (.bipush 32, 2) := by decide +kernel
theorem dX4_takesInQuoteGap_3 : decode cX4_takesInQuoteGap 3 = .ok (.if_icmp .ne 5, 3) := by decide +kernel
theorem dX4_takesInQuoteGap_6 : decode cX4_takesInQuoteGap 6 = .ok (.iconst 1, 1) := by decide +kernel
theorem dX4_takesInQuoteGap_7 : decode cX4_takesInQuoteGap 7 = .ok (.ireturn, 1) := by decide +kernel
theorem dX4_takesInQuoteGap_8 : decode cX4_takesInQuoteGap 8 = .ok (.iload_n 1, 1) := by decide +kernel
theorem dX4_takesInQuoteGap_9 : decode cX4_takesInQuoteGap 9 = .ok (.invokestatic 140, 3) := by decide +kernel
theorem dX4_takesInQuoteGap_12 : decode cX4_takesInQuoteGap 12 = .ok (.ifCond .eq 30, 3) := by decide +kernel
theorem dX4_takesInQuoteGap_15 : decode cX4_takesInQuoteGap 15 = .ok (.aload_n 0, 1) := by decide +kernel
theorem dX4_takesInQuoteGap_16 : decode cX4_takesInQuoteGap 16 = .ok (.aload_n 0, 1) := by decide +kernel
theorem dX4_takesInQuoteGap_17 : decode cX4_takesInQuoteGap 17 = .ok (.getfield 35, 3) := by decide +kernel
theorem dX4_takesInQuoteGap_20 : decode cX4_takesInQuoteGap 20 = .ok (.iconst 1, 1) := by decide +kernel
theorem dX4_takesInQuoteGap_21 : decode cX4_takesInQuoteGap 21 = .ok (.iadd, 1) := by decide +kernel
theorem dX4_takesInQuoteGap_22 : decode cX4_takesInQuoteGap 22 = .ok (.bipush 6, 2) := by decide +kernel
theorem dX4_takesInQuoteGap_24 : decode cX4_takesInQuoteGap 24 = .ok (.invokevirtual 91, 3) := by decide +kernel
theorem dX4_takesInQuoteGap_27 : decode cX4_takesInQuoteGap 27 = .ok (.ifCond .eq 15, 3) := by decide +kernel
theorem dX4_takesInQuoteGap_30 : decode cX4_takesInQuoteGap 30 = .ok (.aload_n 0, 1) := by decide +kernel
theorem dX4_takesInQuoteGap_31 : decode cX4_takesInQuoteGap 31 = .ok (.iload_n 1, 1) := by decide +kernel
theorem dX4_takesInQuoteGap_32 : decode cX4_takesInQuoteGap 32 = .ok (.invokevirtual 131, 3) := by decide +kernel
theorem dX4_takesInQuoteGap_35 : decode cX4_takesInQuoteGap 35 = .ok (.ifCond .eq 7, 3) := by decide +kernel
theorem dX4_takesInQuoteGap_38 : decode cX4_takesInQuoteGap 38 = .ok (.iconst 1, 1) := by decide +kernel
theorem dX4_takesInQuoteGap_39 : decode cX4_takesInQuoteGap 39 = .ok (.goto 4, 3) := by decide +kernel
theorem dX4_takesInQuoteGap_42 : decode cX4_takesInQuoteGap 42 = .ok (.iconst 0, 1) := by decide +kernel
theorem dX4_takesInQuoteGap_43 : decode cX4_takesInQuoteGap 43 = .ok (.ireturn, 1) := by decide +kernel
theorem dX4_takesInSpan_0 : decode cX4_takesInSpan 0 = .ok (.aload_n 0, 1) := by decide +kernel
theorem dX4_takesInSpan_1 : decode cX4_takesInSpan 1 = .ok (.getfield 35, 3) := by decide +kernel
theorem dX4_takesInSpan_4 : decode cX4_takesInSpan 4 = .ok (.ifCond .ne 16, 3) := by decide +kernel
theorem dX4_takesInSpan_7 : decode cX4_takesInSpan 7 = .ok (.iload_n 1, 1) := by decide +kernel
theorem dX4_takesInSpan_8 : decode cX4_takesInSpan 8 = .ok (.bipush 46, 2) := by decide +kernel
theorem dX4_takesInSpan_10 : decode cX4_takesInSpan 10 = .ok (.if_icmp .ne 10, 3) := by decide +kernel
theorem dX4_takesInSpan_13 : decode cX4_takesInSpan 13 = .ok (.aload_n 0, 1) := by decide +kernel
theorem dX4_takesInSpan_14 : decode cX4_takesInSpan 14 = .ok (.bipush 12, 2) := by decide +kernel
theorem dX4_takesInSpan_16 : decode cX4_takesInSpan 16 = .ok (.invokevirtual 82, 3) := by decide +kernel
theorem dX4_takesInSpan_19 : decode cX4_takesInSpan 19 = .ok (.ireturn, 1) := by decide +kernel
theorem dX4_takesInSpan_20 : decode cX4_takesInSpan 20 = .ok (.aload_n 0, 1) := by decide +kernel
theorem dX4_takesInSpan_21 : decode cX4_takesInSpan 21 = .ok (.getfield 35, 3) := by decide +kernel
theorem dX4_takesInSpan_24 : decode cX4_takesInSpan 24 = .ok (.iconst 1, 1) := by decide +kernel
theorem dX4_takesInSpan_25 : decode cX4_takesInSpan 25 = .ok (.if_icmp .ne 32, 3) := by decide +kernel
theorem dX4_takesInSpan_28 : decode cX4_takesInSpan 28 = .ok (.iload_n 1, 1) := by decide +kernel
theorem dX4_takesInSpan_29 : decode cX4_takesInSpan 29 = .ok (.aload_n 0, 1) := by decide +kernel
theorem dX4_takesInSpan_30 : decode cX4_takesInSpan 30 = .ok (.getfield 31, 3) := by decide +kernel
theorem dX4_takesInSpan_33 : decode cX4_takesInSpan 33 = .ok (.getfield 128, 3) := by decide +kernel
theorem dX4_takesInSpan_36 : decode cX4_takesInSpan 36 = .ok (.iconst 1, 1) := by decide +kernel
theorem dX4_takesInSpan_37 : decode cX4_takesInSpan 37 = .ok (.if_icmp .ne 8, 3) := by decide +kernel
theorem dX4_takesInSpan_40 : decode cX4_takesInSpan 40 = .ok (.bipush 125, 2) := by decide +kernel
theorem dX4_takesInSpan_42 : decode cX4_takesInSpan 42 = .ok (.goto 5, 3) := by decide +kernel
theorem dX4_takesInSpan_45 : decode cX4_takesInSpan 45 = .ok (.bipush 93, 2) := by decide +kernel
theorem dX4_takesInSpan_47 : decode cX4_takesInSpan 47 = .ok (.if_icmp .ne 10, 3) := by decide +kernel
theorem dX4_takesInSpan_50 : decode cX4_takesInSpan 50 = .ok (.aload_n 0, 1) := by decide +kernel
theorem dX4_takesInSpan_51 : decode cX4_takesInSpan 51 = .ok (.bipush 15, 2) := by decide +kernel
theorem dX4_takesInSpan_53 : decode cX4_takesInSpan 53 = .ok (.invokevirtual 82, 3) := by decide +kernel
theorem dX4_takesInSpan_56 : decode cX4_takesInSpan 56 = .ok (.ireturn, 1) := by decide +kernel
theorem dX4_takesInSpan_57 : decode cX4_takesInSpan 57 = .ok (.aload_n 0, 1) := by decide +kernel
theorem dX4_takesInSpan_58 : decode cX4_takesInSpan 58 = .ok (.iload_n 1, 1) := by decide +kernel
theorem dX4_takesInSpan_59 : decode cX4_takesInSpan 59 = .ok (.bipush 11, 2) := by decide +kernel
theorem dX4_takesInSpan_61 : decode cX4_takesInSpan 61 = .ok (.invokevirtual 73, 3) := by decide +kernel
theorem dX4_takesInSpan_64 : decode cX4_takesInSpan 64 = .ok (.ireturn, 1) := by decide +kernel
theorem dX4_takesDetail_0 : decode cX4_takesDetail 0 = .ok (.iload_n 1, 1) := by decide +kernel
theorem dX4_takesDetail_1 : decode cX4_takesDetail 1 = .ok (.iload_n 2, 1) := by decide +kernel
theorem dX4_takesDetail_2 : decode cX4_takesDetail 2 = .ok (.if_icmp .lt 8, 3) := by decide +kernel
theorem dX4_takesDetail_5 : decode cX4_takesDetail 5 = .ok (.iload_n 1, 1) := by decide +kernel
theorem dX4_takesDetail_6 : decode cX4_takesDetail 6 = .ok (.iload_n 3, 1) := by decide +kernel
theorem dX4_takesDetail_7 : decode cX4_takesDetail 7 = .ok (.if_icmp .le 5, 3) := by decide +kernel
theorem dX4_takesDetail_10 : decode cX4_takesDetail 10 = .ok (.iconst 0, 1) := by decide +kernel
theorem dX4_takesDetail_11 : decode cX4_takesDetail 11 = .ok (.ireturn, 1) := by decide +kernel
theorem dX4_takesDetail_12 : decode cX4_takesDetail 12 = .ok (.aload_n 0, 1) := by decide +kernel
theorem dX4_takesDetail_13 : decode cX4_takesDetail 13 = .ok (.getfield 31, 3) := by decide +kernel
theorem dX4_takesDetail_16 : decode cX4_takesDetail 16 = .ok (.iload_n 1, 1) := by decide +kernel
theorem dX4_takesDetail_17 : decode cX4_takesDetail 17 = .ok (.bipush 48, 2) := by decide +kernel
theorem dX4_takesDetail_19 : decode cX4_takesDetail 19 = .ok (.isub, 1) := by decide +kernel
theorem dX4_takesDetail_20 : decode cX4_takesDetail 20 = .ok (.putfield 128, 3) := by decide +kernel
theorem dX4_takesDetail_23 : decode cX4_takesDetail 23 = .ok (.aload_n 0, 1) := by decide +kernel
theorem dX4_takesDetail_24 : decode cX4_takesDetail 24 = .ok (.bipush 15, 2) := by decide +kernel
theorem dX4_takesDetail_26 : decode cX4_takesDetail 26 = .ok (.invokevirtual 82, 3) := by decide +kernel
theorem dX4_takesDetail_29 : decode cX4_takesDetail 29 = .ok (.ireturn, 1) := by decide +kernel
theorem dX4_takeBoost_0 : decode cX4_takeBoost 0 = .ok (.aload_n 0, 1) := by decide +kernel
theorem dX4_takeBoost_1 : decode cX4_takeBoost 1 = .ok (.getfield 31, 3) := by decide +kernel
theorem dX4_takeBoost_4 : decode cX4_takeBoost 4 = .ok (.iload_n 1, 1) := by decide +kernel
theorem dX4_takeBoost_5 : decode cX4_takeBoost 5 = .ok (.putfield 100, 3) := by decide +kernel
theorem dX4_takeBoost_8 : decode cX4_takeBoost 8 = .ok (.aload_n 0, 1) := by decide +kernel
theorem dX4_takeBoost_9 : decode cX4_takeBoost 9 = .ok (.iload_n 2, 1) := by decide +kernel
theorem dX4_takeBoost_10 : decode cX4_takeBoost 10 = .ok (.invokevirtual 82, 3) := by decide +kernel
theorem dX4_takeBoost_13 : decode cX4_takeBoost 13 = .ok (.ireturn, 1) := by decide +kernel
theorem dX4_takesTail_0 : decode cX4_takesTail 0 = .ok (.iload_n 1, 1) := by decide +kernel
theorem dX4_takesTail_1 : decode cX4_takesTail 1 = .ok (.bipush 94, 2) := by decide +kernel
theorem dX4_takesTail_3 : decode cX4_takesTail 3 = .ok (.if_icmp .ne 12, 3) := by decide +kernel
theorem dX4_takesTail_6 : decode cX4_takesTail 6 = .ok (.aload_n 0, 1) := by decide +kernel
theorem dX4_takesTail_7 : decode cX4_takesTail 7 = .ok (.bipush 16, 2) := by decide +kernel
theorem dX4_takesTail_9 : decode cX4_takesTail 9 = .ok (.invokevirtual 82, 3) := by decide +kernel
theorem dX4_takesTail_12 : decode cX4_takesTail 12 = .ok (.goto 8, 3) := by decide +kernel
theorem dX4_takesTail_15 : decode cX4_takesTail 15 = .ok (.aload_n 0, 1) := by decide +kernel
theorem dX4_takesTail_16 : decode cX4_takesTail 16 = .ok (.iload_n 1, 1) := by decide +kernel
theorem dX4_takesTail_17 : decode cX4_takesTail 17 = .ok (.invokevirtual 103, 3) := by decide +kernel
theorem dX4_takesTail_20 : decode cX4_takesTail 20 = .ok (.ireturn, 1) := by decide +kernel
theorem dX4_takesEnd_0 : decode cX4_takesEnd 0 = .ok (.iload_n 1, 1) := by decide +kernel
theorem dX4_takesEnd_1 : decode cX4_takesEnd 1 = .ok (.bipush 32, 2) := by decide +kernel
theorem dX4_takesEnd_3 : decode cX4_takesEnd 3 = .ok (.if_icmp .ne 11, 3) := by decide +kernel
theorem dX4_takesEnd_6 : decode cX4_takesEnd 6 = .ok (.aload_n 0, 1) := by decide +kernel
theorem dX4_takesEnd_7 : decode cX4_takesEnd 7 = .ok (.iconst 0, 1) := by decide +kernel
theorem dX4_takesEnd_8 : decode cX4_takesEnd 8 = .ok (.invokevirtual 82, 3) := by decide +kernel
theorem dX4_takesEnd_11 : decode cX4_takesEnd 11 = .ok (.goto 21, 3) := by decide +kernel
theorem dX4_takesEnd_14 : decode cX4_takesEnd 14 = .ok (.iload_n 1, 1) := by decide +kernel
theorem dX4_takesEnd_15 : decode cX4_takesEnd 15 = .ok (.bipush 41, 2) := by decide +kernel
theorem dX4_takesEnd_17 : decode cX4_takesEnd 17 = .ok (.if_icmp .ne 14, 3) := by decide +kernel
theorem dX4_takesEnd_20 : decode cX4_takesEnd 20 = .ok (.aload_n 0, 1) := by decide +kernel
theorem dX4_takesEnd_21 : decode cX4_takesEnd 21 = .ok (.invokevirtual 106, 3) := by decide +kernel
theorem dX4_takesEnd_24 : decode cX4_takesEnd 24 = .ok (.ifCond .eq 7, 3) := by decide +kernel
theorem dX4_takesEnd_27 : decode cX4_takesEnd 27 = .ok (.iconst 1, 1) := by decide +kernel
theorem dX4_takesEnd_28 : decode cX4_takesEnd 28 = .ok (.goto 4, 3) := by decide +kernel
theorem dX4_takesEnd_31 : decode cX4_takesEnd 31 = .ok (.iconst 0, 1) := by decide +kernel
theorem dX4_takesEnd_32 : decode cX4_takesEnd 32 = .ok (.ireturn, 1) := by decide +kernel
theorem dX5_init_0 : decode cX5_init 0 = .ok (.aload_n 0, 1) := by decide +kernel
theorem dX5_init_1 : decode cX5_init 1 = .ok (.invokespecial 3, 3) := by decide +kernel
theorem dX5_init_4 : decode cX5_init 4 = .ok (.aload_n 0, 1) := by decide +kernel
theorem dX5_init_5 : decode cX5_init 5 = .ok (.sipush 240, 3) := by decide +kernel
theorem dX5_init_8 : decode cX5_init 8 = .ok (.newarray .byte, 2) := by decide +kernel
theorem dX5_init_10 : decode cX5_init 10 = .ok (.putfield 9, 3) := by decide +kernel
theorem dX5_init_13 : decode cX5_init 13 = .ok (.aload_n 0, 1) := by decide +kernel
theorem dX5_init_14 : decode cX5_init 14 = .ok (.iconst (-1), 1) := by decide +kernel
theorem dX5_init_15 : decode cX5_init 15 = .ok (.putfield 15, 3) := by decide +kernel
theorem dX5_init_18 : decode cX5_init 18 = .ok (.return_, 1) := by decide +kernel
theorem dX5_isWritten_0 : decode cX5_isWritten 0 = .ok (.aload_n 0, 1) := by decide +kernel
theorem dX5_isWritten_1 : decode cX5_isWritten 1 = .ok (.getfield 15, 3) := by decide +kernel
theorem dX5_isWritten_4 : decode cX5_isWritten 4 = .ok (.iconst (-1), 1) := by decide +kernel
theorem dX5_isWritten_5 : decode cX5_isWritten 5 = .ok (.if_icmp .eq 7, 3) := by decide +kernel
theorem dX5_isWritten_8 : decode cX5_isWritten 8 = .ok (.iconst 1, 1) := by decide +kernel
theorem dX5_isWritten_9 : decode cX5_isWritten 9 = .ok (.goto 4, 3) := by decide +kernel
theorem dX5_isWritten_12 : decode cX5_isWritten 12 = .ok (.iconst 0, 1) := by decide +kernel
theorem dX5_isWritten_13 : decode cX5_isWritten 13 = .ok (.ireturn, 1) := by decide +kernel
theorem dX5_byteAt_0 : decode cX5_byteAt 0 = .ok (.iload_n 1, 1) := by decide +kernel
theorem dX5_byteAt_1 : decode cX5_byteAt 1 = .ok (.ifCond .lt 33, 3) := by decide +kernel
theorem dX5_byteAt_4 : decode cX5_byteAt 4 = .ok (.iload_n 1, 1) := by decide +kernel
theorem dX5_byteAt_5 : decode cX5_byteAt 5 = .ok (.aload_n 0, 1) := by decide +kernel
theorem dX5_byteAt_6 : decode cX5_byteAt 6 = .ok (.getfield 15, 3) := by decide +kernel
theorem dX5_byteAt_9 : decode cX5_byteAt 9 = .ok (.if_icmp .ge 25, 3) := by decide +kernel
theorem dX5_byteAt_12 : decode cX5_byteAt 12 = .ok (.iload_n 1, 1) := by decide +kernel
theorem dX5_byteAt_13 : decode cX5_byteAt 13 = .ok (.aload_n 0, 1) := by decide +kernel
theorem dX5_byteAt_14 : decode cX5_byteAt 14 = .ok (.getfield 9, 3) := by decide +kernel
theorem dX5_byteAt_17 : decode cX5_byteAt 17 = .ok (.arraylength, 1) := by decide +kernel
theorem dX5_byteAt_18 : decode cX5_byteAt 18 = .ok (.if_icmp .ge 16, 3) := by decide +kernel
theorem dX5_byteAt_21 : decode cX5_byteAt 21 = .ok (.aload_n 0, 1) := by decide +kernel
theorem dX5_byteAt_22 : decode cX5_byteAt 22 = .ok (.getfield 9, 3) := by decide +kernel
theorem dX5_byteAt_25 : decode cX5_byteAt 25 = .ok (.iload_n 1, 1) := by decide +kernel
theorem dX5_byteAt_26 : decode cX5_byteAt 26 = .ok (.baload, 1) := by decide +kernel
theorem dX5_byteAt_27 : decode cX5_byteAt 27 = .ok (.sipush 255, 3) := by decide +kernel
theorem dX5_byteAt_30 : decode cX5_byteAt 30 = .ok (.iand, 1) := by decide +kernel
theorem dX5_byteAt_31 : decode cX5_byteAt 31 = .ok (.goto 4, 3) := by decide +kernel
theorem dX5_byteAt_34 : decode cX5_byteAt 34 = .ok (.iconst (-1), 1) := by decide +kernel
theorem dX5_byteAt_35 : decode cX5_byteAt 35 = .ok (.ireturn, 1) := by decide +kernel
theorem dX5_write_0 : decode cX5_write 0 = .ok (.aload_n 0, 1) := by decide +kernel
theorem dX5_write_1 : decode cX5_write 1 = .ok (.iconst 0, 1) := by decide +kernel
theorem dX5_write_2 : decode cX5_write 2 = .ok (.putfield 15, 3) := by decide +kernel
theorem dX5_write_5 : decode cX5_write 5 = .ok (.iconst 0, 1) := by decide +kernel
theorem dX5_write_6 : decode cX5_write 6 = .ok (.istore_n 2, 1) := by decide +kernel
theorem dX5_write_7 : decode cX5_write 7 = .ok (.iconst 1, 1) := by decide +kernel
theorem dX5_write_8 : decode cX5_write 8 = .ok (.istore_n 3, 1) := by decide +kernel
theorem dX5_write_9 : decode cX5_write 9 = .ok (.iload_n 3, 1) := by decide +kernel
theorem dX5_write_10 : decode cX5_write 10 = .ok (.aload_n 1, 1) := by decide +kernel
theorem dX5_write_11 : decode cX5_write 11 = .ok (.getfield 19, 3) := by decide +kernel
theorem dX5_write_14 : decode cX5_write 14 = .ok (.if_icmp .ge 89, 3) := by decide +kernel
theorem dX5_write_17 : decode cX5_write 17 = .ok (.aload_n 1, 1) := by decide +kernel
theorem dX5_write_18 : decode cX5_write 18 = .ok (.iload_n 3, 1) := by decide +kernel
theorem dX5_write_19 : decode cX5_write 19 = .ok (.invokevirtual 24, 3) := by decide +kernel
theorem dX5_write_22 : decode cX5_write 22 = .ok (.astore 4, 2) := by decide +kernel
theorem dX5_write_24 : decode cX5_write 24 = .ok (.aload_n 0, 1) := by decide +kernel
theorem dX5_write_25 : decode cX5_write 25 = .ok (.aload_n 1, 1) := by decide +kernel
theorem dX5_write_26 : decode cX5_write 26 = .ok (.iload_n 2, 1) := by decide +kernel
theorem dX5_write_27 : decode cX5_write 27 = .ok (.aload 4, 2) := by decide +kernel
theorem dX5_write_29 : decode cX5_write 29 = .ok (.getfield 28, 3) := by decide +kernel
theorem dX5_write_32 : decode cX5_write 32 = .ok (.invokevirtual 33, 3) := by decide +kernel
theorem dX5_write_35 : decode cX5_write 35 = .ok (.istore_n 2, 1) := by decide +kernel
theorem dX5_write_36 : decode cX5_write 36 = .ok (.aload 4, 2) := by decide +kernel
theorem dX5_write_38 : decode cX5_write 38 = .ok (.getfield 28, 3) := by decide +kernel
theorem dX5_write_41 : decode cX5_write 41 = .ok (.iload_n 3, 1) := by decide +kernel
theorem dX5_write_42 : decode cX5_write 42 = .ok (.iconst 1, 1) := by decide +kernel
theorem dX5_write_43 : decode cX5_write 43 = .ok (.isub, 1) := by decide +kernel
theorem dX5_write_44 : decode cX5_write 44 = .ok (.if_icmp .eq 9, 3) := by decide +kernel
theorem dX5_write_47 : decode cX5_write 47 = .ok (.aload_n 0, 1) := by decide +kernel
theorem dX5_write_48 : decode cX5_write 48 = .ok (.bipush 32, 2) := by decide +kernel
theorem dX5_write_50 : decode cX5_write 50 = .ok (.invokevirtual 37, 3) := by decide +kernel
theorem dX5_write_53 : decode cX5_write 53 = .ok (.aload_n 0, 1) := by decide +kernel
theorem dX5_write_54 : decode cX5_write 54 = .ok (.aload 4, 2) := by decide +kernel
theorem dX5_write_56 : decode cX5_write 56 = .ok (.invokevirtual 41, 3) := by decide +kernel
theorem dX5_write_59 : decode cX5_write 59 = .ok (.aload 4, 2) := by decide +kernel
theorem dX5_write_61 : decode cX5_write 61 = .ok (.getfield 45, 3) := by decide +kernel
theorem dX5_write_64 : decode cX5_write 64 = .ok (.iconst 3, 1) := by decide +kernel
theorem dX5_write_65 : decode cX5_write 65 = .ok (.if_icmp .ne 14, 3) := by decide +kernel
theorem dX5_write_68 : decode cX5_write 68 = .ok (.aload_n 0, 1) := by decide +kernel
theorem dX5_write_69 : decode cX5_write 69 = .ok (.bipush 40, 2) := by decide +kernel
theorem dX5_write_71 : decode cX5_write 71 = .ok (.invokevirtual 37, 3) := by decide +kernel
theorem dX5_write_74 : decode cX5_write 74 = .ok (.iload_n 3, 1) := by decide +kernel
theorem dX5_write_75 : decode cX5_write 75 = .ok (.istore_n 2, 1) := by decide +kernel
